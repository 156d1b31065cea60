theorem dX0_init_0 : decode cX0_init 0 = .ok (.aload_n 0, 1) := by decide +kernel
theorem dX0_init_1 : decode cX0_init 1 = .ok (.invokespecial 3, 3) := by decide +kernel
theorem dX0_init_4 : decode cX0_init 4 = .ok (.aload_n 0, 1) := by decide +kernel
theorem dX0_init_5 : decode cX0_init 5 = .ok (.iconst 0, 1) := by decide +kernel
theorem dX0_init_6 : decode cX0_init 6 = .ok (.putfield 9, 3) := by decide +kernel
theorem dX0_init_9 : decode cX0_init 9 = .ok (.aload_n 0, 1) := by decide +kernel
theorem dX0_init_10 : decode cX0_init 10 = .ok (.bipush 6, 2) := by decide +kernel
theorem dX0_init_12 : decode cX0_init 12 = .ok (.newarray .int, 2) := by decide +kernel
theorem dX0_init_14 : decode cX0_init 14 = .ok (.putfield 15, 3) := by decide +kernel
theorem dX0_init_17 : decode cX0_init 17 = .ok (.aload_n 0, 1) := by decide +kernel
theorem dX0_init_18 : decode cX0_init 18 = .ok (.bipush 6, 2) := by decide +kernel
theorem dX0_init_20 : decode cX0_init 20 = .ok (.newarray .int, 2) := by decide +kernel
theorem dX0_init_22 : decode cX0_init 22 = .ok (.putfield 19, 3) := by decide +kernel
theorem dX0_init_25 : decode cX0_init 25 = .ok (.aload_n 0, 1) := by decide +kernel
theorem dX0_init_26 : decode cX0_init 26 = .ok (.bipush 6, 2) := by decide +kernel
theorem dX0_init_28 : decode cX0_init 28 = .ok (.newarray .int, 2) := by decide +kernel
theorem dX0_init_30 : decode cX0_init 30 = .ok (.putfield 22, 3) := by decide +kernel
theorem dX0_init_33 : decode cX0_init 33 = .ok (.aload_n 0, 1) := by decide +kernel
theorem dX0_init_34 : decode cX0_init 34 = .ok (.new 25, 3) := by decide +kernel
theorem dX0_init_37 : decode cX0_init 37 = .ok (.dup, 1) := by decide +kernel
theorem dX0_init_38 : decode cX0_init 38 = .ok (.invokespecial 27, 3) := by decide +kernel
theorem dX0_init_41 : decode cX0_init 41 = .ok (.putfield 28, 3) := by decide +kernel
theorem dX0_init_44 : decode cX0_init 44 = .ok (.iconst 0, 1) := by decide +kernel
theorem dX0_init_45 : decode cX0_init 45 = .ok (.istore_n 1, 1) := by decide +kernel
theorem dX0_init_46 : decode cX0_init 46 = .ok (.iload_n 1, 1) := by decide +kernel
theorem dX0_init_47 : decode cX0_init 47 = .ok (.bipush 6, 2) := by decide +kernel
theorem dX0_init_49 : decode cX0_init 49 = .ok (.if_icmp .ge 24, 3) := by decide +kernel
theorem dX0_init_52 : decode cX0_init 52 = .ok (.aload_n 0, 1) := by decide +kernel
theorem dX0_init_53 : decode cX0_init 53 = .ok (.getfield 19, 3) := by decide +kernel
theorem dX0_init_56 : decode cX0_init 56 = .ok (.iload_n 1, 1) := by decide +kernel
theorem dX0_init_57 : decode cX0_init 57 = .ok (.bipush 99, 2) := by decide +kernel
theorem dX0_init_59 : decode cX0_init 59 = .ok (.iastore, 1) := by decide +kernel
theorem dX0_init_60 : decode cX0_init 60 = .ok (.aload_n 0, 1) := by decide +kernel
theorem dX0_init_61 : decode cX0_init 61 = .ok (.getfield 22, 3) := by decide +kernel
theorem dX0_init_64 : decode cX0_init 64 = .ok (.iload_n 1, 1) := by decide +kernel
theorem dX0_init_65 : decode cX0_init 65 = .ok (.iload_n 1, 1) := by decide +kernel
theorem dX0_init_66 : decode cX0_init 66 = .ok (.iastore, 1) := by decide +kernel
theorem dX0_init_67 : decode cX0_init 67 = .ok (.iinc 1 1, 3) := by decide +kernel
theorem dX0_init_70 : decode cX0_init 70 = .ok (.goto (-24), 3) := by decide +kernel
theorem dX0_init_73 : decode cX0_init 73 = .ok (.return_, 1) := by decide +kernel
theorem dX0_copyFrom_0 : decode cX0_copyFrom 0 = .ok (.aload_n 0, 1) := by decide +kernel
theorem dX0_copyFrom_1 : decode cX0_copyFrom 1 = .ok (.aload_n 1, 1) := by decide +kernel
theorem dX0_copyFrom_2 : decode cX0_copyFrom 2 = .ok (.getfield 9, 3) := by decide +kernel
theorem dX0_copyFrom_5 : decode cX0_copyFrom 5 = .ok (.putfield 9, 3) := by decide +kernel
theorem dX0_copyFrom_8 : decode cX0_copyFrom 8 = .ok (.aload_n 1, 1) := by decide +kernel
theorem dX0_copyFrom_9 : decode cX0_copyFrom 9 = .ok (.getfield 15, 3) := by decide +kernel
theorem dX0_copyFrom_12 : decode cX0_copyFrom 12 = .ok (.iconst 0, 1) := by decide +kernel
theorem dX0_copyFrom_13 : decode cX0_copyFrom 13 = .ok (.aload_n 0, 1) := by decide +kernel
theorem dX0_copyFrom_14 : decode cX0_copyFrom 14 = .ok (.getfield 15, 3) := by decide +kernel
theorem dX0_copyFrom_17 : decode cX0_copyFrom 17 = .ok (.iconst 0, 1) := by decide +kernel
theorem dX0_copyFrom_18 : decode cX0_copyFrom 18 = .ok (.bipush 6, 2) := by decide +kernel
theorem dX0_copyFrom_20 : decode cX0_copyFrom 20 = .ok (.invokestatic 32, 3) := by decide +kernel
theorem dX0_copyFrom_23 : decode cX0_copyFrom 23 = .ok (.aload_n 1, 1) := by decide +kernel
theorem dX0_copyFrom_24 : decode cX0_copyFrom 24 = .ok (.getfield 19, 3) := by decide +kernel
theorem dX0_copyFrom_27 : decode cX0_copyFrom 27 = .ok (.iconst 0, 1) := by decide +kernel
theorem dX0_copyFrom_28 : decode cX0_copyFrom 28 = .ok (.aload_n 0, 1) := by decide +kernel
theorem dX0_copyFrom_29 : decode cX0_copyFrom 29 = .ok (.getfield 19, 3) := by decide +kernel
theorem dX0_copyFrom_32 : decode cX0_copyFrom 32 = .ok (.iconst 0, 1) := by decide +kernel
theorem dX0_copyFrom_33 : decode cX0_copyFrom 33 = .ok (.bipush 6, 2) := by decide +kernel
theorem dX0_copyFrom_35 : decode cX0_copyFrom 35 = .ok (.invokestatic 32, 3) := by decide +kernel
theorem dX0_copyFrom_38 : decode cX0_copyFrom 38 = .ok (.aload_n 1, 1) := by decide +kernel
theorem dX0_copyFrom_39 : decode cX0_copyFrom 39 = .ok (.getfield 22, 3) := by decide +kernel
theorem dX0_copyFrom_42 : decode cX0_copyFrom 42 = .ok (.iconst 0, 1) := by decide +kernel
theorem dX0_copyFrom_43 : decode cX0_copyFrom 43 = .ok (.aload_n 0, 1) := by decide +kernel
theorem dX0_copyFrom_44 : decode cX0_copyFrom 44 = .ok (.getfield 22, 3) := by decide +kernel
theorem dX0_copyFrom_47 : decode cX0_copyFrom 47 = .ok (.iconst 0, 1) := by decide +kernel
theorem dX0_copyFrom_48 : decode cX0_copyFrom 48 = .ok (.bipush 6, 2) := by decide +kernel
theorem dX0_copyFrom_50 : decode cX0_copyFrom 50 = .ok (.invokestatic 32, 3) := by decide +kernel
theorem dX0_copyFrom_53 : decode cX0_copyFrom 53 = .ok (.aload_n 0, 1) := by decide +kernel
theorem dX0_copyFrom_54 : decode cX0_copyFrom 54 = .ok (.getfield 28, 3) := by decide +kernel
theorem dX0_copyFrom_57 : decode cX0_copyFrom 57 = .ok (.aload_n 1, 1) := by decide +kernel
theorem dX0_copyFrom_58 : decode cX0_copyFrom 58 = .ok (.getfield 28, 3) := by decide +kernel
theorem dX0_copyFrom_61 : decode cX0_copyFrom 61 = .ok (.invokevirtual 38, 3) := by decide +kernel
theorem dX0_copyFrom_64 : decode cX0_copyFrom 64 = .ok (.return_, 1) := by decide +kernel
theorem dX0_reaches_0 : decode cX0_reaches 0 = .ok (.aload_n 0, 1) := by decide +kernel
theorem dX0_reaches_1 : decode cX0_reaches 1 = .ok (.getfield 15, 3) := by decide +kernel
theorem dX0_reaches_4 : decode cX0_reaches 4 = .ok (.iload_n 1, 1) := by decide +kernel
theorem dX0_reaches_5 : decode cX0_reaches 5 = .ok (.iaload, 1) := by decide +kernel
theorem dX0_reaches_6 : decode cX0_reaches 6 = .ok (.iload_n 2, 1) := by decide +kernel
theorem dX0_reaches_7 : decode cX0_reaches 7 = .ok (.if_icmp .gt 17, 3) := by decide +kernel
theorem dX0_reaches_10 : decode cX0_reaches 10 = .ok (.iload_n 2, 1) := by decide +kernel
theorem dX0_reaches_11 : decode cX0_reaches 11 = .ok (.aload_n 0, 1) := by decide +kernel
theorem dX0_reaches_12 : decode cX0_reaches 12 = .ok (.getfield 19, 3) := by decide +kernel
theorem dX0_reaches_15 : decode cX0_reaches 15 = .ok (.iload_n 1, 1) := by decide +kernel
theorem dX0_reaches_16 : decode cX0_reaches 16 = .ok (.iaload, 1) := by decide +kernel
theorem dX0_reaches_17 : decode cX0_reaches 17 = .ok (.if_icmp .gt 7, 3) := by decide +kernel
theorem dX0_reaches_20 : decode cX0_reaches 20 = .ok (.iconst 1, 1) := by decide +kernel
theorem dX0_reaches_21 : decode cX0_reaches 21 = .ok (.goto 4, 3) := by decide +kernel
theorem dX0_reaches_24 : decode cX0_reaches 24 = .ok (.iconst 0, 1) := by decide +kernel
theorem dX0_reaches_25 : decode cX0_reaches 25 = .ok (.ireturn, 1) := by decide +kernel
theorem dX0_meets_0 : decode cX0_meets 0 = .ok (.aload_n 0, 1) := by decide +kernel
theorem dX0_meets_1 : decode cX0_meets 1 = .ok (.getfield 28, 3) := by decide +kernel
theorem dX0_meets_4 : decode cX0_meets 4 = .ok (.iload_n 1, 1) := by decide +kernel
theorem dX0_meets_5 : decode cX0_meets 5 = .ok (.iload_n 2, 1) := by decide +kernel
theorem dX0_meets_6 : decode cX0_meets 6 = .ok (.invokevirtual 42, 3) := by decide +kernel
theorem dX0_meets_9 : decode cX0_meets 9 = .ok (.ifCond .eq 36, 3) := by decide +kernel
theorem dX0_meets_12 : decode cX0_meets 12 = .ok (.aload_n 0, 1) := by decide +kernel
theorem dX0_meets_13 : decode cX0_meets 13 = .ok (.aload_n 0, 1) := by decide +kernel
theorem dX0_meets_14 : decode cX0_meets 14 = .ok (.getfield 28, 3) := by decide +kernel
theorem dX0_meets_17 : decode cX0_meets 17 = .ok (.getfield 46, 3) := by decide +kernel
theorem dX0_meets_20 : decode cX0_meets 20 = .ok (.iload_n 1, 1) := by decide +kernel
theorem dX0_meets_21 : decode cX0_meets 21 = .ok (.iaload, 1) := by decide +kernel
theorem dX0_meets_22 : decode cX0_meets 22 = .ok (.iload_n 2, 1) := by decide +kernel
theorem dX0_meets_23 : decode cX0_meets 23 = .ok (.invokevirtual 49, 3) := by decide +kernel
theorem dX0_meets_26 : decode cX0_meets 26 = .ok (.ifCond .eq 19, 3) := by decide +kernel
theorem dX0_meets_29 : decode cX0_meets 29 = .ok (.aload_n 0, 1) := by decide +kernel
theorem dX0_meets_30 : decode cX0_meets 30 = .ok (.getfield 28, 3) := by decide +kernel
theorem dX0_meets_33 : decode cX0_meets 33 = .ok (.iload_n 1, 1) := by decide +kernel
theorem dX0_meets_34 : decode cX0_meets 34 = .ok (.iload_n 2, 1) := by decide +kernel
theorem dX0_meets_35 : decode cX0_meets 35 = .ok (.invokevirtual 52, 3) := by decide +kernel
theorem dX0_meets_38 : decode cX0_meets 38 = .ok (.ifCond .ne 7, 3) := by decide +kernel
theorem dX0_meets_41 : decode cX0_meets 41 = .ok (.iconst 1, 1) := by decide +kernel
theorem dX0_meets_42 : decode cX0_meets 42 = .ok (.goto 4, 3) := by decide +kernel
theorem dX0_meets_45 : decode cX0_meets 45 = .ok (.iconst 0, 1) := by decide +kernel
theorem dX0_meets_46 : decode cX0_meets 46 = .ok (.ireturn, 1) := by decide +kernel
theorem dX1_init_0 : decode cX1_init 0 = .ok (.aload_n 0, 1) := by decide +kernel
theorem dX1_init_1 : decode cX1_init 1 = .ok (.invokespecial 3, 3) := by decide +kernel
theorem dX1_init_4 : decode cX1_init 4 = .ok (.aload_n 0, 1) := by decide +kernel
theorem dX1_init_5 : decode cX1_init 5 = .ok (.iconst 0, 1) := by decide +kernel
theorem dX1_init_6 : decode cX1_init 6 = .ok (.putfield 9, 3) := by decide +kernel
theorem dX1_init_9 : decode cX1_init 9 = .ok (.aload_n 0, 1) := by decide +kernel
theorem dX1_init_10 : decode cX1_init 10 = .ok (.bipush 30, 2) := by decide +kernel
theorem dX1_init_12 : decode cX1_init 12 = .ok (.newarray .int, 2) := by decide +kernel
theorem dX1_init_14 : decode cX1_init 14 = .ok (.putfield 15, 3) := by decide +kernel
theorem dX1_init_17 : decode cX1_init 17 = .ok (.aload_n 0, 1) := by decide +kernel
theorem dX1_init_18 : decode cX1_init 18 = .ok (.bipush 30, 2) := by decide +kernel
theorem dX1_init_20 : decode cX1_init 20 = .ok (.newarray .int, 2) := by decide +kernel
theorem dX1_init_22 : decode cX1_init 22 = .ok (.putfield 19, 3) := by decide +kernel
theorem dX1_init_25 : decode cX1_init 25 = .ok (.aload_n 0, 1) := by decide +kernel
theorem dX1_init_26 : decode cX1_init 26 = .ok (.bipush 30, 2) := by decide +kernel
theorem dX1_init_28 : decode cX1_init 28 = .ok (.newarray .int, 2) := by decide +kernel
theorem dX1_init_30 : decode cX1_init 30 = .ok (.putfield 22, 3) := by decide +kernel
theorem dX1_init_33 : decode cX1_init 33 = .ok (.aload_n 0, 1) := by decide +kernel
theorem dX1_init_34 : decode cX1_init 34 = .ok (.bipush 30, 2) := by decide +kernel
theorem dX1_init_36 : decode cX1_init 36 = .ok (.newarray .int, 2) := by decide +kernel
theorem dX1_init_38 : decode cX1_init 38 = .ok (.putfield 25, 3) := by decide +kernel
theorem dX1_init_41 : decode cX1_init 41 = .ok (.aload_n 0, 1) := by decide +kernel
theorem dX1_init_42 : decode cX1_init 42 = .ok (.bipush 30, 2) := by decide +kernel
theorem dX1_init_44 : decode cX1_init 44 = .ok (.newarray .int, 2) := by decide +kernel
theorem dX1_init_46 : decode cX1_init 46 = .ok (.putfield 28, 3) := by decide +kernel
theorem dX1_init_49 : decode cX1_init 49 = .ok (.aload_n 0, 1) := by decide +kernel
theorem dX1_init_50 : decode cX1_init 50 = .ok (.bipush 30, 2) := by decide +kernel
theorem dX1_init_52 : decode cX1_init 52 = .ok (.newarray .int, 2) := by decide +kernel
theorem dX1_init_54 : decode cX1_init 54 = .ok (.putfield 31, 3) := by decide +kernel
theorem dX1_init_57 : decode cX1_init 57 = .ok (.aload_n 0, 1) := by decide +kernel
theorem dX1_init_58 : decode cX1_init 58 = .ok (.bipush 30, 2) := by decide +kernel
theorem dX1_init_60 : decode cX1_init 60 = .ok (.newarray .int, 2) := by decide +kernel
theorem dX1_init_62 : decode cX1_init 62 = .ok (.putfield 34, 3) := by decide +kernel
theorem dX1_init_65 : decode cX1_init 65 = .ok (.aload_n 0, 1) := by decide +kernel
theorem dX1_init_66 : decode cX1_init 66 = .ok (.bipush 90, 2) := by decide +kernel
theorem dX1_init_68 : decode cX1_init 68 = .ok (.newarray .int, 2) := by decide +kernel
theorem dX1_init_70 : decode cX1_init 70 = .ok (.putfield 37, 3) := by decide +kernel
theorem dX1_init_73 : decode cX1_init 73 = .ok (.aload_n 0, 1) := by decide +kernel
theorem dX1_init_74 : decode cX1_init 74 = .ok (.bipush 90, 2) := by decide +kernel
theorem dX1_init_76 : decode cX1_init 76 = .ok (.newarray .int, 2) := by decide +kernel
theorem dX1_init_78 : decode cX1_init 78 = .ok (.putfield 40, 3) := by decide +kernel
theorem dX1_init_81 : decode cX1_init 81 = .ok (.return_, 1) := by decide +kernel
theorem dX1_has_0 : decode cX1_has 0 = .ok (.iload_n 1, 1) := by decide +kernel
theorem dX1_has_1 : decode cX1_has 1 = .ok (.aload_n 0, 1) := by decide +kernel
theorem dX1_has_2 : decode cX1_has 2 = .ok (.getfield 9, 3) := by decide +kernel
theorem dX1_has_5 : decode cX1_has 5 = .ok (.invokestatic 43, 3) := by decide +kernel
theorem dX1_has_8 : decode cX1_has 8 = .ok (.ireturn, 1) := by decide +kernel
theorem dX1_add_0 : decode cX1_add 0 = .ok (.aload_n 0, 1) := by decide +kernel
theorem dX1_add_1 : decode cX1_add 1 = .ok (.getfield 9, 3) := by decide +kernel
theorem dX1_add_4 : decode cX1_add 4 = .ok (.bipush 30, 2) := by decide +kernel
theorem dX1_add_6 : decode cX1_add 6 = .ok (.if_icmp .lt 5, 3) := by decide +kernel
theorem dX1_add_9 : decode cX1_add 9 = .ok (.iconst (-1), 1) := by decide +kernel
theorem dX1_add_10 : decode cX1_add 10 = .ok (.ireturn, 1) := by decide +kernel
theorem dX1_add_11 : decode cX1_add 11 = .ok (.aload_n 0, 1) := by decide +kernel
theorem dX1_add_12 : decode cX1_add 12 = .ok (.getfield 9, 3) := by decide +kernel
theorem dX1_add_15 : decode cX1_add 15 = .ok (.istore 6, 2) := by decide +kernel
theorem dX1_add_17 : decode cX1_add 17 = .ok (.aload_n 0, 1) := by decide +kernel
theorem dX1_add_18 : decode cX1_add 18 = .ok (.dup, 1) := by decide +kernel
theorem dX1_add_19 : decode cX1_add 19 = .ok (.getfield 9, 3) := by decide +kernel
theorem dX1_add_22 : decode cX1_add 22 = .ok (.iconst 1, 1) := by decide +kernel
theorem dX1_add_23 : decode cX1_add 23 = .ok (.iadd, 1) := by decide +kernel
theorem dX1_add_24 : decode cX1_add 24 = .ok (.putfield 9, 3) := by decide +kernel
theorem dX1_add_27 : decode cX1_add 27 = .ok (.aload_n 0, 1) := by decide +kernel
theorem dX1_add_28 : decode cX1_add 28 = .ok (.getfield 15, 3) := by decide +kernel
theorem dX1_add_31 : decode cX1_add 31 = .ok (.iload 6, 2) := by decide +kernel
theorem dX1_add_33 : decode cX1_add 33 = .ok (.iload_n 1, 1) := by decide +kernel
theorem dX1_add_34 : decode cX1_add 34 = .ok (.iastore, 1) := by decide +kernel
theorem dX1_add_35 : decode cX1_add 35 = .ok (.aload_n 0, 1) := by decide +kernel
theorem dX1_add_36 : decode cX1_add 36 = .ok (.getfield 19, 3) := by decide +kernel
theorem dX1_add_39 : decode cX1_add 39 = .ok (.iload 6, 2) := by decide +kernel
theorem dX1_add_41 : decode cX1_add 41 = .ok (.iload_n 2, 1) := by decide +kernel
theorem dX1_add_42 : decode cX1_add 42 = .ok (.iastore, 1) := by decide +kernel
theorem dX1_add_43 : decode cX1_add 43 = .ok (.aload_n 0, 1) := by decide +kernel
theorem dX1_add_44 : decode cX1_add 44 = .ok (.getfield 22, 3) := by decide +kernel
theorem dX1_add_47 : decode cX1_add 47 = .ok (.iload 6, 2) := by decide +kernel
theorem dX1_add_49 : decode cX1_add 49 = .ok (.sipush 1000, 3) := by decide +kernel
theorem dX1_add_52 : decode cX1_add 52 = .ok (.iastore, 1) := by decide +kernel
theorem dX1_add_53 : decode cX1_add 53 = .ok (.aload_n 0, 1) := by decide +kernel
theorem dX1_add_54 : decode cX1_add 54 = .ok (.getfield 25, 3) := by decide +kernel
theorem dX1_add_57 : decode cX1_add 57 = .ok (.iload 6, 2) := by decide +kernel
theorem dX1_add_59 : decode cX1_add 59 = .ok (.iload_n 3, 1) := by decide +kernel
theorem dX1_add_60 : decode cX1_add 60 = .ok (.iastore, 1) := by decide +kernel
theorem dX1_add_61 : decode cX1_add 61 = .ok (.aload_n 0, 1) := by decide +kernel
theorem dX1_add_62 : decode cX1_add 62 = .ok (.getfield 28, 3) := by decide +kernel
theorem dX1_add_65 : decode cX1_add 65 = .ok (.iload 6, 2) := by decide +kernel
theorem dX1_add_67 : decode cX1_add 67 = .ok (.iload 4, 2) := by decide +kernel
theorem dX1_add_69 : decode cX1_add 69 = .ok (.iastore, 1) := by decide +kernel
theorem dX1_add_70 : decode cX1_add 70 = .ok (.aload_n 0, 1) := by decide +kernel
theorem dX1_add_71 : decode cX1_add 71 = .ok (.getfield 31, 3) := by decide +kernel
theorem dX1_add_74 : decode cX1_add 74 = .ok (.iload 6, 2) := by decide +kernel
theorem dX1_add_76 : decode cX1_add 76 = .ok (.iload 5, 2) := by decide +kernel
theorem dX1_add_78 : decode cX1_add 78 = .ok (.iastore, 1) := by decide +kernel
theorem dX1_add_79 : decode cX1_add 79 = .ok (.aload_n 0, 1) := by decide +kernel
theorem dX1_add_80 : decode cX1_add 80 = .ok (.getfield 34, 3) := by decide +kernel
theorem dX1_add_83 : decode cX1_add 83 = .ok (.iload 6, 2) := by decide +kernel
theorem dX1_add_85 : decode cX1_add 85 = .ok (.iconst 0, 1) := by decide +kernel
theorem dX1_add_86 : decode cX1_add 86 = .ok (.iastore, 1) := by decide +kernel
theorem dX1_add_87 : decode cX1_add 87 = .ok (.iload 6, 2) := by decide +kernel
theorem dX1_add_89 : decode cX1_add 89 = .ok (.ireturn, 1) := by decide +kernel
theorem dX1_addException_0 : decode cX1_addException 0 = .ok (.aload_n 0, 1) := by decide +kernel
theorem dX1_addException_1 : decode cX1_addException 1 = .ok (.iload_n 1, 1) := by decide +kernel
theorem dX1_addException_2 : decode cX1_addException 2 = .ok (.invokevirtual 47, 3) := by decide +kernel
theorem dX1_addException_5 : decode cX1_addException 5 = .ok (.ifCond .eq 13, 3) := by decide +kernel
theorem dX1_addException_8 : decode cX1_addException 8 = .ok (.aload_n 0, 1) := by decide +kernel
theorem dX1_addException_9 : decode cX1_addException 9 = .ok (.getfield 34, 3) := by decide +kernel
theorem dX1_addException_12 : decode cX1_addException 12 = .ok (.iload_n 1, 1) := by decide +kernel
theorem dX1_addException_13 : decode cX1_addException 13 = .ok (.iaload, 1) := by decide +kernel
theorem dX1_addException_14 : decode cX1_addException 14 = .ok (.iconst 3, 1) := by decide +kernel
theorem dX1_addException_15 : decode cX1_addException 15 = .ok (.if_icmp .lt 4, 3) := by decide +kernel
theorem dX1_addException_18 : decode cX1_addException 18 = .ok (.return_, 1) := by decide +kernel
theorem dX1_addException_19 : decode cX1_addException 19 = .ok (.iload_n 1, 1) := by decide +kernel
theorem dX1_addException_20 : decode cX1_addException 20 = .ok (.iconst 3, 1) := by decide +kernel
theorem dX1_addException_21 : decode cX1_addException 21 = .ok (.imul, 1) := by decide +kernel
theorem dX1_addException_22 : decode cX1_addException 22 = .ok (.aload_n 0, 1) := by decide +kernel
theorem dX1_addException_23 : decode cX1_addException 23 = .ok (.getfield 34, 3) := by decide +kernel
theorem dX1_addException_26 : decode cX1_addException 26 = .ok (.iload_n 1, 1) := by decide +kernel
theorem dX1_addException_27 : decode cX1_addException 27 = .ok (.iaload, 1) := by decide +kernel
theorem dX1_addException_28 : decode cX1_addException 28 = .ok (.iadd, 1) := by decide +kernel
theorem dX1_addException_29 : decode cX1_addException 29 = .ok (.istore 4, 2) := by decide +kernel
theorem dX1_addException_31 : decode cX1_addException 31 = .ok (.aload_n 0, 1) := by decide +kernel
theorem dX1_addException_32 : decode cX1_addException 32 = .ok (.getfield 37, 3) := by decide +kernel
theorem dX1_addException_35 : decode cX1_addException 35 = .ok (.iload 4, 2) := by decide +kernel
theorem dX1_addException_37 : decode cX1_addException 37 = .ok (.iload_n 2, 1) := by decide +kernel
theorem dX1_addException_38 : decode cX1_addException 38 = .ok (.iastore, 1) := by decide +kernel
theorem dX1_addException_39 : decode cX1_addException 39 = .ok (.aload_n 0, 1) := by decide +kernel
theorem dX1_addException_40 : decode cX1_addException 40 = .ok (.getfield 40, 3) := by decide +kernel
theorem dX1_addException_43 : decode cX1_addException 43 = .ok (.iload 4, 2) := by decide +kernel
theorem dX1_addException_45 : decode cX1_addException 45 = .ok (.iload_n 3, 1) := by decide +kernel
theorem dX1_addException_46 : decode cX1_addException 46 = .ok (.iastore, 1) := by decide +kernel
theorem dX1_addException_47 : decode cX1_addException 47 = .ok (.aload_n 0, 1) := by decide +kernel
theorem dX1_addException_48 : decode cX1_addException 48 = .ok (.getfield 34, 3) := by decide +kernel
theorem dX1_addException_51 : decode cX1_addException 51 = .ok (.iload_n 1, 1) := by decide +kernel
theorem dX1_addException_52 : decode cX1_addException 52 = .ok (.dup2, 1) := by decide +kernel
theorem dX1_addException_53 : decode cX1_addException 53 = .ok (.iaload, 1) := by decide +kernel
theorem dX1_addException_54 : decode cX1_addException 54 = .ok (.iconst 1, 1) := by decide +kernel
theorem dX1_addException_55 : decode cX1_addException 55 = .ok (.iadd, 1) := by decide +kernel
theorem dX1_addException_56 : decode cX1_addException 56 = .ok (.iastore, 1) := by decide +kernel
theorem dX1_addException_57 : decode cX1_addException 57 = .ok (.return_, 1) := by decide +kernel
theorem dX1_addAll_0 : decode cX1_addAll 0 = .ok (.iconst 0, 1) := by decide +kernel
theorem dX1_addAll_1 : decode cX1_addAll 1 = .ok (.istore_n 2, 1) := by decide +kernel
theorem dX1_addAll_2 : decode cX1_addAll 2 = .ok (.iload_n 2, 1) := by decide +kernel
theorem dX1_addAll_3 : decode cX1_addAll 3 = .ok (.aload_n 1, 1) := by decide +kernel
theorem dX1_addAll_4 : decode cX1_addAll 4 = .ok (.getfield 9, 3) := by decide +kernel
theorem dX1_addAll_7 : decode cX1_addAll 7 = .ok (.if_icmp .ge 91, 3) := by decide +kernel
theorem dX1_addAll_10 : decode cX1_addAll 10 = .ok (.aload_n 0, 1) := by decide +kernel
theorem dX1_addAll_11 : decode cX1_addAll 11 = .ok (.aload_n 1, 1) := by decide +kernel
theorem dX1_addAll_12 : decode cX1_addAll 12 = .ok (.getfield 15, 3) := by decide +kernel
theorem dX1_addAll_15 : decode cX1_addAll 15 = .ok (.iload_n 2, 1) := by decide +kernel
theorem dX1_addAll_16 : decode cX1_addAll 16 = .ok (.iaload, 1) := by decide +kernel
theorem dX1_addAll_17 : decode cX1_addAll 17 = .ok (.aload_n 1, 1) := by decide +kernel
theorem dX1_addAll_18 : decode cX1_addAll 18 = .ok (.getfield 19, 3) := by decide +kernel
theorem dX1_addAll_21 : decode cX1_addAll 21 = .ok (.iload_n 2, 1) := by decide +kernel
theorem dX1_addAll_22 : decode cX1_addAll 22 = .ok (.iaload, 1) := by decide +kernel
theorem dX1_addAll_23 : decode cX1_addAll 23 = .ok (.aload_n 1, 1) := by decide +kernel
theorem dX1_addAll_24 : decode cX1_addAll 24 = .ok (.getfield 25, 3) := by decide +kernel
theorem dX1_addAll_27 : decode cX1_addAll 27 = .ok (.iload_n 2, 1) := by decide +kernel
theorem dX1_addAll_28 : decode cX1_addAll 28 = .ok (.iaload, 1) := by decide +kernel
theorem dX1_addAll_29 : decode cX1_addAll 29 = .ok (.aload_n 1, 1) := by decide +kernel
theorem dX1_addAll_30 : decode cX1_addAll 30 = .ok (.getfield 28, 3) := by decide +kernel
theorem dX1_addAll_33 : decode cX1_addAll 33 = .ok (.iload_n 2, 1) := by decide +kernel
theorem dX1_addAll_34 : decode cX1_addAll 34 = .ok (.iaload, 1) := by decide +kernel
theorem dX1_addAll_35 : decode cX1_addAll 35 = .ok (.aload_n 1, 1) := by decide +kernel
theorem dX1_addAll_36 : decode cX1_addAll 36 = .ok (.getfield 31, 3) := by decide +kernel
theorem dX1_addAll_39 : decode cX1_addAll 39 = .ok (.iload_n 2, 1) := by decide +kernel
theorem dX1_addAll_40 : decode cX1_addAll 40 = .ok (.iaload, 1) := by decide +kernel
theorem dX1_addAll_41 : decode cX1_addAll 41 = .ok (.invokevirtual 51, 3) := by decide +kernel
theorem dX1_addAll_44 : decode cX1_addAll 44 = .ok (.istore_n 3, 1) := by decide +kernel
theorem dX1_addAll_45 : decode cX1_addAll 45 = .ok (.iconst 0, 1) := by decide +kernel
theorem dX1_addAll_46 : decode cX1_addAll 46 = .ok (.istore 4, 2) := by decide +kernel
theorem dX1_addAll_48 : decode cX1_addAll 48 = .ok (.iload 4, 2) := by decide +kernel
theorem dX1_addAll_50 : decode cX1_addAll 50 = .ok (.aload_n 1, 1) := by decide +kernel
theorem dX1_addAll_51 : decode cX1_addAll 51 = .ok (.getfield 34, 3) := by decide +kernel
theorem dX1_addAll_54 : decode cX1_addAll 54 = .ok (.iload_n 2, 1) := by decide +kernel
theorem dX1_addAll_55 : decode cX1_addAll 55 = .ok (.iaload, 1) := by decide +kernel
theorem dX1_addAll_56 : decode cX1_addAll 56 = .ok (.if_icmp .ge 36, 3) := by decide +kernel
theorem dX1_addAll_59 : decode cX1_addAll 59 = .ok (.iload_n 2, 1) := by decide +kernel
theorem dX1_addAll_60 : decode cX1_addAll 60 = .ok (.iconst 3, 1) := by decide +kernel
theorem dX1_addAll_61 : decode cX1_addAll 61 = .ok (.imul, 1) := by decide +kernel
theorem dX1_addAll_62 : decode cX1_addAll 62 = .ok (.iload 4, 2) := by decide +kernel
theorem dX1_addAll_64 : decode cX1_addAll 64 = .ok (.iadd, 1) := by decide +kernel
theorem dX1_addAll_65 : decode cX1_addAll 65 = .ok (.istore 5, 2) := by decide +kernel
theorem dX1_addAll_67 : decode cX1_addAll 67 = .ok (.aload_n 0, 1) := by decide +kernel
theorem dX1_addAll_68 : decode cX1_addAll 68 = .ok (.iload_n 3, 1) := by decide +kernel
theorem dX1_addAll_69 : decode cX1_addAll 69 = .ok (.aload_n 1, 1) := by decide +kernel
theorem dX1_addAll_70 : decode cX1_addAll 70 = .ok (.getfield 37, 3) := by decide +kernel
theorem dX1_addAll_73 : decode cX1_addAll 73 = .ok (.iload 5, 2) := by decide +kernel
theorem dX1_addAll_75 : decode cX1_addAll 75 = .ok (.iaload, 1) := by decide +kernel
theorem dX1_addAll_76 : decode cX1_addAll 76 = .ok (.aload_n 1, 1) := by decide +kernel
theorem dX1_addAll_77 : decode cX1_addAll 77 = .ok (.getfield 40, 3) := by decide +kernel
theorem dX1_addAll_80 : decode cX1_addAll 80 = .ok (.iload 5, 2) := by decide +kernel
theorem dX1_addAll_82 : decode cX1_addAll 82 = .ok (.iaload, 1) := by decide +kernel
theorem dX1_addAll_83 : decode cX1_addAll 83 = .ok (.invokevirtual 55, 3) := by decide +kernel
theorem dX1_addAll_86 : decode cX1_addAll 86 = .ok (.iinc 4 1, 3) := by decide +kernel
theorem dX1_addAll_89 : decode cX1_addAll 89 = .ok (.goto (-41), 3) := by decide +kernel
theorem dX1_addAll_92 : decode cX1_addAll 92 = .ok (.iinc 2 1, 3) := by decide +kernel
theorem dX1_addAll_95 : decode cX1_addAll 95 = .ok (.goto (-93), 3) := by decide +kernel
theorem dX1_addAll_98 : decode cX1_addAll 98 = .ok (.return_, 1) := by decide +kernel
theorem dX1_copyFrom_0 : decode cX1_copyFrom 0 = .ok (.aload_n 0, 1) := by decide +kernel
theorem dX1_copyFrom_1 : decode cX1_copyFrom 1 = .ok (.aload_n 1, 1) := by decide +kernel
theorem dX1_copyFrom_2 : decode cX1_copyFrom 2 = .ok (.getfield 9, 3) := by decide +kernel
theorem dX1_copyFrom_5 : decode cX1_copyFrom 5 = .ok (.putfield 9, 3) := by decide +kernel
theorem dX1_copyFrom_8 : decode cX1_copyFrom 8 = .ok (.aload_n 1, 1) := by decide +kernel
theorem dX1_copyFrom_9 : decode cX1_copyFrom 9 = .ok (.getfield 15, 3) := by decide +kernel
theorem dX1_copyFrom_12 : decode cX1_copyFrom 12 = .ok (.iconst 0, 1) := by decide +kernel
theorem dX1_copyFrom_13 : decode cX1_copyFrom 13 = .ok (.aload_n 0, 1) := by decide +kernel
theorem dX1_copyFrom_14 : decode cX1_copyFrom 14 = .ok (.getfield 15, 3) := by decide +kernel
theorem dX1_copyFrom_17 : decode cX1_copyFrom 17 = .ok (.iconst 0, 1) := by decide +kernel
theorem dX1_copyFrom_18 : decode cX1_copyFrom 18 = .ok (.aload_n 0, 1) := by decide +kernel
theorem dX1_copyFrom_19 : decode cX1_copyFrom 19 = .ok (.getfield 9, 3) := by decide +kernel
theorem dX1_copyFrom_22 : decode cX1_copyFrom 22 = .ok (.invokestatic 59, 3) := by decide +kernel
theorem dX1_copyFrom_25 : decode cX1_copyFrom 25 = .ok (.aload_n 1, 1) := by decide +kernel
theorem dX1_copyFrom_26 : decode cX1_copyFrom 26 = .ok (.getfield 19, 3) := by decide +kernel
theorem dX1_copyFrom_29 : decode cX1_copyFrom 29 = .ok (.iconst 0, 1) := by decide +kernel
theorem dX1_copyFrom_30 : decode cX1_copyFrom 30 = .ok (.aload_n 0, 1) := by decide +kernel
theorem dX1_copyFrom_31 : decode cX1_copyFrom 31 = .ok (.getfield 19, 3) := by decide +kernel
theorem dX1_copyFrom_34 : decode cX1_copyFrom 34 = .ok (.iconst 0, 1) := by decide +kernel
theorem dX1_copyFrom_35 : decode cX1_copyFrom 35 = .ok (.aload_n 0, 1) := by decide +kernel
theorem dX1_copyFrom_36 : decode cX1_copyFrom 36 = .ok (.getfield 9, 3) := by decide +kernel
theorem dX1_copyFrom_39 : decode cX1_copyFrom 39 = .ok (.invokestatic 59, 3) := by decide +kernel
theorem dX1_copyFrom_42 : decode cX1_copyFrom 42 = .ok (.aload_n 1, 1) := by decide +kernel
theorem dX1_copyFrom_43 : decode cX1_copyFrom 43 = .ok (.getfield 22, 3) := by decide +kernel
theorem dX1_copyFrom_46 : decode cX1_copyFrom 46 = .ok (.iconst 0, 1) := by decide +kernel
theorem dX1_copyFrom_47 : decode cX1_copyFrom 47 = .ok (.aload_n 0, 1) := by decide +kernel
theorem dX1_copyFrom_48 : decode cX1_copyFrom 48 = .ok (.getfield 22, 3) := by decide +kernel
theorem dX1_copyFrom_51 : decode cX1_copyFrom 51 = .ok (.iconst 0, 1) := by decide +kernel
theorem dX1_copyFrom_52 : decode cX1_copyFrom 52 = .ok (.aload_n 0, 1) := by decide +kernel
theorem dX1_copyFrom_53 : decode cX1_copyFrom 53 = .ok (.getfield 9, 3) := by decide +kernel
theorem dX1_copyFrom_56 : decode cX1_copyFrom 56 = .ok (.invokestatic 59, 3) := by decide +kernel
theorem dX1_copyFrom_59 : decode cX1_copyFrom 59 = .ok (.aload_n 1, 1) := by decide +kernel
theorem dX1_copyFrom_60 : decode cX1_copyFrom 60 = .ok (.getfield 25, 3) := by decide +kernel
theorem dX1_copyFrom_63 : decode cX1_copyFrom 63 = .ok (.iconst 0, 1) := by decide +kernel
theorem dX1_copyFrom_64 : decode cX1_copyFrom 64 = .ok (.aload_n 0, 1) := by decide +kernel
theorem dX1_copyFrom_65 : decode cX1_copyFrom 65 = .ok (.getfield 25, 3) := by decide +kernel
theorem dX1_copyFrom_68 : decode cX1_copyFrom 68 = .ok (.iconst 0, 1) := by decide +kernel
theorem dX1_copyFrom_69 : decode cX1_copyFrom 69 = .ok (.aload_n 0, 1) := by decide +kernel
theorem dX1_copyFrom_70 : decode cX1_copyFrom 70 = .ok (.getfield 9, 3) := by decide +kernel
theorem dX1_copyFrom_73 : decode cX1_copyFrom 73 = .ok (.invokestatic 59, 3) := by decide +kernel
theorem dX1_copyFrom_76 : decode cX1_copyFrom 76 = .ok (.aload_n 1, 1) := by decide +kernel
theorem dX1_copyFrom_77 : decode cX1_copyFrom 77 = .ok (.getfield 28, 3) := by decide +kernel
theorem dX1_copyFrom_80 : decode cX1_copyFrom 80 = .ok (.iconst 0, 1) := by decide +kernel
theorem dX1_copyFrom_81 : decode cX1_copyFrom 81 = .ok (.aload_n 0, 1) := by decide +kernel
theorem dX1_copyFrom_82 : decode cX1_copyFrom 82 = .ok (.getfield 28, 3) := by decide +kernel
theorem dX1_copyFrom_85 : decode cX1_copyFrom 85 = .ok (.iconst 0, 1) := by decide +kernel
theorem dX1_copyFrom_86 : decode cX1_copyFrom 86 = .ok (.aload_n 0, 1) := by decide +kernel
theorem dX1_copyFrom_87 : decode cX1_copyFrom 87 = .ok (.getfield 9, 3) := by decide +kernel
theorem dX1_copyFrom_90 : decode cX1_copyFrom 90 = .ok (.invokestatic 59, 3) := by decide +kernel
theorem dX1_copyFrom_93 : decode cX1_copyFrom 93 = .ok (.aload_n 1, 1) := by decide +kernel
theorem dX1_copyFrom_94 : decode cX1_copyFrom 94 = .ok (.getfield 31, 3) := by decide +kernel
theorem dX1_copyFrom_97 : decode cX1_copyFrom 97 = .ok (.iconst 0, 1) := by decide +kernel
theorem dX1_copyFrom_98 : decode cX1_copyFrom 98 = .ok (.aload_n 0, 1) := by decide +kernel
theorem dX1_copyFrom_99 : decode cX1_copyFrom 99 = .ok (.getfield 31, 3) := by decide +kernel
theorem dX1_copyFrom_102 : decode cX1_copyFrom 102 = .ok (.iconst 0, 1) := by decide +kernel
theorem dX1_copyFrom_103 : decode cX1_copyFrom 103 = .ok (.aload_n 0, 1) := by decide +kernel
theorem dX1_copyFrom_104 : decode cX1_copyFrom 104 = .ok (.getfield 9, 3) := by decide +kernel
theorem dX1_copyFrom_107 : decode cX1_copyFrom 107 = .ok (.invokestatic 59, 3) := by decide +kernel
theorem dX1_copyFrom_110 : decode cX1_copyFrom 110 = .ok (.aload_n 1, 1) := by decide +kernel
theorem dX1_copyFrom_111 : decode cX1_copyFrom 111 = .ok (.getfield 34, 3) := by decide +kernel
theorem dX1_copyFrom_114 : decode cX1_copyFrom 114 = .ok (.iconst 0, 1) := by decide +kernel
theorem dX1_copyFrom_115 : decode cX1_copyFrom 115 = .ok (.aload_n 0, 1) := by decide +kernel
theorem dX1_copyFrom_116 : decode cX1_copyFrom 116 = .ok (.getfield 34, 3) := by decide +kernel
theorem dX1_copyFrom_119 : decode cX1_copyFrom 119 = .ok (.iconst 0, 1) := by decide +kernel
theorem dX1_copyFrom_120 : decode cX1_copyFrom 120 = .ok (.aload_n 0, 1) := by decide +kernel
theorem dX1_copyFrom_121 : decode cX1_copyFrom 121 = .ok (.getfield 9, 3) := by decide +kernel
theorem dX1_copyFrom_124 : decode cX1_copyFrom 124 = .ok (.invokestatic 59, 3) := by decide +kernel
theorem dX1_copyFrom_127 : decode cX1_copyFrom 127 = .ok (.aload_n 1, 1) := by decide +kernel
theorem dX1_copyFrom_128 : decode cX1_copyFrom 128 = .ok (.getfield 37, 3) := by decide +kernel
theorem dX1_copyFrom_131 : decode cX1_copyFrom 131 = .ok (.iconst 0, 1) := by decide +kernel
theorem dX1_copyFrom_132 : decode cX1_copyFrom 132 = .ok (.aload_n 0, 1) := by decide +kernel
theorem dX1_copyFrom_133 : decode cX1_copyFrom 133 = .ok (.getfield 37, 3) := by decide +kernel
theorem dX1_copyFrom_136 : decode cX1_copyFrom 136 = .ok (.iconst 0, 1) := by decide +kernel
theorem dX1_copyFrom_137 : decode cX1_copyFrom 137 = .ok (.aload_n 0, 1) := by decide +kernel
theorem dX1_copyFrom_138 : decode cX1_copyFrom 138 = .ok (.getfield 9, 3) := by decide +kernel
theorem dX1_copyFrom_141 : decode cX1_copyFrom 141 = .ok (.iconst 3, 1) := by decide +kernel
theorem dX1_copyFrom_142 : decode cX1_copyFrom 142 = .ok (.imul, 1) := by decide +kernel
theorem dX1_copyFrom_143 : decode cX1_copyFrom 143 = .ok (.invokestatic 59, 3) := by decide +kernel
theorem dX1_copyFrom_146 : decode cX1_copyFrom 146 = .ok (.aload_n 1, 1) := by decide +kernel
theorem dX1_copyFrom_147 : decode cX1_copyFrom 147 = .ok (.getfield 40, 3) := by decide +kernel
theorem dX1_copyFrom_150 : decode cX1_copyFrom 150 = .ok (.iconst 0, 1) := by decide +kernel
theorem dX1_copyFrom_151 : decode cX1_copyFrom 151 = .ok (.aload_n 0, 1) := by decide +kernel
theorem dX1_copyFrom_152 : decode cX1_copyFrom 152 = .ok (.getfield 40, 3) := by decide +kernel
theorem dX1_copyFrom_155 : decode cX1_copyFrom 155 = .ok (.iconst 0, 1) := by decide +kernel
theorem dX1_copyFrom_156 : decode cX1_copyFrom 156 = .ok (.aload_n 0, 1) := by decide +kernel
theorem dX1_copyFrom_157 : decode cX1_copyFrom 157 = .ok (.getfield 9, 3) := by decide +kernel
theorem dX1_copyFrom_160 : decode cX1_copyFrom 160 = .ok (.iconst 3, 1) := by decide +kernel
theorem dX1_copyFrom_161 : decode cX1_copyFrom 161 = .ok (.imul, 1) := by decide +kernel
theorem dX1_copyFrom_162 : decode cX1_copyFrom 162 = .ok (.invokestatic 59, 3) := by decide +kernel
theorem dX1_copyFrom_165 : decode cX1_copyFrom 165 = .ok (.return_, 1) := by decide +kernel
theorem dX1_isInForce_0 : decode cX1_isInForce 0 = .ok (.aload_n 0, 1) := by decide +kernel
theorem dX1_isInForce_1 : decode cX1_isInForce 1 = .ok (.getfield 19, 3) := by decide +kernel
theorem dX1_isInForce_4 : decode cX1_isInForce 4 = .ok (.iload_n 1, 1) := by decide +kernel
theorem dX1_isInForce_5 : decode cX1_isInForce 5 = .ok (.iaload, 1) := by decide +kernel
theorem dX1_isInForce_6 : decode cX1_isInForce 6 = .ok (.iload_n 2, 1) := by decide +kernel
theorem dX1_isInForce_7 : decode cX1_isInForce 7 = .ok (.if_icmp .gt 17, 3) := by decide +kernel
theorem dX1_isInForce_10 : decode cX1_isInForce 10 = .ok (.aload_n 0, 1) := by decide +kernel
theorem dX1_isInForce_11 : decode cX1_isInForce 11 = .ok (.getfield 22, 3) := by decide +kernel
theorem dX1_isInForce_14 : decode cX1_isInForce 14 = .ok (.iload_n 1, 1) := by decide +kernel
theorem dX1_isInForce_15 : decode cX1_isInForce 15 = .ok (.iaload, 1) := by decide +kernel
theorem dX1_isInForce_16 : decode cX1_isInForce 16 = .ok (.iload_n 2, 1) := by decide +kernel
theorem dX1_isInForce_17 : decode cX1_isInForce 17 = .ok (.if_icmp .le 7, 3) := by decide +kernel
theorem dX1_isInForce_20 : decode cX1_isInForce 20 = .ok (.iconst 1, 1) := by decide +kernel
theorem dX1_isInForce_21 : decode cX1_isInForce 21 = .ok (.goto 4, 3) := by decide +kernel
theorem dX1_isInForce_24 : decode cX1_isInForce 24 = .ok (.iconst 0, 1) := by decide +kernel
theorem dX1_isInForce_25 : decode cX1_isInForce 25 = .ok (.ireturn, 1) := by decide +kernel
theorem dX1_isInSpan_0 : decode cX1_isInSpan 0 = .ok (.aload_n 0, 1) := by decide +kernel
theorem dX1_isInSpan_1 : decode cX1_isInSpan 1 = .ok (.getfield 25, 3) := by decide +kernel
theorem dX1_isInSpan_4 : decode cX1_isInSpan 4 = .ok (.iload_n 1, 1) := by decide +kernel
theorem dX1_isInSpan_5 : decode cX1_isInSpan 5 = .ok (.iaload, 1) := by decide +kernel
theorem dX1_isInSpan_6 : decode cX1_isInSpan 6 = .ok (.iload_n 2, 1) := by decide +kernel
theorem dX1_isInSpan_7 : decode cX1_isInSpan 7 = .ok (.if_icmp .gt 17, 3) := by decide +kernel
theorem dX1_isInSpan_10 : decode cX1_isInSpan 10 = .ok (.iload_n 2, 1) := by decide +kernel
theorem dX1_isInSpan_11 : decode cX1_isInSpan 11 = .ok (.aload_n 0, 1) := by decide +kernel
theorem dX1_isInSpan_12 : decode cX1_isInSpan 12 = .ok (.getfield 28, 3) := by decide +kernel
theorem dX1_isInSpan_15 : decode cX1_isInSpan 15 = .ok (.iload_n 1, 1) := by decide +kernel
theorem dX1_isInSpan_16 : decode cX1_isInSpan 16 = .ok (.iaload, 1) := by decide +kernel
theorem dX1_isInSpan_17 : decode cX1_isInSpan 17 = .ok (.if_icmp .gt 7, 3) := by decide +kernel
theorem dX1_isInSpan_20 : decode cX1_isInSpan 20 = .ok (.iconst 1, 1) := by decide +kernel
theorem dX1_isInSpan_21 : decode cX1_isInSpan 21 = .ok (.goto 4, 3) := by decide +kernel
theorem dX1_isInSpan_24 : decode cX1_isInSpan 24 = .ok (.iconst 0, 1) := by decide +kernel
theorem dX1_isInSpan_25 : decode cX1_isInSpan 25 = .ok (.ireturn, 1) := by decide +kernel
theorem dX1_isExcepted_0 : decode cX1_isExcepted 0 = .ok (.iload_n 1, 1) := by decide +kernel
theorem dX1_isExcepted_1 : decode cX1_isExcepted 1 = .ok (.iconst 3, 1) := by decide +kernel
theorem dX1_isExcepted_2 : decode cX1_isExcepted 2 = .ok (.imul, 1) := by decide +kernel
theorem dX1_isExcepted_3 : decode cX1_isExcepted 3 = .ok (.istore_n 3, 1) := by decide +kernel
theorem dX1_isExcepted_4 : decode cX1_isExcepted 4 = .ok (.iconst 0, 1) := by decide +kernel
theorem dX1_isExcepted_5 : decode cX1_isExcepted 5 = .ok (.istore 4, 2) := by decide +kernel
theorem dX1_isExcepted_7 : decode cX1_isExcepted 7 = .ok (.iload 4, 2) := by decide +kernel
theorem dX1_isExcepted_9 : decode cX1_isExcepted 9 = .ok (.aload_n 0, 1) := by decide +kernel
theorem dX1_isExcepted_10 : decode cX1_isExcepted 10 = .ok (.getfield 34, 3) := by decide +kernel
theorem dX1_isExcepted_13 : decode cX1_isExcepted 13 = .ok (.iload_n 1, 1) := by decide +kernel
theorem dX1_isExcepted_14 : decode cX1_isExcepted 14 = .ok (.iaload, 1) := by decide +kernel
theorem dX1_isExcepted_15 : decode cX1_isExcepted 15 = .ok (.if_icmp .ge 37, 3) := by decide +kernel
theorem dX1_isExcepted_18 : decode cX1_isExcepted 18 = .ok (.aload_n 0, 1) := by decide +kernel
theorem dX1_isExcepted_19 : decode cX1_isExcepted 19 = .ok (.getfield 37, 3) := by decide +kernel
theorem dX1_isExcepted_22 : decode cX1_isExcepted 22 = .ok (.iload_n 3, 1) := by decide +kernel
theorem dX1_isExcepted_23 : decode cX1_isExcepted 23 = .ok (.iload 4, 2) := by decide +kernel
theorem dX1_isExcepted_25 : decode cX1_isExcepted 25 = .ok (.iadd, 1) := by decide +kernel
theorem dX1_isExcepted_26 : decode cX1_isExcepted 26 = .ok (.iaload, 1) := by decide +kernel
theorem dX1_isExcepted_27 : decode cX1_isExcepted 27 = .ok (.iload_n 2, 1) := by decide +kernel
theorem dX1_isExcepted_28 : decode cX1_isExcepted 28 = .ok (.if_icmp .gt 18, 3) := by decide +kernel
theorem dX1_isExcepted_31 : decode cX1_isExcepted 31 = .ok (.iload_n 2, 1) := by decide +kernel
theorem dX1_isExcepted_32 : decode cX1_isExcepted 32 = .ok (.aload_n 0, 1) := by decide +kernel
theorem dX1_isExcepted_33 : decode cX1_isExcepted 33 = .ok (.getfield 40, 3) := by decide +kernel
theorem dX1_isExcepted_36 : decode cX1_isExcepted 36 = .ok (.iload_n 3, 1) := by decide +kernel
theorem dX1_isExcepted_37 : decode cX1_isExcepted 37 = .ok (.iload 4, 2) := by decide +kernel
theorem dX1_isExcepted_39 : decode cX1_isExcepted 39 = .ok (.iadd, 1) := by decide +kernel
theorem dX1_isExcepted_40 : decode cX1_isExcepted 40 = .ok (.iaload, 1) := by decide +kernel
theorem dX1_isExcepted_41 : decode cX1_isExcepted 41 = .ok (.if_icmp .gt 5, 3) := by decide +kernel
theorem dX1_isExcepted_44 : decode cX1_isExcepted 44 = .ok (.iconst 1, 1) := by decide +kernel
theorem dX1_isExcepted_45 : decode cX1_isExcepted 45 = .ok (.ireturn, 1) := by decide +kernel
theorem dX1_isExcepted_46 : decode cX1_isExcepted 46 = .ok (.iinc 4 1, 3) := by decide +kernel
theorem dX1_isExcepted_49 : decode cX1_isExcepted 49 = .ok (.goto (-42), 3) := by decide +kernel
theorem dX1_isExcepted_52 : decode cX1_isExcepted 52 = .ok (.iconst 0, 1) := by decide +kernel
theorem dX1_isExcepted_53 : decode cX1_isExcepted 53 = .ok (.ireturn, 1) := by decide +kernel
theorem dX1_speaksAtAll_0 : decode cX1_speaksAtAll 0 = .ok (.aload_n 0, 1) := by decide +kernel
theorem dX1_speaksAtAll_1 : decode cX1_speaksAtAll 1 = .ok (.getfield 31, 3) := by decide +kernel
theorem dX1_speaksAtAll_4 : decode cX1_speaksAtAll 4 = .ok (.iload_n 1, 1) := by decide +kernel
theorem dX1_speaksAtAll_5 : decode cX1_speaksAtAll 5 = .ok (.iaload, 1) := by decide +kernel
theorem dX1_speaksAtAll_6 : decode cX1_speaksAtAll 6 = .ok (.ifCond .eq 7, 3) := by decide +kernel
theorem dX1_speaksAtAll_9 : decode cX1_speaksAtAll 9 = .ok (.iconst 1, 1) := by decide +kernel
theorem dX1_speaksAtAll_10 : decode cX1_speaksAtAll 10 = .ok (.goto 4, 3) := by decide +kernel
theorem dX1_speaksAtAll_13 : decode cX1_speaksAtAll 13 = .ok (.iconst 0, 1) := by decide +kernel
theorem dX1_speaksAtAll_14 : decode cX1_speaksAtAll 14 = .ok (.ireturn, 1) := by decide +kernel
theorem dX1_hasReversedSpan_0 : decode cX1_hasReversedSpan 0 = .ok (.iconst 0, 1) := by decide +kernel
theorem dX1_hasReversedSpan_1 : decode cX1_hasReversedSpan 1 = .ok (.istore_n 1, 1) := by decide +kernel
theorem dX1_hasReversedSpan_2 : decode cX1_hasReversedSpan 2 = .ok (.iload_n 1, 1) := by decide +kernel
theorem dX1_hasReversedSpan_3 : decode cX1_hasReversedSpan 3 = .ok (.aload_n 0, 1) := by decide +kernel
theorem dX1_hasReversedSpan_4 : decode cX1_hasReversedSpan 4 = .ok (.getfield 9, 3) := by decide +kernel
theorem dX1_hasReversedSpan_7 : decode cX1_hasReversedSpan 7 = .ok (.if_icmp .ge 69, 3) := by decide +kernel
theorem dX1_hasReversedSpan_10 : decode cX1_hasReversedSpan 10 = .ok (.aload_n 0, 1) := by decide +kernel
theorem dX1_hasReversedSpan_11 : decode cX1_hasReversedSpan 11 = .ok (.getfield 28, 3) := by decide +kernel
theorem dX1_hasReversedSpan_14 : decode cX1_hasReversedSpan 14 = .ok (.iload_n 1, 1) := by decide +kernel
theorem dX1_hasReversedSpan_15 : decode cX1_hasReversedSpan 15 = .ok (.iaload, 1) := by decide +kernel
theorem dX1_hasReversedSpan_16 : decode cX1_hasReversedSpan 16 = .ok (.aload_n 0, 1) := by decide +kernel
theorem dX1_hasReversedSpan_17 : decode cX1_hasReversedSpan 17 = .ok (.getfield 25, 3) := by decide +kernel
theorem dX1_hasReversedSpan_20 : decode cX1_hasReversedSpan 20 = .ok (.iload_n 1, 1) := by decide +kernel
theorem dX1_hasReversedSpan_21 : decode cX1_hasReversedSpan 21 = .ok (.iaload, 1) := by decide +kernel
theorem dX1_hasReversedSpan_22 : decode cX1_hasReversedSpan 22 = .ok (.if_icmp .ge 5, 3) := by decide +kernel
theorem dX1_hasReversedSpan_25 : decode cX1_hasReversedSpan 25 = .ok (.iconst 1, 1) := by decide +kernel
theorem dX1_hasReversedSpan_26 : decode cX1_hasReversedSpan 26 = .ok (.ireturn, 1) := by decide +kernel
theorem dX1_hasReversedSpan_27 : decode cX1_hasReversedSpan 27 = .ok (.iload_n 1, 1) := by decide +kernel
theorem dX1_hasReversedSpan_28 : decode cX1_hasReversedSpan 28 = .ok (.iconst 3, 1) := by decide +kernel
theorem dX1_hasReversedSpan_29 : decode cX1_hasReversedSpan 29 = .ok (.imul, 1) := by decide +kernel
theorem dX1_hasReversedSpan_30 : decode cX1_hasReversedSpan 30 = .ok (.istore_n 2, 1) := by decide +kernel
theorem dX1_hasReversedSpan_31 : decode cX1_hasReversedSpan 31 = .ok (.iconst 0, 1) := by decide +kernel
theorem dX1_hasReversedSpan_32 : decode cX1_hasReversedSpan 32 = .ok (.istore_n 3, 1) := by decide +kernel
theorem dX1_hasReversedSpan_33 : decode cX1_hasReversedSpan 33 = .ok (.iload_n 3, 1) := by decide +kernel
theorem dX1_hasReversedSpan_34 : decode cX1_hasReversedSpan 34 = .ok (.aload_n 0, 1) := by decide +kernel
theorem dX1_hasReversedSpan_35 : decode cX1_hasReversedSpan 35 = .ok (.getfield 34, 3) := by decide +kernel
theorem dX1_hasReversedSpan_38 : decode cX1_hasReversedSpan 38 = .ok (.iload_n 1, 1) := by decide +kernel
theorem dX1_hasReversedSpan_39 : decode cX1_hasReversedSpan 39 = .ok (.iaload, 1) := by decide +kernel
theorem dX1_hasReversedSpan_40 : decode cX1_hasReversedSpan 40 = .ok (.if_icmp .ge 30, 3) := by decide +kernel
theorem dX1_hasReversedSpan_43 : decode cX1_hasReversedSpan 43 = .ok (.aload_n 0, 1) := by decide +kernel
theorem dX1_hasReversedSpan_44 : decode cX1_hasReversedSpan 44 = .ok (.getfield 40, 3) := by decide +kernel
theorem dX1_hasReversedSpan_47 : decode cX1_hasReversedSpan 47 = .ok (.iload_n 2, 1) := by decide +kernel
theorem dX1_hasReversedSpan_48 : decode cX1_hasReversedSpan 48 = .ok (.iload_n 3, 1) := by decide +kernel
theorem dX1_hasReversedSpan_49 : decode cX1_hasReversedSpan 49 = .ok (.iadd, 1) := by decide +kernel
theorem dX1_hasReversedSpan_50 : decode cX1_hasReversedSpan 50 = .ok (.iaload, 1) := by decide +kernel
theorem dX1_hasReversedSpan_51 : decode cX1_hasReversedSpan 51 = .ok (.aload_n 0, 1) := by decide +kernel
theorem dX1_hasReversedSpan_52 : decode cX1_hasReversedSpan 52 = .ok (.getfield 37, 3) := by decide +kernel
theorem dX1_hasReversedSpan_55 : decode cX1_hasReversedSpan 55 = .ok (.iload_n 2, 1) := by decide +kernel
theorem dX1_hasReversedSpan_56 : decode cX1_hasReversedSpan 56 = .ok (.iload_n 3, 1) := by decide +kernel
theorem dX1_hasReversedSpan_57 : decode cX1_hasReversedSpan 57 = .ok (.iadd, 1) := by decide +kernel
theorem dX1_hasReversedSpan_58 : decode cX1_hasReversedSpan 58 = .ok (.iaload, 1) := by decide +kernel
theorem dX1_hasReversedSpan_59 : decode cX1_hasReversedSpan 59 = .ok (.if_icmp .ge 5, 3) := by decide +kernel
theorem dX1_hasReversedSpan_62 : decode cX1_hasReversedSpan 62 = .ok (.iconst 1, 1) := by decide +kernel
theorem dX1_hasReversedSpan_63 : decode cX1_hasReversedSpan 63 = .ok (.ireturn, 1) := by decide +kernel
theorem dX1_hasReversedSpan_64 : decode cX1_hasReversedSpan 64 = .ok (.iinc 3 1, 3) := by decide +kernel
theorem dX1_hasReversedSpan_67 : decode cX1_hasReversedSpan 67 = .ok (.goto (-34), 3) := by decide +kernel
theorem dX1_hasReversedSpan_70 : decode cX1_hasReversedSpan 70 = .ok (.iinc 1 1, 3) := by decide +kernel
theorem dX1_hasReversedSpan_73 : decode cX1_hasReversedSpan 73 = .ok (.goto (-71), 3) := by decide +kernel
theorem dX1_hasReversedSpan_76 : decode cX1_hasReversedSpan 76 = .ok (.iconst 0, 1) := by decide +kernel
theorem dX1_hasReversedSpan_77 : decode cX1_hasReversedSpan 77 = .ok (.ireturn, 1) := by decide +kernel
theorem dX1_nextTurn_0 : decode cX1_nextTurn 0 = .ok (.sipush 1000, 3) := by decide +kernel
theorem dX1_nextTurn_3 : decode cX1_nextTurn 3 = .ok (.istore_n 2, 1) := by decide +kernel
theorem dX1_nextTurn_4 : decode cX1_nextTurn 4 = .ok (.iconst 0, 1) := by decide +kernel
theorem dX1_nextTurn_5 : decode cX1_nextTurn 5 = .ok (.istore_n 3, 1) := by decide +kernel
theorem dX1_nextTurn_6 : decode cX1_nextTurn 6 = .ok (.iload_n 3, 1) := by decide +kernel
theorem dX1_nextTurn_7 : decode cX1_nextTurn 7 = .ok (.aload_n 0, 1) := by decide +kernel
theorem dX1_nextTurn_8 : decode cX1_nextTurn 8 = .ok (.getfield 9, 3) := by decide +kernel
theorem dX1_nextTurn_11 : decode cX1_nextTurn 11 = .ok (.if_icmp .ge 51, 3) := by decide +kernel
theorem dX1_nextTurn_14 : decode cX1_nextTurn 14 = .ok (.aload_n 0, 1) := by decide +kernel
theorem dX1_nextTurn_15 : decode cX1_nextTurn 15 = .ok (.getfield 19, 3) := by decide +kernel
theorem dX1_nextTurn_18 : decode cX1_nextTurn 18 = .ok (.iload_n 3, 1) := by decide +kernel
theorem dX1_nextTurn_19 : decode cX1_nextTurn 19 = .ok (.iaload, 1) := by decide +kernel
theorem dX1_nextTurn_20 : decode cX1_nextTurn 20 = .ok (.iload_n 1, 1) := by decide +kernel
theorem dX1_nextTurn_21 : decode cX1_nextTurn 21 = .ok (.if_icmp .le 14, 3) := by decide +kernel
theorem dX1_nextTurn_24 : decode cX1_nextTurn 24 = .ok (.iload_n 2, 1) := by decide +kernel
theorem dX1_nextTurn_25 : decode cX1_nextTurn 25 = .ok (.aload_n 0, 1) := by decide +kernel
theorem dX1_nextTurn_26 : decode cX1_nextTurn 26 = .ok (.getfield 19, 3) := by decide +kernel
theorem dX1_nextTurn_29 : decode cX1_nextTurn 29 = .ok (.iload_n 3, 1) := by decide +kernel
theorem dX1_nextTurn_30 : decode cX1_nextTurn 30 = .ok (.iaload, 1) := by decide +kernel
theorem dX1_nextTurn_31 : decode cX1_nextTurn 31 = .ok (.invokestatic 65, 3) := by decide +kernel
theorem dX1_nextTurn_34 : decode cX1_nextTurn 34 = .ok (.istore_n 2, 1) := by decide +kernel
theorem dX1_nextTurn_35 : decode cX1_nextTurn 35 = .ok (.aload_n 0, 1) := by decide +kernel
theorem dX1_nextTurn_36 : decode cX1_nextTurn 36 = .ok (.getfield 22, 3) := by decide +kernel
theorem dX1_nextTurn_39 : decode cX1_nextTurn 39 = .ok (.iload_n 3, 1) := by decide +kernel
theorem dX1_nextTurn_40 : decode cX1_nextTurn 40 = .ok (.iaload, 1) := by decide +kernel
theorem dX1_nextTurn_41 : decode cX1_nextTurn 41 = .ok (.iload_n 1, 1) := by decide +kernel
theorem dX1_nextTurn_42 : decode cX1_nextTurn 42 = .ok (.if_icmp .le 14, 3) := by decide +kernel
theorem dX1_nextTurn_45 : decode cX1_nextTurn 45 = .ok (.iload_n 2, 1) := by decide +kernel
theorem dX1_nextTurn_46 : decode cX1_nextTurn 46 = .ok (.aload_n 0, 1) := by decide +kernel
theorem dX1_nextTurn_47 : decode cX1_nextTurn 47 = .ok (.getfield 22, 3) := by decide +kernel
theorem dX1_nextTurn_50 : decode cX1_nextTurn 50 = .ok (.iload_n 3, 1) := by decide +kernel
theorem dX1_nextTurn_51 : decode cX1_nextTurn 51 = .ok (.iaload, 1) := by decide +kernel
theorem dX1_nextTurn_52 : decode cX1_nextTurn 52 = .ok (.invokestatic 65, 3) := by decide +kernel
theorem dX1_nextTurn_55 : decode cX1_nextTurn 55 = .ok (.istore_n 2, 1) := by decide +kernel
theorem dX1_nextTurn_56 : decode cX1_nextTurn 56 = .ok (.iinc 3 1, 3) := by decide +kernel
theorem dX1_nextTurn_59 : decode cX1_nextTurn 59 = .ok (.goto (-53), 3) := by decide +kernel
theorem dX1_nextTurn_62 : decode cX1_nextTurn 62 = .ok (.iload_n 2, 1) := by decide +kernel
theorem dX1_nextTurn_63 : decode cX1_nextTurn 63 = .ok (.ireturn, 1) := by decide +kernel
theorem dX1_countOfChapter_0 : decode cX1_countOfChapter 0 = .ok (.iconst 0, 1) := by decide +kernel
theorem dX1_countOfChapter_1 : decode cX1_countOfChapter 1 = .ok (.istore_n 2, 1) := by decide +kernel
theorem dX1_countOfChapter_2 : decode cX1_countOfChapter 2 = .ok (.iconst 0, 1) := by decide +kernel
theorem dX1_countOfChapter_3 : decode cX1_countOfChapter 3 = .ok (.istore_n 3, 1) := by decide +kernel
theorem dX1_countOfChapter_4 : decode cX1_countOfChapter 4 = .ok (.iload_n 3, 1) := by decide +kernel
theorem dX1_countOfChapter_5 : decode cX1_countOfChapter 5 = .ok (.aload_n 0, 1) := by decide +kernel
theorem dX1_countOfChapter_6 : decode cX1_countOfChapter 6 = .ok (.getfield 9, 3) := by decide +kernel
theorem dX1_countOfChapter_9 : decode cX1_countOfChapter 9 = .ok (.if_icmp .ge 22, 3) := by decide +kernel
theorem dX1_countOfChapter_12 : decode cX1_countOfChapter 12 = .ok (.aload_n 0, 1) := by decide +kernel
theorem dX1_countOfChapter_13 : decode cX1_countOfChapter 13 = .ok (.getfield 15, 3) := by decide +kernel
theorem dX1_countOfChapter_16 : decode cX1_countOfChapter 16 = .ok (.iload_n 3, 1) := by decide +kernel
theorem dX1_countOfChapter_17 : decode cX1_countOfChapter 17 = .ok (.iaload, 1) := by decide +kernel
theorem dX1_countOfChapter_18 : decode cX1_countOfChapter 18 = .ok (.iload_n 1, 1) := by decide +kernel
theorem dX1_countOfChapter_19 : decode cX1_countOfChapter 19 = .ok (.if_icmp .ne 6, 3) := by decide +kernel
theorem dX1_countOfChapter_22 : decode cX1_countOfChapter 22 = .ok (.iinc 2 1, 3) := by decide +kernel
theorem dX1_countOfChapter_25 : decode cX1_countOfChapter 25 = .ok (.iinc 3 1, 3) := by decide +kernel
theorem dX1_countOfChapter_28 : decode cX1_countOfChapter 28 = .ok (.goto (-24), 3) := by decide +kernel
theorem dX1_countOfChapter_31 : decode cX1_countOfChapter 31 = .ok (.iload_n 2, 1) := by decide +kernel
theorem dX1_countOfChapter_32 : decode cX1_countOfChapter 32 = .ok (.ireturn, 1) := by decide +kernel
theorem dX1_countInForceOfChapter_0 : decode cX1_countInForceOfChapter 0 = .ok (.iconst 0, 1) := by decide +kernel
theorem dX1_countInForceOfChapter_1 : decode cX1_countInForceOfChapter 1 = .ok (.istore_n 3, 1) := by decide +kernel
theorem dX1_countInForceOfChapter_2 : decode cX1_countInForceOfChapter 2 = .ok (.iconst 0, 1) := by decide +kernel
theorem dX1_countInForceOfChapter_3 : decode cX1_countInForceOfChapter 3 = .ok (.istore 4, 2) := by decide +kernel
theorem dX1_countInForceOfChapter_5 : decode cX1_countInForceOfChapter 5 = .ok (.iload 4, 2) := by decide +kernel
theorem dX1_countInForceOfChapter_7 : decode cX1_countInForceOfChapter 7 = .ok (.aload_n 0, 1) := by decide +kernel
theorem dX1_countInForceOfChapter_8 : decode cX1_countInForceOfChapter 8 = .ok (.getfield 9, 3) := by decide +kernel
theorem dX1_countInForceOfChapter_11 : decode cX1_countInForceOfChapter 11 = .ok (.if_icmp .ge 33, 3) := by decide +kernel
theorem dX1_countInForceOfChapter_14 : decode cX1_countInForceOfChapter 14 = .ok (.aload_n 0, 1) := by decide +kernel
theorem dX1_countInForceOfChapter_15 : decode cX1_countInForceOfChapter 15 = .ok (.getfield 15, 3) := by decide +kernel
theorem dX1_countInForceOfChapter_18 : decode cX1_countInForceOfChapter 18 = .ok (.iload 4, 2) := by decide +kernel
theorem dX1_countInForceOfChapter_20 : decode cX1_countInForceOfChapter 20 = .ok (.iaload, 1) := by decide +kernel
theorem dX1_countInForceOfChapter_21 : decode cX1_countInForceOfChapter 21 = .ok (.iload_n 1, 1) := by decide +kernel
theorem dX1_countInForceOfChapter_22 : decode cX1_countInForceOfChapter 22 = .ok (.if_icmp .ne 16, 3) := by decide +kernel
theorem dX1_countInForceOfChapter_25 : decode cX1_countInForceOfChapter 25 = .ok (.aload_n 0, 1) := by decide +kernel
theorem dX1_countInForceOfChapter_26 : decode cX1_countInForceOfChapter 26 = .ok (.iload 4, 2) := by decide +kernel
theorem dX1_countInForceOfChapter_28 : decode cX1_countInForceOfChapter 28 = .ok (.iload_n 2, 1) := by decide +kernel
theorem dX1_countInForceOfChapter_29 : decode cX1_countInForceOfChapter 29 = .ok (.invokevirtual 71, 3) := by decide +kernel
theorem dX1_countInForceOfChapter_32 : decode cX1_countInForceOfChapter 32 = .ok (.ifCond .eq 6, 3) := by decide +kernel
theorem dX1_countInForceOfChapter_35 : decode cX1_countInForceOfChapter 35 = .ok (.iinc 3 1, 3) := by decide +kernel
theorem dX1_countInForceOfChapter_38 : decode cX1_countInForceOfChapter 38 = .ok (.iinc 4 1, 3) := by decide +kernel
theorem dX1_countInForceOfChapter_41 : decode cX1_countInForceOfChapter 41 = .ok (.goto (-36), 3) := by decide +kernel
theorem dX1_countInForceOfChapter_44 : decode cX1_countInForceOfChapter 44 = .ok (.iload_n 3, 1) := by decide +kernel
theorem dX1_countInForceOfChapter_45 : decode cX1_countInForceOfChapter 45 = .ok (.ireturn, 1) := by decide +kernel
theorem dX1_countInForce_0 : decode cX1_countInForce 0 = .ok (.iconst 0, 1) := by decide +kernel
theorem dX1_countInForce_1 : decode cX1_countInForce 1 = .ok (.istore_n 2, 1) := by decide +kernel
theorem dX1_countInForce_2 : decode cX1_countInForce 2 = .ok (.iconst 0, 1) := by decide +kernel
theorem dX1_countInForce_3 : decode cX1_countInForce 3 = .ok (.istore_n 3, 1) := by decide +kernel
theorem dX1_countInForce_4 : decode cX1_countInForce 4 = .ok (.iload_n 3, 1) := by decide +kernel
theorem dX1_countInForce_5 : decode cX1_countInForce 5 = .ok (.aload_n 0, 1) := by decide +kernel
theorem dX1_countInForce_6 : decode cX1_countInForce 6 = .ok (.getfield 9, 3) := by decide +kernel
theorem dX1_countInForce_9 : decode cX1_countInForce 9 = .ok (.if_icmp .ge 21, 3) := by decide +kernel
theorem dX1_countInForce_12 : decode cX1_countInForce 12 = .ok (.aload_n 0, 1) := by decide +kernel
theorem dX1_countInForce_13 : decode cX1_countInForce 13 = .ok (.iload_n 3, 1) := by decide +kernel
theorem dX1_countInForce_14 : decode cX1_countInForce 14 = .ok (.iload_n 1, 1) := by decide +kernel
theorem dX1_countInForce_15 : decode cX1_countInForce 15 = .ok (.invokevirtual 71, 3) := by decide +kernel
theorem dX1_countInForce_18 : decode cX1_countInForce 18 = .ok (.ifCond .eq 6, 3) := by decide +kernel
theorem dX1_countInForce_21 : decode cX1_countInForce 21 = .ok (.iinc 2 1, 3) := by decide +kernel
theorem dX1_countInForce_24 : decode cX1_countInForce 24 = .ok (.iinc 3 1, 3) := by decide +kernel
theorem dX1_countInForce_27 : decode cX1_countInForce 27 = .ok (.goto (-23), 3) := by decide +kernel
theorem dX1_countInForce_30 : decode cX1_countInForce 30 = .ok (.iload_n 2, 1) := by decide +kernel
theorem dX1_countInForce_31 : decode cX1_countInForce 31 = .ok (.ireturn, 1) := by decide +kernel
theorem dX1_countExceptions_0 : decode cX1_countExceptions 0 = .ok (.iconst 0, 1) := by decide +kernel
theorem dX1_countExceptions_1 : decode cX1_countExceptions 1 = .ok (.istore_n 1, 1) := by decide +kernel
theorem dX1_countExceptions_2 : decode cX1_countExceptions 2 = .ok (.iconst 0, 1) := by decide +kernel
theorem dX1_countExceptions_3 : decode cX1_countExceptions 3 = .ok (.istore_n 2, 1) := by decide +kernel
theorem dX1_countExceptions_4 : decode cX1_countExceptions 4 = .ok (.iload_n 2, 1) := by decide +kernel
theorem dX1_countExceptions_5 : decode cX1_countExceptions 5 = .ok (.aload_n 0, 1) := by decide +kernel
theorem dX1_countExceptions_6 : decode cX1_countExceptions 6 = .ok (.getfield 9, 3) := by decide +kernel
theorem dX1_countExceptions_9 : decode cX1_countExceptions 9 = .ok (.if_icmp .ge 18, 3) := by decide +kernel
theorem dX1_countExceptions_12 : decode cX1_countExceptions 12 = .ok (.iload_n 1, 1) := by decide +kernel
theorem dX1_countExceptions_13 : decode cX1_countExceptions 13 = .ok (.aload_n 0, 1) := by decide +kernel
theorem dX1_countExceptions_14 : decode cX1_countExceptions 14 = .ok (.getfield 34, 3) := by decide +kernel
theorem dX1_countExceptions_17 : decode cX1_countExceptions 17 = .ok (.iload_n 2, 1) := by decide +kernel
theorem dX1_countExceptions_18 : decode cX1_countExceptions 18 = .ok (.iaload, 1) := by decide +kernel
theorem dX1_countExceptions_19 : decode cX1_countExceptions 19 = .ok (.iadd, 1) := by decide +kernel
theorem dX1_countExceptions_20 : decode cX1_countExceptions 20 = .ok (.istore_n 1, 1) := by decide +kernel
theorem dX1_countExceptions_21 : decode cX1_countExceptions 21 = .ok (.iinc 2 1, 3) := by decide +kernel
theorem dX1_countExceptions_24 : decode cX1_countExceptions 24 = .ok (.goto (-20), 3) := by decide +kernel
theorem dX1_countExceptions_27 : decode cX1_countExceptions 27 = .ok (.iload_n 1, 1) := by decide +kernel
theorem dX1_countExceptions_28 : decode cX1_countExceptions 28 = .ok (.ireturn, 1) := by decide +kernel
theorem dX1_countSilent_0 : decode cX1_countSilent 0 = .ok (.iconst 0, 1) := by decide +kernel
theorem dX1_countSilent_1 : decode cX1_countSilent 1 = .ok (.istore_n 1, 1) := by decide +kernel
theorem dX1_countSilent_2 : decode cX1_countSilent 2 = .ok (.iconst 0, 1) := by decide +kernel
theorem dX1_countSilent_3 : decode cX1_countSilent 3 = .ok (.istore_n 2, 1) := by decide +kernel
theorem dX1_countSilent_4 : decode cX1_countSilent 4 = .ok (.iload_n 2, 1) := by decide +kernel
theorem dX1_countSilent_5 : decode cX1_countSilent 5 = .ok (.aload_n 0, 1) := by decide +kernel
theorem dX1_countSilent_6 : decode cX1_countSilent 6 = .ok (.getfield 9, 3) := by decide +kernel
theorem dX1_countSilent_9 : decode cX1_countSilent 9 = .ok (.if_icmp .ge 20, 3) := by decide +kernel
theorem dX1_countSilent_12 : decode cX1_countSilent 12 = .ok (.aload_n 0, 1) := by decide +kernel
theorem dX1_countSilent_13 : decode cX1_countSilent 13 = .ok (.iload_n 2, 1) := by decide +kernel
theorem dX1_countSilent_14 : decode cX1_countSilent 14 = .ok (.invokevirtual 74, 3) := by decide +kernel
theorem dX1_countSilent_17 : decode cX1_countSilent 17 = .ok (.ifCond .ne 6, 3) := by decide +kernel
theorem dX1_countSilent_20 : decode cX1_countSilent 20 = .ok (.iinc 1 1, 3) := by decide +kernel
theorem dX1_countSilent_23 : decode cX1_countSilent 23 = .ok (.iinc 2 1, 3) := by decide +kernel
theorem dX1_countSilent_26 : decode cX1_countSilent 26 = .ok (.goto (-22), 3) := by decide +kernel
theorem dX1_countSilent_29 : decode cX1_countSilent 29 = .ok (.iload_n 1, 1) := by decide +kernel
theorem dX1_countSilent_30 : decode cX1_countSilent 30 = .ok (.ireturn, 1) := by decide +kernel
theorem dX2_init_0 : decode cX2_init 0 = .ok (.aload_n 0, 1) := by decide +kernel
theorem dX2_init_1 : decode cX2_init 1 = .ok (.invokespecial 3, 3) := by decide +kernel
theorem dX2_init_4 : decode cX2_init 4 = .ok (.aload_n 0, 1) := by decide +kernel
theorem dX2_init_5 : decode cX2_init 5 = .ok (.new 9, 3) := by decide +kernel
theorem dX2_init_8 : decode cX2_init 8 = .ok (.dup, 1) := by decide +kernel
theorem dX2_init_9 : decode cX2_init 9 = .ok (.invokespecial 11, 3) := by decide +kernel
theorem dX2_init_12 : decode cX2_init 12 = .ok (.putfield 12, 3) := by decide +kernel
theorem dX2_init_15 : decode cX2_init 15 = .ok (.aload_n 0, 1) := by decide +kernel
theorem dX2_init_16 : decode cX2_init 16 = .ok (.aload_n 0, 1) := by decide +kernel
theorem dX2_init_17 : decode cX2_init 17 = .ok (.getfield 12, 3) := by decide +kernel
theorem dX2_init_20 : decode cX2_init 20 = .ok (.getfield 18, 3) := by decide +kernel
theorem dX2_init_23 : decode cX2_init 23 = .ok (.putfield 22, 3) := by decide +kernel
theorem dX2_init_26 : decode cX2_init 26 = .ok (.aload_n 0, 1) := by decide +kernel
theorem dX2_init_27 : decode cX2_init 27 = .ok (.bipush 6, 2) := by decide +kernel
theorem dX2_init_29 : decode cX2_init 29 = .ok (.newarray .int, 2) := by decide +kernel
theorem dX2_init_31 : decode cX2_init 31 = .ok (.putfield 23, 3) := by decide +kernel
theorem dX2_init_34 : decode cX2_init 34 = .ok (.aload_n 0, 1) := by decide +kernel
theorem dX2_init_35 : decode cX2_init 35 = .ok (.bipush 30, 2) := by decide +kernel
theorem dX2_init_37 : decode cX2_init 37 = .ok (.newarray .int, 2) := by decide +kernel
theorem dX2_init_39 : decode cX2_init 39 = .ok (.putfield 27, 3) := by decide +kernel
theorem dX2_init_42 : decode cX2_init 42 = .ok (.return_, 1) := by decide +kernel
theorem dX2_findTops_0 : decode cX2_findTops 0 = .ok (.aload_n 0, 1) := by decide +kernel
theorem dX2_findTops_1 : decode cX2_findTops 1 = .ok (.getfield 23, 3) := by decide +kernel
theorem dX2_findTops_4 : decode cX2_findTops 4 = .ok (.iconst (-1), 1) := by decide +kernel
theorem dX2_findTops_5 : decode cX2_findTops 5 = .ok (.invokestatic 30, 3) := by decide +kernel
theorem dX2_findTops_8 : decode cX2_findTops 8 = .ok (.iconst 0, 1) := by decide +kernel
theorem dX2_findTops_9 : decode cX2_findTops 9 = .ok (.istore 4, 2) := by decide +kernel
theorem dX2_findTops_11 : decode cX2_findTops 11 = .ok (.iload 4, 2) := by decide +kernel
theorem dX2_findTops_13 : decode cX2_findTops 13 = .ok (.aload_n 0, 1) := by decide +kernel
theorem dX2_findTops_14 : decode cX2_findTops 14 = .ok (.getfield 22, 3) := by decide +kernel
theorem dX2_findTops_17 : decode cX2_findTops 17 = .ok (.getfield 36, 3) := by decide +kernel
theorem dX2_findTops_20 : decode cX2_findTops 20 = .ok (.if_icmp .ge 100, 3) := by decide +kernel
theorem dX2_findTops_23 : decode cX2_findTops 23 = .ok (.iload 4, 2) := by decide +kernel
theorem dX2_findTops_25 : decode cX2_findTops 25 = .ok (.iload_n 3, 1) := by decide +kernel
theorem dX2_findTops_26 : decode cX2_findTops 26 = .ok (.if_icmp .eq 88, 3) := by decide +kernel
theorem dX2_findTops_29 : decode cX2_findTops 29 = .ok (.aload_n 0, 1) := by decide +kernel
theorem dX2_findTops_30 : decode cX2_findTops 30 = .ok (.getfield 22, 3) := by decide +kernel
theorem dX2_findTops_33 : decode cX2_findTops 33 = .ok (.iload 4, 2) := by decide +kernel
theorem dX2_findTops_35 : decode cX2_findTops 35 = .ok (.iload_n 2, 1) := by decide +kernel
theorem dX2_findTops_36 : decode cX2_findTops 36 = .ok (.invokevirtual 42, 3) := by decide +kernel
theorem dX2_findTops_39 : decode cX2_findTops 39 = .ok (.ifCond .eq 75, 3) := by decide +kernel
theorem dX2_findTops_42 : decode cX2_findTops 42 = .ok (.aload_n 0, 1) := by decide +kernel
theorem dX2_findTops_43 : decode cX2_findTops 43 = .ok (.getfield 12, 3) := by decide +kernel
theorem dX2_findTops_46 : decode cX2_findTops 46 = .ok (.iload 4, 2) := by decide +kernel
theorem dX2_findTops_48 : decode cX2_findTops 48 = .ok (.iload_n 1, 1) := by decide +kernel
theorem dX2_findTops_49 : decode cX2_findTops 49 = .ok (.invokevirtual 46, 3) := by decide +kernel
theorem dX2_findTops_52 : decode cX2_findTops 52 = .ok (.ifCond .eq 62, 3) := by decide +kernel
theorem dX2_findTops_55 : decode cX2_findTops 55 = .ok (.aload_n 0, 1) := by decide +kernel
theorem dX2_findTops_56 : decode cX2_findTops 56 = .ok (.getfield 22, 3) := by decide +kernel
theorem dX2_findTops_59 : decode cX2_findTops 59 = .ok (.getfield 49, 3) := by decide +kernel
theorem dX2_findTops_62 : decode cX2_findTops 62 = .ok (.iload 4, 2) := by decide +kernel
theorem dX2_findTops_64 : decode cX2_findTops 64 = .ok (.iaload, 1) := by decide +kernel
theorem dX2_findTops_65 : decode cX2_findTops 65 = .ok (.istore 5, 2) := by decide +kernel
theorem dX2_findTops_67 : decode cX2_findTops 67 = .ok (.aload_n 0, 1) := by decide +kernel
theorem dX2_findTops_68 : decode cX2_findTops 68 = .ok (.getfield 23, 3) := by decide +kernel
theorem dX2_findTops_71 : decode cX2_findTops 71 = .ok (.iload 5, 2) := by decide +kernel
theorem dX2_findTops_73 : decode cX2_findTops 73 = .ok (.iaload, 1) := by decide +kernel
theorem dX2_findTops_74 : decode cX2_findTops 74 = .ok (.istore 6, 2) := by decide +kernel
theorem dX2_findTops_76 : decode cX2_findTops 76 = .ok (.iload 6, 2) := by decide +kernel
theorem dX2_findTops_78 : decode cX2_findTops 78 = .ok (.iconst (-1), 1) := by decide +kernel
theorem dX2_findTops_79 : decode cX2_findTops 79 = .ok (.if_icmp .eq 26, 3) := by decide +kernel
theorem dX2_findTops_82 : decode cX2_findTops 82 = .ok (.aload_n 0, 1) := by decide +kernel
theorem dX2_findTops_83 : decode cX2_findTops 83 = .ok (.getfield 22, 3) := by decide +kernel
theorem dX2_findTops_86 : decode cX2_findTops 86 = .ok (.getfield 52, 3) := by decide +kernel
theorem dX2_findTops_89 : decode cX2_findTops 89 = .ok (.iload 4, 2) := by decide +kernel
theorem dX2_findTops_91 : decode cX2_findTops 91 = .ok (.iaload, 1) := by decide +kernel
theorem dX2_findTops_92 : decode cX2_findTops 92 = .ok (.aload_n 0, 1) := by decide +kernel
theorem dX2_findTops_93 : decode cX2_findTops 93 = .ok (.getfield 22, 3) := by decide +kernel
theorem dX2_findTops_96 : decode cX2_findTops 96 = .ok (.getfield 52, 3) := by decide +kernel
theorem dX2_findTops_99 : decode cX2_findTops 99 = .ok (.iload 6, 2) := by decide +kernel
theorem dX2_findTops_101 : decode cX2_findTops 101 = .ok (.iaload, 1) := by decide +kernel
theorem dX2_findTops_102 : decode cX2_findTops 102 = .ok (.if_icmp .lt 12, 3) := by decide +kernel
theorem dX2_findTops_105 : decode cX2_findTops 105 = .ok (.aload_n 0, 1) := by decide +kernel
theorem dX2_findTops_106 : decode cX2_findTops 106 = .ok (.getfield 23, 3) := by decide +kernel
theorem dX2_findTops_109 : decode cX2_findTops 109 = .ok (.iload 5, 2) := by decide +kernel
theorem dX2_findTops_111 : decode cX2_findTops 111 = .ok (.iload 4, 2) := by decide +kernel
theorem dX2_findTops_113 : decode cX2_findTops 113 = .ok (.iastore, 1) := by decide +kernel
theorem dX2_findTops_114 : decode cX2_findTops 114 = .ok (.iinc 4 1, 3) := by decide +kernel
theorem dX2_findTops_117 : decode cX2_findTops 117 = .ok (.goto (-106), 3) := by decide +kernel
theorem dX2_findTops_120 : decode cX2_findTops 120 = .ok (.return_, 1) := by decide +kernel
theorem dX2_topSpeaks_0 : decode cX2_topSpeaks 0 = .ok (.aload_n 0, 1) := by decide +kernel
theorem dX2_topSpeaks_1 : decode cX2_topSpeaks 1 = .ok (.getfield 23, 3) := by decide +kernel
theorem dX2_topSpeaks_4 : decode cX2_topSpeaks 4 = .ok (.iload_n 1, 1) := by decide +kernel
theorem dX2_topSpeaks_5 : decode cX2_topSpeaks 5 = .ok (.iaload, 1) := by decide +kernel
theorem dX2_topSpeaks_6 : decode cX2_topSpeaks 6 = .ok (.istore_n 2, 1) := by decide +kernel
theorem dX2_topSpeaks_7 : decode cX2_topSpeaks 7 = .ok (.iload_n 2, 1) := by decide +kernel
theorem dX2_topSpeaks_8 : decode cX2_topSpeaks 8 = .ok (.iconst (-1), 1) := by decide +kernel
theorem dX2_topSpeaks_9 : decode cX2_topSpeaks 9 = .ok (.if_icmp .eq 18, 3) := by decide +kernel
theorem dX2_topSpeaks_12 : decode cX2_topSpeaks 12 = .ok (.aload_n 0, 1) := by decide +kernel
theorem dX2_topSpeaks_13 : decode cX2_topSpeaks 13 = .ok (.getfield 22, 3) := by decide +kernel
theorem dX2_topSpeaks_16 : decode cX2_topSpeaks 16 = .ok (.iload_n 2, 1) := by decide +kernel
theorem dX2_topSpeaks_17 : decode cX2_topSpeaks 17 = .ok (.invokevirtual 55, 3) := by decide +kernel
theorem dX2_topSpeaks_20 : decode cX2_topSpeaks 20 = .ok (.ifCond .eq 7, 3) := by decide +kernel
theorem dX2_topSpeaks_23 : decode cX2_topSpeaks 23 = .ok (.iconst 1, 1) := by decide +kernel
theorem dX2_topSpeaks_24 : decode cX2_topSpeaks 24 = .ok (.goto 4, 3) := by decide +kernel
theorem dX2_topSpeaks_27 : decode cX2_topSpeaks 27 = .ok (.iconst 0, 1) := by decide +kernel
theorem dX2_topSpeaks_28 : decode cX2_topSpeaks 28 = .ok (.ireturn, 1) := by decide +kernel
theorem dX2_rulerOfTops_0 : decode cX2_rulerOfTops 0 = .ok (.iconst (-1), 1) := by decide +kernel
theorem dX2_rulerOfTops_1 : decode cX2_rulerOfTops 1 = .ok (.istore_n 1, 1) := by decide +kernel
theorem dX2_rulerOfTops_2 : decode cX2_rulerOfTops 2 = .ok (.iconst (-1), 1) := by decide +kernel
theorem dX2_rulerOfTops_3 : decode cX2_rulerOfTops 3 = .ok (.istore_n 2, 1) := by decide +kernel
theorem dX2_rulerOfTops_4 : decode cX2_rulerOfTops 4 = .ok (.iconst 0, 1) := by decide +kernel
theorem dX2_rulerOfTops_5 : decode cX2_rulerOfTops 5 = .ok (.istore_n 3, 1) := by decide +kernel
theorem dX2_rulerOfTops_6 : decode cX2_rulerOfTops 6 = .ok (.iload_n 3, 1) := by decide +kernel
theorem dX2_rulerOfTops_7 : decode cX2_rulerOfTops 7 = .ok (.bipush 6, 2) := by decide +kernel
theorem dX2_rulerOfTops_9 : decode cX2_rulerOfTops 9 = .ok (.if_icmp .ge 47, 3) := by decide +kernel
theorem dX2_rulerOfTops_12 : decode cX2_rulerOfTops 12 = .ok (.aload_n 0, 1) := by decide +kernel
theorem dX2_rulerOfTops_13 : decode cX2_rulerOfTops 13 = .ok (.iload_n 3, 1) := by decide +kernel
theorem dX2_rulerOfTops_14 : decode cX2_rulerOfTops 14 = .ok (.invokevirtual 59, 3) := by decide +kernel
theorem dX2_rulerOfTops_17 : decode cX2_rulerOfTops 17 = .ok (.ifCond .eq 33, 3) := by decide +kernel
theorem dX2_rulerOfTops_20 : decode cX2_rulerOfTops 20 = .ok (.aload_n 0, 1) := by decide +kernel
theorem dX2_rulerOfTops_21 : decode cX2_rulerOfTops 21 = .ok (.getfield 12, 3) := by decide +kernel
theorem dX2_rulerOfTops_24 : decode cX2_rulerOfTops 24 = .ok (.getfield 62, 3) := by decide +kernel
theorem dX2_rulerOfTops_27 : decode cX2_rulerOfTops 27 = .ok (.iload_n 3, 1) := by decide +kernel
theorem dX2_rulerOfTops_28 : decode cX2_rulerOfTops 28 = .ok (.iaload, 1) := by decide +kernel
theorem dX2_rulerOfTops_29 : decode cX2_rulerOfTops 29 = .ok (.iload_n 2, 1) := by decide +kernel
theorem dX2_rulerOfTops_30 : decode cX2_rulerOfTops 30 = .ok (.if_icmp .le 20, 3) := by decide +kernel
theorem dX2_rulerOfTops_33 : decode cX2_rulerOfTops 33 = .ok (.aload_n 0, 1) := by decide +kernel
theorem dX2_rulerOfTops_34 : decode cX2_rulerOfTops 34 = .ok (.getfield 23, 3) := by decide +kernel
theorem dX2_rulerOfTops_37 : decode cX2_rulerOfTops 37 = .ok (.iload_n 3, 1) := by decide +kernel
theorem dX2_rulerOfTops_38 : decode cX2_rulerOfTops 38 = .ok (.iaload, 1) := by decide +kernel
theorem dX2_rulerOfTops_39 : decode cX2_rulerOfTops 39 = .ok (.istore_n 1, 1) := by decide +kernel
theorem dX2_rulerOfTops_40 : decode cX2_rulerOfTops 40 = .ok (.aload_n 0, 1) := by decide +kernel
theorem dX2_rulerOfTops_41 : decode cX2_rulerOfTops 41 = .ok (.getfield 12, 3) := by decide +kernel
theorem dX2_rulerOfTops_44 : decode cX2_rulerOfTops 44 = .ok (.getfield 62, 3) := by decide +kernel
theorem dX2_rulerOfTops_47 : decode cX2_rulerOfTops 47 = .ok (.iload_n 3, 1) := by decide +kernel
theorem dX2_rulerOfTops_48 : decode cX2_rulerOfTops 48 = .ok (.iaload, 1) := by decide +kernel
theorem dX2_rulerOfTops_49 : decode cX2_rulerOfTops 49 = .ok (.istore_n 2, 1) := by decide +kernel
theorem dX2_rulerOfTops_50 : decode cX2_rulerOfTops 50 = .ok (.iinc 3 1, 3) := by decide +kernel
theorem dX2_rulerOfTops_53 : decode cX2_rulerOfTops 53 = .ok (.goto (-47), 3) := by decide +kernel
theorem dX2_rulerOfTops_56 : decode cX2_rulerOfTops 56 = .ok (.iload_n 1, 1) := by decide +kernel
theorem dX2_rulerOfTops_57 : decode cX2_rulerOfTops 57 = .ok (.ireturn, 1) := by decide +kernel
theorem dX2_ruler_0 : decode cX2_ruler 0 = .ok (.aload_n 0, 1) := by decide +kernel
theorem dX2_ruler_1 : decode cX2_ruler 1 = .ok (.iload_n 1, 1) := by decide +kernel
theorem dX2_ruler_2 : decode cX2_ruler 2 = .ok (.iload_n 2, 1) := by decide +kernel
theorem dX2_ruler_3 : decode cX2_ruler 3 = .ok (.iconst (-1), 1) := by decide +kernel
theorem dX2_ruler_4 : decode cX2_ruler 4 = .ok (.invokevirtual 65, 3) := by decide +kernel
theorem dX2_ruler_7 : decode cX2_ruler 7 = .ok (.aload_n 0, 1) := by decide +kernel
theorem dX2_ruler_8 : decode cX2_ruler 8 = .ok (.invokevirtual 69, 3) := by decide +kernel
theorem dX2_ruler_11 : decode cX2_ruler 11 = .ok (.ireturn, 1) := by decide +kernel
theorem dX2_rulerWithout_0 : decode cX2_rulerWithout 0 = .ok (.aload_n 0, 1) := by decide +kernel
theorem dX2_rulerWithout_1 : decode cX2_rulerWithout 1 = .ok (.iload_n 2, 1) := by decide +kernel
theorem dX2_rulerWithout_2 : decode cX2_rulerWithout 2 = .ok (.iload_n 3, 1) := by decide +kernel
theorem dX2_rulerWithout_3 : decode cX2_rulerWithout 3 = .ok (.iload_n 1, 1) := by decide +kernel
theorem dX2_rulerWithout_4 : decode cX2_rulerWithout 4 = .ok (.invokevirtual 65, 3) := by decide +kernel
theorem dX2_rulerWithout_7 : decode cX2_rulerWithout 7 = .ok (.aload_n 0, 1) := by decide +kernel
theorem dX2_rulerWithout_8 : decode cX2_rulerWithout 8 = .ok (.invokevirtual 69, 3) := by decide +kernel
theorem dX2_rulerWithout_11 : decode cX2_rulerWithout 11 = .ok (.ireturn, 1) := by decide +kernel
theorem dX2_silencer_0 : decode cX2_silencer 0 = .ok (.aload_n 0, 1) := by decide +kernel
theorem dX2_silencer_1 : decode cX2_silencer 1 = .ok (.getfield 22, 3) := by decide +kernel
theorem dX2_silencer_4 : decode cX2_silencer 4 = .ok (.iload_n 1, 1) := by decide +kernel
theorem dX2_silencer_5 : decode cX2_silencer 5 = .ok (.iload_n 3, 1) := by decide +kernel
theorem dX2_silencer_6 : decode cX2_silencer 6 = .ok (.invokevirtual 42, 3) := by decide +kernel
theorem dX2_silencer_9 : decode cX2_silencer 9 = .ok (.ifCond .eq 15, 3) := by decide +kernel
theorem dX2_silencer_12 : decode cX2_silencer 12 = .ok (.aload_n 0, 1) := by decide +kernel
theorem dX2_silencer_13 : decode cX2_silencer 13 = .ok (.getfield 12, 3) := by decide +kernel
theorem dX2_silencer_16 : decode cX2_silencer 16 = .ok (.iload_n 1, 1) := by decide +kernel
theorem dX2_silencer_17 : decode cX2_silencer 17 = .ok (.iload_n 2, 1) := by decide +kernel
theorem dX2_silencer_18 : decode cX2_silencer 18 = .ok (.invokevirtual 46, 3) := by decide +kernel
theorem dX2_silencer_21 : decode cX2_silencer 21 = .ok (.ifCond .ne 5, 3) := by decide +kernel
theorem dX2_silencer_24 : decode cX2_silencer 24 = .ok (.iconst (-1), 1) := by decide +kernel
theorem dX2_silencer_25 : decode cX2_silencer 25 = .ok (.ireturn, 1) := by decide +kernel
theorem dX2_silencer_26 : decode cX2_silencer 26 = .ok (.aload_n 0, 1) := by decide +kernel
theorem dX2_silencer_27 : decode cX2_silencer 27 = .ok (.iload_n 2, 1) := by decide +kernel
theorem dX2_silencer_28 : decode cX2_silencer 28 = .ok (.iload_n 3, 1) := by decide +kernel
theorem dX2_silencer_29 : decode cX2_silencer 29 = .ok (.iconst (-1), 1) := by decide +kernel
theorem dX2_silencer_30 : decode cX2_silencer 30 = .ok (.invokevirtual 65, 3) := by decide +kernel
theorem dX2_silencer_33 : decode cX2_silencer 33 = .ok (.aload_n 0, 1) := by decide +kernel
theorem dX2_silencer_34 : decode cX2_silencer 34 = .ok (.getfield 23, 3) := by decide +kernel
theorem dX2_silencer_37 : decode cX2_silencer 37 = .ok (.aload_n 0, 1) := by decide +kernel
theorem dX2_silencer_38 : decode cX2_silencer 38 = .ok (.getfield 22, 3) := by decide +kernel
theorem dX2_silencer_41 : decode cX2_silencer 41 = .ok (.getfield 49, 3) := by decide +kernel
theorem dX2_silencer_44 : decode cX2_silencer 44 = .ok (.iload_n 1, 1) := by decide +kernel
theorem dX2_silencer_45 : decode cX2_silencer 45 = .ok (.iaload, 1) := by decide +kernel
theorem dX2_silencer_46 : decode cX2_silencer 46 = .ok (.iaload, 1) := by decide +kernel
theorem dX2_silencer_47 : decode cX2_silencer 47 = .ok (.istore 4, 2) := by decide +kernel
theorem dX2_silencer_49 : decode cX2_silencer 49 = .ok (.iload 4, 2) := by decide +kernel
theorem dX2_silencer_51 : decode cX2_silencer 51 = .ok (.iload_n 1, 1) := by decide +kernel
theorem dX2_silencer_52 : decode cX2_silencer 52 = .ok (.if_icmp .ne 7, 3) := by decide +kernel
theorem dX2_silencer_55 : decode cX2_silencer 55 = .ok (.iconst (-1), 1) := by decide +kernel
theorem dX2_silencer_56 : decode cX2_silencer 56 = .ok (.goto 5, 3) := by decide +kernel
theorem dX2_silencer_59 : decode cX2_silencer 59 = .ok (.iload 4, 2) := by decide +kernel
theorem dX2_silencer_61 : decode cX2_silencer 61 = .ok (.ireturn, 1) := by decide +kernel
theorem dX2_whyNotRuling_0 : decode cX2_whyNotRuling 0 = .ok (.aload_n 0, 1) := by decide +kernel
theorem dX2_whyNotRuling_1 : decode cX2_whyNotRuling 1 = .ok (.getfield 22, 3) := by decide +kernel
theorem dX2_whyNotRuling_4 : decode cX2_whyNotRuling 4 = .ok (.getfield 49, 3) := by decide +kernel
theorem dX2_whyNotRuling_7 : decode cX2_whyNotRuling 7 = .ok (.iload_n 1, 1) := by decide +kernel
theorem dX2_whyNotRuling_8 : decode cX2_whyNotRuling 8 = .ok (.iaload, 1) := by decide +kernel
theorem dX2_whyNotRuling_9 : decode cX2_whyNotRuling 9 = .ok (.istore 4, 2) := by decide +kernel
theorem dX2_whyNotRuling_11 : decode cX2_whyNotRuling 11 = .ok (.aload_n 0, 1) := by decide +kernel
theorem dX2_whyNotRuling_12 : decode cX2_whyNotRuling 12 = .ok (.getfield 22, 3) := by decide +kernel
theorem dX2_whyNotRuling_15 : decode cX2_whyNotRuling 15 = .ok (.getfield 52, 3) := by decide +kernel
theorem dX2_whyNotRuling_18 : decode cX2_whyNotRuling 18 = .ok (.iload_n 1, 1) := by decide +kernel
theorem dX2_whyNotRuling_19 : decode cX2_whyNotRuling 19 = .ok (.iaload, 1) := by decide +kernel
theorem dX2_whyNotRuling_20 : decode cX2_whyNotRuling 20 = .ok (.iload_n 3, 1) := by decide +kernel
theorem dX2_whyNotRuling_21 : decode cX2_whyNotRuling 21 = .ok (.if_icmp .le 5, 3) := by decide +kernel
theorem dX2_whyNotRuling_24 : decode cX2_whyNotRuling 24 = .ok (.iconst 1, 1) := by decide +kernel
theorem dX2_whyNotRuling_25 : decode cX2_whyNotRuling 25 = .ok (.ireturn, 1) := by decide +kernel
theorem dX2_whyNotRuling_26 : decode cX2_whyNotRuling 26 = .ok (.aload_n 0, 1) := by decide +kernel
theorem dX2_whyNotRuling_27 : decode cX2_whyNotRuling 27 = .ok (.getfield 22, 3) := by decide +kernel
theorem dX2_whyNotRuling_30 : decode cX2_whyNotRuling 30 = .ok (.getfield 73, 3) := by decide +kernel
theorem dX2_whyNotRuling_33 : decode cX2_whyNotRuling 33 = .ok (.iload_n 1, 1) := by decide +kernel
theorem dX2_whyNotRuling_34 : decode cX2_whyNotRuling 34 = .ok (.iaload, 1) := by decide +kernel
theorem dX2_whyNotRuling_35 : decode cX2_whyNotRuling 35 = .ok (.iload_n 3, 1) := by decide +kernel
theorem dX2_whyNotRuling_36 : decode cX2_whyNotRuling 36 = .ok (.if_icmp .gt 5, 3) := by decide +kernel
theorem dX2_whyNotRuling_39 : decode cX2_whyNotRuling 39 = .ok (.iconst 2, 1) := by decide +kernel
theorem dX2_whyNotRuling_40 : decode cX2_whyNotRuling 40 = .ok (.ireturn, 1) := by decide +kernel
theorem dX2_whyNotRuling_41 : decode cX2_whyNotRuling 41 = .ok (.aload_n 0, 1) := by decide +kernel
theorem dX2_whyNotRuling_42 : decode cX2_whyNotRuling 42 = .ok (.getfield 12, 3) := by decide +kernel
theorem dX2_whyNotRuling_45 : decode cX2_whyNotRuling 45 = .ok (.iload 4, 2) := by decide +kernel
theorem dX2_whyNotRuling_47 : decode cX2_whyNotRuling 47 = .ok (.iload_n 2, 1) := by decide +kernel
theorem dX2_whyNotRuling_48 : decode cX2_whyNotRuling 48 = .ok (.invokevirtual 76, 3) := by decide +kernel
theorem dX2_whyNotRuling_51 : decode cX2_whyNotRuling 51 = .ok (.ifCond .ne 5, 3) := by decide +kernel
theorem dX2_whyNotRuling_54 : decode cX2_whyNotRuling 54 = .ok (.iconst 3, 1) := by decide +kernel
theorem dX2_whyNotRuling_55 : decode cX2_whyNotRuling 55 = .ok (.ireturn, 1) := by decide +kernel
theorem dX2_whyNotRuling_56 : decode cX2_whyNotRuling 56 = .ok (.aload_n 0, 1) := by decide +kernel
theorem dX2_whyNotRuling_57 : decode cX2_whyNotRuling 57 = .ok (.getfield 22, 3) := by decide +kernel
theorem dX2_whyNotRuling_60 : decode cX2_whyNotRuling 60 = .ok (.iload_n 1, 1) := by decide +kernel
theorem dX2_whyNotRuling_61 : decode cX2_whyNotRuling 61 = .ok (.iload_n 2, 1) := by decide +kernel
theorem dX2_whyNotRuling_62 : decode cX2_whyNotRuling 62 = .ok (.invokevirtual 79, 3) := by decide +kernel
theorem dX2_whyNotRuling_65 : decode cX2_whyNotRuling 65 = .ok (.ifCond .ne 5, 3) := by decide +kernel
theorem dX2_whyNotRuling_68 : decode cX2_whyNotRuling 68 = .ok (.iconst 4, 1) := by decide +kernel
theorem dX2_whyNotRuling_69 : decode cX2_whyNotRuling 69 = .ok (.ireturn, 1) := by decide +kernel
theorem dX2_whyNotRuling_70 : decode cX2_whyNotRuling 70 = .ok (.aload_n 0, 1) := by decide +kernel
theorem dX2_whyNotRuling_71 : decode cX2_whyNotRuling 71 = .ok (.getfield 22, 3) := by decide +kernel
theorem dX2_whyNotRuling_74 : decode cX2_whyNotRuling 74 = .ok (.iload_n 1, 1) := by decide +kernel
theorem dX2_whyNotRuling_75 : decode cX2_whyNotRuling 75 = .ok (.iload_n 2, 1) := by decide +kernel
theorem dX2_whyNotRuling_76 : decode cX2_whyNotRuling 76 = .ok (.invokevirtual 82, 3) := by decide +kernel
theorem dX2_whyNotRuling_79 : decode cX2_whyNotRuling 79 = .ok (.ifCond .eq 5, 3) := by decide +kernel
theorem dX2_whyNotRuling_82 : decode cX2_whyNotRuling 82 = .ok (.iconst 5, 1) := by decide +kernel
theorem dX2_whyNotRuling_83 : decode cX2_whyNotRuling 83 = .ok (.ireturn, 1) := by decide +kernel
theorem dX2_whyNotRuling_84 : decode cX2_whyNotRuling 84 = .ok (.aload_n 0, 1) := by decide +kernel
theorem dX2_whyNotRuling_85 : decode cX2_whyNotRuling 85 = .ok (.iload_n 2, 1) := by decide +kernel
theorem dX2_whyNotRuling_86 : decode cX2_whyNotRuling 86 = .ok (.iload_n 3, 1) := by decide +kernel
theorem dX2_whyNotRuling_87 : decode cX2_whyNotRuling 87 = .ok (.iconst (-1), 1) := by decide +kernel
theorem dX2_whyNotRuling_88 : decode cX2_whyNotRuling 88 = .ok (.invokevirtual 65, 3) := by decide +kernel
theorem dX2_whyNotRuling_91 : decode cX2_whyNotRuling 91 = .ok (.aload_n 0, 1) := by decide +kernel
theorem dX2_whyNotRuling_92 : decode cX2_whyNotRuling 92 = .ok (.getfield 23, 3) := by decide +kernel
theorem dX2_whyNotRuling_95 : decode cX2_whyNotRuling 95 = .ok (.iload 4, 2) := by decide +kernel
theorem dX2_whyNotRuling_97 : decode cX2_whyNotRuling 97 = .ok (.iaload, 1) := by decide +kernel
theorem dX2_whyNotRuling_98 : decode cX2_whyNotRuling 98 = .ok (.iload_n 1, 1) := by decide +kernel
theorem dX2_whyNotRuling_99 : decode cX2_whyNotRuling 99 = .ok (.if_icmp .eq 6, 3) := by decide +kernel
theorem dX2_whyNotRuling_102 : decode cX2_whyNotRuling 102 = .ok (.bipush 6, 2) := by decide +kernel
theorem dX2_whyNotRuling_104 : decode cX2_whyNotRuling 104 = .ok (.ireturn, 1) := by decide +kernel
theorem dX2_whyNotRuling_105 : decode cX2_whyNotRuling 105 = .ok (.aload_n 0, 1) := by decide +kernel
theorem dX2_whyNotRuling_106 : decode cX2_whyNotRuling 106 = .ok (.getfield 22, 3) := by decide +kernel
theorem dX2_whyNotRuling_109 : decode cX2_whyNotRuling 109 = .ok (.iload_n 1, 1) := by decide +kernel
theorem dX2_whyNotRuling_110 : decode cX2_whyNotRuling 110 = .ok (.invokevirtual 55, 3) := by decide +kernel
theorem dX2_whyNotRuling_113 : decode cX2_whyNotRuling 113 = .ok (.ifCond .ne 6, 3) := by decide +kernel
theorem dX2_whyNotRuling_116 : decode cX2_whyNotRuling 116 = .ok (.bipush 7, 2) := by decide +kernel
theorem dX2_whyNotRuling_118 : decode cX2_whyNotRuling 118 = .ok (.ireturn, 1) := by decide +kernel
theorem dX2_whyNotRuling_119 : decode cX2_whyNotRuling 119 = .ok (.aload_n 0, 1) := by decide +kernel
theorem dX2_whyNotRuling_120 : decode cX2_whyNotRuling 120 = .ok (.invokevirtual 69, 3) := by decide +kernel
theorem dX2_whyNotRuling_123 : decode cX2_whyNotRuling 123 = .ok (.iload_n 1, 1) := by decide +kernel
theorem dX2_whyNotRuling_124 : decode cX2_whyNotRuling 124 = .ok (.if_icmp .ne 7, 3) := by decide +kernel
theorem dX2_whyNotRuling_127 : decode cX2_whyNotRuling 127 = .ok (.iconst 0, 1) := by decide +kernel
theorem dX2_whyNotRuling_128 : decode cX2_whyNotRuling 128 = .ok (.goto 5, 3) := by decide +kernel
theorem dX2_whyNotRuling_131 : decode cX2_whyNotRuling 131 = .ok (.bipush 8, 2) := by decide +kernel
theorem dX2_whyNotRuling_133 : decode cX2_whyNotRuling 133 = .ok (.ireturn, 1) := by decide +kernel
theorem dX2_nextChange_0 : decode cX2_nextChange 0 = .ok (.aload_n 0, 1) := by decide +kernel
theorem dX2_nextChange_1 : decode cX2_nextChange 1 = .ok (.iload_n 1, 1) := by decide +kernel
theorem dX2_nextChange_2 : decode cX2_nextChange 2 = .ok (.iload_n 2, 1) := by decide +kernel
theorem dX2_nextChange_3 : decode cX2_nextChange 3 = .ok (.invokevirtual 85, 3) := by decide +kernel
theorem dX2_nextChange_6 : decode cX2_nextChange 6 = .ok (.istore_n 3, 1) := by decide +kernel
theorem dX2_nextChange_7 : decode cX2_nextChange 7 = .ok (.aload_n 0, 1) := by decide +kernel
theorem dX2_nextChange_8 : decode cX2_nextChange 8 = .ok (.getfield 22, 3) := by decide +kernel
theorem dX2_nextChange_11 : decode cX2_nextChange 11 = .ok (.iload_n 2, 1) := by decide +kernel
theorem dX2_nextChange_12 : decode cX2_nextChange 12 = .ok (.invokevirtual 89, 3) := by decide +kernel
theorem dX2_nextChange_15 : decode cX2_nextChange 15 = .ok (.istore 4, 2) := by decide +kernel
theorem dX2_nextChange_17 : decode cX2_nextChange 17 = .ok (.iconst 0, 1) := by decide +kernel
theorem dX2_nextChange_18 : decode cX2_nextChange 18 = .ok (.istore 5, 2) := by decide +kernel
theorem dX2_nextChange_20 : decode cX2_nextChange 20 = .ok (.iload 5, 2) := by decide +kernel
theorem dX2_nextChange_22 : decode cX2_nextChange 22 = .ok (.sipush 1000, 3) := by decide +kernel
theorem dX2_nextChange_25 : decode cX2_nextChange 25 = .ok (.if_icmp .ge 42, 3) := by decide +kernel
theorem dX2_nextChange_28 : decode cX2_nextChange 28 = .ok (.iload 4, 2) := by decide +kernel
theorem dX2_nextChange_30 : decode cX2_nextChange 30 = .ok (.sipush 1000, 3) := by decide +kernel
theorem dX2_nextChange_33 : decode cX2_nextChange 33 = .ok (.if_icmp .ge 34, 3) := by decide +kernel
theorem dX2_nextChange_36 : decode cX2_nextChange 36 = .ok (.aload_n 0, 1) := by decide +kernel
theorem dX2_nextChange_37 : decode cX2_nextChange 37 = .ok (.iload_n 1, 1) := by decide +kernel
theorem dX2_nextChange_38 : decode cX2_nextChange 38 = .ok (.iload 4, 2) := by decide +kernel
theorem dX2_nextChange_40 : decode cX2_nextChange 40 = .ok (.invokevirtual 85, 3) := by decide +kernel
theorem dX2_nextChange_43 : decode cX2_nextChange 43 = .ok (.iload_n 3, 1) := by decide +kernel
theorem dX2_nextChange_44 : decode cX2_nextChange 44 = .ok (.if_icmp .eq 6, 3) := by decide +kernel
theorem dX2_nextChange_47 : decode cX2_nextChange 47 = .ok (.iload 4, 2) := by decide +kernel
theorem dX2_nextChange_49 : decode cX2_nextChange 49 = .ok (.ireturn, 1) := by decide +kernel
theorem dX2_nextChange_50 : decode cX2_nextChange 50 = .ok (.aload_n 0, 1) := by decide +kernel
theorem dX2_nextChange_51 : decode cX2_nextChange 51 = .ok (.getfield 22, 3) := by decide +kernel
theorem dX2_nextChange_54 : decode cX2_nextChange 54 = .ok (.iload 4, 2) := by decide +kernel
theorem dX2_nextChange_56 : decode cX2_nextChange 56 = .ok (.invokevirtual 89, 3) := by decide +kernel
theorem dX2_nextChange_59 : decode cX2_nextChange 59 = .ok (.istore 4, 2) := by decide +kernel
theorem dX2_nextChange_61 : decode cX2_nextChange 61 = .ok (.iinc 5 1, 3) := by decide +kernel
theorem dX2_nextChange_64 : decode cX2_nextChange 64 = .ok (.goto (-44), 3) := by decide +kernel
theorem dX2_nextChange_67 : decode cX2_nextChange 67 = .ok (.bipush (-5), 2) := by decide +kernel
theorem dX2_nextChange_69 : decode cX2_nextChange 69 = .ok (.ireturn, 1) := by decide +kernel
theorem dX2_busyClauses_0 : decode cX2_busyClauses 0 = .ok (.iconst 0, 1) := by decide +kernel
theorem dX2_busyClauses_1 : decode cX2_busyClauses 1 = .ok (.istore_n 1, 1) := by decide +kernel
theorem dX2_busyClauses_2 : decode cX2_busyClauses 2 = .ok (.aload_n 0, 1) := by decide +kernel
theorem dX2_busyClauses_3 : decode cX2_busyClauses 3 = .ok (.getfield 22, 3) := by decide +kernel
theorem dX2_busyClauses_6 : decode cX2_busyClauses 6 = .ok (.iconst (-1), 1) := by decide +kernel
theorem dX2_busyClauses_7 : decode cX2_busyClauses 7 = .ok (.invokevirtual 89, 3) := by decide +kernel
theorem dX2_busyClauses_10 : decode cX2_busyClauses 10 = .ok (.istore_n 2, 1) := by decide +kernel
theorem dX2_busyClauses_11 : decode cX2_busyClauses 11 = .ok (.iconst 0, 1) := by decide +kernel
theorem dX2_busyClauses_12 : decode cX2_busyClauses 12 = .ok (.istore_n 3, 1) := by decide +kernel
theorem dX2_busyClauses_13 : decode cX2_busyClauses 13 = .ok (.iload_n 3, 1) := by decide +kernel
theorem dX2_busyClauses_14 : decode cX2_busyClauses 14 = .ok (.sipush 1000, 3) := by decide +kernel
theorem dX2_busyClauses_17 : decode cX2_busyClauses 17 = .ok (.if_icmp .ge 63, 3) := by decide +kernel
theorem dX2_busyClauses_20 : decode cX2_busyClauses 20 = .ok (.iload_n 2, 1) := by decide +kernel
theorem dX2_busyClauses_21 : decode cX2_busyClauses 21 = .ok (.sipush 1000, 3) := by decide +kernel
theorem dX2_busyClauses_24 : decode cX2_busyClauses 24 = .ok (.if_icmp .ge 56, 3) := by decide +kernel
theorem dX2_busyClauses_27 : decode cX2_busyClauses 27 = .ok (.iconst 0, 1) := by decide +kernel
theorem dX2_busyClauses_28 : decode cX2_busyClauses 28 = .ok (.istore 4, 2) := by decide +kernel
theorem dX2_busyClauses_30 : decode cX2_busyClauses 30 = .ok (.iload 4, 2) := by decide +kernel
theorem dX2_busyClauses_32 : decode cX2_busyClauses 32 = .ok (.bipush 100, 2) := by decide +kernel
theorem dX2_busyClauses_34 : decode cX2_busyClauses 34 = .ok (.if_icmp .ge 31, 3) := by decide +kernel
theorem dX2_busyClauses_37 : decode cX2_busyClauses 37 = .ok (.aload_n 0, 1) := by decide +kernel
theorem dX2_busyClauses_38 : decode cX2_busyClauses 38 = .ok (.iload 4, 2) := by decide +kernel
theorem dX2_busyClauses_40 : decode cX2_busyClauses 40 = .ok (.iload_n 2, 1) := by decide +kernel
theorem dX2_busyClauses_41 : decode cX2_busyClauses 41 = .ok (.invokevirtual 85, 3) := by decide +kernel
theorem dX2_busyClauses_44 : decode cX2_busyClauses 44 = .ok (.istore 5, 2) := by decide +kernel
theorem dX2_busyClauses_46 : decode cX2_busyClauses 46 = .ok (.iload 5, 2) := by decide +kernel
theorem dX2_busyClauses_48 : decode cX2_busyClauses 48 = .ok (.iconst (-1), 1) := by decide +kernel
theorem dX2_busyClauses_49 : decode cX2_busyClauses 49 = .ok (.if_icmp .eq 10, 3) := by decide +kernel
theorem dX2_busyClauses_52 : decode cX2_busyClauses 52 = .ok (.iload_n 1, 1) := by decide +kernel
theorem dX2_busyClauses_53 : decode cX2_busyClauses 53 = .ok (.iconst 1, 1) := by decide +kernel
theorem dX2_busyClauses_54 : decode cX2_busyClauses 54 = .ok (.iload 5, 2) := by decide +kernel
theorem dX2_busyClauses_56 : decode cX2_busyClauses 56 = .ok (.ishl, 1) := by decide +kernel
theorem dX2_busyClauses_57 : decode cX2_busyClauses 57 = .ok (.ior, 1) := by decide +kernel
theorem dX2_busyClauses_58 : decode cX2_busyClauses 58 = .ok (.istore_n 1, 1) := by decide +kernel
theorem dX2_busyClauses_59 : decode cX2_busyClauses 59 = .ok (.iinc 4 1, 3) := by decide +kernel
theorem dX2_busyClauses_62 : decode cX2_busyClauses 62 = .ok (.goto (-32), 3) := by decide +kernel
theorem dX2_busyClauses_65 : decode cX2_busyClauses 65 = .ok (.aload_n 0, 1) := by decide +kernel
theorem dX2_busyClauses_66 : decode cX2_busyClauses 66 = .ok (.getfield 22, 3) := by decide +kernel
theorem dX2_busyClauses_69 : decode cX2_busyClauses 69 = .ok (.iload_n 2, 1) := by decide +kernel
theorem dX2_busyClauses_70 : decode cX2_busyClauses 70 = .ok (.invokevirtual 89, 3) := by decide +kernel
theorem dX2_busyClauses_73 : decode cX2_busyClauses 73 = .ok (.istore_n 2, 1) := by decide +kernel
theorem dX2_busyClauses_74 : decode cX2_busyClauses 74 = .ok (.iinc 3 1, 3) := by decide +kernel
theorem dX2_busyClauses_77 : decode cX2_busyClauses 77 = .ok (.goto (-64), 3) := by decide +kernel
theorem dX2_busyClauses_80 : decode cX2_busyClauses 80 = .ok (.iload_n 1, 1) := by decide +kernel
theorem dX2_busyClauses_81 : decode cX2_busyClauses 81 = .ok (.ireturn, 1) := by decide +kernel
theorem dX2_casesChangedBetween_0 : decode cX2_casesChangedBetween 0 = .ok (.iconst 0, 1) := by decide +kernel
theorem dX2_casesChangedBetween_1 : decode cX2_casesChangedBetween 1 = .ok (.istore_n 3, 1) := by decide +kernel
theorem dX2_casesChangedBetween_2 : decode cX2_casesChangedBetween 2 = .ok (.iconst 0, 1) := by decide +kernel
theorem dX2_casesChangedBetween_3 : decode cX2_casesChangedBetween 3 = .ok (.istore 4, 2) := by decide +kernel
theorem dX2_casesChangedBetween_5 : decode cX2_casesChangedBetween 5 = .ok (.iload 4, 2) := by decide +kernel
theorem dX2_casesChangedBetween_7 : decode cX2_casesChangedBetween 7 = .ok (.bipush 100, 2) := by decide +kernel
theorem dX2_casesChangedBetween_9 : decode cX2_casesChangedBetween 9 = .ok (.if_icmp .ge 29, 3) := by decide +kernel
theorem dX2_casesChangedBetween_12 : decode cX2_casesChangedBetween 12 = .ok (.aload_n 0, 1) := by decide +kernel
theorem dX2_casesChangedBetween_13 : decode cX2_casesChangedBetween 13 = .ok (.iload 4, 2) := by decide +kernel
theorem dX2_casesChangedBetween_15 : decode cX2_casesChangedBetween 15 = .ok (.iload_n 1, 1) := by decide +kernel
theorem dX2_casesChangedBetween_16 : decode cX2_casesChangedBetween 16 = .ok (.invokevirtual 85, 3) := by decide +kernel
theorem dX2_casesChangedBetween_19 : decode cX2_casesChangedBetween 19 = .ok (.aload_n 0, 1) := by decide +kernel
theorem dX2_casesChangedBetween_20 : decode cX2_casesChangedBetween 20 = .ok (.iload 4, 2) := by decide +kernel
theorem dX2_casesChangedBetween_22 : decode cX2_casesChangedBetween 22 = .ok (.iload_n 2, 1) := by decide +kernel
theorem dX2_casesChangedBetween_23 : decode cX2_casesChangedBetween 23 = .ok (.invokevirtual 85, 3) := by decide +kernel
theorem dX2_casesChangedBetween_26 : decode cX2_casesChangedBetween 26 = .ok (.if_icmp .eq 6, 3) := by decide +kernel
theorem dX2_casesChangedBetween_29 : decode cX2_casesChangedBetween 29 = .ok (.iinc 3 1, 3) := by decide +kernel
theorem dX2_casesChangedBetween_32 : decode cX2_casesChangedBetween 32 = .ok (.iinc 4 1, 3) := by decide +kernel
theorem dX2_casesChangedBetween_35 : decode cX2_casesChangedBetween 35 = .ok (.goto (-30), 3) := by decide +kernel
theorem dX2_casesChangedBetween_38 : decode cX2_casesChangedBetween 38 = .ok (.iload_n 3, 1) := by decide +kernel
theorem dX2_casesChangedBetween_39 : decode cX2_casesChangedBetween 39 = .ok (.ireturn, 1) := by decide +kernel
theorem dX2_casesChangedWithout_0 : decode cX2_casesChangedWithout 0 = .ok (.iconst 0, 1) := by decide +kernel
theorem dX2_casesChangedWithout_1 : decode cX2_casesChangedWithout 1 = .ok (.istore_n 2, 1) := by decide +kernel
theorem dX2_casesChangedWithout_2 : decode cX2_casesChangedWithout 2 = .ok (.iconst 0, 1) := by decide +kernel
theorem dX2_casesChangedWithout_3 : decode cX2_casesChangedWithout 3 = .ok (.istore_n 3, 1) := by decide +kernel
theorem dX2_casesChangedWithout_4 : decode cX2_casesChangedWithout 4 = .ok (.iload_n 3, 1) := by decide +kernel
theorem dX2_casesChangedWithout_5 : decode cX2_casesChangedWithout 5 = .ok (.bipush 100, 2) := by decide +kernel
theorem dX2_casesChangedWithout_7 : decode cX2_casesChangedWithout 7 = .ok (.if_icmp .ge 40, 3) := by decide +kernel
theorem dX2_casesChangedWithout_10 : decode cX2_casesChangedWithout 10 = .ok (.aload_n 0, 1) := by decide +kernel
theorem dX2_casesChangedWithout_11 : decode cX2_casesChangedWithout 11 = .ok (.iload_n 3, 1) := by decide +kernel
theorem dX2_casesChangedWithout_12 : decode cX2_casesChangedWithout 12 = .ok (.aload_n 0, 1) := by decide +kernel
theorem dX2_casesChangedWithout_13 : decode cX2_casesChangedWithout 13 = .ok (.getfield 12, 3) := by decide +kernel
theorem dX2_casesChangedWithout_16 : decode cX2_casesChangedWithout 16 = .ok (.getfield 93, 3) := by decide +kernel
theorem dX2_casesChangedWithout_19 : decode cX2_casesChangedWithout 19 = .ok (.invokevirtual 85, 3) := by decide +kernel
theorem dX2_casesChangedWithout_22 : decode cX2_casesChangedWithout 22 = .ok (.aload_n 0, 1) := by decide +kernel
theorem dX2_casesChangedWithout_23 : decode cX2_casesChangedWithout 23 = .ok (.iload_n 1, 1) := by decide +kernel
theorem dX2_casesChangedWithout_24 : decode cX2_casesChangedWithout 24 = .ok (.iload_n 3, 1) := by decide +kernel
theorem dX2_casesChangedWithout_25 : decode cX2_casesChangedWithout 25 = .ok (.aload_n 0, 1) := by decide +kernel
theorem dX2_casesChangedWithout_26 : decode cX2_casesChangedWithout 26 = .ok (.getfield 12, 3) := by decide +kernel
theorem dX2_casesChangedWithout_29 : decode cX2_casesChangedWithout 29 = .ok (.getfield 93, 3) := by decide +kernel
theorem dX2_casesChangedWithout_32 : decode cX2_casesChangedWithout 32 = .ok (.invokevirtual 96, 3) := by decide +kernel
theorem dX2_casesChangedWithout_35 : decode cX2_casesChangedWithout 35 = .ok (.if_icmp .eq 6, 3) := by decide +kernel
theorem dX2_casesChangedWithout_38 : decode cX2_casesChangedWithout 38 = .ok (.iinc 2 1, 3) := by decide +kernel
theorem dX2_casesChangedWithout_41 : decode cX2_casesChangedWithout 41 = .ok (.iinc 3 1, 3) := by decide +kernel
theorem dX2_casesChangedWithout_44 : decode cX2_casesChangedWithout 44 = .ok (.goto (-40), 3) := by decide +kernel
theorem dX2_casesChangedWithout_47 : decode cX2_casesChangedWithout 47 = .ok (.iload_n 2, 1) := by decide +kernel
theorem dX2_casesChangedWithout_48 : decode cX2_casesChangedWithout 48 = .ok (.ireturn, 1) := by decide +kernel
theorem dX2_tallyToday_0 : decode cX2_tallyToday 0 = .ok (.aload_n 0, 1) := by decide +kernel
theorem dX2_tallyToday_1 : decode cX2_tallyToday 1 = .ok (.getfield 27, 3) := by decide +kernel
theorem dX2_tallyToday_4 : decode cX2_tallyToday 4 = .ok (.iconst 0, 1) := by decide +kernel
theorem dX2_tallyToday_5 : decode cX2_tallyToday 5 = .ok (.invokestatic 30, 3) := by decide +kernel
theorem dX2_tallyToday_8 : decode cX2_tallyToday 8 = .ok (.iconst 0, 1) := by decide +kernel
theorem dX2_tallyToday_9 : decode cX2_tallyToday 9 = .ok (.istore_n 1, 1) := by decide +kernel
theorem dX2_tallyToday_10 : decode cX2_tallyToday 10 = .ok (.iload_n 1, 1) := by decide +kernel
theorem dX2_tallyToday_11 : decode cX2_tallyToday 11 = .ok (.bipush 100, 2) := by decide +kernel
theorem dX2_tallyToday_13 : decode cX2_tallyToday 13 = .ok (.if_icmp .ge 37, 3) := by decide +kernel
theorem dX2_tallyToday_16 : decode cX2_tallyToday 16 = .ok (.aload_n 0, 1) := by decide +kernel
theorem dX2_tallyToday_17 : decode cX2_tallyToday 17 = .ok (.iload_n 1, 1) := by decide +kernel
theorem dX2_tallyToday_18 : decode cX2_tallyToday 18 = .ok (.aload_n 0, 1) := by decide +kernel
theorem dX2_tallyToday_19 : decode cX2_tallyToday 19 = .ok (.getfield 12, 3) := by decide +kernel
theorem dX2_tallyToday_22 : decode cX2_tallyToday 22 = .ok (.getfield 93, 3) := by decide +kernel
theorem dX2_tallyToday_25 : decode cX2_tallyToday 25 = .ok (.invokevirtual 85, 3) := by decide +kernel
theorem dX2_tallyToday_28 : decode cX2_tallyToday 28 = .ok (.istore_n 2, 1) := by decide +kernel
theorem dX2_tallyToday_29 : decode cX2_tallyToday 29 = .ok (.iload_n 2, 1) := by decide +kernel
theorem dX2_tallyToday_30 : decode cX2_tallyToday 30 = .ok (.iconst (-1), 1) := by decide +kernel
theorem dX2_tallyToday_31 : decode cX2_tallyToday 31 = .ok (.if_icmp .eq 13, 3) := by decide +kernel
theorem dX2_tallyToday_34 : decode cX2_tallyToday 34 = .ok (.aload_n 0, 1) := by decide +kernel
theorem dX2_tallyToday_35 : decode cX2_tallyToday 35 = .ok (.getfield 27, 3) := by decide +kernel
theorem dX2_tallyToday_38 : decode cX2_tallyToday 38 = .ok (.iload_n 2, 1) := by decide +kernel
theorem dX2_tallyToday_39 : decode cX2_tallyToday 39 = .ok (.dup2, 1) := by decide +kernel
theorem dX2_tallyToday_40 : decode cX2_tallyToday 40 = .ok (.iaload, 1) := by decide +kernel
theorem dX2_tallyToday_41 : decode cX2_tallyToday 41 = .ok (.iconst 1, 1) := by decide +kernel
theorem dX2_tallyToday_42 : decode cX2_tallyToday 42 = .ok (.iadd, 1) := by decide +kernel
theorem dX2_tallyToday_43 : decode cX2_tallyToday 43 = .ok (.iastore, 1) := by decide +kernel
theorem dX2_tallyToday_44 : decode cX2_tallyToday 44 = .ok (.iinc 1 1, 3) := by decide +kernel
theorem dX2_tallyToday_47 : decode cX2_tallyToday 47 = .ok (.goto (-37), 3) := by decide +kernel
theorem dX2_tallyToday_50 : decode cX2_tallyToday 50 = .ok (.return_, 1) := by decide +kernel
theorem dX2_casesRuled_0 : decode cX2_casesRuled 0 = .ok (.aload_n 0, 1) := by decide +kernel
theorem dX2_casesRuled_1 : decode cX2_casesRuled 1 = .ok (.invokevirtual 100, 3) := by decide +kernel
theorem dX2_casesRuled_4 : decode cX2_casesRuled 4 = .ok (.iconst 0, 1) := by decide +kernel
theorem dX2_casesRuled_5 : decode cX2_casesRuled 5 = .ok (.istore_n 1, 1) := by decide +kernel
theorem dX2_casesRuled_6 : decode cX2_casesRuled 6 = .ok (.iconst 0, 1) := by decide +kernel
theorem dX2_casesRuled_7 : decode cX2_casesRuled 7 = .ok (.istore_n 2, 1) := by decide +kernel
theorem dX2_casesRuled_8 : decode cX2_casesRuled 8 = .ok (.iload_n 2, 1) := by decide +kernel
theorem dX2_casesRuled_9 : decode cX2_casesRuled 9 = .ok (.aload_n 0, 1) := by decide +kernel
theorem dX2_casesRuled_10 : decode cX2_casesRuled 10 = .ok (.getfield 22, 3) := by decide +kernel
theorem dX2_casesRuled_13 : decode cX2_casesRuled 13 = .ok (.getfield 36, 3) := by decide +kernel
theorem dX2_casesRuled_16 : decode cX2_casesRuled 16 = .ok (.if_icmp .ge 18, 3) := by decide +kernel
theorem dX2_casesRuled_19 : decode cX2_casesRuled 19 = .ok (.iload_n 1, 1) := by decide +kernel
theorem dX2_casesRuled_20 : decode cX2_casesRuled 20 = .ok (.aload_n 0, 1) := by decide +kernel
theorem dX2_casesRuled_21 : decode cX2_casesRuled 21 = .ok (.getfield 27, 3) := by decide +kernel
theorem dX2_casesRuled_24 : decode cX2_casesRuled 24 = .ok (.iload_n 2, 1) := by decide +kernel
theorem dX2_casesRuled_25 : decode cX2_casesRuled 25 = .ok (.iaload, 1) := by decide +kernel
theorem dX2_casesRuled_26 : decode cX2_casesRuled 26 = .ok (.iadd, 1) := by decide +kernel
theorem dX2_casesRuled_27 : decode cX2_casesRuled 27 = .ok (.istore_n 1, 1) := by decide +kernel
theorem dX2_casesRuled_28 : decode cX2_casesRuled 28 = .ok (.iinc 2 1, 3) := by decide +kernel
theorem dX2_casesRuled_31 : decode cX2_casesRuled 31 = .ok (.goto (-23), 3) := by decide +kernel
theorem dX2_casesRuled_34 : decode cX2_casesRuled 34 = .ok (.iload_n 1, 1) := by decide +kernel
theorem dX2_casesRuled_35 : decode cX2_casesRuled 35 = .ok (.ireturn, 1) := by decide +kernel
theorem dX2_casesRuledByClause_0 : decode cX2_casesRuledByClause 0 = .ok (.aload_n 0, 1) := by decide +kernel
theorem dX2_casesRuledByClause_1 : decode cX2_casesRuledByClause 1 = .ok (.invokevirtual 100, 3) := by decide +kernel
theorem dX2_casesRuledByClause_4 : decode cX2_casesRuledByClause 4 = .ok (.aload_n 0, 1) := by decide +kernel
theorem dX2_casesRuledByClause_5 : decode cX2_casesRuledByClause 5 = .ok (.getfield 27, 3) := by decide +kernel
theorem dX2_casesRuledByClause_8 : decode cX2_casesRuledByClause 8 = .ok (.iload_n 1, 1) := by decide +kernel
theorem dX2_casesRuledByClause_9 : decode cX2_casesRuledByClause 9 = .ok (.iaload, 1) := by decide +kernel
theorem dX2_casesRuledByClause_10 : decode cX2_casesRuledByClause 10 = .ok (.ireturn, 1) := by decide +kernel
theorem dX2_casesRuledByChapter_0 : decode cX2_casesRuledByChapter 0 = .ok (.aload_n 0, 1) := by decide +kernel
theorem dX2_casesRuledByChapter_1 : decode cX2_casesRuledByChapter 1 = .ok (.invokevirtual 100, 3) := by decide +kernel
theorem dX2_casesRuledByChapter_4 : decode cX2_casesRuledByChapter 4 = .ok (.iconst 0, 1) := by decide +kernel
theorem dX2_casesRuledByChapter_5 : decode cX2_casesRuledByChapter 5 = .ok (.istore_n 2, 1) := by decide +kernel
theorem dX2_casesRuledByChapter_6 : decode cX2_casesRuledByChapter 6 = .ok (.iconst 0, 1) := by decide +kernel
theorem dX2_casesRuledByChapter_7 : decode cX2_casesRuledByChapter 7 = .ok (.istore_n 3, 1) := by decide +kernel
theorem dX2_casesRuledByChapter_8 : decode cX2_casesRuledByChapter 8 = .ok (.iload_n 3, 1) := by decide +kernel
theorem dX2_casesRuledByChapter_9 : decode cX2_casesRuledByChapter 9 = .ok (.aload_n 0, 1) := by decide +kernel
theorem dX2_casesRuledByChapter_10 : decode cX2_casesRuledByChapter 10 = .ok (.getfield 22, 3) := by decide +kernel
theorem dX2_casesRuledByChapter_13 : decode cX2_casesRuledByChapter 13 = .ok (.getfield 36, 3) := by decide +kernel
theorem dX2_casesRuledByChapter_16 : decode cX2_casesRuledByChapter 16 = .ok (.if_icmp .ge 31, 3) := by decide +kernel
theorem dX2_casesRuledByChapter_19 : decode cX2_casesRuledByChapter 19 = .ok (.aload_n 0, 1) := by decide +kernel
theorem dX2_casesRuledByChapter_20 : decode cX2_casesRuledByChapter 20 = .ok (.getfield 22, 3) := by decide +kernel
theorem dX2_casesRuledByChapter_23 : decode cX2_casesRuledByChapter 23 = .ok (.getfield 49, 3) := by decide +kernel
theorem dX2_casesRuledByChapter_26 : decode cX2_casesRuledByChapter 26 = .ok (.iload_n 3, 1) := by decide +kernel
theorem dX2_casesRuledByChapter_27 : decode cX2_casesRuledByChapter 27 = .ok (.iaload, 1) := by decide +kernel
theorem dX2_casesRuledByChapter_28 : decode cX2_casesRuledByChapter 28 = .ok (.iload_n 1, 1) := by decide +kernel
theorem dX2_casesRuledByChapter_29 : decode cX2_casesRuledByChapter 29 = .ok (.if_icmp .ne 12, 3) := by decide +kernel
theorem dX2_casesRuledByChapter_32 : decode cX2_casesRuledByChapter 32 = .ok (.iload_n 2, 1) := by decide +kernel
theorem dX2_casesRuledByChapter_33 : decode cX2_casesRuledByChapter 33 = .ok (.aload_n 0, 1) := by decide +kernel
theorem dX2_casesRuledByChapter_34 : decode cX2_casesRuledByChapter 34 = .ok (.getfield 27, 3) := by decide +kernel
theorem dX2_casesRuledByChapter_37 : decode cX2_casesRuledByChapter 37 = .ok (.iload_n 3, 1) := by decide +kernel
theorem dX2_casesRuledByChapter_38 : decode cX2_casesRuledByChapter 38 = .ok (.iaload, 1) := by decide +kernel
theorem dX2_casesRuledByChapter_39 : decode cX2_casesRuledByChapter 39 = .ok (.iadd, 1) := by decide +kernel
theorem dX2_casesRuledByChapter_40 : decode cX2_casesRuledByChapter 40 = .ok (.istore_n 2, 1) := by decide +kernel
theorem dX2_casesRuledByChapter_41 : decode cX2_casesRuledByChapter 41 = .ok (.iinc 3 1, 3) := by decide +kernel
theorem dX2_casesRuledByChapter_44 : decode cX2_casesRuledByChapter 44 = .ok (.goto (-36), 3) := by decide +kernel
theorem dX2_casesRuledByChapter_47 : decode cX2_casesRuledByChapter 47 = .ok (.iload_n 2, 1) := by decide +kernel
theorem dX2_casesRuledByChapter_48 : decode cX2_casesRuledByChapter 48 = .ok (.ireturn, 1) := by decide +kernel
theorem dX2_rulerOfMost_0 : decode cX2_rulerOfMost 0 = .ok (.aload_n 0, 1) := by decide +kernel
theorem dX2_rulerOfMost_1 : decode cX2_rulerOfMost 1 = .ok (.invokevirtual 100, 3) := by decide +kernel
theorem dX2_rulerOfMost_4 : decode cX2_rulerOfMost 4 = .ok (.iconst (-1), 1) := by decide +kernel
theorem dX2_rulerOfMost_5 : decode cX2_rulerOfMost 5 = .ok (.istore_n 1, 1) := by decide +kernel
theorem dX2_rulerOfMost_6 : decode cX2_rulerOfMost 6 = .ok (.iconst 0, 1) := by decide +kernel
theorem dX2_rulerOfMost_7 : decode cX2_rulerOfMost 7 = .ok (.istore_n 2, 1) := by decide +kernel
theorem dX2_rulerOfMost_8 : decode cX2_rulerOfMost 8 = .ok (.iconst 0, 1) := by decide +kernel
theorem dX2_rulerOfMost_9 : decode cX2_rulerOfMost 9 = .ok (.istore_n 3, 1) := by decide +kernel
theorem dX2_rulerOfMost_10 : decode cX2_rulerOfMost 10 = .ok (.iload_n 3, 1) := by decide +kernel
theorem dX2_rulerOfMost_11 : decode cX2_rulerOfMost 11 = .ok (.aload_n 0, 1) := by decide +kernel
theorem dX2_rulerOfMost_12 : decode cX2_rulerOfMost 12 = .ok (.getfield 22, 3) := by decide +kernel
theorem dX2_rulerOfMost_15 : decode cX2_rulerOfMost 15 = .ok (.getfield 36, 3) := by decide +kernel
theorem dX2_rulerOfMost_18 : decode cX2_rulerOfMost 18 = .ok (.if_icmp .ge 28, 3) := by decide +kernel
theorem dX2_rulerOfMost_21 : decode cX2_rulerOfMost 21 = .ok (.aload_n 0, 1) := by decide +kernel
theorem dX2_rulerOfMost_22 : decode cX2_rulerOfMost 22 = .ok (.getfield 27, 3) := by decide +kernel
theorem dX2_rulerOfMost_25 : decode cX2_rulerOfMost 25 = .ok (.iload_n 3, 1) := by decide +kernel
theorem dX2_rulerOfMost_26 : decode cX2_rulerOfMost 26 = .ok (.iaload, 1) := by decide +kernel
theorem dX2_rulerOfMost_27 : decode cX2_rulerOfMost 27 = .ok (.iload_n 2, 1) := by decide +kernel
theorem dX2_rulerOfMost_28 : decode cX2_rulerOfMost 28 = .ok (.if_icmp .le 12, 3) := by decide +kernel
theorem dX2_rulerOfMost_31 : decode cX2_rulerOfMost 31 = .ok (.iload_n 3, 1) := by decide +kernel
theorem dX2_rulerOfMost_32 : decode cX2_rulerOfMost 32 = .ok (.istore_n 1, 1) := by decide +kernel
theorem dX2_rulerOfMost_33 : decode cX2_rulerOfMost 33 = .ok (.aload_n 0, 1) := by decide +kernel
theorem dX2_rulerOfMost_34 : decode cX2_rulerOfMost 34 = .ok (.getfield 27, 3) := by decide +kernel
theorem dX2_rulerOfMost_37 : decode cX2_rulerOfMost 37 = .ok (.iload_n 3, 1) := by decide +kernel
theorem dX2_rulerOfMost_38 : decode cX2_rulerOfMost 38 = .ok (.iaload, 1) := by decide +kernel
theorem dX2_rulerOfMost_39 : decode cX2_rulerOfMost 39 = .ok (.istore_n 2, 1) := by decide +kernel
theorem dX2_rulerOfMost_40 : decode cX2_rulerOfMost 40 = .ok (.iinc 3 1, 3) := by decide +kernel
theorem dX2_rulerOfMost_43 : decode cX2_rulerOfMost 43 = .ok (.goto (-33), 3) := by decide +kernel
theorem dX2_rulerOfMost_46 : decode cX2_rulerOfMost 46 = .ok (.iload_n 1, 1) := by decide +kernel
theorem dX2_rulerOfMost_47 : decode cX2_rulerOfMost 47 = .ok (.ireturn, 1) := by decide +kernel
theorem dX2_casesSpokenOf_0 : decode cX2_casesSpokenOf 0 = .ok (.aload_n 0, 1) := by decide +kernel
theorem dX2_casesSpokenOf_1 : decode cX2_casesSpokenOf 1 = .ok (.getfield 22, 3) := by decide +kernel
theorem dX2_casesSpokenOf_4 : decode cX2_casesSpokenOf 4 = .ok (.getfield 49, 3) := by decide +kernel
theorem dX2_casesSpokenOf_7 : decode cX2_casesSpokenOf 7 = .ok (.iload_n 1, 1) := by decide +kernel
theorem dX2_casesSpokenOf_8 : decode cX2_casesSpokenOf 8 = .ok (.iaload, 1) := by decide +kernel
theorem dX2_casesSpokenOf_9 : decode cX2_casesSpokenOf 9 = .ok (.istore_n 2, 1) := by decide +kernel
theorem dX2_casesSpokenOf_10 : decode cX2_casesSpokenOf 10 = .ok (.iconst 0, 1) := by decide +kernel
theorem dX2_casesSpokenOf_11 : decode cX2_casesSpokenOf 11 = .ok (.istore_n 3, 1) := by decide +kernel
theorem dX2_casesSpokenOf_12 : decode cX2_casesSpokenOf 12 = .ok (.iconst 0, 1) := by decide +kernel
theorem dX2_casesSpokenOf_13 : decode cX2_casesSpokenOf 13 = .ok (.istore 4, 2) := by decide +kernel
theorem dX2_casesSpokenOf_15 : decode cX2_casesSpokenOf 15 = .ok (.iload 4, 2) := by decide +kernel
theorem dX2_casesSpokenOf_17 : decode cX2_casesSpokenOf 17 = .ok (.bipush 100, 2) := by decide +kernel
theorem dX2_casesSpokenOf_19 : decode cX2_casesSpokenOf 19 = .ok (.if_icmp .ge 44, 3) := by decide +kernel
theorem dX2_casesSpokenOf_22 : decode cX2_casesSpokenOf 22 = .ok (.aload_n 0, 1) := by decide +kernel
theorem dX2_casesSpokenOf_23 : decode cX2_casesSpokenOf 23 = .ok (.iload 4, 2) := by decide +kernel
theorem dX2_casesSpokenOf_25 : decode cX2_casesSpokenOf 25 = .ok (.aload_n 0, 1) := by decide +kernel
theorem dX2_casesSpokenOf_26 : decode cX2_casesSpokenOf 26 = .ok (.getfield 12, 3) := by decide +kernel
theorem dX2_casesSpokenOf_29 : decode cX2_casesSpokenOf 29 = .ok (.getfield 93, 3) := by decide +kernel
theorem dX2_casesSpokenOf_32 : decode cX2_casesSpokenOf 32 = .ok (.iconst (-1), 1) := by decide +kernel
theorem dX2_casesSpokenOf_33 : decode cX2_casesSpokenOf 33 = .ok (.invokevirtual 65, 3) := by decide +kernel
theorem dX2_casesSpokenOf_36 : decode cX2_casesSpokenOf 36 = .ok (.aload_n 0, 1) := by decide +kernel
theorem dX2_casesSpokenOf_37 : decode cX2_casesSpokenOf 37 = .ok (.getfield 23, 3) := by decide +kernel
theorem dX2_casesSpokenOf_40 : decode cX2_casesSpokenOf 40 = .ok (.iload_n 2, 1) := by decide +kernel
theorem dX2_casesSpokenOf_41 : decode cX2_casesSpokenOf 41 = .ok (.iaload, 1) := by decide +kernel
theorem dX2_casesSpokenOf_42 : decode cX2_casesSpokenOf 42 = .ok (.iload_n 1, 1) := by decide +kernel
theorem dX2_casesSpokenOf_43 : decode cX2_casesSpokenOf 43 = .ok (.if_icmp .ne 14, 3) := by decide +kernel
theorem dX2_casesSpokenOf_46 : decode cX2_casesSpokenOf 46 = .ok (.aload_n 0, 1) := by decide +kernel
theorem dX2_casesSpokenOf_47 : decode cX2_casesSpokenOf 47 = .ok (.iload_n 2, 1) := by decide +kernel
theorem dX2_casesSpokenOf_48 : decode cX2_casesSpokenOf 48 = .ok (.invokevirtual 59, 3) := by decide +kernel
theorem dX2_casesSpokenOf_51 : decode cX2_casesSpokenOf 51 = .ok (.ifCond .eq 6, 3) := by decide +kernel
theorem dX2_casesSpokenOf_54 : decode cX2_casesSpokenOf 54 = .ok (.iinc 3 1, 3) := by decide +kernel
theorem dX2_casesSpokenOf_57 : decode cX2_casesSpokenOf 57 = .ok (.iinc 4 1, 3) := by decide +kernel
theorem dX2_casesSpokenOf_60 : decode cX2_casesSpokenOf 60 = .ok (.goto (-45), 3) := by decide +kernel
theorem dX2_casesSpokenOf_63 : decode cX2_casesSpokenOf 63 = .ok (.iload_n 3, 1) := by decide +kernel
theorem dX2_casesSpokenOf_64 : decode cX2_casesSpokenOf 64 = .ok (.ireturn, 1) := by decide +kernel
theorem dX2_timesSpoken_0 : decode cX2_timesSpoken 0 = .ok (.iconst 0, 1) := by decide +kernel
theorem dX2_timesSpoken_1 : decode cX2_timesSpoken 1 = .ok (.istore_n 1, 1) := by decide +kernel
theorem dX2_timesSpoken_2 : decode cX2_timesSpoken 2 = .ok (.iconst 0, 1) := by decide +kernel
theorem dX2_timesSpoken_3 : decode cX2_timesSpoken 3 = .ok (.istore_n 2, 1) := by decide +kernel
theorem dX2_timesSpoken_4 : decode cX2_timesSpoken 4 = .ok (.iload_n 2, 1) := by decide +kernel
theorem dX2_timesSpoken_5 : decode cX2_timesSpoken 5 = .ok (.bipush 100, 2) := by decide +kernel
theorem dX2_timesSpoken_7 : decode cX2_timesSpoken 7 = .ok (.if_icmp .ge 47, 3) := by decide +kernel
theorem dX2_timesSpoken_10 : decode cX2_timesSpoken 10 = .ok (.aload_n 0, 1) := by decide +kernel
theorem dX2_timesSpoken_11 : decode cX2_timesSpoken 11 = .ok (.iload_n 2, 1) := by decide +kernel
theorem dX2_timesSpoken_12 : decode cX2_timesSpoken 12 = .ok (.aload_n 0, 1) := by decide +kernel
theorem dX2_timesSpoken_13 : decode cX2_timesSpoken 13 = .ok (.getfield 12, 3) := by decide +kernel
theorem dX2_timesSpoken_16 : decode cX2_timesSpoken 16 = .ok (.getfield 93, 3) := by decide +kernel
theorem dX2_timesSpoken_19 : decode cX2_timesSpoken 19 = .ok (.iconst (-1), 1) := by decide +kernel
theorem dX2_timesSpoken_20 : decode cX2_timesSpoken 20 = .ok (.invokevirtual 65, 3) := by decide +kernel
theorem dX2_timesSpoken_23 : decode cX2_timesSpoken 23 = .ok (.iconst 0, 1) := by decide +kernel
theorem dX2_timesSpoken_24 : decode cX2_timesSpoken 24 = .ok (.istore_n 3, 1) := by decide +kernel
theorem dX2_timesSpoken_25 : decode cX2_timesSpoken 25 = .ok (.iload_n 3, 1) := by decide +kernel
theorem dX2_timesSpoken_26 : decode cX2_timesSpoken 26 = .ok (.bipush 6, 2) := by decide +kernel
theorem dX2_timesSpoken_28 : decode cX2_timesSpoken 28 = .ok (.if_icmp .ge 20, 3) := by decide +kernel
theorem dX2_timesSpoken_31 : decode cX2_timesSpoken 31 = .ok (.aload_n 0, 1) := by decide +kernel
theorem dX2_timesSpoken_32 : decode cX2_timesSpoken 32 = .ok (.iload_n 3, 1) := by decide +kernel
theorem dX2_timesSpoken_33 : decode cX2_timesSpoken 33 = .ok (.invokevirtual 59, 3) := by decide +kernel
theorem dX2_timesSpoken_36 : decode cX2_timesSpoken 36 = .ok (.ifCond .eq 6, 3) := by decide +kernel
theorem dX2_timesSpoken_39 : decode cX2_timesSpoken 39 = .ok (.iinc 1 1, 3) := by decide +kernel
theorem dX2_timesSpoken_42 : decode cX2_timesSpoken 42 = .ok (.iinc 3 1, 3) := by decide +kernel
theorem dX2_timesSpoken_45 : decode cX2_timesSpoken 45 = .ok (.goto (-20), 3) := by decide +kernel
theorem dX2_timesSpoken_48 : decode cX2_timesSpoken 48 = .ok (.iinc 2 1, 3) := by decide +kernel
theorem dX2_timesSpoken_51 : decode cX2_timesSpoken 51 = .ok (.goto (-47), 3) := by decide +kernel
theorem dX2_timesSpoken_54 : decode cX2_timesSpoken 54 = .ok (.iload_n 1, 1) := by decide +kernel
theorem dX2_timesSpoken_55 : decode cX2_timesSpoken 55 = .ok (.ireturn, 1) := by decide +kernel
theorem dX2_casesOfUnlikeVerdicts_0 : decode cX2_casesOfUnlikeVerdicts 0 = .ok (.iconst 0, 1) := by decide +kernel
theorem dX2_casesOfUnlikeVerdicts_1 : decode cX2_casesOfUnlikeVerdicts 1 = .ok (.istore_n 3, 1) := by decide +kernel
theorem dX2_casesOfUnlikeVerdicts_2 : decode cX2_casesOfUnlikeVerdicts 2 = .ok (.iconst 0, 1) := by decide +kernel
theorem dX2_casesOfUnlikeVerdicts_3 : decode cX2_casesOfUnlikeVerdicts 3 = .ok (.istore 4, 2) := by decide +kernel
theorem dX2_casesOfUnlikeVerdicts_5 : decode cX2_casesOfUnlikeVerdicts 5 = .ok (.iload 4, 2) := by decide +kernel
theorem dX2_casesOfUnlikeVerdicts_7 : decode cX2_casesOfUnlikeVerdicts 7 = .ok (.bipush 100, 2) := by decide +kernel
theorem dX2_casesOfUnlikeVerdicts_9 : decode cX2_casesOfUnlikeVerdicts 9 = .ok (.if_icmp .ge 73, 3) := by decide +kernel
theorem dX2_casesOfUnlikeVerdicts_12 : decode cX2_casesOfUnlikeVerdicts 12 = .ok (.aload_n 0, 1) := by decide +kernel
theorem dX2_casesOfUnlikeVerdicts_13 : decode cX2_casesOfUnlikeVerdicts 13 = .ok (.iload 4, 2) := by decide +kernel
theorem dX2_casesOfUnlikeVerdicts_15 : decode cX2_casesOfUnlikeVerdicts 15 = .ok (.aload_n 0, 1) := by decide +kernel
theorem dX2_casesOfUnlikeVerdicts_16 : decode cX2_casesOfUnlikeVerdicts 16 = .ok (.getfield 12, 3) := by decide +kernel
theorem dX2_casesOfUnlikeVerdicts_19 : decode cX2_casesOfUnlikeVerdicts 19 = .ok (.getfield 93, 3) := by decide +kernel
theorem dX2_casesOfUnlikeVerdicts_22 : decode cX2_casesOfUnlikeVerdicts 22 = .ok (.iconst (-1), 1) := by decide +kernel
theorem dX2_casesOfUnlikeVerdicts_23 : decode cX2_casesOfUnlikeVerdicts 23 = .ok (.invokevirtual 65, 3) := by decide +kernel
theorem dX2_casesOfUnlikeVerdicts_26 : decode cX2_casesOfUnlikeVerdicts 26 = .ok (.aload_n 0, 1) := by decide +kernel
theorem dX2_casesOfUnlikeVerdicts_27 : decode cX2_casesOfUnlikeVerdicts 27 = .ok (.iload_n 1, 1) := by decide +kernel
theorem dX2_casesOfUnlikeVerdicts_28 : decode cX2_casesOfUnlikeVerdicts 28 = .ok (.invokevirtual 59, 3) := by decide +kernel
theorem dX2_casesOfUnlikeVerdicts_31 : decode cX2_casesOfUnlikeVerdicts 31 = .ok (.ifCond .eq 45, 3) := by decide +kernel
theorem dX2_casesOfUnlikeVerdicts_34 : decode cX2_casesOfUnlikeVerdicts 34 = .ok (.aload_n 0, 1) := by decide +kernel
theorem dX2_casesOfUnlikeVerdicts_35 : decode cX2_casesOfUnlikeVerdicts 35 = .ok (.iload_n 2, 1) := by decide +kernel
theorem dX2_casesOfUnlikeVerdicts_36 : decode cX2_casesOfUnlikeVerdicts 36 = .ok (.invokevirtual 59, 3) := by decide +kernel
theorem dX2_casesOfUnlikeVerdicts_39 : decode cX2_casesOfUnlikeVerdicts 39 = .ok (.ifCond .eq 37, 3) := by decide +kernel
theorem dX2_casesOfUnlikeVerdicts_42 : decode cX2_casesOfUnlikeVerdicts 42 = .ok (.aload_n 0, 1) := by decide +kernel
theorem dX2_casesOfUnlikeVerdicts_43 : decode cX2_casesOfUnlikeVerdicts 43 = .ok (.getfield 22, 3) := by decide +kernel
theorem dX2_casesOfUnlikeVerdicts_46 : decode cX2_casesOfUnlikeVerdicts 46 = .ok (.getfield 103, 3) := by decide +kernel
theorem dX2_casesOfUnlikeVerdicts_49 : decode cX2_casesOfUnlikeVerdicts 49 = .ok (.aload_n 0, 1) := by decide +kernel
theorem dX2_casesOfUnlikeVerdicts_50 : decode cX2_casesOfUnlikeVerdicts 50 = .ok (.getfield 23, 3) := by decide +kernel
theorem dX2_casesOfUnlikeVerdicts_53 : decode cX2_casesOfUnlikeVerdicts 53 = .ok (.iload_n 1, 1) := by decide +kernel
theorem dX2_casesOfUnlikeVerdicts_54 : decode cX2_casesOfUnlikeVerdicts 54 = .ok (.iaload, 1) := by decide +kernel
theorem dX2_casesOfUnlikeVerdicts_55 : decode cX2_casesOfUnlikeVerdicts 55 = .ok (.iaload, 1) := by decide +kernel
theorem dX2_casesOfUnlikeVerdicts_56 : decode cX2_casesOfUnlikeVerdicts 56 = .ok (.aload_n 0, 1) := by decide +kernel
theorem dX2_casesOfUnlikeVerdicts_57 : decode cX2_casesOfUnlikeVerdicts 57 = .ok (.getfield 22, 3) := by decide +kernel
theorem dX2_casesOfUnlikeVerdicts_60 : decode cX2_casesOfUnlikeVerdicts 60 = .ok (.getfield 103, 3) := by decide +kernel
theorem dX2_casesOfUnlikeVerdicts_63 : decode cX2_casesOfUnlikeVerdicts 63 = .ok (.aload_n 0, 1) := by decide +kernel
theorem dX2_casesOfUnlikeVerdicts_64 : decode cX2_casesOfUnlikeVerdicts 64 = .ok (.getfield 23, 3) := by decide +kernel
theorem dX2_casesOfUnlikeVerdicts_67 : decode cX2_casesOfUnlikeVerdicts 67 = .ok (.iload_n 2, 1) := by decide +kernel
theorem dX2_casesOfUnlikeVerdicts_68 : decode cX2_casesOfUnlikeVerdicts 68 = .ok (.iaload, 1) := by decide +kernel
theorem dX2_casesOfUnlikeVerdicts_69 : decode cX2_casesOfUnlikeVerdicts 69 = .ok (.iaload, 1) := by decide +kernel
theorem dX2_casesOfUnlikeVerdicts_70 : decode cX2_casesOfUnlikeVerdicts 70 = .ok (.if_icmp .eq 6, 3) := by decide +kernel
theorem dX2_casesOfUnlikeVerdicts_73 : decode cX2_casesOfUnlikeVerdicts 73 = .ok (.iinc 3 1, 3) := by decide +kernel
theorem dX2_casesOfUnlikeVerdicts_76 : decode cX2_casesOfUnlikeVerdicts 76 = .ok (.iinc 4 1, 3) := by decide +kernel
theorem dX2_casesOfUnlikeVerdicts_79 : decode cX2_casesOfUnlikeVerdicts 79 = .ok (.goto (-74), 3) := by decide +kernel
theorem dX2_casesOfUnlikeVerdicts_82 : decode cX2_casesOfUnlikeVerdicts 82 = .ok (.iload_n 3, 1) := by decide +kernel
theorem dX2_casesOfUnlikeVerdicts_83 : decode cX2_casesOfUnlikeVerdicts 83 = .ok (.ireturn, 1) := by decide +kernel
theorem dX3_init_0 : decode cX3_init 0 = .ok (.aload_n 0, 1) := by decide +kernel
theorem dX3_init_1 : decode cX3_init 1 = .ok (.invokespecial 3, 3) := by decide +kernel
theorem dX3_init_4 : decode cX3_init 4 = .ok (.aload_n 0, 1) := by decide +kernel
theorem dX3_init_5 : decode cX3_init 5 = .ok (.bipush 100, 2) := by decide +kernel
theorem dX3_init_7 : decode cX3_init 7 = .ok (.newarray .int, 2) := by decide +kernel
theorem dX3_init_9 : decode cX3_init 9 = .ok (.putfield 9, 3) := by decide +kernel
theorem dX3_init_12 : decode cX3_init 12 = .ok (.aload_n 0, 1) := by decide +kernel
theorem dX3_init_13 : decode cX3_init 13 = .ok (.bipush 100, 2) := by decide +kernel
theorem dX3_init_15 : decode cX3_init 15 = .ok (.newarray .int, 2) := by decide +kernel
theorem dX3_init_17 : decode cX3_init 17 = .ok (.putfield 15, 3) := by decide +kernel
theorem dX3_init_20 : decode cX3_init 20 = .ok (.aload_n 0, 1) := by decide +kernel
theorem dX3_init_21 : decode cX3_init 21 = .ok (.bipush 30, 2) := by decide +kernel
theorem dX3_init_23 : decode cX3_init 23 = .ok (.newarray .int, 2) := by decide +kernel
theorem dX3_init_25 : decode cX3_init 25 = .ok (.putfield 18, 3) := by decide +kernel
theorem dX3_init_28 : decode cX3_init 28 = .ok (.return_, 1) := by decide +kernel
theorem dX3_paint_0 : decode cX3_paint 0 = .ok (.aload_n 0, 1) := by decide +kernel
theorem dX3_paint_1 : decode cX3_paint 1 = .ok (.aload_n 1, 1) := by decide +kernel
theorem dX3_paint_2 : decode cX3_paint 2 = .ok (.getfield 21, 3) := by decide +kernel
theorem dX3_paint_5 : decode cX3_paint 5 = .ok (.invokevirtual 27, 3) := by decide +kernel
theorem dX3_paint_8 : decode cX3_paint 8 = .ok (.aload_n 0, 1) := by decide +kernel
theorem dX3_paint_9 : decode cX3_paint 9 = .ok (.getfield 9, 3) := by decide +kernel
theorem dX3_paint_12 : decode cX3_paint 12 = .ok (.iconst (-1), 1) := by decide +kernel
theorem dX3_paint_13 : decode cX3_paint 13 = .ok (.invokestatic 31, 3) := by decide +kernel
theorem dX3_paint_16 : decode cX3_paint 16 = .ok (.iconst 0, 1) := by decide +kernel
theorem dX3_paint_17 : decode cX3_paint 17 = .ok (.istore_n 3, 1) := by decide +kernel
theorem dX3_paint_18 : decode cX3_paint 18 = .ok (.iload_n 3, 1) := by decide +kernel
theorem dX3_paint_19 : decode cX3_paint 19 = .ok (.bipush 6, 2) := by decide +kernel
theorem dX3_paint_21 : decode cX3_paint 21 = .ok (.if_icmp .ge 52, 3) := by decide +kernel
theorem dX3_paint_24 : decode cX3_paint 24 = .ok (.iconst 0, 1) := by decide +kernel
theorem dX3_paint_25 : decode cX3_paint 25 = .ok (.istore 4, 2) := by decide +kernel
theorem dX3_paint_27 : decode cX3_paint 27 = .ok (.iload 4, 2) := by decide +kernel
theorem dX3_paint_29 : decode cX3_paint 29 = .ok (.bipush 6, 2) := by decide +kernel
theorem dX3_paint_31 : decode cX3_paint 31 = .ok (.if_icmp .ge 36, 3) := by decide +kernel
theorem dX3_paint_34 : decode cX3_paint 34 = .ok (.aload_n 1, 1) := by decide +kernel
theorem dX3_paint_35 : decode cX3_paint 35 = .ok (.getfield 37, 3) := by decide +kernel
theorem dX3_paint_38 : decode cX3_paint 38 = .ok (.iload 4, 2) := by decide +kernel
theorem dX3_paint_40 : decode cX3_paint 40 = .ok (.iaload, 1) := by decide +kernel
theorem dX3_paint_41 : decode cX3_paint 41 = .ok (.iload_n 3, 1) := by decide +kernel
theorem dX3_paint_42 : decode cX3_paint 42 = .ok (.if_icmp .ne 19, 3) := by decide +kernel
theorem dX3_paint_45 : decode cX3_paint 45 = .ok (.aload_n 0, 1) := by decide +kernel
theorem dX3_paint_46 : decode cX3_paint 46 = .ok (.aload_n 1, 1) := by decide +kernel
theorem dX3_paint_47 : decode cX3_paint 47 = .ok (.iload 4, 2) := by decide +kernel
theorem dX3_paint_49 : decode cX3_paint 49 = .ok (.iload_n 2, 1) := by decide +kernel
theorem dX3_paint_50 : decode cX3_paint 50 = .ok (.invokevirtual 40, 3) := by decide +kernel
theorem dX3_paint_53 : decode cX3_paint 53 = .ok (.aload_n 0, 1) := by decide +kernel
theorem dX3_paint_54 : decode cX3_paint 54 = .ok (.aload_n 1, 1) := by decide +kernel
theorem dX3_paint_55 : decode cX3_paint 55 = .ok (.getfield 21, 3) := by decide +kernel
theorem dX3_paint_58 : decode cX3_paint 58 = .ok (.invokevirtual 44, 3) := by decide +kernel
theorem dX3_paint_61 : decode cX3_paint 61 = .ok (.iinc 4 1, 3) := by decide +kernel
theorem dX3_paint_64 : decode cX3_paint 64 = .ok (.goto (-37), 3) := by decide +kernel
theorem dX3_paint_67 : decode cX3_paint 67 = .ok (.iinc 3 1, 3) := by decide +kernel
theorem dX3_paint_70 : decode cX3_paint 70 = .ok (.goto (-52), 3) := by decide +kernel
theorem dX3_paint_73 : decode cX3_paint 73 = .ok (.return_, 1) := by decide +kernel
theorem dX3_sortByDates_0 : decode cX3_sortByDates 0 = .ok (.iconst 0, 1) := by decide +kernel
theorem dX3_sortByDates_1 : decode cX3_sortByDates 1 = .ok (.istore_n 2, 1) := by decide +kernel
theorem dX3_sortByDates_2 : decode cX3_sortByDates 2 = .ok (.iload_n 2, 1) := by decide +kernel
theorem dX3_sortByDates_3 : decode cX3_sortByDates 3 = .ok (.aload_n 1, 1) := by decide +kernel
theorem dX3_sortByDates_4 : decode cX3_sortByDates 4 = .ok (.getfield 47, 3) := by decide +kernel
theorem dX3_sortByDates_7 : decode cX3_sortByDates 7 = .ok (.if_icmp .ge 64, 3) := by decide +kernel
theorem dX3_sortByDates_10 : decode cX3_sortByDates 10 = .ok (.iload_n 2, 1) := by decide +kernel
theorem dX3_sortByDates_11 : decode cX3_sortByDates 11 = .ok (.istore_n 3, 1) := by decide +kernel
theorem dX3_sortByDates_12 : decode cX3_sortByDates 12 = .ok (.iload_n 3, 1) := by decide +kernel
theorem dX3_sortByDates_13 : decode cX3_sortByDates 13 = .ok (.ifCond .le 45, 3) := by decide +kernel
theorem dX3_sortByDates_16 : decode cX3_sortByDates 16 = .ok (.aload_n 1, 1) := by decide +kernel
theorem dX3_sortByDates_17 : decode cX3_sortByDates 17 = .ok (.getfield 53, 3) := by decide +kernel
theorem dX3_sortByDates_20 : decode cX3_sortByDates 20 = .ok (.aload_n 0, 1) := by decide +kernel
theorem dX3_sortByDates_21 : decode cX3_sortByDates 21 = .ok (.getfield 18, 3) := by decide +kernel
theorem dX3_sortByDates_24 : decode cX3_sortByDates 24 = .ok (.iload_n 3, 1) := by decide +kernel
theorem dX3_sortByDates_25 : decode cX3_sortByDates 25 = .ok (.iconst 1, 1) := by decide +kernel
theorem dX3_sortByDates_26 : decode cX3_sortByDates 26 = .ok (.isub, 1) := by decide +kernel
theorem dX3_sortByDates_27 : decode cX3_sortByDates 27 = .ok (.iaload, 1) := by decide +kernel
theorem dX3_sortByDates_28 : decode cX3_sortByDates 28 = .ok (.iaload, 1) := by decide +kernel
theorem dX3_sortByDates_29 : decode cX3_sortByDates 29 = .ok (.aload_n 1, 1) := by decide +kernel
theorem dX3_sortByDates_30 : decode cX3_sortByDates 30 = .ok (.getfield 53, 3) := by decide +kernel
theorem dX3_sortByDates_33 : decode cX3_sortByDates 33 = .ok (.iload_n 2, 1) := by decide +kernel
theorem dX3_sortByDates_34 : decode cX3_sortByDates 34 = .ok (.iaload, 1) := by decide +kernel
theorem dX3_sortByDates_35 : decode cX3_sortByDates 35 = .ok (.if_icmp .le 23, 3) := by decide +kernel
theorem dX3_sortByDates_38 : decode cX3_sortByDates 38 = .ok (.aload_n 0, 1) := by decide +kernel
theorem dX3_sortByDates_39 : decode cX3_sortByDates 39 = .ok (.getfield 18, 3) := by decide +kernel
theorem dX3_sortByDates_42 : decode cX3_sortByDates 42 = .ok (.iload_n 3, 1) := by decide +kernel
theorem dX3_sortByDates_43 : decode cX3_sortByDates 43 = .ok (.aload_n 0, 1) := by decide +kernel
theorem dX3_sortByDates_44 : decode cX3_sortByDates 44 = .ok (.getfield 18, 3) := by decide +kernel
theorem dX3_sortByDates_47 : decode cX3_sortByDates 47 = .ok (.iload_n 3, 1) := by decide +kernel
theorem dX3_sortByDates_48 : decode cX3_sortByDates 48 = .ok (.iconst 1, 1) := by decide +kernel
theorem dX3_sortByDates_49 : decode cX3_sortByDates 49 = .ok (.isub, 1) := by decide +kernel
theorem dX3_sortByDates_50 : decode cX3_sortByDates 50 = .ok (.iaload, 1) := by decide +kernel
theorem dX3_sortByDates_51 : decode cX3_sortByDates 51 = .ok (.iastore, 1) := by decide +kernel
theorem dX3_sortByDates_52 : decode cX3_sortByDates 52 = .ok (.iinc 3 (-1), 3) := by decide +kernel
theorem dX3_sortByDates_55 : decode cX3_sortByDates 55 = .ok (.goto (-43), 3) := by decide +kernel
theorem dX3_sortByDates_58 : decode cX3_sortByDates 58 = .ok (.aload_n 0, 1) := by decide +kernel
theorem dX3_sortByDates_59 : decode cX3_sortByDates 59 = .ok (.getfield 18, 3) := by decide +kernel
theorem dX3_sortByDates_62 : decode cX3_sortByDates 62 = .ok (.iload_n 3, 1) := by decide +kernel
theorem dX3_sortByDates_63 : decode cX3_sortByDates 63 = .ok (.iload_n 2, 1) := by decide +kernel
theorem dX3_sortByDates_64 : decode cX3_sortByDates 64 = .ok (.iastore, 1) := by decide +kernel
theorem dX3_sortByDates_65 : decode cX3_sortByDates 65 = .ok (.iinc 2 1, 3) := by decide +kernel
theorem dX3_sortByDates_68 : decode cX3_sortByDates 68 = .ok (.goto (-66), 3) := by decide +kernel
theorem dX3_sortByDates_71 : decode cX3_sortByDates 71 = .ok (.return_, 1) := by decide +kernel
theorem dX3_paintCoat_0 : decode cX3_paintCoat 0 = .ok (.aload_n 0, 1) := by decide +kernel
theorem dX3_paintCoat_1 : decode cX3_paintCoat 1 = .ok (.getfield 15, 3) := by decide +kernel
theorem dX3_paintCoat_4 : decode cX3_paintCoat 4 = .ok (.iconst (-1), 1) := by decide +kernel
theorem dX3_paintCoat_5 : decode cX3_paintCoat 5 = .ok (.invokestatic 31, 3) := by decide +kernel
theorem dX3_paintCoat_8 : decode cX3_paintCoat 8 = .ok (.aload_n 1, 1) := by decide +kernel
theorem dX3_paintCoat_9 : decode cX3_paintCoat 9 = .ok (.getfield 21, 3) := by decide +kernel
theorem dX3_paintCoat_12 : decode cX3_paintCoat 12 = .ok (.astore 4, 2) := by decide +kernel
theorem dX3_paintCoat_14 : decode cX3_paintCoat 14 = .ok (.iconst 0, 1) := by decide +kernel
theorem dX3_paintCoat_15 : decode cX3_paintCoat 15 = .ok (.istore 5, 2) := by decide +kernel
theorem dX3_paintCoat_17 : decode cX3_paintCoat 17 = .ok (.iload 5, 2) := by decide +kernel
theorem dX3_paintCoat_19 : decode cX3_paintCoat 19 = .ok (.aload 4, 2) := by decide +kernel
theorem dX3_paintCoat_21 : decode cX3_paintCoat 21 = .ok (.getfield 47, 3) := by decide +kernel
theorem dX3_paintCoat_24 : decode cX3_paintCoat 24 = .ok (.if_icmp .ge 91, 3) := by decide +kernel
theorem dX3_paintCoat_27 : decode cX3_paintCoat 27 = .ok (.aload_n 0, 1) := by decide +kernel
theorem dX3_paintCoat_28 : decode cX3_paintCoat 28 = .ok (.getfield 18, 3) := by decide +kernel
theorem dX3_paintCoat_31 : decode cX3_paintCoat 31 = .ok (.iload 5, 2) := by decide +kernel
theorem dX3_paintCoat_33 : decode cX3_paintCoat 33 = .ok (.iaload, 1) := by decide +kernel
theorem dX3_paintCoat_34 : decode cX3_paintCoat 34 = .ok (.istore 6, 2) := by decide +kernel
theorem dX3_paintCoat_36 : decode cX3_paintCoat 36 = .ok (.aload 4, 2) := by decide +kernel
theorem dX3_paintCoat_38 : decode cX3_paintCoat 38 = .ok (.getfield 56, 3) := by decide +kernel
theorem dX3_paintCoat_41 : decode cX3_paintCoat 41 = .ok (.iload 6, 2) := by decide +kernel
theorem dX3_paintCoat_43 : decode cX3_paintCoat 43 = .ok (.iaload, 1) := by decide +kernel
theorem dX3_paintCoat_44 : decode cX3_paintCoat 44 = .ok (.iload_n 2, 1) := by decide +kernel
theorem dX3_paintCoat_45 : decode cX3_paintCoat 45 = .ok (.if_icmp .ne 64, 3) := by decide +kernel
theorem dX3_paintCoat_48 : decode cX3_paintCoat 48 = .ok (.aload 4, 2) := by decide +kernel
theorem dX3_paintCoat_50 : decode cX3_paintCoat 50 = .ok (.iload 6, 2) := by decide +kernel
theorem dX3_paintCoat_52 : decode cX3_paintCoat 52 = .ok (.iload_n 3, 1) := by decide +kernel
theorem dX3_paintCoat_53 : decode cX3_paintCoat 53 = .ok (.invokevirtual 59, 3) := by decide +kernel
theorem dX3_paintCoat_56 : decode cX3_paintCoat 56 = .ok (.ifCond .eq 53, 3) := by decide +kernel
theorem dX3_paintCoat_59 : decode cX3_paintCoat 59 = .ok (.aload 4, 2) := by decide +kernel
theorem dX3_paintCoat_61 : decode cX3_paintCoat 61 = .ok (.getfield 63, 3) := by decide +kernel
theorem dX3_paintCoat_64 : decode cX3_paintCoat 64 = .ok (.iload 6, 2) := by decide +kernel
theorem dX3_paintCoat_66 : decode cX3_paintCoat 66 = .ok (.iaload, 1) := by decide +kernel
theorem dX3_paintCoat_67 : decode cX3_paintCoat 67 = .ok (.aload_n 1, 1) := by decide +kernel
theorem dX3_paintCoat_68 : decode cX3_paintCoat 68 = .ok (.getfield 66, 3) := by decide +kernel
theorem dX3_paintCoat_71 : decode cX3_paintCoat 71 = .ok (.iload_n 2, 1) := by decide +kernel
theorem dX3_paintCoat_72 : decode cX3_paintCoat 72 = .ok (.iaload, 1) := by decide +kernel
theorem dX3_paintCoat_73 : decode cX3_paintCoat 73 = .ok (.invokestatic 69, 3) := by decide +kernel
theorem dX3_paintCoat_76 : decode cX3_paintCoat 76 = .ok (.istore 7, 2) := by decide +kernel
theorem dX3_paintCoat_78 : decode cX3_paintCoat 78 = .ok (.aload 4, 2) := by decide +kernel
theorem dX3_paintCoat_80 : decode cX3_paintCoat 80 = .ok (.getfield 75, 3) := by decide +kernel
theorem dX3_paintCoat_83 : decode cX3_paintCoat 83 = .ok (.iload 6, 2) := by decide +kernel
theorem dX3_paintCoat_85 : decode cX3_paintCoat 85 = .ok (.iaload, 1) := by decide +kernel
theorem dX3_paintCoat_86 : decode cX3_paintCoat 86 = .ok (.aload_n 1, 1) := by decide +kernel
theorem dX3_paintCoat_87 : decode cX3_paintCoat 87 = .ok (.getfield 78, 3) := by decide +kernel
theorem dX3_paintCoat_90 : decode cX3_paintCoat 90 = .ok (.iload_n 2, 1) := by decide +kernel
theorem dX3_paintCoat_91 : decode cX3_paintCoat 91 = .ok (.iaload, 1) := by decide +kernel
theorem dX3_paintCoat_92 : decode cX3_paintCoat 92 = .ok (.invokestatic 81, 3) := by decide +kernel
theorem dX3_paintCoat_95 : decode cX3_paintCoat 95 = .ok (.istore 8, 2) := by decide +kernel
theorem dX3_paintCoat_97 : decode cX3_paintCoat 97 = .ok (.aload_n 0, 1) := by decide +kernel
theorem dX3_paintCoat_98 : decode cX3_paintCoat 98 = .ok (.aload 4, 2) := by decide +kernel
theorem dX3_paintCoat_100 : decode cX3_paintCoat 100 = .ok (.iload 6, 2) := by decide +kernel
theorem dX3_paintCoat_102 : decode cX3_paintCoat 102 = .ok (.iload 7, 2) := by decide +kernel
theorem dX3_paintCoat_104 : decode cX3_paintCoat 104 = .ok (.iload 8, 2) := by decide +kernel
theorem dX3_paintCoat_106 : decode cX3_paintCoat 106 = .ok (.invokevirtual 84, 3) := by decide +kernel
theorem dX3_paintCoat_109 : decode cX3_paintCoat 109 = .ok (.iinc 5 1, 3) := by decide +kernel
theorem dX3_paintCoat_112 : decode cX3_paintCoat 112 = .ok (.goto (-95), 3) := by decide +kernel
theorem dX3_paintCoat_115 : decode cX3_paintCoat 115 = .ok (.return_, 1) := by decide +kernel
theorem dX3_paintClause_0 : decode cX3_paintClause 0 = .ok (.iload_n 3, 1) := by decide +kernel
theorem dX3_paintClause_1 : decode cX3_paintClause 1 = .ok (.istore 5, 2) := by decide +kernel
theorem dX3_paintClause_3 : decode cX3_paintClause 3 = .ok (.iload 5, 2) := by decide +kernel
theorem dX3_paintClause_5 : decode cX3_paintClause 5 = .ok (.iload 4, 2) := by decide +kernel
theorem dX3_paintClause_7 : decode cX3_paintClause 7 = .ok (.if_icmp .gt 27, 3) := by decide +kernel
theorem dX3_paintClause_10 : decode cX3_paintClause 10 = .ok (.aload_n 1, 1) := by decide +kernel
theorem dX3_paintClause_11 : decode cX3_paintClause 11 = .ok (.iload_n 2, 1) := by decide +kernel
theorem dX3_paintClause_12 : decode cX3_paintClause 12 = .ok (.iload 5, 2) := by decide +kernel
theorem dX3_paintClause_14 : decode cX3_paintClause 14 = .ok (.invokevirtual 88, 3) := by decide +kernel
theorem dX3_paintClause_17 : decode cX3_paintClause 17 = .ok (.ifCond .ne 11, 3) := by decide +kernel
theorem dX3_paintClause_20 : decode cX3_paintClause 20 = .ok (.aload_n 0, 1) := by decide +kernel
theorem dX3_paintClause_21 : decode cX3_paintClause 21 = .ok (.getfield 15, 3) := by decide +kernel
theorem dX3_paintClause_24 : decode cX3_paintClause 24 = .ok (.iload 5, 2) := by decide +kernel
theorem dX3_paintClause_26 : decode cX3_paintClause 26 = .ok (.iload_n 2, 1) := by decide +kernel
theorem dX3_paintClause_27 : decode cX3_paintClause 27 = .ok (.iastore, 1) := by decide +kernel
theorem dX3_paintClause_28 : decode cX3_paintClause 28 = .ok (.iinc 5 1, 3) := by decide +kernel
theorem dX3_paintClause_31 : decode cX3_paintClause 31 = .ok (.goto (-28), 3) := by decide +kernel
theorem dX3_paintClause_34 : decode cX3_paintClause 34 = .ok (.return_, 1) := by decide +kernel
theorem dX3_layCoat_0 : decode cX3_layCoat 0 = .ok (.iconst 0, 1) := by decide +kernel
theorem dX3_layCoat_1 : decode cX3_layCoat 1 = .ok (.istore_n 2, 1) := by decide +kernel
theorem dX3_layCoat_2 : decode cX3_layCoat 2 = .ok (.iload_n 2, 1) := by decide +kernel
theorem dX3_layCoat_3 : decode cX3_layCoat 3 = .ok (.bipush 100, 2) := by decide +kernel
theorem dX3_layCoat_5 : decode cX3_layCoat 5 = .ok (.if_icmp .ge 36, 3) := by decide +kernel
theorem dX3_layCoat_8 : decode cX3_layCoat 8 = .ok (.aload_n 0, 1) := by decide +kernel
theorem dX3_layCoat_9 : decode cX3_layCoat 9 = .ok (.getfield 15, 3) := by decide +kernel
theorem dX3_layCoat_12 : decode cX3_layCoat 12 = .ok (.iload_n 2, 1) := by decide +kernel
theorem dX3_layCoat_13 : decode cX3_layCoat 13 = .ok (.iaload, 1) := by decide +kernel
theorem dX3_layCoat_14 : decode cX3_layCoat 14 = .ok (.istore_n 3, 1) := by decide +kernel
theorem dX3_layCoat_15 : decode cX3_layCoat 15 = .ok (.iload_n 3, 1) := by decide +kernel
theorem dX3_layCoat_16 : decode cX3_layCoat 16 = .ok (.iconst (-1), 1) := by decide +kernel
theorem dX3_layCoat_17 : decode cX3_layCoat 17 = .ok (.if_icmp .eq 18, 3) := by decide +kernel
theorem dX3_layCoat_20 : decode cX3_layCoat 20 = .ok (.aload_n 1, 1) := by decide +kernel
theorem dX3_layCoat_21 : decode cX3_layCoat 21 = .ok (.iload_n 3, 1) := by decide +kernel
theorem dX3_layCoat_22 : decode cX3_layCoat 22 = .ok (.invokevirtual 91, 3) := by decide +kernel
theorem dX3_layCoat_25 : decode cX3_layCoat 25 = .ok (.ifCond .eq 10, 3) := by decide +kernel
theorem dX3_layCoat_28 : decode cX3_layCoat 28 = .ok (.aload_n 0, 1) := by decide +kernel
theorem dX3_layCoat_29 : decode cX3_layCoat 29 = .ok (.getfield 9, 3) := by decide +kernel
theorem dX3_layCoat_32 : decode cX3_layCoat 32 = .ok (.iload_n 2, 1) := by decide +kernel
theorem dX3_layCoat_33 : decode cX3_layCoat 33 = .ok (.iload_n 3, 1) := by decide +kernel
theorem dX3_layCoat_34 : decode cX3_layCoat 34 = .ok (.iastore, 1) := by decide +kernel
theorem dX3_layCoat_35 : decode cX3_layCoat 35 = .ok (.iinc 2 1, 3) := by decide +kernel
theorem dX3_layCoat_38 : decode cX3_layCoat 38 = .ok (.goto (-36), 3) := by decide +kernel
theorem dX3_layCoat_41 : decode cX3_layCoat 41 = .ok (.return_, 1) := by decide +kernel
theorem dX4_init_0 : decode cX4_init 0 = .ok (.aload_n 0, 1) := by decide +kernel
theorem dX4_init_1 : decode cX4_init 1 = .ok (.invokespecial 3, 3) := by decide +kernel
theorem dX4_init_4 : decode cX4_init 4 = .ok (.aload_n 0, 1) := by decide +kernel
theorem dX4_init_5 : decode cX4_init 5 = .ok (.bipush 80, 2) := by decide +kernel
theorem dX4_init_7 : decode cX4_init 7 = .ok (.newarray .char, 2) := by decide +kernel
theorem dX4_init_9 : decode cX4_init 9 = .ok (.putfield 9, 3) := by decide +kernel
theorem dX4_init_12 : decode cX4_init 12 = .ok (.aload_n 0, 1) := by decide +kernel
theorem dX4_init_13 : decode cX4_init 13 = .ok (.iconst 0, 1) := by decide +kernel
theorem dX4_init_14 : decode cX4_init 14 = .ok (.putfield 15, 3) := by decide +kernel
theorem dX4_init_17 : decode cX4_init 17 = .ok (.aload_n 0, 1) := by decide +kernel
theorem dX4_init_18 : decode cX4_init 18 = .ok (.iconst 0, 1) := by decide +kernel
theorem dX4_init_19 : decode cX4_init 19 = .ok (.putfield 19, 3) := by decide +kernel
theorem dX4_init_22 : decode cX4_init 22 = .ok (.aload_n 0, 1) := by decide +kernel
theorem dX4_init_23 : decode cX4_init 23 = .ok (.iconst 0, 1) := by decide +kernel
theorem dX4_init_24 : decode cX4_init 24 = .ok (.putfield 22, 3) := by decide +kernel
theorem dX4_init_27 : decode cX4_init 27 = .ok (.aload_n 0, 1) := by decide +kernel
theorem dX4_init_28 : decode cX4_init 28 = .ok (.iconst 0, 1) := by decide +kernel
theorem dX4_init_29 : decode cX4_init 29 = .ok (.putfield 25, 3) := by decide +kernel
theorem dX4_init_32 : decode cX4_init 32 = .ok (.aload_n 0, 1) := by decide +kernel
theorem dX4_init_33 : decode cX4_init 33 = .ok (.iconst 0, 1) := by decide +kernel
theorem dX4_init_34 : decode cX4_init 34 = .ok (.putfield 28, 3) := by decide +kernel
theorem dX4_init_37 : decode cX4_init 37 = .ok (.return_, 1) := by decide +kernel
theorem dX4_add_0 : decode cX4_add 0 = .ok (.aload_n 0, 1) := by decide +kernel
theorem dX4_add_1 : decode cX4_add 1 = .ok (.getfield 15, 3) := by decide +kernel
theorem dX4_add_4 : decode cX4_add 4 = .ok (.bipush 80, 2) := by decide +kernel
theorem dX4_add_6 : decode cX4_add 6 = .ok (.if_icmp .ge 23, 3) := by decide +kernel
theorem dX4_add_9 : decode cX4_add 9 = .ok (.aload_n 0, 1) := by decide +kernel
theorem dX4_add_10 : decode cX4_add 10 = .ok (.getfield 9, 3) := by decide +kernel
theorem dX4_add_13 : decode cX4_add 13 = .ok (.aload_n 0, 1) := by decide +kernel
theorem dX4_add_14 : decode cX4_add 14 = .ok (.getfield 15, 3) := by decide +kernel
theorem dX4_add_17 : decode cX4_add 17 = .ok (.iload_n 1, 1) := by decide +kernel
theorem dX4_add_18 : decode cX4_add 18 = .ok (.castore, 1) := by decide +kernel
theorem dX4_add_19 : decode cX4_add 19 = .ok (.aload_n 0, 1) := by decide +kernel
theorem dX4_add_20 : decode cX4_add 20 = .ok (.dup, 1) := by decide +kernel
theorem dX4_add_21 : decode cX4_add 21 = .ok (.getfield 15, 3) := by decide +kernel
theorem dX4_add_24 : decode cX4_add 24 = .ok (.iconst 1, 1) := by decide +kernel
theorem dX4_add_25 : decode cX4_add 25 = .ok (.iadd, 1) := by decide +kernel
theorem dX4_add_26 : decode cX4_add 26 = .ok (.putfield 15, 3) := by decide +kernel
theorem dX4_add_29 : decode cX4_add 29 = .ok (.return_, 1) := by decide +kernel
theorem dX4_readClauses_0 : decode cX4_readClauses 0 = .ok (.aload_n 0, 1) := by decide +kernel
theorem dX4_readClauses_1 : decode cX4_readClauses 1 = .ok (.iconst 0, 1) := by decide +kernel
theorem dX4_readClauses_2 : decode cX4_readClauses 2 = .ok (.putfield 19, 3) := by decide +kernel
theorem dX4_readClauses_5 : decode cX4_readClauses 5 = .ok (.aload_n 1, 1) := by decide +kernel
theorem dX4_readClauses_6 : decode cX4_readClauses 6 = .ok (.iconst 0, 1) := by decide +kernel
theorem dX4_readClauses_7 : decode cX4_readClauses 7 = .ok (.putfield 31, 3) := by decide +kernel
theorem dX4_readClauses_10 : decode cX4_readClauses 10 = .ok (.iconst 0, 1) := by decide +kernel
theorem dX4_readClauses_11 : decode cX4_readClauses 11 = .ok (.istore_n 2, 1) := by decide +kernel
theorem dX4_readClauses_12 : decode cX4_readClauses 12 = .ok (.iload_n 2, 1) := by decide +kernel
theorem dX4_readClauses_13 : decode cX4_readClauses 13 = .ok (.bipush 80, 2) := by decide +kernel
theorem dX4_readClauses_15 : decode cX4_readClauses 15 = .ok (.if_icmp .gt 43, 3) := by decide +kernel
theorem dX4_readClauses_18 : decode cX4_readClauses 18 = .ok (.aload_n 0, 1) := by decide +kernel
theorem dX4_readClauses_19 : decode cX4_readClauses 19 = .ok (.aload_n 1, 1) := by decide +kernel
theorem dX4_readClauses_20 : decode cX4_readClauses 20 = .ok (.invokevirtual 36, 3) := by decide +kernel
theorem dX4_readClauses_23 : decode cX4_readClauses 23 = .ok (.ifCond .ne 5, 3) := by decide +kernel
theorem dX4_readClauses_26 : decode cX4_readClauses 26 = .ok (.iconst 0, 1) := by decide +kernel
theorem dX4_readClauses_27 : decode cX4_readClauses 27 = .ok (.ireturn, 1) := by decide +kernel
theorem dX4_readClauses_28 : decode cX4_readClauses 28 = .ok (.aload_n 0, 1) := by decide +kernel
theorem dX4_readClauses_29 : decode cX4_readClauses 29 = .ok (.getfield 19, 3) := by decide +kernel
theorem dX4_readClauses_32 : decode cX4_readClauses 32 = .ok (.aload_n 0, 1) := by decide +kernel
theorem dX4_readClauses_33 : decode cX4_readClauses 33 = .ok (.getfield 15, 3) := by decide +kernel
theorem dX4_readClauses_36 : decode cX4_readClauses 36 = .ok (.if_icmp .ne 5, 3) := by decide +kernel
theorem dX4_readClauses_39 : decode cX4_readClauses 39 = .ok (.iconst 1, 1) := by decide +kernel
theorem dX4_readClauses_40 : decode cX4_readClauses 40 = .ok (.ireturn, 1) := by decide +kernel
theorem dX4_readClauses_41 : decode cX4_readClauses 41 = .ok (.aload_n 0, 1) := by decide +kernel
theorem dX4_readClauses_42 : decode cX4_readClauses 42 = .ok (.bipush 59, 2) := by decide +kernel
theorem dX4_readClauses_44 : decode cX4_readClauses 44 = .ok (.invokevirtual 40, 3) := by decide +kernel
theorem dX4_readClauses_47 : decode cX4_readClauses 47 = .ok (.ifCond .ne 5, 3) := by decide +kernel
theorem dX4_readClauses_50 : decode cX4_readClauses 50 = .ok (.iconst 0, 1) := by decide +kernel
theorem dX4_readClauses_51 : decode cX4_readClauses 51 = .ok (.ireturn, 1) := by decide +kernel
theorem dX4_readClauses_52 : decode cX4_readClauses 52 = .ok (.iinc 2 1, 3) := by decide +kernel
theorem dX4_readClauses_55 : decode cX4_readClauses 55 = .ok (.goto (-43), 3) := by decide +kernel
theorem dX4_readClauses_58 : decode cX4_readClauses 58 = .ok (.iconst 0, 1) := by decide +kernel
theorem dX4_readClauses_59 : decode cX4_readClauses 59 = .ok (.ireturn, 1) := by decide +kernel
theorem dX4_readClause_0 : decode cX4_readClause 0 = .ok (.aload_n 0, 1) := by decide +kernel
theorem dX4_readClause_1 : decode cX4_readClause 1 = .ok (.iconst 5, 1) := by decide +kernel
theorem dX4_readClause_2 : decode cX4_readClause 2 = .ok (.invokevirtual 44, 3) := by decide +kernel
theorem dX4_readClause_5 : decode cX4_readClause 5 = .ok (.ifCond .ne 5, 3) := by decide +kernel
theorem dX4_readClause_8 : decode cX4_readClause 8 = .ok (.iconst 0, 1) := by decide +kernel
theorem dX4_readClause_9 : decode cX4_readClause 9 = .ok (.ireturn, 1) := by decide +kernel
theorem dX4_readClause_10 : decode cX4_readClause 10 = .ok (.aload_n 0, 1) := by decide +kernel
theorem dX4_readClause_11 : decode cX4_readClause 11 = .ok (.getfield 22, 3) := by decide +kernel
theorem dX4_readClause_14 : decode cX4_readClause 14 = .ok (.istore_n 2, 1) := by decide +kernel
theorem dX4_readClause_15 : decode cX4_readClause 15 = .ok (.aload_n 0, 1) := by decide +kernel
theorem dX4_readClause_16 : decode cX4_readClause 16 = .ok (.bipush 64, 2) := by decide +kernel
theorem dX4_readClause_18 : decode cX4_readClause 18 = .ok (.invokevirtual 40, 3) := by decide +kernel
theorem dX4_readClause_21 : decode cX4_readClause 21 = .ok (.ifCond .eq 13, 3) := by decide +kernel
theorem dX4_readClause_24 : decode cX4_readClause 24 = .ok (.aload_n 0, 1) := by decide +kernel
theorem dX4_readClause_25 : decode cX4_readClause 25 = .ok (.sipush 999, 3) := by decide +kernel
theorem dX4_readClause_28 : decode cX4_readClause 28 = .ok (.invokevirtual 44, 3) := by decide +kernel
theorem dX4_readClause_31 : decode cX4_readClause 31 = .ok (.ifCond .ne 5, 3) := by decide +kernel
theorem dX4_readClause_34 : decode cX4_readClause 34 = .ok (.iconst 0, 1) := by decide +kernel
theorem dX4_readClause_35 : decode cX4_readClause 35 = .ok (.ireturn, 1) := by decide +kernel
theorem dX4_readClause_36 : decode cX4_readClause 36 = .ok (.aload_n 0, 1) := by decide +kernel
theorem dX4_readClause_37 : decode cX4_readClause 37 = .ok (.getfield 22, 3) := by decide +kernel
theorem dX4_readClause_40 : decode cX4_readClause 40 = .ok (.istore_n 3, 1) := by decide +kernel
theorem dX4_readClause_41 : decode cX4_readClause 41 = .ok (.aload_n 0, 1) := by decide +kernel
theorem dX4_readClause_42 : decode cX4_readClause 42 = .ok (.bipush 58, 2) := by decide +kernel
theorem dX4_readClause_44 : decode cX4_readClause 44 = .ok (.invokevirtual 40, 3) := by decide +kernel
theorem dX4_readClause_47 : decode cX4_readClause 47 = .ok (.ifCond .eq 28, 3) := by decide +kernel
theorem dX4_readClause_50 : decode cX4_readClause 50 = .ok (.aload_n 0, 1) := by decide +kernel
theorem dX4_readClause_51 : decode cX4_readClause 51 = .ok (.invokevirtual 48, 3) := by decide +kernel
theorem dX4_readClause_54 : decode cX4_readClause 54 = .ok (.ifCond .eq 21, 3) := by decide +kernel
theorem dX4_readClause_57 : decode cX4_readClause 57 = .ok (.aload_n 0, 1) := by decide +kernel
theorem dX4_readClause_58 : decode cX4_readClause 58 = .ok (.bipush 61, 2) := by decide +kernel
theorem dX4_readClause_60 : decode cX4_readClause 60 = .ok (.invokevirtual 40, 3) := by decide +kernel
theorem dX4_readClause_63 : decode cX4_readClause 63 = .ok (.ifCond .eq 12, 3) := by decide +kernel
theorem dX4_readClause_66 : decode cX4_readClause 66 = .ok (.aload_n 0, 1) := by decide +kernel
theorem dX4_readClause_67 : decode cX4_readClause 67 = .ok (.bipush 9, 2) := by decide +kernel
theorem dX4_readClause_69 : decode cX4_readClause 69 = .ok (.invokevirtual 44, 3) := by decide +kernel
theorem dX4_readClause_72 : decode cX4_readClause 72 = .ok (.ifCond .ne 5, 3) := by decide +kernel
theorem dX4_readClause_75 : decode cX4_readClause 75 = .ok (.iconst 0, 1) := by decide +kernel
theorem dX4_readClause_76 : decode cX4_readClause 76 = .ok (.ireturn, 1) := by decide +kernel
theorem dX4_readClause_77 : decode cX4_readClause 77 = .ok (.aload_n 1, 1) := by decide +kernel
theorem dX4_readClause_78 : decode cX4_readClause 78 = .ok (.iload_n 2, 1) := by decide +kernel
theorem dX4_readClause_79 : decode cX4_readClause 79 = .ok (.iload_n 3, 1) := by decide +kernel
theorem dX4_readClause_80 : decode cX4_readClause 80 = .ok (.aload_n 0, 1) := by decide +kernel
theorem dX4_readClause_81 : decode cX4_readClause 81 = .ok (.getfield 25, 3) := by decide +kernel
theorem dX4_readClause_84 : decode cX4_readClause 84 = .ok (.aload_n 0, 1) := by decide +kernel
theorem dX4_readClause_85 : decode cX4_readClause 85 = .ok (.getfield 28, 3) := by decide +kernel
theorem dX4_readClause_88 : decode cX4_readClause 88 = .ok (.aload_n 0, 1) := by decide +kernel
theorem dX4_readClause_89 : decode cX4_readClause 89 = .ok (.getfield 22, 3) := by decide +kernel
theorem dX4_readClause_92 : decode cX4_readClause 92 = .ok (.invokevirtual 52, 3) := by decide +kernel
theorem dX4_readClause_95 : decode cX4_readClause 95 = .ok (.istore 4, 2) := by decide +kernel
theorem dX4_readClause_97 : decode cX4_readClause 97 = .ok (.aload_n 0, 1) := by decide +kernel
theorem dX4_readClause_98 : decode cX4_readClause 98 = .ok (.bipush 33, 2) := by decide +kernel
theorem dX4_readClause_100 : decode cX4_readClause 100 = .ok (.invokevirtual 40, 3) := by decide +kernel
theorem dX4_readClause_103 : decode cX4_readClause 103 = .ok (.ifCond .eq 13, 3) := by decide +kernel
theorem dX4_readClause_106 : decode cX4_readClause 106 = .ok (.aload_n 0, 1) := by decide +kernel
theorem dX4_readClause_107 : decode cX4_readClause 107 = .ok (.aload_n 1, 1) := by decide +kernel
theorem dX4_readClause_108 : decode cX4_readClause 108 = .ok (.iload 4, 2) := by decide +kernel
theorem dX4_readClause_110 : decode cX4_readClause 110 = .ok (.invokevirtual 56, 3) := by decide +kernel
theorem dX4_readClause_113 : decode cX4_readClause 113 = .ok (.ifCond .eq 7, 3) := by decide +kernel
theorem dX4_readClause_116 : decode cX4_readClause 116 = .ok (.iconst 1, 1) := by decide +kernel
theorem dX4_readClause_117 : decode cX4_readClause 117 = .ok (.goto 4, 3) := by decide +kernel
theorem dX4_readClause_120 : decode cX4_readClause 120 = .ok (.iconst 0, 1) := by decide +kernel
theorem dX4_readClause_121 : decode cX4_readClause 121 = .ok (.ireturn, 1) := by decide +kernel
theorem dX4_readExceptions_0 : decode cX4_readExceptions 0 = .ok (.iconst 0, 1) := by decide +kernel
theorem dX4_readExceptions_1 : decode cX4_readExceptions 1 = .ok (.istore_n 3, 1) := by decide +kernel
theorem dX4_readExceptions_2 : decode cX4_readExceptions 2 = .ok (.iload_n 3, 1) := by decide +kernel
theorem dX4_readExceptions_3 : decode cX4_readExceptions 3 = .ok (.iconst 3, 1) := by decide +kernel
theorem dX4_readExceptions_4 : decode cX4_readExceptions 4 = .ok (.if_icmp .ge 46, 3) := by decide +kernel
theorem dX4_readExceptions_7 : decode cX4_readExceptions 7 = .ok (.iload_n 3, 1) := by decide +kernel
theorem dX4_readExceptions_8 : decode cX4_readExceptions 8 = .ok (.ifCond .le 14, 3) := by decide +kernel
theorem dX4_readExceptions_11 : decode cX4_readExceptions 11 = .ok (.aload_n 0, 1) := by decide +kernel
theorem dX4_readExceptions_12 : decode cX4_readExceptions 12 = .ok (.bipush 44, 2) := by decide +kernel
theorem dX4_readExceptions_14 : decode cX4_readExceptions 14 = .ok (.invokevirtual 40, 3) := by decide +kernel
theorem dX4_readExceptions_17 : decode cX4_readExceptions 17 = .ok (.ifCond .ne 5, 3) := by decide +kernel
theorem dX4_readExceptions_20 : decode cX4_readExceptions 20 = .ok (.iconst 1, 1) := by decide +kernel
theorem dX4_readExceptions_21 : decode cX4_readExceptions 21 = .ok (.ireturn, 1) := by decide +kernel
theorem dX4_readExceptions_22 : decode cX4_readExceptions 22 = .ok (.aload_n 0, 1) := by decide +kernel
theorem dX4_readExceptions_23 : decode cX4_readExceptions 23 = .ok (.invokevirtual 48, 3) := by decide +kernel
theorem dX4_readExceptions_26 : decode cX4_readExceptions 26 = .ok (.ifCond .ne 5, 3) := by decide +kernel
theorem dX4_readExceptions_29 : decode cX4_readExceptions 29 = .ok (.iconst 0, 1) := by decide +kernel
theorem dX4_readExceptions_30 : decode cX4_readExceptions 30 = .ok (.ireturn, 1) := by decide +kernel
theorem dX4_readExceptions_31 : decode cX4_readExceptions 31 = .ok (.aload_n 1, 1) := by decide +kernel
theorem dX4_readExceptions_32 : decode cX4_readExceptions 32 = .ok (.iload_n 2, 1) := by decide +kernel
theorem dX4_readExceptions_33 : decode cX4_readExceptions 33 = .ok (.aload_n 0, 1) := by decide +kernel
theorem dX4_readExceptions_34 : decode cX4_readExceptions 34 = .ok (.getfield 25, 3) := by decide +kernel
theorem dX4_readExceptions_37 : decode cX4_readExceptions 37 = .ok (.aload_n 0, 1) := by decide +kernel
theorem dX4_readExceptions_38 : decode cX4_readExceptions 38 = .ok (.getfield 28, 3) := by decide +kernel
theorem dX4_readExceptions_41 : decode cX4_readExceptions 41 = .ok (.invokevirtual 60, 3) := by decide +kernel
theorem dX4_readExceptions_44 : decode cX4_readExceptions 44 = .ok (.iinc 3 1, 3) := by decide +kernel
theorem dX4_readExceptions_47 : decode cX4_readExceptions 47 = .ok (.goto (-45), 3) := by decide +kernel
theorem dX4_readExceptions_50 : decode cX4_readExceptions 50 = .ok (.iconst 1, 1) := by decide +kernel
theorem dX4_readExceptions_51 : decode cX4_readExceptions 51 = .ok (.ireturn, 1) := by decide +kernel
theorem dX4_readSpan_0 : decode cX4_readSpan 0 = .ok (.aload_n 0, 1) := by decide +kernel
theorem dX4_readSpan_1 : decode cX4_readSpan 1 = .ok (.bipush 99, 2) := by decide +kernel
theorem dX4_readSpan_3 : decode cX4_readSpan 3 = .ok (.invokevirtual 44, 3) := by decide +kernel
theorem dX4_readSpan_6 : decode cX4_readSpan 6 = .ok (.ifCond .ne 5, 3) := by decide +kernel
theorem dX4_readSpan_9 : decode cX4_readSpan 9 = .ok (.iconst 0, 1) := by decide +kernel
theorem dX4_readSpan_10 : decode cX4_readSpan 10 = .ok (.ireturn, 1) := by decide +kernel
theorem dX4_readSpan_11 : decode cX4_readSpan 11 = .ok (.aload_n 0, 1) := by decide +kernel
theorem dX4_readSpan_12 : decode cX4_readSpan 12 = .ok (.aload_n 0, 1) := by decide +kernel
theorem dX4_readSpan_13 : decode cX4_readSpan 13 = .ok (.getfield 22, 3) := by decide +kernel
theorem dX4_readSpan_16 : decode cX4_readSpan 16 = .ok (.putfield 25, 3) := by decide +kernel
theorem dX4_readSpan_19 : decode cX4_readSpan 19 = .ok (.aload_n 0, 1) := by decide +kernel
theorem dX4_readSpan_20 : decode cX4_readSpan 20 = .ok (.bipush 45, 2) := by decide +kernel
theorem dX4_readSpan_22 : decode cX4_readSpan 22 = .ok (.invokevirtual 40, 3) := by decide +kernel
theorem dX4_readSpan_25 : decode cX4_readSpan 25 = .ok (.ifCond .eq 12, 3) := by decide +kernel
theorem dX4_readSpan_28 : decode cX4_readSpan 28 = .ok (.aload_n 0, 1) := by decide +kernel
theorem dX4_readSpan_29 : decode cX4_readSpan 29 = .ok (.bipush 99, 2) := by decide +kernel
theorem dX4_readSpan_31 : decode cX4_readSpan 31 = .ok (.invokevirtual 44, 3) := by decide +kernel
theorem dX4_readSpan_34 : decode cX4_readSpan 34 = .ok (.ifCond .ne 5, 3) := by decide +kernel
theorem dX4_readSpan_37 : decode cX4_readSpan 37 = .ok (.iconst 0, 1) := by decide +kernel
theorem dX4_readSpan_38 : decode cX4_readSpan 38 = .ok (.ireturn, 1) := by decide +kernel
theorem dX4_readSpan_39 : decode cX4_readSpan 39 = .ok (.aload_n 0, 1) := by decide +kernel
theorem dX4_readSpan_40 : decode cX4_readSpan 40 = .ok (.aload_n 0, 1) := by decide +kernel
theorem dX4_readSpan_41 : decode cX4_readSpan 41 = .ok (.getfield 22, 3) := by decide +kernel
theorem dX4_readSpan_44 : decode cX4_readSpan 44 = .ok (.putfield 28, 3) := by decide +kernel
theorem dX4_readSpan_47 : decode cX4_readSpan 47 = .ok (.iconst 1, 1) := by decide +kernel
theorem dX4_readSpan_48 : decode cX4_readSpan 48 = .ok (.ireturn, 1) := by decide +kernel
theorem dX4_readSign_0 : decode cX4_readSign 0 = .ok (.aload_n 0, 1) := by decide +kernel
theorem dX4_readSign_1 : decode cX4_readSign 1 = .ok (.getfield 19, 3) := by decide +kernel
theorem dX4_readSign_4 : decode cX4_readSign 4 = .ok (.aload_n 0, 1) := by decide +kernel
theorem dX4_readSign_5 : decode cX4_readSign 5 = .ok (.getfield 15, 3) := by decide +kernel
theorem dX4_readSign_8 : decode cX4_readSign 8 = .ok (.if_icmp .ge 16, 3) := by decide +kernel
theorem dX4_readSign_11 : decode cX4_readSign 11 = .ok (.aload_n 0, 1) := by decide +kernel
theorem dX4_readSign_12 : decode cX4_readSign 12 = .ok (.getfield 9, 3) := by decide +kernel
theorem dX4_readSign_15 : decode cX4_readSign 15 = .ok (.aload_n 0, 1) := by decide +kernel
theorem dX4_readSign_16 : decode cX4_readSign 16 = .ok (.getfield 19, 3) := by decide +kernel
theorem dX4_readSign_19 : decode cX4_readSign 19 = .ok (.caload, 1) := by decide +kernel
theorem dX4_readSign_20 : decode cX4_readSign 20 = .ok (.iload_n 1, 1) := by decide +kernel
theorem dX4_readSign_21 : decode cX4_readSign 21 = .ok (.if_icmp .eq 5, 3) := by decide +kernel
theorem dX4_readSign_24 : decode cX4_readSign 24 = .ok (.iconst 0, 1) := by decide +kernel
theorem dX4_readSign_25 : decode cX4_readSign 25 = .ok (.ireturn, 1) := by decide +kernel
theorem dX4_readSign_26 : decode cX4_readSign 26 = .ok (.aload_n 0, 1) := by decide +kernel
theorem dX4_readSign_27 : decode cX4_readSign 27 = .ok (.dup, 1) := by decide +kernel
theorem dX4_readSign_28 : decode cX4_readSign 28 = .ok (.getfield 19, 3) := by decide +kernel
theorem dX4_readSign_31 : decode cX4_readSign 31 = .ok (.iconst 1, 1) := by decide +kernel
theorem dX4_readSign_32 : decode cX4_readSign 32 = .ok (.iadd, 1) := by decide +kernel
theorem dX4_readSign_33 : decode cX4_readSign 33 = .ok (.putfield 19, 3) := by decide +kernel
theorem dX4_readSign_36 : decode cX4_readSign 36 = .ok (.iconst 1, 1) := by decide +kernel
theorem dX4_readSign_37 : decode cX4_readSign 37 = .ok (.ireturn, 1) := by decide +kernel
theorem dX4_readNumber_0 : decode cX4_readNumber 0 = .ok (.aload_n 0, 1) := by decide +kernel
theorem dX4_readNumber_1 : decode cX4_readNumber 1 = .ok (.invokevirtual 64, 3) := by decide +kernel
theorem dX4_readNumber_4 : decode cX4_readNumber 4 = .ok (.istore_n 2, 1) := by decide +kernel
theorem dX4_readNumber_5 : decode cX4_readNumber 5 = .ok (.iload_n 2, 1) := by decide +kernel
theorem dX4_readNumber_6 : decode cX4_readNumber 6 = .ok (.ifCond .lt 8, 3) := by decide +kernel
theorem dX4_readNumber_9 : decode cX4_readNumber 9 = .ok (.iload_n 2, 1) := by decide +kernel
theorem dX4_readNumber_10 : decode cX4_readNumber 10 = .ok (.iload_n 1, 1) := by decide +kernel
theorem dX4_readNumber_11 : decode cX4_readNumber 11 = .ok (.if_icmp .le 5, 3) := by decide +kernel
theorem dX4_readNumber_14 : decode cX4_readNumber 14 = .ok (.iconst 0, 1) := by decide +kernel
theorem dX4_readNumber_15 : decode cX4_readNumber 15 = .ok (.ireturn, 1) := by decide +kernel
theorem dX4_readNumber_16 : decode cX4_readNumber 16 = .ok (.aload_n 0, 1) := by decide +kernel
theorem dX4_readNumber_17 : decode cX4_readNumber 17 = .ok (.iload_n 2, 1) := by decide +kernel
theorem dX4_readNumber_18 : decode cX4_readNumber 18 = .ok (.putfield 22, 3) := by decide +kernel
theorem dX4_readNumber_21 : decode cX4_readNumber 21 = .ok (.aload_n 0, 1) := by decide +kernel
theorem dX4_readNumber_22 : decode cX4_readNumber 22 = .ok (.dup, 1) := by decide +kernel
theorem dX4_readNumber_23 : decode cX4_readNumber 23 = .ok (.getfield 19, 3) := by decide +kernel
theorem dX4_readNumber_26 : decode cX4_readNumber 26 = .ok (.iconst 1, 1) := by decide +kernel
theorem dX4_readNumber_27 : decode cX4_readNumber 27 = .ok (.iadd, 1) := by decide +kernel
theorem dX4_readNumber_28 : decode cX4_readNumber 28 = .ok (.putfield 19, 3) := by decide +kernel
theorem dX4_readNumber_31 : decode cX4_readNumber 31 = .ok (.aload_n 0, 1) := by decide +kernel
theorem dX4_readNumber_32 : decode cX4_readNumber 32 = .ok (.getfield 19, 3) := by decide +kernel
theorem dX4_readNumber_35 : decode cX4_readNumber 35 = .ok (.aload_n 0, 1) := by decide +kernel
theorem dX4_readNumber_36 : decode cX4_readNumber 36 = .ok (.getfield 15, 3) := by decide +kernel
theorem dX4_readNumber_39 : decode cX4_readNumber 39 = .ok (.if_icmp .ge 60, 3) := by decide +kernel
theorem dX4_readNumber_42 : decode cX4_readNumber 42 = .ok (.aload_n 0, 1) := by decide +kernel
theorem dX4_readNumber_43 : decode cX4_readNumber 43 = .ok (.getfield 22, 3) := by decide +kernel
theorem dX4_readNumber_46 : decode cX4_readNumber 46 = .ok (.ifCond .le 53, 3) := by decide +kernel
theorem dX4_readNumber_49 : decode cX4_readNumber 49 = .ok (.aload_n 0, 1) := by decide +kernel
theorem dX4_readNumber_50 : decode cX4_readNumber 50 = .ok (.invokevirtual 64, 3) := by decide +kernel
theorem dX4_readNumber_53 : decode cX4_readNumber 53 = .ok (.istore_n 2, 1) := by decide +kernel
theorem dX4_readNumber_54 : decode cX4_readNumber 54 = .ok (.iload_n 2, 1) := by decide +kernel
theorem dX4_readNumber_55 : decode cX4_readNumber 55 = .ok (.ifCond .lt 16, 3) := by decide +kernel
theorem dX4_readNumber_58 : decode cX4_readNumber 58 = .ok (.aload_n 0, 1) := by decide +kernel
theorem dX4_readNumber_59 : decode cX4_readNumber 59 = .ok (.getfield 22, 3) := by decide +kernel
theorem dX4_readNumber_62 : decode cX4_readNumber 62 = .ok (.bipush 10, 2) := by decide +kernel
theorem dX4_readNumber_64 : decode cX4_readNumber 64 = .ok (.imul, 1) := by decide +kernel
theorem dX4_readNumber_65 : decode cX4_readNumber 65 = .ok (.iload_n 2, 1) := by decide +kernel
theorem dX4_readNumber_66 : decode cX4_readNumber 66 = .ok (.iadd, 1) := by decide +kernel
theorem dX4_readNumber_67 : decode cX4_readNumber 67 = .ok (.iload_n 1, 1) := by decide +kernel
theorem dX4_readNumber_68 : decode cX4_readNumber 68 = .ok (.if_icmp .le 5, 3) := by decide +kernel
theorem dX4_readNumber_71 : decode cX4_readNumber 71 = .ok (.iconst 1, 1) := by decide +kernel
theorem dX4_readNumber_72 : decode cX4_readNumber 72 = .ok (.ireturn, 1) := by decide +kernel
theorem dX4_readNumber_73 : decode cX4_readNumber 73 = .ok (.aload_n 0, 1) := by decide +kernel
theorem dX4_readNumber_74 : decode cX4_readNumber 74 = .ok (.aload_n 0, 1) := by decide +kernel
theorem dX4_readNumber_75 : decode cX4_readNumber 75 = .ok (.getfield 22, 3) := by decide +kernel
theorem dX4_readNumber_78 : decode cX4_readNumber 78 = .ok (.bipush 10, 2) := by decide +kernel
theorem dX4_readNumber_80 : decode cX4_readNumber 80 = .ok (.imul, 1) := by decide +kernel
theorem dX4_readNumber_81 : decode cX4_readNumber 81 = .ok (.iload_n 2, 1) := by decide +kernel
theorem dX4_readNumber_82 : decode cX4_readNumber 82 = .ok (.iadd, 1) := by decide +kernel
theorem dX4_readNumber_83 : decode cX4_readNumber 83 = .ok (.putfield 22, 3) := by decide +kernel
theorem dX4_readNumber_86 : decode cX4_readNumber 86 = .ok (.aload_n 0, 1) := by decide +kernel
theorem dX4_readNumber_87 : decode cX4_readNumber 87 = .ok (.dup, 1) := by decide +kernel
theorem dX4_readNumber_88 : decode cX4_readNumber 88 = .ok (.getfield 19, 3) := by decide +kernel
theorem dX4_readNumber_91 : decode cX4_readNumber 91 = .ok (.iconst 1, 1) := by decide +kernel
theorem dX4_readNumber_92 : decode cX4_readNumber 92 = .ok (.iadd, 1) := by decide +kernel
theorem dX4_readNumber_93 : decode cX4_readNumber 93 = .ok (.putfield 19, 3) := by decide +kernel
theorem dX4_readNumber_96 : decode cX4_readNumber 96 = .ok (.goto (-65), 3) := by decide +kernel
theorem dX4_readNumber_99 : decode cX4_readNumber 99 = .ok (.iconst 1, 1) := by decide +kernel
theorem dX4_readNumber_100 : decode cX4_readNumber 100 = .ok (.ireturn, 1) := by decide +kernel
theorem dX4_digitHere_0 : decode cX4_digitHere 0 = .ok (.aload_n 0, 1) := by decide +kernel
theorem dX4_digitHere_1 : decode cX4_digitHere 1 = .ok (.getfield 19, 3) := by decide +kernel
theorem dX4_digitHere_4 : decode cX4_digitHere 4 = .ok (.aload_n 0, 1) := by decide +kernel
theorem dX4_digitHere_5 : decode cX4_digitHere 5 = .ok (.getfield 15, 3) := by decide +kernel
theorem dX4_digitHere_8 : decode cX4_digitHere 8 = .ok (.if_icmp .lt 5, 3) := by decide +kernel
theorem dX4_digitHere_11 : decode cX4_digitHere 11 = .ok (.iconst (-1), 1) := by decide +kernel
theorem dX4_digitHere_12 : decode cX4_digitHere 12 = .ok (.ireturn, 1) := by decide +kernel
theorem dX4_digitHere_13 : decode cX4_digitHere 13 = .ok (.aload_n 0, 1) := by decide +kernel
theorem dX4_digitHere_14 : decode cX4_digitHere 14 = .ok (.getfield 9, 3) := by decide +kernel
theorem dX4_digitHere_17 : decode cX4_digitHere 17 = .ok (.aload_n 0, 1) := by decide +kernel
theorem dX4_digitHere_18 : decode cX4_digitHere 18 = .ok (.getfield 19, 3) := by decide +kernel
theorem dX4_digitHere_21 : decode cX4_digitHere 21 = .ok (.caload, 1) := by decide +kernel
theorem dX4_digitHere_22 : decode cX4_digitHere 22 = .ok (.istore_n 1, 1) := by decide +kernel
theorem dX4_digitHere_23 : decode cX4_digitHere 23 = .ok (.iload_n 1, 1) := by decide +kernel
theorem dX4_digitHere_24 : decode cX4_digitHere 24 = .ok (.bipush 48, 2) := by decide +kernel
theorem dX4_digitHere_26 : decode cX4_digitHere 26 = .ok (.if_icmp .lt 16, 3) := by decide +kernel
theorem dX4_digitHere_29 : decode cX4_digitHere 29 = .ok (.iload_n 1, 1) := by decide +kernel
theorem dX4_digitHere_30 : decode cX4_digitHere 30 = .ok (.bipush 57, 2) := by decide +kernel
theorem dX4_digitHere_32 : decode cX4_digitHere 32 = .ok (.if_icmp .gt 10, 3) := by decide +kernel
theorem dX4_digitHere_35 : decode cX4_digitHere 35 = .ok (.iload_n 1, 1) := by decide +kernel
theorem dX4_digitHere_36 : decode cX4_digitHere 36 = .ok (.bipush 48, 2) := by decide +kernel
theorem dX4_digitHere_38 : decode cX4_digitHere 38 = .ok (.isub, 1) := by decide +kernel
theorem dX4_digitHere_39 : decode cX4_digitHere 39 = .ok (.goto 4, 3) := by decide +kernel
theorem dX4_digitHere_42 : decode cX4_digitHere 42 = .ok (.iconst (-1), 1) := by decide +kernel
theorem dX4_digitHere_43 : decode cX4_digitHere 43 = .ok (.ireturn, 1) := by decide +kernel
theorem dX5_init_0 : decode cX5_init 0 = .ok (.aload_n 0, 1) := by decide +kernel
theorem dX5_init_1 : decode cX5_init 1 = .ok (.invokespecial 1, 3) := by decide +kernel
theorem dX5_init_4 : decode cX5_init 4 = .ok (.aload_n 0, 1) := by decide +kernel
theorem dX5_init_5 : decode cX5_init 5 = .ok (.new 7, 3) := by decide +kernel
theorem dX5_init_8 : decode cX5_init 8 = .ok (.dup, 1) := by decide +kernel
theorem dX5_init_9 : decode cX5_init 9 = .ok (.invokespecial 9, 3) := by decide +kernel
theorem dX5_init_12 : decode cX5_init 12 = .ok (.putfield 10, 3) := by decide +kernel
theorem dX5_init_15 : decode cX5_init 15 = .ok (.aload_n 0, 1) := by decide +kernel
theorem dX5_init_16 : decode cX5_init 16 = .ok (.aload_n 0, 1) := by decide +kernel
theorem dX5_init_17 : decode cX5_init 17 = .ok (.getfield 10, 3) := by decide +kernel
theorem dX5_init_20 : decode cX5_init 20 = .ok (.getfield 16, 3) := by decide +kernel
theorem dX5_init_23 : decode cX5_init 23 = .ok (.putfield 20, 3) := by decide +kernel
theorem dX5_init_26 : decode cX5_init 26 = .ok (.aload_n 0, 1) := by decide +kernel
theorem dX5_init_27 : decode cX5_init 27 = .ok (.new 23, 3) := by decide +kernel
theorem dX5_init_30 : decode cX5_init 30 = .ok (.dup, 1) := by decide +kernel
theorem dX5_init_31 : decode cX5_init 31 = .ok (.invokespecial 25, 3) := by decide +kernel
theorem dX5_init_34 : decode cX5_init 34 = .ok (.putfield 26, 3) := by decide +kernel
theorem dX5_init_37 : decode cX5_init 37 = .ok (.aload_n 0, 1) := by decide +kernel
theorem dX5_init_38 : decode cX5_init 38 = .ok (.iconst 0, 1) := by decide +kernel
theorem dX5_init_39 : decode cX5_init 39 = .ok (.putfield 29, 3) := by decide +kernel
theorem dX5_init_42 : decode cX5_init 42 = .ok (.aload_n 0, 1) := by decide +kernel
theorem dX5_init_43 : decode cX5_init 43 = .ok (.iconst 4, 1) := by decide +kernel
theorem dX5_init_44 : decode cX5_init 44 = .ok (.anewarray 23, 3) := by decide +kernel
theorem dX5_init_47 : decode cX5_init 47 = .ok (.putfield 33, 3) := by decide +kernel
theorem dX5_init_50 : decode cX5_init 50 = .ok (.aload_n 0, 1) := by decide +kernel
theorem dX5_init_51 : decode cX5_init 51 = .ok (.iconst 0, 1) := by decide +kernel
theorem dX5_init_52 : decode cX5_init 52 = .ok (.putfield 37, 3) := by decide +kernel
theorem dX5_init_55 : decode cX5_init 55 = .ok (.aload_n 0, 1) := by decide +kernel
theorem dX5_init_56 : decode cX5_init 56 = .ok (.new 41, 3) := by decide +kernel
theorem dX5_init_59 : decode cX5_init 59 = .ok (.dup, 1) := by decide +kernel
theorem dX5_init_60 : decode cX5_init 60 = .ok (.invokespecial 43, 3) := by decide +kernel
theorem dX5_init_63 : decode cX5_init 63 = .ok (.putfield 44, 3) := by decide +kernel
theorem dX5_init_66 : decode cX5_init 66 = .ok (.aload_n 0, 1) := by decide +kernel
theorem dX5_init_67 : decode cX5_init 67 = .ok (.new 48, 3) := by decide +kernel
theorem dX5_init_70 : decode cX5_init 70 = .ok (.dup, 1) := by decide +kernel
theorem dX5_init_71 : decode cX5_init 71 = .ok (.invokespecial 50, 3) := by decide +kernel
theorem dX5_init_74 : decode cX5_init 74 = .ok (.putfield 51, 3) := by decide +kernel
theorem dX5_init_77 : decode cX5_init 77 = .ok (.aload_n 0, 1) := by decide +kernel
theorem dX5_init_78 : decode cX5_init 78 = .ok (.new 55, 3) := by decide +kernel
theorem dX5_init_81 : decode cX5_init 81 = .ok (.dup, 1) := by decide +kernel
theorem dX5_init_82 : decode cX5_init 82 = .ok (.invokespecial 57, 3) := by decide +kernel
theorem dX5_init_85 : decode cX5_init 85 = .ok (.putfield 58, 3) := by decide +kernel
theorem dX5_init_88 : decode cX5_init 88 = .ok (.iconst 0, 1) := by decide +kernel
theorem dX5_init_89 : decode cX5_init 89 = .ok (.istore_n 1, 1) := by decide +kernel
theorem dX5_init_90 : decode cX5_init 90 = .ok (.iload_n 1, 1) := by decide +kernel
theorem dX5_init_91 : decode cX5_init 91 = .ok (.iconst 4, 1) := by decide +kernel
theorem dX5_init_92 : decode cX5_init 92 = .ok (.if_icmp .ge 22, 3) := by decide +kernel
theorem dX5_init_95 : decode cX5_init 95 = .ok (.aload_n 0, 1) := by decide +kernel
theorem dX5_init_96 : decode cX5_init 96 = .ok (.getfield 33, 3) := by decide +kernel
theorem dX5_init_99 : decode cX5_init 99 = .ok (.iload_n 1, 1) := by decide +kernel
theorem dX5_init_100 : decode cX5_init 100 = .ok (.new 23, 3) := by decide +kernel
theorem dX5_init_103 : decode cX5_init 103 = .ok (.dup, 1) := by decide +kernel
theorem dX5_init_104 : decode cX5_init 104 = .ok (.invokespecial 25, 3) := by decide +kernel
theorem dX5_init_107 : decode cX5_init 107 = .ok (.aastore, 1) := by decide +kernel
theorem dX5_init_108 : decode cX5_init 108 = .ok (.iinc 1 1, 3) := by decide +kernel
theorem dX5_init_111 : decode cX5_init 111 = .ok (.goto (-21), 3) := by decide +kernel
theorem dX5_init_114 : decode cX5_init 114 = .ok (.return_, 1) := by decide +kernel
theorem dX5_setReach_0 : decode cX5_setReach 0 = .ok (.iload_n 1, 1) := by decide +kernel
theorem dX5_setReach_1 : decode cX5_setReach 1 = .ok (.invokestatic 62, 3) := by decide +kernel
theorem dX5_setReach_4 : decode cX5_setReach 4 = .ok (.ifCond .ne 5, 3) := by decide +kernel
theorem dX5_setReach_7 : decode cX5_setReach 7 = .ok (.iconst (-1), 1) := by decide +kernel
theorem dX5_setReach_8 : decode cX5_setReach 8 = .ok (.ireturn, 1) := by decide +kernel
theorem dX5_setReach_9 : decode cX5_setReach 9 = .ok (.iload_n 2, 1) := by decide +kernel
theorem dX5_setReach_10 : decode cX5_setReach 10 = .ok (.iload_n 3, 1) := by decide +kernel
theorem dX5_setReach_11 : decode cX5_setReach 11 = .ok (.invokestatic 66, 3) := by decide +kernel
theorem dX5_setReach_14 : decode cX5_setReach 14 = .ok (.ifCond .ne 6, 3) := by decide +kernel
theorem dX5_setReach_17 : decode cX5_setReach 17 = .ok (.bipush (-2), 2) := by decide +kernel
theorem dX5_setReach_19 : decode cX5_setReach 19 = .ok (.ireturn, 1) := by decide +kernel
theorem dX5_setReach_20 : decode cX5_setReach 20 = .ok (.aload_n 0, 1) := by decide +kernel
theorem dX5_setReach_21 : decode cX5_setReach 21 = .ok (.getfield 20, 3) := by decide +kernel
theorem dX5_setReach_24 : decode cX5_setReach 24 = .ok (.getfield 70, 3) := by decide +kernel
theorem dX5_setReach_27 : decode cX5_setReach 27 = .ok (.iload_n 1, 1) := by decide +kernel
theorem dX5_setReach_28 : decode cX5_setReach 28 = .ok (.iaload, 1) := by decide +kernel
theorem dX5_setReach_29 : decode cX5_setReach 29 = .ok (.istore 4, 2) := by decide +kernel
theorem dX5_setReach_31 : decode cX5_setReach 31 = .ok (.aload_n 0, 1) := by decide +kernel
theorem dX5_setReach_32 : decode cX5_setReach 32 = .ok (.getfield 20, 3) := by decide +kernel
theorem dX5_setReach_35 : decode cX5_setReach 35 = .ok (.getfield 74, 3) := by decide +kernel
theorem dX5_setReach_38 : decode cX5_setReach 38 = .ok (.iload_n 1, 1) := by decide +kernel
theorem dX5_setReach_39 : decode cX5_setReach 39 = .ok (.iaload, 1) := by decide +kernel
theorem dX5_setReach_40 : decode cX5_setReach 40 = .ok (.istore 5, 2) := by decide +kernel
theorem dX5_setReach_42 : decode cX5_setReach 42 = .ok (.iload 4, 2) := by decide +kernel
theorem dX5_setReach_44 : decode cX5_setReach 44 = .ok (.iload_n 2, 1) := by decide +kernel
theorem dX5_setReach_45 : decode cX5_setReach 45 = .ok (.if_icmp .ne 12, 3) := by decide +kernel
theorem dX5_setReach_48 : decode cX5_setReach 48 = .ok (.iload 5, 2) := by decide +kernel
theorem dX5_setReach_50 : decode cX5_setReach 50 = .ok (.iload_n 3, 1) := by decide +kernel
theorem dX5_setReach_51 : decode cX5_setReach 51 = .ok (.if_icmp .ne 6, 3) := by decide +kernel
theorem dX5_setReach_54 : decode cX5_setReach 54 = .ok (.bipush (-5), 2) := by decide +kernel
theorem dX5_setReach_56 : decode cX5_setReach 56 = .ok (.ireturn, 1) := by decide +kernel
theorem dX5_setReach_57 : decode cX5_setReach 57 = .ok (.aload_n 0, 1) := by decide +kernel
theorem dX5_setReach_58 : decode cX5_setReach 58 = .ok (.invokevirtual 77, 3) := by decide +kernel
theorem dX5_setReach_61 : decode cX5_setReach 61 = .ok (.aload_n 0, 1) := by decide +kernel
theorem dX5_setReach_62 : decode cX5_setReach 62 = .ok (.getfield 20, 3) := by decide +kernel
theorem dX5_setReach_65 : decode cX5_setReach 65 = .ok (.getfield 70, 3) := by decide +kernel
theorem dX5_setReach_68 : decode cX5_setReach 68 = .ok (.iload_n 1, 1) := by decide +kernel
theorem dX5_setReach_69 : decode cX5_setReach 69 = .ok (.iload_n 2, 1) := by decide +kernel
theorem dX5_setReach_70 : decode cX5_setReach 70 = .ok (.iastore, 1) := by decide +kernel
theorem dX5_setReach_71 : decode cX5_setReach 71 = .ok (.aload_n 0, 1) := by decide +kernel
theorem dX5_setReach_72 : decode cX5_setReach 72 = .ok (.getfield 20, 3) := by decide +kernel
theorem dX5_setReach_75 : decode cX5_setReach 75 = .ok (.getfield 74, 3) := by decide +kernel
theorem dX5_setReach_78 : decode cX5_setReach 78 = .ok (.iload_n 1, 1) := by decide +kernel
theorem dX5_setReach_79 : decode cX5_setReach 79 = .ok (.iload_n 3, 1) := by decide +kernel
theorem dX5_setReach_80 : decode cX5_setReach 80 = .ok (.iastore, 1) := by decide +kernel
theorem dX5_setReach_81 : decode cX5_setReach 81 = .ok (.bipush 100, 2) := by decide +kernel
theorem dX5_setReach_83 : decode cX5_setReach 83 = .ok (.iload 4, 2) := by decide +kernel
theorem dX5_setReach_85 : decode cX5_setReach 85 = .ok (.imul, 1) := by decide +kernel
theorem dX5_setReach_86 : decode cX5_setReach 86 = .ok (.iload 5, 2) := by decide +kernel
theorem dX5_setReach_88 : decode cX5_setReach 88 = .ok (.iadd, 1) := by decide +kernel
theorem dX5_setReach_89 : decode cX5_setReach 89 = .ok (.ireturn, 1) := by decide +kernel
theorem dX5_exchange_0 : decode cX5_exchange 0 = .ok (.iload_n 1, 1) := by decide +kernel
theorem dX5_exchange_1 : decode cX5_exchange 1 = .ok (.invokestatic 62, 3) := by decide +kernel
theorem dX5_exchange_4 : decode cX5_exchange 4 = .ok (.ifCond .eq 10, 3) := by decide +kernel
theorem dX5_exchange_7 : decode cX5_exchange 7 = .ok (.iload_n 2, 1) := by decide +kernel
theorem dX5_exchange_8 : decode cX5_exchange 8 = .ok (.invokestatic 62, 3) := by decide +kernel
theorem dX5_exchange_11 : decode cX5_exchange 11 = .ok (.ifCond .ne 5, 3) := by decide +kernel
theorem dX5_exchange_14 : decode cX5_exchange 14 = .ok (.iconst (-1), 1) := by decide +kernel
theorem dX5_exchange_15 : decode cX5_exchange 15 = .ok (.ireturn, 1) := by decide +kernel
theorem dX5_exchange_16 : decode cX5_exchange 16 = .ok (.iload_n 1, 1) := by decide +kernel
theorem dX5_exchange_17 : decode cX5_exchange 17 = .ok (.iload_n 2, 1) := by decide +kernel
theorem dX5_exchange_18 : decode cX5_exchange 18 = .ok (.if_icmp .ne 6, 3) := by decide +kernel
theorem dX5_exchange_21 : decode cX5_exchange 21 = .ok (.bipush (-5), 2) := by decide +kernel
theorem dX5_exchange_23 : decode cX5_exchange 23 = .ok (.ireturn, 1) := by decide +kernel
theorem dX5_exchange_24 : decode cX5_exchange 24 = .ok (.aload_n 0, 1) := by decide +kernel
theorem dX5_exchange_25 : decode cX5_exchange 25 = .ok (.invokevirtual 77, 3) := by decide +kernel
theorem dX5_exchange_28 : decode cX5_exchange 28 = .ok (.aload_n 0, 1) := by decide +kernel
theorem dX5_exchange_29 : decode cX5_exchange 29 = .ok (.getfield 20, 3) := by decide +kernel
theorem dX5_exchange_32 : decode cX5_exchange 32 = .ok (.getfield 80, 3) := by decide +kernel
theorem dX5_exchange_35 : decode cX5_exchange 35 = .ok (.iload_n 1, 1) := by decide +kernel
theorem dX5_exchange_36 : decode cX5_exchange 36 = .ok (.iaload, 1) := by decide +kernel
theorem dX5_exchange_37 : decode cX5_exchange 37 = .ok (.istore_n 3, 1) := by decide +kernel
theorem dX5_exchange_38 : decode cX5_exchange 38 = .ok (.aload_n 0, 1) := by decide +kernel
theorem dX5_exchange_39 : decode cX5_exchange 39 = .ok (.getfield 20, 3) := by decide +kernel
theorem dX5_exchange_42 : decode cX5_exchange 42 = .ok (.getfield 80, 3) := by decide +kernel
theorem dX5_exchange_45 : decode cX5_exchange 45 = .ok (.iload_n 1, 1) := by decide +kernel
theorem dX5_exchange_46 : decode cX5_exchange 46 = .ok (.aload_n 0, 1) := by decide +kernel
theorem dX5_exchange_47 : decode cX5_exchange 47 = .ok (.getfield 20, 3) := by decide +kernel
theorem dX5_exchange_50 : decode cX5_exchange 50 = .ok (.getfield 80, 3) := by decide +kernel
theorem dX5_exchange_53 : decode cX5_exchange 53 = .ok (.iload_n 2, 1) := by decide +kernel
theorem dX5_exchange_54 : decode cX5_exchange 54 = .ok (.iaload, 1) := by decide +kernel
theorem dX5_exchange_55 : decode cX5_exchange 55 = .ok (.iastore, 1) := by decide +kernel
theorem dX5_exchange_56 : decode cX5_exchange 56 = .ok (.aload_n 0, 1) := by decide +kernel
theorem dX5_exchange_57 : decode cX5_exchange 57 = .ok (.getfield 20, 3) := by decide +kernel
theorem dX5_exchange_60 : decode cX5_exchange 60 = .ok (.getfield 80, 3) := by decide +kernel
theorem dX5_exchange_63 : decode cX5_exchange 63 = .ok (.iload_n 2, 1) := by decide +kernel
theorem dX5_exchange_64 : decode cX5_exchange 64 = .ok (.iload_n 3, 1) := by decide +kernel
theorem dX5_exchange_65 : decode cX5_exchange 65 = .ok (.iastore, 1) := by decide +kernel
theorem dX5_exchange_66 : decode cX5_exchange 66 = .ok (.aload_n 0, 1) := by decide +kernel
theorem dX5_exchange_67 : decode cX5_exchange 67 = .ok (.getfield 20, 3) := by decide +kernel
theorem dX5_exchange_70 : decode cX5_exchange 70 = .ok (.getfield 80, 3) := by decide +kernel
theorem dX5_exchange_73 : decode cX5_exchange 73 = .ok (.iload_n 1, 1) := by decide +kernel
theorem dX5_exchange_74 : decode cX5_exchange 74 = .ok (.iaload, 1) := by decide +kernel
theorem dX5_exchange_75 : decode cX5_exchange 75 = .ok (.ireturn, 1) := by decide +kernel
theorem dX5_write_0 : decode cX5_write 0 = .ok (.iload_n 1, 1) := by decide +kernel
theorem dX5_write_1 : decode cX5_write 1 = .ok (.invokestatic 62, 3) := by decide +kernel
theorem dX5_write_4 : decode cX5_write 4 = .ok (.ifCond .ne 5, 3) := by decide +kernel
theorem dX5_write_7 : decode cX5_write 7 = .ok (.iconst (-1), 1) := by decide +kernel
theorem dX5_write_8 : decode cX5_write 8 = .ok (.ireturn, 1) := by decide +kernel
theorem dX5_write_9 : decode cX5_write 9 = .ok (.iload_n 2, 1) := by decide +kernel
theorem dX5_write_10 : decode cX5_write 10 = .ok (.invokestatic 83, 3) := by decide +kernel
theorem dX5_write_13 : decode cX5_write 13 = .ok (.ifCond .eq 22, 3) := by decide +kernel
theorem dX5_write_16 : decode cX5_write 16 = .ok (.iload_n 3, 1) := by decide +kernel
theorem dX5_write_17 : decode cX5_write 17 = .ok (.iload 4, 2) := by decide +kernel
theorem dX5_write_19 : decode cX5_write 19 = .ok (.invokestatic 66, 3) := by decide +kernel
theorem dX5_write_22 : decode cX5_write 22 = .ok (.ifCond .eq 13, 3) := by decide +kernel
theorem dX5_write_25 : decode cX5_write 25 = .ok (.iload 5, 2) := by decide +kernel
theorem dX5_write_27 : decode cX5_write 27 = .ok (.bipush 10, 2) := by decide +kernel
theorem dX5_write_29 : decode cX5_write 29 = .ok (.invokestatic 86, 3) := by decide +kernel
theorem dX5_write_32 : decode cX5_write 32 = .ok (.ifCond .ne 6, 3) := by decide +kernel
theorem dX5_write_35 : decode cX5_write 35 = .ok (.bipush (-2), 2) := by decide +kernel
theorem dX5_write_37 : decode cX5_write 37 = .ok (.ireturn, 1) := by decide +kernel
theorem dX5_write_38 : decode cX5_write 38 = .ok (.aload_n 0, 1) := by decide +kernel
theorem dX5_write_39 : decode cX5_write 39 = .ok (.getfield 20, 3) := by decide +kernel
theorem dX5_write_42 : decode cX5_write 42 = .ok (.getfield 89, 3) := by decide +kernel
theorem dX5_write_45 : decode cX5_write 45 = .ok (.getfield 92, 3) := by decide +kernel
theorem dX5_write_48 : decode cX5_write 48 = .ok (.bipush 30, 2) := by decide +kernel
theorem dX5_write_50 : decode cX5_write 50 = .ok (.if_icmp .lt 6, 3) := by decide +kernel
theorem dX5_write_53 : decode cX5_write 53 = .ok (.bipush (-3), 2) := by decide +kernel
theorem dX5_write_55 : decode cX5_write 55 = .ok (.ireturn, 1) := by decide +kernel
theorem dX5_write_56 : decode cX5_write 56 = .ok (.aload_n 0, 1) := by decide +kernel
theorem dX5_write_57 : decode cX5_write 57 = .ok (.invokevirtual 77, 3) := by decide +kernel
theorem dX5_write_60 : decode cX5_write 60 = .ok (.aload_n 0, 1) := by decide +kernel
theorem dX5_write_61 : decode cX5_write 61 = .ok (.getfield 20, 3) := by decide +kernel
theorem dX5_write_64 : decode cX5_write 64 = .ok (.getfield 89, 3) := by decide +kernel
theorem dX5_write_67 : decode cX5_write 67 = .ok (.iload_n 1, 1) := by decide +kernel
theorem dX5_write_68 : decode cX5_write 68 = .ok (.iload_n 2, 1) := by decide +kernel
theorem dX5_write_69 : decode cX5_write 69 = .ok (.iload_n 3, 1) := by decide +kernel
theorem dX5_write_70 : decode cX5_write 70 = .ok (.iload 4, 2) := by decide +kernel
theorem dX5_write_72 : decode cX5_write 72 = .ok (.iload 5, 2) := by decide +kernel
theorem dX5_write_74 : decode cX5_write 74 = .ok (.invokevirtual 95, 3) := by decide +kernel
theorem dX5_write_77 : decode cX5_write 77 = .ok (.ireturn, 1) := by decide +kernel
theorem dX5_except_0 : decode cX5_except 0 = .ok (.aload_n 0, 1) := by decide +kernel
theorem dX5_except_1 : decode cX5_except 1 = .ok (.getfield 20, 3) := by decide +kernel
theorem dX5_except_4 : decode cX5_except 4 = .ok (.getfield 89, 3) := by decide +kernel
theorem dX5_except_7 : decode cX5_except 7 = .ok (.iload_n 1, 1) := by decide +kernel
theorem dX5_except_8 : decode cX5_except 8 = .ok (.invokevirtual 99, 3) := by decide +kernel
theorem dX5_except_11 : decode cX5_except 11 = .ok (.ifCond .ne 5, 3) := by decide +kernel
theorem dX5_except_14 : decode cX5_except 14 = .ok (.iconst (-1), 1) := by decide +kernel
theorem dX5_except_15 : decode cX5_except 15 = .ok (.ireturn, 1) := by decide +kernel
theorem dX5_except_16 : decode cX5_except 16 = .ok (.iload_n 2, 1) := by decide +kernel
theorem dX5_except_17 : decode cX5_except 17 = .ok (.iload_n 3, 1) := by decide +kernel
theorem dX5_except_18 : decode cX5_except 18 = .ok (.invokestatic 66, 3) := by decide +kernel
theorem dX5_except_21 : decode cX5_except 21 = .ok (.ifCond .ne 6, 3) := by decide +kernel
theorem dX5_except_24 : decode cX5_except 24 = .ok (.bipush (-2), 2) := by decide +kernel
theorem dX5_except_26 : decode cX5_except 26 = .ok (.ireturn, 1) := by decide +kernel
theorem dX5_except_27 : decode cX5_except 27 = .ok (.aload_n 0, 1) := by decide +kernel
theorem dX5_except_28 : decode cX5_except 28 = .ok (.getfield 20, 3) := by decide +kernel
theorem dX5_except_31 : decode cX5_except 31 = .ok (.getfield 89, 3) := by decide +kernel
theorem dX5_except_34 : decode cX5_except 34 = .ok (.getfield 102, 3) := by decide +kernel
theorem dX5_except_37 : decode cX5_except 37 = .ok (.iload_n 1, 1) := by decide +kernel
theorem dX5_except_38 : decode cX5_except 38 = .ok (.iaload, 1) := by decide +kernel
theorem dX5_except_39 : decode cX5_except 39 = .ok (.iconst 3, 1) := by decide +kernel
theorem dX5_except_40 : decode cX5_except 40 = .ok (.if_icmp .lt 6, 3) := by decide +kernel
theorem dX5_except_43 : decode cX5_except 43 = .ok (.bipush (-3), 2) := by decide +kernel
theorem dX5_except_45 : decode cX5_except 45 = .ok (.ireturn, 1) := by decide +kernel
theorem dX5_except_46 : decode cX5_except 46 = .ok (.aload_n 0, 1) := by decide +kernel
theorem dX5_except_47 : decode cX5_except 47 = .ok (.invokevirtual 77, 3) := by decide +kernel
theorem dX5_except_50 : decode cX5_except 50 = .ok (.aload_n 0, 1) := by decide +kernel
theorem dX5_except_51 : decode cX5_except 51 = .ok (.getfield 20, 3) := by decide +kernel
theorem dX5_except_54 : decode cX5_except 54 = .ok (.getfield 89, 3) := by decide +kernel
theorem dX5_except_57 : decode cX5_except 57 = .ok (.iload_n 1, 1) := by decide +kernel
theorem dX5_except_58 : decode cX5_except 58 = .ok (.iload_n 2, 1) := by decide +kernel
theorem dX5_except_59 : decode cX5_except 59 = .ok (.iload_n 3, 1) := by decide +kernel
theorem dX5_except_60 : decode cX5_except 60 = .ok (.invokevirtual 105, 3) := by decide +kernel
theorem dX5_except_63 : decode cX5_except 63 = .ok (.aload_n 0, 1) := by decide +kernel
theorem dX5_except_64 : decode cX5_except 64 = .ok (.getfield 20, 3) := by decide +kernel
theorem dX5_except_67 : decode cX5_except 67 = .ok (.getfield 89, 3) := by decide +kernel
theorem dX5_except_70 : decode cX5_except 70 = .ok (.getfield 102, 3) := by decide +kernel
theorem dX5_except_73 : decode cX5_except 73 = .ok (.iload_n 1, 1) := by decide +kernel
theorem dX5_except_74 : decode cX5_except 74 = .ok (.iaload, 1) := by decide +kernel
theorem dX5_except_75 : decode cX5_except 75 = .ok (.ireturn, 1) := by decide +kernel
theorem dX5_end_0 : decode cX5_end 0 = .ok (.aload_n 0, 1) := by decide +kernel
theorem dX5_end_1 : decode cX5_end 1 = .ok (.getfield 20, 3) := by decide +kernel
theorem dX5_end_4 : decode cX5_end 4 = .ok (.getfield 89, 3) := by decide +kernel
theorem dX5_end_7 : decode cX5_end 7 = .ok (.iload_n 1, 1) := by decide +kernel
theorem dX5_end_8 : decode cX5_end 8 = .ok (.invokevirtual 99, 3) := by decide +kernel
theorem dX5_end_11 : decode cX5_end 11 = .ok (.ifCond .ne 5, 3) := by decide +kernel
theorem dX5_end_14 : decode cX5_end 14 = .ok (.iconst (-1), 1) := by decide +kernel
theorem dX5_end_15 : decode cX5_end 15 = .ok (.ireturn, 1) := by decide +kernel
theorem dX5_end_16 : decode cX5_end 16 = .ok (.iload_n 2, 1) := by decide +kernel
theorem dX5_end_17 : decode cX5_end 17 = .ok (.iconst 1, 1) := by decide +kernel
theorem dX5_end_18 : decode cX5_end 18 = .ok (.if_icmp .lt 10, 3) := by decide +kernel
theorem dX5_end_21 : decode cX5_end 21 = .ok (.iload_n 2, 1) := by decide +kernel
theorem dX5_end_22 : decode cX5_end 22 = .ok (.sipush 1000, 3) := by decide +kernel
theorem dX5_end_25 : decode cX5_end 25 = .ok (.if_icmp .le 6, 3) := by decide +kernel
theorem dX5_end_28 : decode cX5_end 28 = .ok (.bipush (-2), 2) := by decide +kernel
theorem dX5_end_30 : decode cX5_end 30 = .ok (.ireturn, 1) := by decide +kernel
theorem dX5_end_31 : decode cX5_end 31 = .ok (.iload_n 2, 1) := by decide +kernel
theorem dX5_end_32 : decode cX5_end 32 = .ok (.aload_n 0, 1) := by decide +kernel
theorem dX5_end_33 : decode cX5_end 33 = .ok (.getfield 20, 3) := by decide +kernel
theorem dX5_end_36 : decode cX5_end 36 = .ok (.getfield 89, 3) := by decide +kernel
theorem dX5_end_39 : decode cX5_end 39 = .ok (.getfield 109, 3) := by decide +kernel
theorem dX5_end_42 : decode cX5_end 42 = .ok (.iload_n 1, 1) := by decide +kernel
theorem dX5_end_43 : decode cX5_end 43 = .ok (.iaload, 1) := by decide +kernel
theorem dX5_end_44 : decode cX5_end 44 = .ok (.if_icmp .gt 6, 3) := by decide +kernel
theorem dX5_end_47 : decode cX5_end 47 = .ok (.bipush (-4), 2) := by decide +kernel
theorem dX5_end_49 : decode cX5_end 49 = .ok (.ireturn, 1) := by decide +kernel
theorem dX5_end_50 : decode cX5_end 50 = .ok (.aload_n 0, 1) := by decide +kernel
theorem dX5_end_51 : decode cX5_end 51 = .ok (.getfield 20, 3) := by decide +kernel
theorem dX5_end_54 : decode cX5_end 54 = .ok (.getfield 89, 3) := by decide +kernel
theorem dX5_end_57 : decode cX5_end 57 = .ok (.getfield 112, 3) := by decide +kernel
theorem dX5_end_60 : decode cX5_end 60 = .ok (.iload_n 1, 1) := by decide +kernel
theorem dX5_end_61 : decode cX5_end 61 = .ok (.iaload, 1) := by decide +kernel
theorem dX5_end_62 : decode cX5_end 62 = .ok (.istore_n 3, 1) := by decide +kernel
theorem dX5_end_63 : decode cX5_end 63 = .ok (.iload_n 3, 1) := by decide +kernel
theorem dX5_end_64 : decode cX5_end 64 = .ok (.iload_n 2, 1) := by decide +kernel
theorem dX5_end_65 : decode cX5_end 65 = .ok (.if_icmp .ne 6, 3) := by decide +kernel
theorem dX5_end_68 : decode cX5_end 68 = .ok (.bipush (-5), 2) := by decide +kernel
theorem dX5_end_70 : decode cX5_end 70 = .ok (.ireturn, 1) := by decide +kernel
theorem dX5_end_71 : decode cX5_end 71 = .ok (.aload_n 0, 1) := by decide +kernel
theorem dX5_end_72 : decode cX5_end 72 = .ok (.invokevirtual 77, 3) := by decide +kernel
theorem dX5_end_75 : decode cX5_end 75 = .ok (.aload_n 0, 1) := by decide +kernel
theorem dX5_end_76 : decode cX5_end 76 = .ok (.getfield 20, 3) := by decide +kernel
theorem dX5_end_79 : decode cX5_end 79 = .ok (.getfield 89, 3) := by decide +kernel
theorem dX5_end_82 : decode cX5_end 82 = .ok (.getfield 112, 3) := by decide +kernel
theorem dX5_end_85 : decode cX5_end 85 = .ok (.iload_n 1, 1) := by decide +kernel
theorem dX5_end_86 : decode cX5_end 86 = .ok (.iload_n 2, 1) := by decide +kernel
theorem dX5_end_87 : decode cX5_end 87 = .ok (.iastore, 1) := by decide +kernel
theorem dX5_end_88 : decode cX5_end 88 = .ok (.iload_n 3, 1) := by decide +kernel
theorem dX5_end_89 : decode cX5_end 89 = .ok (.ireturn, 1) := by decide +kernel
theorem dX5_setDay_0 : decode cX5_setDay 0 = .ok (.iload_n 1, 1) := by decide +kernel
theorem dX5_setDay_1 : decode cX5_setDay 1 = .ok (.invokestatic 83, 3) := by decide +kernel
theorem dX5_setDay_4 : decode cX5_setDay 4 = .ok (.ifCond .ne 6, 3) := by decide +kernel
theorem dX5_setDay_7 : decode cX5_setDay 7 = .ok (.bipush (-2), 2) := by decide +kernel
theorem dX5_setDay_9 : decode cX5_setDay 9 = .ok (.ireturn, 1) := by decide +kernel
theorem dX5_setDay_10 : decode cX5_setDay 10 = .ok (.aload_n 0, 1) := by decide +kernel
theorem dX5_setDay_11 : decode cX5_setDay 11 = .ok (.getfield 20, 3) := by decide +kernel
theorem dX5_setDay_14 : decode cX5_setDay 14 = .ok (.getfield 115, 3) := by decide +kernel
theorem dX5_setDay_17 : decode cX5_setDay 17 = .ok (.istore_n 2, 1) := by decide +kernel
theorem dX5_setDay_18 : decode cX5_setDay 18 = .ok (.iload_n 2, 1) := by decide +kernel
theorem dX5_setDay_19 : decode cX5_setDay 19 = .ok (.iload_n 1, 1) := by decide +kernel
theorem dX5_setDay_20 : decode cX5_setDay 20 = .ok (.if_icmp .ne 6, 3) := by decide +kernel
theorem dX5_setDay_23 : decode cX5_setDay 23 = .ok (.bipush (-5), 2) := by decide +kernel
theorem dX5_setDay_25 : decode cX5_setDay 25 = .ok (.ireturn, 1) := by decide +kernel
theorem dX5_setDay_26 : decode cX5_setDay 26 = .ok (.aload_n 0, 1) := by decide +kernel
theorem dX5_setDay_27 : decode cX5_setDay 27 = .ok (.invokevirtual 77, 3) := by decide +kernel
theorem dX5_setDay_30 : decode cX5_setDay 30 = .ok (.aload_n 0, 1) := by decide +kernel
theorem dX5_setDay_31 : decode cX5_setDay 31 = .ok (.getfield 20, 3) := by decide +kernel
theorem dX5_setDay_34 : decode cX5_setDay 34 = .ok (.iload_n 1, 1) := by decide +kernel
theorem dX5_setDay_35 : decode cX5_setDay 35 = .ok (.putfield 115, 3) := by decide +kernel
theorem dX5_setDay_38 : decode cX5_setDay 38 = .ok (.aload_n 0, 1) := by decide +kernel
theorem dX5_setDay_39 : decode cX5_setDay 39 = .ok (.getfield 10, 3) := by decide +kernel
theorem dX5_setDay_42 : decode cX5_setDay 42 = .ok (.iload_n 2, 1) := by decide +kernel
theorem dX5_setDay_43 : decode cX5_setDay 43 = .ok (.iload_n 1, 1) := by decide +kernel
theorem dX5_setDay_44 : decode cX5_setDay 44 = .ok (.invokevirtual 118, 3) := by decide +kernel
theorem dX5_setDay_47 : decode cX5_setDay 47 = .ok (.ireturn, 1) := by decide +kernel
theorem dX5_type_0 : decode cX5_type 0 = .ok (.aload_n 0, 1) := by decide +kernel
theorem dX5_type_1 : decode cX5_type 1 = .ok (.getfield 44, 3) := by decide +kernel
theorem dX5_type_4 : decode cX5_type 4 = .ok (.getfield 122, 3) := by decide +kernel
theorem dX5_type_7 : decode cX5_type 7 = .ok (.bipush 80, 2) := by decide +kernel
theorem dX5_type_9 : decode cX5_type 9 = .ok (.if_icmp .lt 6, 3) := by decide +kernel
theorem dX5_type_12 : decode cX5_type 12 = .ok (.bipush (-3), 2) := by decide +kernel
theorem dX5_type_14 : decode cX5_type 14 = .ok (.ireturn, 1) := by decide +kernel
theorem dX5_type_15 : decode cX5_type 15 = .ok (.aload_n 0, 1) := by decide +kernel
theorem dX5_type_16 : decode cX5_type 16 = .ok (.getfield 44, 3) := by decide +kernel
theorem dX5_type_19 : decode cX5_type 19 = .ok (.iload_n 1, 1) := by decide +kernel
theorem dX5_type_20 : decode cX5_type 20 = .ok (.invokevirtual 125, 3) := by decide +kernel
theorem dX5_type_23 : decode cX5_type 23 = .ok (.aload_n 0, 1) := by decide +kernel
theorem dX5_type_24 : decode cX5_type 24 = .ok (.getfield 44, 3) := by decide +kernel
theorem dX5_type_27 : decode cX5_type 27 = .ok (.getfield 122, 3) := by decide +kernel
theorem dX5_type_30 : decode cX5_type 30 = .ok (.ireturn, 1) := by decide +kernel
theorem dX5_clearText_0 : decode cX5_clearText 0 = .ok (.aload_n 0, 1) := by decide +kernel
theorem dX5_clearText_1 : decode cX5_clearText 1 = .ok (.getfield 44, 3) := by decide +kernel
theorem dX5_clearText_4 : decode cX5_clearText 4 = .ok (.getfield 122, 3) := by decide +kernel
theorem dX5_clearText_7 : decode cX5_clearText 7 = .ok (.istore_n 1, 1) := by decide +kernel
theorem dX5_clearText_8 : decode cX5_clearText 8 = .ok (.aload_n 0, 1) := by decide +kernel
theorem dX5_clearText_9 : decode cX5_clearText 9 = .ok (.getfield 44, 3) := by decide +kernel
theorem dX5_clearText_12 : decode cX5_clearText 12 = .ok (.iconst 0, 1) := by decide +kernel
theorem dX5_clearText_13 : decode cX5_clearText 13 = .ok (.putfield 122, 3) := by decide +kernel
theorem dX5_clearText_16 : decode cX5_clearText 16 = .ok (.iload_n 1, 1) := by decide +kernel
theorem dX5_clearText_17 : decode cX5_clearText 17 = .ok (.ireturn, 1) := by decide +kernel
theorem dX5_writeAll_0 : decode cX5_writeAll 0 = .ok (.aload_n 0, 1) := by decide +kernel
theorem dX5_writeAll_1 : decode cX5_writeAll 1 = .ok (.getfield 44, 3) := by decide +kernel
theorem dX5_writeAll_4 : decode cX5_writeAll 4 = .ok (.aload_n 0, 1) := by decide +kernel
theorem dX5_writeAll_5 : decode cX5_writeAll 5 = .ok (.getfield 51, 3) := by decide +kernel
theorem dX5_writeAll_8 : decode cX5_writeAll 8 = .ok (.invokevirtual 128, 3) := by decide +kernel
theorem dX5_writeAll_11 : decode cX5_writeAll 11 = .ok (.ifCond .ne 14, 3) := by decide +kernel
theorem dX5_writeAll_14 : decode cX5_writeAll 14 = .ok (.bipush (-100), 2) := by decide +kernel
theorem dX5_writeAll_16 : decode cX5_writeAll 16 = .ok (.aload_n 0, 1) := by decide +kernel
theorem dX5_writeAll_17 : decode cX5_writeAll 17 = .ok (.getfield 44, 3) := by decide +kernel
theorem dX5_writeAll_20 : decode cX5_writeAll 20 = .ok (.getfield 132, 3) := by decide +kernel
theorem dX5_writeAll_23 : decode cX5_writeAll 23 = .ok (.isub, 1) := by decide +kernel
theorem dX5_writeAll_24 : decode cX5_writeAll 24 = .ok (.ireturn, 1) := by decide +kernel
theorem dX5_writeAll_25 : decode cX5_writeAll 25 = .ok (.aload_n 0, 1) := by decide +kernel
theorem dX5_writeAll_26 : decode cX5_writeAll 26 = .ok (.getfield 51, 3) := by decide +kernel
theorem dX5_writeAll_29 : decode cX5_writeAll 29 = .ok (.invokevirtual 135, 3) := by decide +kernel
theorem dX5_writeAll_32 : decode cX5_writeAll 32 = .ok (.ifCond .eq 6, 3) := by decide +kernel
theorem dX5_writeAll_35 : decode cX5_writeAll 35 = .ok (.bipush (-2), 2) := by decide +kernel
theorem dX5_writeAll_37 : decode cX5_writeAll 37 = .ok (.ireturn, 1) := by decide +kernel
theorem dX5_writeAll_38 : decode cX5_writeAll 38 = .ok (.aload_n 0, 1) := by decide +kernel
theorem dX5_writeAll_39 : decode cX5_writeAll 39 = .ok (.getfield 20, 3) := by decide +kernel
theorem dX5_writeAll_42 : decode cX5_writeAll 42 = .ok (.getfield 89, 3) := by decide +kernel
theorem dX5_writeAll_45 : decode cX5_writeAll 45 = .ok (.getfield 92, 3) := by decide +kernel
theorem dX5_writeAll_48 : decode cX5_writeAll 48 = .ok (.aload_n 0, 1) := by decide +kernel
theorem dX5_writeAll_49 : decode cX5_writeAll 49 = .ok (.getfield 51, 3) := by decide +kernel
theorem dX5_writeAll_52 : decode cX5_writeAll 52 = .ok (.getfield 92, 3) := by decide +kernel
theorem dX5_writeAll_55 : decode cX5_writeAll 55 = .ok (.iadd, 1) := by decide +kernel
theorem dX5_writeAll_56 : decode cX5_writeAll 56 = .ok (.bipush 30, 2) := by decide +kernel
theorem dX5_writeAll_58 : decode cX5_writeAll 58 = .ok (.if_icmp .le 6, 3) := by decide +kernel
theorem dX5_writeAll_61 : decode cX5_writeAll 61 = .ok (.bipush (-3), 2) := by decide +kernel
theorem dX5_writeAll_63 : decode cX5_writeAll 63 = .ok (.ireturn, 1) := by decide +kernel
theorem dX5_writeAll_64 : decode cX5_writeAll 64 = .ok (.aload_n 0, 1) := by decide +kernel
theorem dX5_writeAll_65 : decode cX5_writeAll 65 = .ok (.invokevirtual 77, 3) := by decide +kernel
theorem dX5_writeAll_68 : decode cX5_writeAll 68 = .ok (.aload_n 0, 1) := by decide +kernel
theorem dX5_writeAll_69 : decode cX5_writeAll 69 = .ok (.getfield 20, 3) := by decide +kernel
theorem dX5_writeAll_72 : decode cX5_writeAll 72 = .ok (.getfield 89, 3) := by decide +kernel
theorem dX5_writeAll_75 : decode cX5_writeAll 75 = .ok (.aload_n 0, 1) := by decide +kernel
theorem dX5_writeAll_76 : decode cX5_writeAll 76 = .ok (.getfield 51, 3) := by decide +kernel
theorem dX5_writeAll_79 : decode cX5_writeAll 79 = .ok (.invokevirtual 139, 3) := by decide +kernel
theorem dX5_writeAll_82 : decode cX5_writeAll 82 = .ok (.aload_n 0, 1) := by decide +kernel
theorem dX5_writeAll_83 : decode cX5_writeAll 83 = .ok (.getfield 51, 3) := by decide +kernel
theorem dX5_writeAll_86 : decode cX5_writeAll 86 = .ok (.getfield 92, 3) := by decide +kernel
theorem dX5_writeAll_89 : decode cX5_writeAll 89 = .ok (.ireturn, 1) := by decide +kernel
theorem dX5_undo_0 : decode cX5_undo 0 = .ok (.aload_n 0, 1) := by decide +kernel
theorem dX5_undo_1 : decode cX5_undo 1 = .ok (.getfield 37, 3) := by decide +kernel
theorem dX5_undo_4 : decode cX5_undo 4 = .ok (.iconst 1, 1) := by decide +kernel
theorem dX5_undo_5 : decode cX5_undo 5 = .ok (.if_icmp .ge 6, 3) := by decide +kernel
theorem dX5_undo_8 : decode cX5_undo 8 = .ok (.bipush (-5), 2) := by decide +kernel
theorem dX5_undo_10 : decode cX5_undo 10 = .ok (.ireturn, 1) := by decide +kernel
theorem dX5_undo_11 : decode cX5_undo 11 = .ok (.aload_n 0, 1) := by decide +kernel
theorem dX5_undo_12 : decode cX5_undo 12 = .ok (.dup, 1) := by decide +kernel
theorem dX5_undo_13 : decode cX5_undo 13 = .ok (.getfield 37, 3) := by decide +kernel
theorem dX5_undo_16 : decode cX5_undo 16 = .ok (.iconst 1, 1) := by decide +kernel
theorem dX5_undo_17 : decode cX5_undo 17 = .ok (.isub, 1) := by decide +kernel
theorem dX5_undo_18 : decode cX5_undo 18 = .ok (.putfield 37, 3) := by decide +kernel
theorem dX5_undo_21 : decode cX5_undo 21 = .ok (.aload_n 0, 1) := by decide +kernel
theorem dX5_undo_22 : decode cX5_undo 22 = .ok (.getfield 20, 3) := by decide +kernel
theorem dX5_undo_25 : decode cX5_undo 25 = .ok (.aload_n 0, 1) := by decide +kernel
theorem dX5_undo_26 : decode cX5_undo 26 = .ok (.getfield 33, 3) := by decide +kernel
theorem dX5_undo_29 : decode cX5_undo 29 = .ok (.aload_n 0, 1) := by decide +kernel
theorem dX5_undo_30 : decode cX5_undo 30 = .ok (.getfield 37, 3) := by decide +kernel
theorem dX5_undo_33 : decode cX5_undo 33 = .ok (.aaload, 1) := by decide +kernel
theorem dX5_undo_34 : decode cX5_undo 34 = .ok (.invokevirtual 143, 3) := by decide +kernel
theorem dX5_undo_37 : decode cX5_undo 37 = .ok (.aload_n 0, 1) := by decide +kernel
theorem dX5_undo_38 : decode cX5_undo 38 = .ok (.getfield 37, 3) := by decide +kernel
theorem dX5_undo_41 : decode cX5_undo 41 = .ok (.ireturn, 1) := by decide +kernel
theorem dX5_keep_0 : decode cX5_keep 0 = .ok (.aload_n 0, 1) := by decide +kernel
theorem dX5_keep_1 : decode cX5_keep 1 = .ok (.getfield 26, 3) := by decide +kernel
theorem dX5_keep_4 : decode cX5_keep 4 = .ok (.aload_n 0, 1) := by decide +kernel
theorem dX5_keep_5 : decode cX5_keep 5 = .ok (.getfield 20, 3) := by decide +kernel
theorem dX5_keep_8 : decode cX5_keep 8 = .ok (.invokevirtual 143, 3) := by decide +kernel
theorem dX5_keep_11 : decode cX5_keep 11 = .ok (.aload_n 0, 1) := by decide +kernel
theorem dX5_keep_12 : decode cX5_keep 12 = .ok (.iconst 1, 1) := by decide +kernel
theorem dX5_keep_13 : decode cX5_keep 13 = .ok (.putfield 29, 3) := by decide +kernel
theorem dX5_keep_16 : decode cX5_keep 16 = .ok (.aload_n 0, 1) := by decide +kernel
theorem dX5_keep_17 : decode cX5_keep 17 = .ok (.getfield 20, 3) := by decide +kernel
theorem dX5_keep_20 : decode cX5_keep 20 = .ok (.getfield 89, 3) := by decide +kernel
theorem dX5_keep_23 : decode cX5_keep 23 = .ok (.getfield 92, 3) := by decide +kernel
theorem dX5_keep_26 : decode cX5_keep 26 = .ok (.ireturn, 1) := by decide +kernel
theorem dX5_restore_0 : decode cX5_restore 0 = .ok (.aload_n 0, 1) := by decide +kernel
theorem dX5_restore_1 : decode cX5_restore 1 = .ok (.getfield 29, 3) := by decide +kernel
theorem dX5_restore_4 : decode cX5_restore 4 = .ok (.ifCond .ne 6, 3) := by decide +kernel
theorem dX5_restore_7 : decode cX5_restore 7 = .ok (.bipush (-5), 2) := by decide +kernel
theorem dX5_restore_9 : decode cX5_restore 9 = .ok (.ireturn, 1) := by decide +kernel
theorem dX5_restore_10 : decode cX5_restore 10 = .ok (.aload_n 0, 1) := by decide +kernel
theorem dX5_restore_11 : decode cX5_restore 11 = .ok (.invokevirtual 77, 3) := by decide +kernel
theorem dX5_restore_14 : decode cX5_restore 14 = .ok (.aload_n 0, 1) := by decide +kernel
theorem dX5_restore_15 : decode cX5_restore 15 = .ok (.getfield 20, 3) := by decide +kernel
theorem dX5_restore_18 : decode cX5_restore 18 = .ok (.aload_n 0, 1) := by decide +kernel
theorem dX5_restore_19 : decode cX5_restore 19 = .ok (.getfield 26, 3) := by decide +kernel
theorem dX5_restore_22 : decode cX5_restore 22 = .ok (.invokevirtual 143, 3) := by decide +kernel
theorem dX5_restore_25 : decode cX5_restore 25 = .ok (.aload_n 0, 1) := by decide +kernel
theorem dX5_restore_26 : decode cX5_restore 26 = .ok (.getfield 20, 3) := by decide +kernel
theorem dX5_restore_29 : decode cX5_restore 29 = .ok (.getfield 89, 3) := by decide +kernel
theorem dX5_restore_32 : decode cX5_restore 32 = .ok (.getfield 92, 3) := by decide +kernel
theorem dX5_restore_35 : decode cX5_restore 35 = .ok (.ireturn, 1) := by decide +kernel
theorem dX5_chapter_0 : decode cX5_chapter 0 = .ok (.iload_n 1, 1) := by decide +kernel
theorem dX5_chapter_1 : decode cX5_chapter 1 = .ok (.invokestatic 62, 3) := by decide +kernel
theorem dX5_chapter_4 : decode cX5_chapter 4 = .ok (.ifCond .ne 5, 3) := by decide +kernel
theorem dX5_chapter_7 : decode cX5_chapter 7 = .ok (.iconst (-1), 1) := by decide +kernel
theorem dX5_chapter_8 : decode cX5_chapter 8 = .ok (.ireturn, 1) := by decide +kernel
theorem dX5_chapter_9 : decode cX5_chapter 9 = .ok (.iload_n 2, 1) := by decide +kernel
theorem dX5_chapter_10 : decode cX5_chapter 10 = .ok (.tableswitch 108 0 5 #[38, 48, 58, 68, 80, 99], 38) := by decide +kernel
theorem dX5_chapter_48 : decode cX5_chapter 48 = .ok (.aload_n 0, 1) := by decide +kernel
theorem dX5_chapter_49 : decode cX5_chapter 49 = .ok (.getfield 20, 3) := by decide +kernel
theorem dX5_chapter_52 : decode cX5_chapter 52 = .ok (.getfield 70, 3) := by decide +kernel
theorem dX5_chapter_55 : decode cX5_chapter 55 = .ok (.iload_n 1, 1) := by decide +kernel
theorem dX5_chapter_56 : decode cX5_chapter 56 = .ok (.iaload, 1) := by decide +kernel
theorem dX5_chapter_57 : decode cX5_chapter 57 = .ok (.ireturn, 1) := by decide +kernel
theorem dX5_chapter_58 : decode cX5_chapter 58 = .ok (.aload_n 0, 1) := by decide +kernel
theorem dX5_chapter_59 : decode cX5_chapter 59 = .ok (.getfield 20, 3) := by decide +kernel
theorem dX5_chapter_62 : decode cX5_chapter 62 = .ok (.getfield 74, 3) := by decide +kernel
theorem dX5_chapter_65 : decode cX5_chapter 65 = .ok (.iload_n 1, 1) := by decide +kernel
theorem dX5_chapter_66 : decode cX5_chapter 66 = .ok (.iaload, 1) := by decide +kernel
theorem dX5_chapter_67 : decode cX5_chapter 67 = .ok (.ireturn, 1) := by decide +kernel
theorem dX5_chapter_68 : decode cX5_chapter 68 = .ok (.aload_n 0, 1) := by decide +kernel
theorem dX5_chapter_69 : decode cX5_chapter 69 = .ok (.getfield 20, 3) := by decide +kernel
theorem dX5_chapter_72 : decode cX5_chapter 72 = .ok (.getfield 80, 3) := by decide +kernel
theorem dX5_chapter_75 : decode cX5_chapter 75 = .ok (.iload_n 1, 1) := by decide +kernel
theorem dX5_chapter_76 : decode cX5_chapter 76 = .ok (.iaload, 1) := by decide +kernel
theorem dX5_chapter_77 : decode cX5_chapter 77 = .ok (.ireturn, 1) := by decide +kernel
theorem dX5_chapter_78 : decode cX5_chapter 78 = .ok (.aload_n 0, 1) := by decide +kernel
theorem dX5_chapter_79 : decode cX5_chapter 79 = .ok (.getfield 20, 3) := by decide +kernel
theorem dX5_chapter_82 : decode cX5_chapter 82 = .ok (.getfield 89, 3) := by decide +kernel
theorem dX5_chapter_85 : decode cX5_chapter 85 = .ok (.iload_n 1, 1) := by decide +kernel
theorem dX5_chapter_86 : decode cX5_chapter 86 = .ok (.invokevirtual 147, 3) := by decide +kernel
theorem dX5_chapter_89 : decode cX5_chapter 89 = .ok (.ireturn, 1) := by decide +kernel
theorem dX5_chapter_90 : decode cX5_chapter 90 = .ok (.aload_n 0, 1) := by decide +kernel
theorem dX5_chapter_91 : decode cX5_chapter 91 = .ok (.getfield 20, 3) := by decide +kernel
theorem dX5_chapter_94 : decode cX5_chapter 94 = .ok (.getfield 89, 3) := by decide +kernel
theorem dX5_chapter_97 : decode cX5_chapter 97 = .ok (.iload_n 1, 1) := by decide +kernel
theorem dX5_chapter_98 : decode cX5_chapter 98 = .ok (.aload_n 0, 1) := by decide +kernel
theorem dX5_chapter_99 : decode cX5_chapter 99 = .ok (.getfield 20, 3) := by decide +kernel
theorem dX5_chapter_102 : decode cX5_chapter 102 = .ok (.getfield 115, 3) := by decide +kernel
theorem dX5_chapter_105 : decode cX5_chapter 105 = .ok (.invokevirtual 151, 3) := by decide +kernel
theorem dX5_chapter_108 : decode cX5_chapter 108 = .ok (.ireturn, 1) := by decide +kernel
theorem dX5_chapter_109 : decode cX5_chapter 109 = .ok (.aload_n 0, 1) := by decide +kernel
theorem dX5_chapter_110 : decode cX5_chapter 110 = .ok (.getfield 10, 3) := by decide +kernel
theorem dX5_chapter_113 : decode cX5_chapter 113 = .ok (.iload_n 1, 1) := by decide +kernel
theorem dX5_chapter_114 : decode cX5_chapter 114 = .ok (.invokevirtual 154, 3) := by decide +kernel
theorem dX5_chapter_117 : decode cX5_chapter 117 = .ok (.ireturn, 1) := by decide +kernel
theorem dX5_chapter_118 : decode cX5_chapter 118 = .ok (.bipush (-2), 2) := by decide +kernel
theorem dX5_chapter_120 : decode cX5_chapter 120 = .ok (.ireturn, 1) := by decide +kernel
theorem dX5_clause_0 : decode cX5_clause 0 = .ok (.aload_n 0, 1) := by decide +kernel
theorem dX5_clause_1 : decode cX5_clause 1 = .ok (.getfield 20, 3) := by decide +kernel
theorem dX5_clause_4 : decode cX5_clause 4 = .ok (.getfield 89, 3) := by decide +kernel
theorem dX5_clause_7 : decode cX5_clause 7 = .ok (.astore_n 3, 1) := by decide +kernel
theorem dX5_clause_8 : decode cX5_clause 8 = .ok (.aload_n 3, 1) := by decide +kernel
theorem dX5_clause_9 : decode cX5_clause 9 = .ok (.iload_n 1, 1) := by decide +kernel
theorem dX5_clause_10 : decode cX5_clause 10 = .ok (.invokevirtual 99, 3) := by decide +kernel
theorem dX5_clause_13 : decode cX5_clause 13 = .ok (.ifCond .ne 5, 3) := by decide +kernel
theorem dX5_clause_16 : decode cX5_clause 16 = .ok (.iconst (-1), 1) := by decide +kernel
theorem dX5_clause_17 : decode cX5_clause 17 = .ok (.ireturn, 1) := by decide +kernel
theorem dX5_clause_18 : decode cX5_clause 18 = .ok (.iload_n 2, 1) := by decide +kernel
theorem dX5_clause_19 : decode cX5_clause 19 = .ok (.tableswitch 141 0 9 #[53, 60, 67, 74, 81, 88, 95, 102, 123, 132], 53) := by decide +kernel
theorem dX5_clause_72 : decode cX5_clause 72 = .ok (.aload_n 3, 1) := by decide +kernel
theorem dX5_clause_73 : decode cX5_clause 73 = .ok (.getfield 157, 3) := by decide +kernel
theorem dX5_clause_76 : decode cX5_clause 76 = .ok (.iload_n 1, 1) := by decide +kernel
theorem dX5_clause_77 : decode cX5_clause 77 = .ok (.iaload, 1) := by decide +kernel
theorem dX5_clause_78 : decode cX5_clause 78 = .ok (.ireturn, 1) := by decide +kernel
theorem dX5_clause_79 : decode cX5_clause 79 = .ok (.aload_n 3, 1) := by decide +kernel
theorem dX5_clause_80 : decode cX5_clause 80 = .ok (.getfield 109, 3) := by decide +kernel
theorem dX5_clause_83 : decode cX5_clause 83 = .ok (.iload_n 1, 1) := by decide +kernel
theorem dX5_clause_84 : decode cX5_clause 84 = .ok (.iaload, 1) := by decide +kernel
theorem dX5_clause_85 : decode cX5_clause 85 = .ok (.ireturn, 1) := by decide +kernel
theorem dX5_clause_86 : decode cX5_clause 86 = .ok (.aload_n 3, 1) := by decide +kernel
theorem dX5_clause_87 : decode cX5_clause 87 = .ok (.getfield 112, 3) := by decide +kernel
theorem dX5_clause_90 : decode cX5_clause 90 = .ok (.iload_n 1, 1) := by decide +kernel
theorem dX5_clause_91 : decode cX5_clause 91 = .ok (.iaload, 1) := by decide +kernel
theorem dX5_clause_92 : decode cX5_clause 92 = .ok (.ireturn, 1) := by decide +kernel
theorem dX5_clause_93 : decode cX5_clause 93 = .ok (.aload_n 3, 1) := by decide +kernel
theorem dX5_clause_94 : decode cX5_clause 94 = .ok (.getfield 160, 3) := by decide +kernel
theorem dX5_clause_97 : decode cX5_clause 97 = .ok (.iload_n 1, 1) := by decide +kernel
theorem dX5_clause_98 : decode cX5_clause 98 = .ok (.iaload, 1) := by decide +kernel
theorem dX5_clause_99 : decode cX5_clause 99 = .ok (.ireturn, 1) := by decide +kernel
theorem dX5_clause_100 : decode cX5_clause 100 = .ok (.aload_n 3, 1) := by decide +kernel
theorem dX5_clause_101 : decode cX5_clause 101 = .ok (.getfield 163, 3) := by decide +kernel
theorem dX5_clause_104 : decode cX5_clause 104 = .ok (.iload_n 1, 1) := by decide +kernel
theorem dX5_clause_105 : decode cX5_clause 105 = .ok (.iaload, 1) := by decide +kernel
theorem dX5_clause_106 : decode cX5_clause 106 = .ok (.ireturn, 1) := by decide +kernel
theorem dX5_clause_107 : decode cX5_clause 107 = .ok (.aload_n 3, 1) := by decide +kernel
theorem dX5_clause_108 : decode cX5_clause 108 = .ok (.getfield 166, 3) := by decide +kernel
theorem dX5_clause_111 : decode cX5_clause 111 = .ok (.iload_n 1, 1) := by decide +kernel
theorem dX5_clause_112 : decode cX5_clause 112 = .ok (.iaload, 1) := by decide +kernel
theorem dX5_clause_113 : decode cX5_clause 113 = .ok (.ireturn, 1) := by decide +kernel
theorem dX5_clause_114 : decode cX5_clause 114 = .ok (.aload_n 3, 1) := by decide +kernel
theorem dX5_clause_115 : decode cX5_clause 115 = .ok (.getfield 102, 3) := by decide +kernel
theorem dX5_clause_118 : decode cX5_clause 118 = .ok (.iload_n 1, 1) := by decide +kernel
theorem dX5_clause_119 : decode cX5_clause 119 = .ok (.iaload, 1) := by decide +kernel
theorem dX5_clause_120 : decode cX5_clause 120 = .ok (.ireturn, 1) := by decide +kernel
theorem dX5_clause_121 : decode cX5_clause 121 = .ok (.aload_n 3, 1) := by decide +kernel
theorem dX5_clause_122 : decode cX5_clause 122 = .ok (.iload_n 1, 1) := by decide +kernel
theorem dX5_clause_123 : decode cX5_clause 123 = .ok (.aload_n 0, 1) := by decide +kernel
theorem dX5_clause_124 : decode cX5_clause 124 = .ok (.getfield 20, 3) := by decide +kernel
theorem dX5_clause_127 : decode cX5_clause 127 = .ok (.getfield 115, 3) := by decide +kernel
theorem dX5_clause_130 : decode cX5_clause 130 = .ok (.invokevirtual 169, 3) := by decide +kernel
theorem dX5_clause_133 : decode cX5_clause 133 = .ok (.ifCond .eq 7, 3) := by decide +kernel
theorem dX5_clause_136 : decode cX5_clause 136 = .ok (.iconst 1, 1) := by decide +kernel
theorem dX5_clause_137 : decode cX5_clause 137 = .ok (.goto 4, 3) := by decide +kernel
theorem dX5_clause_140 : decode cX5_clause 140 = .ok (.iconst 0, 1) := by decide +kernel
theorem dX5_clause_141 : decode cX5_clause 141 = .ok (.ireturn, 1) := by decide +kernel
theorem dX5_clause_142 : decode cX5_clause 142 = .ok (.aload_n 0, 1) := by decide +kernel
theorem dX5_clause_143 : decode cX5_clause 143 = .ok (.getfield 10, 3) := by decide +kernel
theorem dX5_clause_146 : decode cX5_clause 146 = .ok (.iload_n 1, 1) := by decide +kernel
theorem dX5_clause_147 : decode cX5_clause 147 = .ok (.invokevirtual 172, 3) := by decide +kernel
theorem dX5_clause_150 : decode cX5_clause 150 = .ok (.ireturn, 1) := by decide +kernel
theorem dX5_clause_151 : decode cX5_clause 151 = .ok (.aload_n 0, 1) := by decide +kernel
theorem dX5_clause_152 : decode cX5_clause 152 = .ok (.getfield 10, 3) := by decide +kernel
theorem dX5_clause_155 : decode cX5_clause 155 = .ok (.iload_n 1, 1) := by decide +kernel
theorem dX5_clause_156 : decode cX5_clause 156 = .ok (.invokevirtual 175, 3) := by decide +kernel
theorem dX5_clause_159 : decode cX5_clause 159 = .ok (.ireturn, 1) := by decide +kernel
theorem dX5_clause_160 : decode cX5_clause 160 = .ok (.bipush (-2), 2) := by decide +kernel
theorem dX5_clause_162 : decode cX5_clause 162 = .ok (.ireturn, 1) := by decide +kernel
theorem dX5_ruling_0 : decode cX5_ruling 0 = .ok (.iload_n 1, 1) := by decide +kernel
theorem dX5_ruling_1 : decode cX5_ruling 1 = .ok (.invokestatic 178, 3) := by decide +kernel
theorem dX5_ruling_4 : decode cX5_ruling 4 = .ok (.ifCond .eq 10, 3) := by decide +kernel
theorem dX5_ruling_7 : decode cX5_ruling 7 = .ok (.iload_n 2, 1) := by decide +kernel
theorem dX5_ruling_8 : decode cX5_ruling 8 = .ok (.invokestatic 83, 3) := by decide +kernel
theorem dX5_ruling_11 : decode cX5_ruling 11 = .ok (.ifCond .ne 5, 3) := by decide +kernel
theorem dX5_ruling_14 : decode cX5_ruling 14 = .ok (.iconst (-1), 1) := by decide +kernel
theorem dX5_ruling_15 : decode cX5_ruling 15 = .ok (.ireturn, 1) := by decide +kernel
theorem dX5_ruling_16 : decode cX5_ruling 16 = .ok (.iload_n 3, 1) := by decide +kernel
theorem dX5_ruling_17 : decode cX5_ruling 17 = .ok (.iconst 3, 1) := by decide +kernel
theorem dX5_ruling_18 : decode cX5_ruling 18 = .ok (.invokestatic 86, 3) := by decide +kernel
theorem dX5_ruling_21 : decode cX5_ruling 21 = .ok (.ifCond .ne 6, 3) := by decide +kernel
theorem dX5_ruling_24 : decode cX5_ruling 24 = .ok (.bipush (-2), 2) := by decide +kernel
theorem dX5_ruling_26 : decode cX5_ruling 26 = .ok (.ireturn, 1) := by decide +kernel
theorem dX5_ruling_27 : decode cX5_ruling 27 = .ok (.aload_n 0, 1) := by decide +kernel
theorem dX5_ruling_28 : decode cX5_ruling 28 = .ok (.getfield 10, 3) := by decide +kernel
theorem dX5_ruling_31 : decode cX5_ruling 31 = .ok (.iload_n 1, 1) := by decide +kernel
theorem dX5_ruling_32 : decode cX5_ruling 32 = .ok (.iload_n 2, 1) := by decide +kernel
theorem dX5_ruling_33 : decode cX5_ruling 33 = .ok (.invokevirtual 181, 3) := by decide +kernel
theorem dX5_ruling_36 : decode cX5_ruling 36 = .ok (.istore 4, 2) := by decide +kernel
theorem dX5_ruling_38 : decode cX5_ruling 38 = .ok (.iload 4, 2) := by decide +kernel
theorem dX5_ruling_40 : decode cX5_ruling 40 = .ok (.iconst (-1), 1) := by decide +kernel
theorem dX5_ruling_41 : decode cX5_ruling 41 = .ok (.if_icmp .ne 6, 3) := by decide +kernel
theorem dX5_ruling_44 : decode cX5_ruling 44 = .ok (.bipush (-5), 2) := by decide +kernel
theorem dX5_ruling_46 : decode cX5_ruling 46 = .ok (.ireturn, 1) := by decide +kernel
theorem dX5_ruling_47 : decode cX5_ruling 47 = .ok (.iload_n 3, 1) := by decide +kernel
theorem dX5_ruling_48 : decode cX5_ruling 48 = .ok (.ifCond .ne 17, 3) := by decide +kernel
theorem dX5_ruling_51 : decode cX5_ruling 51 = .ok (.aload_n 0, 1) := by decide +kernel
theorem dX5_ruling_52 : decode cX5_ruling 52 = .ok (.getfield 20, 3) := by decide +kernel
theorem dX5_ruling_55 : decode cX5_ruling 55 = .ok (.getfield 89, 3) := by decide +kernel
theorem dX5_ruling_58 : decode cX5_ruling 58 = .ok (.getfield 166, 3) := by decide +kernel
theorem dX5_ruling_61 : decode cX5_ruling 61 = .ok (.iload 4, 2) := by decide +kernel
theorem dX5_ruling_63 : decode cX5_ruling 63 = .ok (.iaload, 1) := by decide +kernel
theorem dX5_ruling_64 : decode cX5_ruling 64 = .ok (.ireturn, 1) := by decide +kernel
theorem dX5_ruling_65 : decode cX5_ruling 65 = .ok (.iload_n 3, 1) := by decide +kernel
theorem dX5_ruling_66 : decode cX5_ruling 66 = .ok (.iconst 1, 1) := by decide +kernel
theorem dX5_ruling_67 : decode cX5_ruling 67 = .ok (.if_icmp .ne 8, 3) := by decide +kernel
theorem dX5_ruling_70 : decode cX5_ruling 70 = .ok (.iload 4, 2) := by decide +kernel
theorem dX5_ruling_72 : decode cX5_ruling 72 = .ok (.goto 16, 3) := by decide +kernel
theorem dX5_ruling_75 : decode cX5_ruling 75 = .ok (.aload_n 0, 1) := by decide +kernel
theorem dX5_ruling_76 : decode cX5_ruling 76 = .ok (.getfield 20, 3) := by decide +kernel
theorem dX5_ruling_79 : decode cX5_ruling 79 = .ok (.getfield 89, 3) := by decide +kernel
theorem dX5_ruling_82 : decode cX5_ruling 82 = .ok (.getfield 157, 3) := by decide +kernel
theorem dX5_ruling_85 : decode cX5_ruling 85 = .ok (.iload 4, 2) := by decide +kernel
theorem dX5_ruling_87 : decode cX5_ruling 87 = .ok (.iaload, 1) := by decide +kernel
theorem dX5_ruling_88 : decode cX5_ruling 88 = .ok (.ireturn, 1) := by decide +kernel
theorem dX5_painted_0 : decode cX5_painted 0 = .ok (.iload_n 1, 1) := by decide +kernel
theorem dX5_painted_1 : decode cX5_painted 1 = .ok (.invokestatic 178, 3) := by decide +kernel
theorem dX5_painted_4 : decode cX5_painted 4 = .ok (.ifCond .eq 10, 3) := by decide +kernel
theorem dX5_painted_7 : decode cX5_painted 7 = .ok (.iload_n 2, 1) := by decide +kernel
theorem dX5_painted_8 : decode cX5_painted 8 = .ok (.invokestatic 83, 3) := by decide +kernel
theorem dX5_painted_11 : decode cX5_painted 11 = .ok (.ifCond .ne 5, 3) := by decide +kernel
theorem dX5_painted_14 : decode cX5_painted 14 = .ok (.iconst (-1), 1) := by decide +kernel
theorem dX5_painted_15 : decode cX5_painted 15 = .ok (.ireturn, 1) := by decide +kernel
theorem dX5_painted_16 : decode cX5_painted 16 = .ok (.aload_n 0, 1) := by decide +kernel
theorem dX5_painted_17 : decode cX5_painted 17 = .ok (.getfield 58, 3) := by decide +kernel
theorem dX5_painted_20 : decode cX5_painted 20 = .ok (.aload_n 0, 1) := by decide +kernel
theorem dX5_painted_21 : decode cX5_painted 21 = .ok (.getfield 20, 3) := by decide +kernel
theorem dX5_painted_24 : decode cX5_painted 24 = .ok (.iload_n 2, 1) := by decide +kernel
theorem dX5_painted_25 : decode cX5_painted 25 = .ok (.invokevirtual 184, 3) := by decide +kernel
theorem dX5_painted_28 : decode cX5_painted 28 = .ok (.aload_n 0, 1) := by decide +kernel
theorem dX5_painted_29 : decode cX5_painted 29 = .ok (.getfield 58, 3) := by decide +kernel
theorem dX5_painted_32 : decode cX5_painted 32 = .ok (.getfield 188, 3) := by decide +kernel
theorem dX5_painted_35 : decode cX5_painted 35 = .ok (.iload_n 1, 1) := by decide +kernel
theorem dX5_painted_36 : decode cX5_painted 36 = .ok (.iaload, 1) := by decide +kernel
theorem dX5_painted_37 : decode cX5_painted 37 = .ok (.istore_n 3, 1) := by decide +kernel
theorem dX5_painted_38 : decode cX5_painted 38 = .ok (.iload_n 3, 1) := by decide +kernel
theorem dX5_painted_39 : decode cX5_painted 39 = .ok (.iconst (-1), 1) := by decide +kernel
theorem dX5_painted_40 : decode cX5_painted 40 = .ok (.if_icmp .ne 8, 3) := by decide +kernel
theorem dX5_painted_43 : decode cX5_painted 43 = .ok (.bipush (-5), 2) := by decide +kernel
theorem dX5_painted_45 : decode cX5_painted 45 = .ok (.goto 4, 3) := by decide +kernel
theorem dX5_painted_48 : decode cX5_painted 48 = .ok (.iload_n 3, 1) := by decide +kernel
theorem dX5_painted_49 : decode cX5_painted 49 = .ok (.ireturn, 1) := by decide +kernel
theorem dX5_silencedBy_0 : decode cX5_silencedBy 0 = .ok (.aload_n 0, 1) := by decide +kernel
theorem dX5_silencedBy_1 : decode cX5_silencedBy 1 = .ok (.getfield 20, 3) := by decide +kernel
theorem dX5_silencedBy_4 : decode cX5_silencedBy 4 = .ok (.getfield 89, 3) := by decide +kernel
theorem dX5_silencedBy_7 : decode cX5_silencedBy 7 = .ok (.iload_n 1, 1) := by decide +kernel
theorem dX5_silencedBy_8 : decode cX5_silencedBy 8 = .ok (.invokevirtual 99, 3) := by decide +kernel
theorem dX5_silencedBy_11 : decode cX5_silencedBy 11 = .ok (.ifCond .eq 17, 3) := by decide +kernel
theorem dX5_silencedBy_14 : decode cX5_silencedBy 14 = .ok (.iload_n 2, 1) := by decide +kernel
theorem dX5_silencedBy_15 : decode cX5_silencedBy 15 = .ok (.invokestatic 178, 3) := by decide +kernel
theorem dX5_silencedBy_18 : decode cX5_silencedBy 18 = .ok (.ifCond .eq 10, 3) := by decide +kernel
theorem dX5_silencedBy_21 : decode cX5_silencedBy 21 = .ok (.iload_n 3, 1) := by decide +kernel
theorem dX5_silencedBy_22 : decode cX5_silencedBy 22 = .ok (.invokestatic 83, 3) := by decide +kernel
theorem dX5_silencedBy_25 : decode cX5_silencedBy 25 = .ok (.ifCond .ne 5, 3) := by decide +kernel
theorem dX5_silencedBy_28 : decode cX5_silencedBy 28 = .ok (.iconst (-1), 1) := by decide +kernel
theorem dX5_silencedBy_29 : decode cX5_silencedBy 29 = .ok (.ireturn, 1) := by decide +kernel
theorem dX5_silencedBy_30 : decode cX5_silencedBy 30 = .ok (.aload_n 0, 1) := by decide +kernel
theorem dX5_silencedBy_31 : decode cX5_silencedBy 31 = .ok (.getfield 10, 3) := by decide +kernel
theorem dX5_silencedBy_34 : decode cX5_silencedBy 34 = .ok (.iload_n 1, 1) := by decide +kernel
theorem dX5_silencedBy_35 : decode cX5_silencedBy 35 = .ok (.iload_n 2, 1) := by decide +kernel
theorem dX5_silencedBy_36 : decode cX5_silencedBy 36 = .ok (.iload_n 3, 1) := by decide +kernel
theorem dX5_silencedBy_37 : decode cX5_silencedBy 37 = .ok (.invokevirtual 191, 3) := by decide +kernel
theorem dX5_silencedBy_40 : decode cX5_silencedBy 40 = .ok (.istore 4, 2) := by decide +kernel
theorem dX5_silencedBy_42 : decode cX5_silencedBy 42 = .ok (.iload 4, 2) := by decide +kernel
theorem dX5_silencedBy_44 : decode cX5_silencedBy 44 = .ok (.iconst (-1), 1) := by decide +kernel
theorem dX5_silencedBy_45 : decode cX5_silencedBy 45 = .ok (.if_icmp .ne 8, 3) := by decide +kernel
theorem dX5_silencedBy_48 : decode cX5_silencedBy 48 = .ok (.bipush (-5), 2) := by decide +kernel
theorem dX5_silencedBy_50 : decode cX5_silencedBy 50 = .ok (.goto 5, 3) := by decide +kernel
theorem dX5_silencedBy_53 : decode cX5_silencedBy 53 = .ok (.iload 4, 2) := by decide +kernel
theorem dX5_silencedBy_55 : decode cX5_silencedBy 55 = .ok (.ireturn, 1) := by decide +kernel
theorem dX5_reason_0 : decode cX5_reason 0 = .ok (.aload_n 0, 1) := by decide +kernel
theorem dX5_reason_1 : decode cX5_reason 1 = .ok (.getfield 20, 3) := by decide +kernel
theorem dX5_reason_4 : decode cX5_reason 4 = .ok (.getfield 89, 3) := by decide +kernel
theorem dX5_reason_7 : decode cX5_reason 7 = .ok (.iload_n 1, 1) := by decide +kernel
theorem dX5_reason_8 : decode cX5_reason 8 = .ok (.invokevirtual 99, 3) := by decide +kernel
theorem dX5_reason_11 : decode cX5_reason 11 = .ok (.ifCond .eq 17, 3) := by decide +kernel
theorem dX5_reason_14 : decode cX5_reason 14 = .ok (.iload_n 2, 1) := by decide +kernel
theorem dX5_reason_15 : decode cX5_reason 15 = .ok (.invokestatic 178, 3) := by decide +kernel
theorem dX5_reason_18 : decode cX5_reason 18 = .ok (.ifCond .eq 10, 3) := by decide +kernel
theorem dX5_reason_21 : decode cX5_reason 21 = .ok (.iload_n 3, 1) := by decide +kernel
theorem dX5_reason_22 : decode cX5_reason 22 = .ok (.invokestatic 83, 3) := by decide +kernel
theorem dX5_reason_25 : decode cX5_reason 25 = .ok (.ifCond .ne 5, 3) := by decide +kernel
theorem dX5_reason_28 : decode cX5_reason 28 = .ok (.iconst (-1), 1) := by decide +kernel
theorem dX5_reason_29 : decode cX5_reason 29 = .ok (.ireturn, 1) := by decide +kernel
theorem dX5_reason_30 : decode cX5_reason 30 = .ok (.aload_n 0, 1) := by decide +kernel
theorem dX5_reason_31 : decode cX5_reason 31 = .ok (.getfield 10, 3) := by decide +kernel
theorem dX5_reason_34 : decode cX5_reason 34 = .ok (.iload_n 1, 1) := by decide +kernel
theorem dX5_reason_35 : decode cX5_reason 35 = .ok (.iload_n 2, 1) := by decide +kernel
theorem dX5_reason_36 : decode cX5_reason 36 = .ok (.iload_n 3, 1) := by decide +kernel
theorem dX5_reason_37 : decode cX5_reason 37 = .ok (.invokevirtual 195, 3) := by decide +kernel
theorem dX5_reason_40 : decode cX5_reason 40 = .ok (.ireturn, 1) := by decide +kernel
theorem dX5_changesOn_0 : decode cX5_changesOn 0 = .ok (.iload_n 1, 1) := by decide +kernel
theorem dX5_changesOn_1 : decode cX5_changesOn 1 = .ok (.invokestatic 178, 3) := by decide +kernel
theorem dX5_changesOn_4 : decode cX5_changesOn 4 = .ok (.ifCond .eq 10, 3) := by decide +kernel
theorem dX5_changesOn_7 : decode cX5_changesOn 7 = .ok (.iload_n 2, 1) := by decide +kernel
theorem dX5_changesOn_8 : decode cX5_changesOn 8 = .ok (.invokestatic 83, 3) := by decide +kernel
theorem dX5_changesOn_11 : decode cX5_changesOn 11 = .ok (.ifCond .ne 5, 3) := by decide +kernel
theorem dX5_changesOn_14 : decode cX5_changesOn 14 = .ok (.iconst (-1), 1) := by decide +kernel
theorem dX5_changesOn_15 : decode cX5_changesOn 15 = .ok (.ireturn, 1) := by decide +kernel
theorem dX5_changesOn_16 : decode cX5_changesOn 16 = .ok (.aload_n 0, 1) := by decide +kernel
theorem dX5_changesOn_17 : decode cX5_changesOn 17 = .ok (.getfield 10, 3) := by decide +kernel
theorem dX5_changesOn_20 : decode cX5_changesOn 20 = .ok (.iload_n 1, 1) := by decide +kernel
theorem dX5_changesOn_21 : decode cX5_changesOn 21 = .ok (.iload_n 2, 1) := by decide +kernel
theorem dX5_changesOn_22 : decode cX5_changesOn 22 = .ok (.invokevirtual 198, 3) := by decide +kernel
theorem dX5_changesOn_25 : decode cX5_changesOn 25 = .ok (.ireturn, 1) := by decide +kernel
theorem dX5_unlike_0 : decode cX5_unlike 0 = .ok (.iload_n 1, 1) := by decide +kernel
theorem dX5_unlike_1 : decode cX5_unlike 1 = .ok (.invokestatic 62, 3) := by decide +kernel
theorem dX5_unlike_4 : decode cX5_unlike 4 = .ok (.ifCond .eq 10, 3) := by decide +kernel
theorem dX5_unlike_7 : decode cX5_unlike 7 = .ok (.iload_n 2, 1) := by decide +kernel
theorem dX5_unlike_8 : decode cX5_unlike 8 = .ok (.invokestatic 62, 3) := by decide +kernel
theorem dX5_unlike_11 : decode cX5_unlike 11 = .ok (.ifCond .ne 5, 3) := by decide +kernel
theorem dX5_unlike_14 : decode cX5_unlike 14 = .ok (.iconst (-1), 1) := by decide +kernel
theorem dX5_unlike_15 : decode cX5_unlike 15 = .ok (.ireturn, 1) := by decide +kernel
theorem dX5_unlike_16 : decode cX5_unlike 16 = .ok (.iload_n 1, 1) := by decide +kernel
theorem dX5_unlike_17 : decode cX5_unlike 17 = .ok (.iload_n 2, 1) := by decide +kernel
theorem dX5_unlike_18 : decode cX5_unlike 18 = .ok (.if_icmp .ne 6, 3) := by decide +kernel
theorem dX5_unlike_21 : decode cX5_unlike 21 = .ok (.bipush (-2), 2) := by decide +kernel
theorem dX5_unlike_23 : decode cX5_unlike 23 = .ok (.ireturn, 1) := by decide +kernel
theorem dX5_unlike_24 : decode cX5_unlike 24 = .ok (.aload_n 0, 1) := by decide +kernel
theorem dX5_unlike_25 : decode cX5_unlike 25 = .ok (.getfield 10, 3) := by decide +kernel
theorem dX5_unlike_28 : decode cX5_unlike 28 = .ok (.iload_n 1, 1) := by decide +kernel
theorem dX5_unlike_29 : decode cX5_unlike 29 = .ok (.iload_n 2, 1) := by decide +kernel
theorem dX5_unlike_30 : decode cX5_unlike 30 = .ok (.invokevirtual 201, 3) := by decide +kernel
theorem dX5_unlike_33 : decode cX5_unlike 33 = .ok (.ireturn, 1) := by decide +kernel
theorem dX5_idle_0 : decode cX5_idle 0 = .ok (.iconst 1, 1) := by decide +kernel
theorem dX5_idle_1 : decode cX5_idle 1 = .ok (.aload_n 0, 1) := by decide +kernel
theorem dX5_idle_2 : decode cX5_idle 2 = .ok (.getfield 20, 3) := by decide +kernel
theorem dX5_idle_5 : decode cX5_idle 5 = .ok (.getfield 89, 3) := by decide +kernel
theorem dX5_idle_8 : decode cX5_idle 8 = .ok (.getfield 92, 3) := by decide +kernel
theorem dX5_idle_11 : decode cX5_idle 11 = .ok (.ishl, 1) := by decide +kernel
theorem dX5_idle_12 : decode cX5_idle 12 = .ok (.iconst 1, 1) := by decide +kernel
theorem dX5_idle_13 : decode cX5_idle 13 = .ok (.isub, 1) := by decide +kernel
theorem dX5_idle_14 : decode cX5_idle 14 = .ok (.istore_n 1, 1) := by decide +kernel
theorem dX5_idle_15 : decode cX5_idle 15 = .ok (.iload_n 1, 1) := by decide +kernel
theorem dX5_idle_16 : decode cX5_idle 16 = .ok (.aload_n 0, 1) := by decide +kernel
theorem dX5_idle_17 : decode cX5_idle 17 = .ok (.getfield 10, 3) := by decide +kernel
theorem dX5_idle_20 : decode cX5_idle 20 = .ok (.invokevirtual 204, 3) := by decide +kernel
theorem dX5_idle_23 : decode cX5_idle 23 = .ok (.iconst (-1), 1) := by decide +kernel
theorem dX5_idle_24 : decode cX5_idle 24 = .ok (.ixor, 1) := by decide +kernel
theorem dX5_idle_25 : decode cX5_idle 25 = .ok (.iand, 1) := by decide +kernel
theorem dX5_idle_26 : decode cX5_idle 26 = .ok (.ireturn, 1) := by decide +kernel
theorem dX5_ifGone_0 : decode cX5_ifGone 0 = .ok (.aload_n 0, 1) := by decide +kernel
theorem dX5_ifGone_1 : decode cX5_ifGone 1 = .ok (.getfield 20, 3) := by decide +kernel
theorem dX5_ifGone_4 : decode cX5_ifGone 4 = .ok (.getfield 89, 3) := by decide +kernel
theorem dX5_ifGone_7 : decode cX5_ifGone 7 = .ok (.iload_n 1, 1) := by decide +kernel
theorem dX5_ifGone_8 : decode cX5_ifGone 8 = .ok (.invokevirtual 99, 3) := by decide +kernel
theorem dX5_ifGone_11 : decode cX5_ifGone 11 = .ok (.ifCond .ne 5, 3) := by decide +kernel
theorem dX5_ifGone_14 : decode cX5_ifGone 14 = .ok (.iconst (-1), 1) := by decide +kernel
theorem dX5_ifGone_15 : decode cX5_ifGone 15 = .ok (.ireturn, 1) := by decide +kernel
theorem dX5_ifGone_16 : decode cX5_ifGone 16 = .ok (.aload_n 0, 1) := by decide +kernel
theorem dX5_ifGone_17 : decode cX5_ifGone 17 = .ok (.getfield 10, 3) := by decide +kernel
theorem dX5_ifGone_20 : decode cX5_ifGone 20 = .ok (.iload_n 1, 1) := by decide +kernel
theorem dX5_ifGone_21 : decode cX5_ifGone 21 = .ok (.invokevirtual 208, 3) := by decide +kernel
theorem dX5_ifGone_24 : decode cX5_ifGone 24 = .ok (.ireturn, 1) := by decide +kernel
theorem dX5_weightiest_0 : decode cX5_weightiest 0 = .ok (.aload_n 0, 1) := by decide +kernel
theorem dX5_weightiest_1 : decode cX5_weightiest 1 = .ok (.getfield 10, 3) := by decide +kernel
theorem dX5_weightiest_4 : decode cX5_weightiest 4 = .ok (.invokevirtual 211, 3) := by decide +kernel
theorem dX5_weightiest_7 : decode cX5_weightiest 7 = .ok (.istore_n 1, 1) := by decide +kernel
theorem dX5_weightiest_8 : decode cX5_weightiest 8 = .ok (.iload_n 1, 1) := by decide +kernel
theorem dX5_weightiest_9 : decode cX5_weightiest 9 = .ok (.iconst (-1), 1) := by decide +kernel
theorem dX5_weightiest_10 : decode cX5_weightiest 10 = .ok (.if_icmp .ne 8, 3) := by decide +kernel
theorem dX5_weightiest_13 : decode cX5_weightiest 13 = .ok (.bipush (-5), 2) := by decide +kernel
theorem dX5_weightiest_15 : decode cX5_weightiest 15 = .ok (.goto 4, 3) := by decide +kernel
theorem dX5_weightiest_18 : decode cX5_weightiest 18 = .ok (.iload_n 1, 1) := by decide +kernel
theorem dX5_weightiest_19 : decode cX5_weightiest 19 = .ok (.ireturn, 1) := by decide +kernel
theorem dX5_count_0 : decode cX5_count 0 = .ok (.iload_n 1, 1) := by decide +kernel
theorem dX5_count_1 : decode cX5_count 1 = .ok (.tableswitch 139 0 8 #[51, 59, 70, 88, 96, 104, 115, 126, 131], 51) := by decide +kernel
theorem dX5_count_52 : decode cX5_count 52 = .ok (.aload_n 0, 1) := by decide +kernel
theorem dX5_count_53 : decode cX5_count 53 = .ok (.getfield 20, 3) := by decide +kernel
theorem dX5_count_56 : decode cX5_count 56 = .ok (.getfield 115, 3) := by decide +kernel
theorem dX5_count_59 : decode cX5_count 59 = .ok (.ireturn, 1) := by decide +kernel
theorem dX5_count_60 : decode cX5_count 60 = .ok (.aload_n 0, 1) := by decide +kernel
theorem dX5_count_61 : decode cX5_count 61 = .ok (.getfield 20, 3) := by decide +kernel
theorem dX5_count_64 : decode cX5_count 64 = .ok (.getfield 89, 3) := by decide +kernel
theorem dX5_count_67 : decode cX5_count 67 = .ok (.getfield 92, 3) := by decide +kernel
theorem dX5_count_70 : decode cX5_count 70 = .ok (.ireturn, 1) := by decide +kernel
theorem dX5_count_71 : decode cX5_count 71 = .ok (.aload_n 0, 1) := by decide +kernel
theorem dX5_count_72 : decode cX5_count 72 = .ok (.getfield 20, 3) := by decide +kernel
theorem dX5_count_75 : decode cX5_count 75 = .ok (.getfield 89, 3) := by decide +kernel
theorem dX5_count_78 : decode cX5_count 78 = .ok (.aload_n 0, 1) := by decide +kernel
theorem dX5_count_79 : decode cX5_count 79 = .ok (.getfield 20, 3) := by decide +kernel
theorem dX5_count_82 : decode cX5_count 82 = .ok (.getfield 115, 3) := by decide +kernel
theorem dX5_count_85 : decode cX5_count 85 = .ok (.invokevirtual 214, 3) := by decide +kernel
theorem dX5_count_88 : decode cX5_count 88 = .ok (.ireturn, 1) := by decide +kernel
theorem dX5_count_89 : decode cX5_count 89 = .ok (.aload_n 0, 1) := by decide +kernel
theorem dX5_count_90 : decode cX5_count 90 = .ok (.getfield 10, 3) := by decide +kernel
theorem dX5_count_93 : decode cX5_count 93 = .ok (.invokevirtual 217, 3) := by decide +kernel
theorem dX5_count_96 : decode cX5_count 96 = .ok (.ireturn, 1) := by decide +kernel
theorem dX5_count_97 : decode cX5_count 97 = .ok (.aload_n 0, 1) := by decide +kernel
theorem dX5_count_98 : decode cX5_count 98 = .ok (.getfield 10, 3) := by decide +kernel
theorem dX5_count_101 : decode cX5_count 101 = .ok (.invokevirtual 220, 3) := by decide +kernel
theorem dX5_count_104 : decode cX5_count 104 = .ok (.ireturn, 1) := by decide +kernel
theorem dX5_count_105 : decode cX5_count 105 = .ok (.aload_n 0, 1) := by decide +kernel
theorem dX5_count_106 : decode cX5_count 106 = .ok (.getfield 20, 3) := by decide +kernel
theorem dX5_count_109 : decode cX5_count 109 = .ok (.getfield 89, 3) := by decide +kernel
theorem dX5_count_112 : decode cX5_count 112 = .ok (.invokevirtual 223, 3) := by decide +kernel
theorem dX5_count_115 : decode cX5_count 115 = .ok (.ireturn, 1) := by decide +kernel
theorem dX5_count_116 : decode cX5_count 116 = .ok (.aload_n 0, 1) := by decide +kernel
theorem dX5_count_117 : decode cX5_count 117 = .ok (.getfield 20, 3) := by decide +kernel
theorem dX5_count_120 : decode cX5_count 120 = .ok (.getfield 89, 3) := by decide +kernel
theorem dX5_count_123 : decode cX5_count 123 = .ok (.invokevirtual 226, 3) := by decide +kernel
theorem dX5_count_126 : decode cX5_count 126 = .ok (.ireturn, 1) := by decide +kernel
theorem dX5_count_127 : decode cX5_count 127 = .ok (.aload_n 0, 1) := by decide +kernel
theorem dX5_count_128 : decode cX5_count 128 = .ok (.getfield 37, 3) := by decide +kernel
theorem dX5_count_131 : decode cX5_count 131 = .ok (.ireturn, 1) := by decide +kernel
theorem dX5_count_132 : decode cX5_count 132 = .ok (.aload_n 0, 1) := by decide +kernel
theorem dX5_count_133 : decode cX5_count 133 = .ok (.getfield 44, 3) := by decide +kernel
theorem dX5_count_136 : decode cX5_count 136 = .ok (.getfield 122, 3) := by decide +kernel
theorem dX5_count_139 : decode cX5_count 139 = .ok (.ireturn, 1) := by decide +kernel
theorem dX5_count_140 : decode cX5_count 140 = .ok (.bipush (-2), 2) := by decide +kernel
theorem dX5_count_142 : decode cX5_count 142 = .ok (.ireturn, 1) := by decide +kernel
theorem dX5_isBelow_0 : decode cX5_isBelow 0 = .ok (.iload_n 0, 1) := by decide +kernel
theorem dX5_isBelow_1 : decode cX5_isBelow 1 = .ok (.ifCond .lt 12, 3) := by decide +kernel
theorem dX5_isBelow_4 : decode cX5_isBelow 4 = .ok (.iload_n 0, 1) := by decide +kernel
theorem dX5_isBelow_5 : decode cX5_isBelow 5 = .ok (.iload_n 1, 1) := by decide +kernel
theorem dX5_isBelow_6 : decode cX5_isBelow 6 = .ok (.if_icmp .ge 7, 3) := by decide +kernel
theorem dX5_isBelow_9 : decode cX5_isBelow 9 = .ok (.iconst 1, 1) := by decide +kernel
theorem dX5_isBelow_10 : decode cX5_isBelow 10 = .ok (.goto 4, 3) := by decide +kernel
theorem dX5_isBelow_13 : decode cX5_isBelow 13 = .ok (.iconst 0, 1) := by decide +kernel
theorem dX5_isBelow_14 : decode cX5_isBelow 14 = .ok (.ireturn, 1) := by decide +kernel
theorem dX5_isChapter_0 : decode cX5_isChapter 0 = .ok (.iload_n 0, 1) := by decide +kernel
theorem dX5_isChapter_1 : decode cX5_isChapter 1 = .ok (.bipush 6, 2) := by decide +kernel
theorem dX5_isChapter_3 : decode cX5_isChapter 3 = .ok (.invokestatic 86, 3) := by decide +kernel
theorem dX5_isChapter_6 : decode cX5_isChapter 6 = .ok (.ireturn, 1) := by decide +kernel
theorem dX5_isCase_0 : decode cX5_isCase 0 = .ok (.iload_n 0, 1) := by decide +kernel
theorem dX5_isCase_1 : decode cX5_isCase 1 = .ok (.bipush 100, 2) := by decide +kernel
theorem dX5_isCase_3 : decode cX5_isCase 3 = .ok (.invokestatic 86, 3) := by decide +kernel
theorem dX5_isCase_6 : decode cX5_isCase 6 = .ok (.ireturn, 1) := by decide +kernel
theorem dX5_isDay_0 : decode cX5_isDay 0 = .ok (.iload_n 0, 1) := by decide +kernel
theorem dX5_isDay_1 : decode cX5_isDay 1 = .ok (.sipush 1000, 3) := by decide +kernel
theorem dX5_isDay_4 : decode cX5_isDay 4 = .ok (.invokestatic 86, 3) := by decide +kernel
theorem dX5_isDay_7 : decode cX5_isDay 7 = .ok (.ireturn, 1) := by decide +kernel
theorem dX5_isSpan_0 : decode cX5_isSpan 0 = .ok (.iload_n 0, 1) := by decide +kernel
theorem dX5_isSpan_1 : decode cX5_isSpan 1 = .ok (.invokestatic 178, 3) := by decide +kernel
theorem dX5_isSpan_4 : decode cX5_isSpan 4 = .ok (.ifCond .eq 19, 3) := by decide +kernel
theorem dX5_isSpan_7 : decode cX5_isSpan 7 = .ok (.iload_n 1, 1) := by decide +kernel
theorem dX5_isSpan_8 : decode cX5_isSpan 8 = .ok (.invokestatic 178, 3) := by decide +kernel
theorem dX5_isSpan_11 : decode cX5_isSpan 11 = .ok (.ifCond .eq 12, 3) := by decide +kernel
theorem dX5_isSpan_14 : decode cX5_isSpan 14 = .ok (.iload_n 0, 1) := by decide +kernel
theorem dX5_isSpan_15 : decode cX5_isSpan 15 = .ok (.iload_n 1, 1) := by decide +kernel
theorem dX5_isSpan_16 : decode cX5_isSpan 16 = .ok (.if_icmp .gt 7, 3) := by decide +kernel
theorem dX5_isSpan_19 : decode cX5_isSpan 19 = .ok (.iconst 1, 1) := by decide +kernel
theorem dX5_isSpan_20 : decode cX5_isSpan 20 = .ok (.goto 4, 3) := by decide +kernel
theorem dX5_isSpan_23 : decode cX5_isSpan 23 = .ok (.iconst 0, 1) := by decide +kernel
theorem dX5_isSpan_24 : decode cX5_isSpan 24 = .ok (.ireturn, 1) := by decide +kernel
theorem dX5_record_0 : decode cX5_record 0 = .ok (.aload_n 0, 1) := by decide +kernel
theorem dX5_record_1 : decode cX5_record 1 = .ok (.getfield 37, 3) := by decide +kernel
theorem dX5_record_4 : decode cX5_record 4 = .ok (.iconst 4, 1) := by decide +kernel
theorem dX5_record_5 : decode cX5_record 5 = .ok (.if_icmp .ge 16, 3) := by decide +kernel
theorem dX5_record_8 : decode cX5_record 8 = .ok (.aload_n 0, 1) := by decide +kernel
theorem dX5_record_9 : decode cX5_record 9 = .ok (.dup, 1) := by decide +kernel
theorem dX5_record_10 : decode cX5_record 10 = .ok (.getfield 37, 3) := by decide +kernel
theorem dX5_record_13 : decode cX5_record 13 = .ok (.iconst 1, 1) := by decide +kernel
theorem dX5_record_14 : decode cX5_record 14 = .ok (.iadd, 1) := by decide +kernel
theorem dX5_record_15 : decode cX5_record 15 = .ok (.putfield 37, 3) := by decide +kernel
theorem dX5_record_18 : decode cX5_record 18 = .ok (.goto 44, 3) := by decide +kernel
theorem dX5_record_21 : decode cX5_record 21 = .ok (.aload_n 0, 1) := by decide +kernel
theorem dX5_record_22 : decode cX5_record 22 = .ok (.getfield 33, 3) := by decide +kernel
theorem dX5_record_25 : decode cX5_record 25 = .ok (.iconst 0, 1) := by decide +kernel
theorem dX5_record_26 : decode cX5_record 26 = .ok (.aaload, 1) := by decide +kernel
theorem dX5_record_27 : decode cX5_record 27 = .ok (.astore_n 1, 1) := by decide +kernel
theorem dX5_record_28 : decode cX5_record 28 = .ok (.iconst 1, 1) := by decide +kernel
theorem dX5_record_29 : decode cX5_record 29 = .ok (.istore_n 2, 1) := by decide +kernel
theorem dX5_record_30 : decode cX5_record 30 = .ok (.iload_n 2, 1) := by decide +kernel
theorem dX5_record_31 : decode cX5_record 31 = .ok (.iconst 4, 1) := by decide +kernel
