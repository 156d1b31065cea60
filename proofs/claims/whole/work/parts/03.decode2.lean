theorem dX5_record_32 : decode cX5_record 32 = .ok (.if_icmp .ge 23, 3) := by decide +kernel
theorem dX5_record_35 : decode cX5_record 35 = .ok (.aload_n 0, 1) := by decide +kernel
theorem dX5_record_36 : decode cX5_record 36 = .ok (.getfield 33, 3) := by decide +kernel
theorem dX5_record_39 : decode cX5_record 39 = .ok (.iload_n 2, 1) := by decide +kernel
theorem dX5_record_40 : decode cX5_record 40 = .ok (.iconst 1, 1) := by decide +kernel
theorem dX5_record_41 : decode cX5_record 41 = .ok (.isub, 1) := by decide +kernel
theorem dX5_record_42 : decode cX5_record 42 = .ok (.aload_n 0, 1) := by decide +kernel
theorem dX5_record_43 : decode cX5_record 43 = .ok (.getfield 33, 3) := by decide +kernel
theorem dX5_record_46 : decode cX5_record 46 = .ok (.iload_n 2, 1) := by decide +kernel
theorem dX5_record_47 : decode cX5_record 47 = .ok (.aaload, 1) := by decide +kernel
theorem dX5_record_48 : decode cX5_record 48 = .ok (.aastore, 1) := by decide +kernel
theorem dX5_record_49 : decode cX5_record 49 = .ok (.iinc 2 1, 3) := by decide +kernel
theorem dX5_record_52 : decode cX5_record 52 = .ok (.goto (-22), 3) := by decide +kernel
theorem dX5_record_55 : decode cX5_record 55 = .ok (.aload_n 0, 1) := by decide +kernel
theorem dX5_record_56 : decode cX5_record 56 = .ok (.getfield 33, 3) := by decide +kernel
theorem dX5_record_59 : decode cX5_record 59 = .ok (.iconst 3, 1) := by decide +kernel
theorem dX5_record_60 : decode cX5_record 60 = .ok (.aload_n 1, 1) := by decide +kernel
theorem dX5_record_61 : decode cX5_record 61 = .ok (.aastore, 1) := by decide +kernel
theorem dX5_record_62 : decode cX5_record 62 = .ok (.aload_n 0, 1) := by decide +kernel
theorem dX5_record_63 : decode cX5_record 63 = .ok (.getfield 33, 3) := by decide +kernel
theorem dX5_record_66 : decode cX5_record 66 = .ok (.aload_n 0, 1) := by decide +kernel
theorem dX5_record_67 : decode cX5_record 67 = .ok (.getfield 37, 3) := by decide +kernel
theorem dX5_record_70 : decode cX5_record 70 = .ok (.iconst 1, 1) := by decide +kernel
theorem dX5_record_71 : decode cX5_record 71 = .ok (.isub, 1) := by decide +kernel
theorem dX5_record_72 : decode cX5_record 72 = .ok (.aaload, 1) := by decide +kernel
theorem dX5_record_73 : decode cX5_record 73 = .ok (.aload_n 0, 1) := by decide +kernel
theorem dX5_record_74 : decode cX5_record 74 = .ok (.getfield 20, 3) := by decide +kernel
theorem dX5_record_77 : decode cX5_record 77 = .ok (.invokevirtual 143, 3) := by decide +kernel
theorem dX5_record_80 : decode cX5_record 80 = .ok (.return_, 1) := by decide +kernel
theorem dX6_init_0 : decode cX6_init 0 = .ok (.aload_n 0, 1) := by decide +kernel
theorem dX6_init_1 : decode cX6_init 1 = .ok (.invokespecial 1, 3) := by decide +kernel
theorem dX6_init_4 : decode cX6_init 4 = .ok (.aload_n 0, 1) := by decide +kernel
theorem dX6_init_5 : decode cX6_init 5 = .ok (.sipush 410, 3) := by decide +kernel
theorem dX6_init_8 : decode cX6_init 8 = .ok (.newarray .int, 2) := by decide +kernel
theorem dX6_init_10 : decode cX6_init 10 = .ok (.putfield 7, 3) := by decide +kernel
theorem dX6_init_13 : decode cX6_init 13 = .ok (.aload_n 0, 1) := by decide +kernel
theorem dX6_init_14 : decode cX6_init 14 = .ok (.sipush 1640, 3) := by decide +kernel
theorem dX6_init_17 : decode cX6_init 17 = .ok (.newarray .int, 2) := by decide +kernel
theorem dX6_init_19 : decode cX6_init 19 = .ok (.putfield 13, 3) := by decide +kernel
theorem dX6_init_22 : decode cX6_init 22 = .ok (.aload_n 0, 1) := by decide +kernel
theorem dX6_init_23 : decode cX6_init 23 = .ok (.sipush 410, 3) := by decide +kernel
theorem dX6_init_26 : decode cX6_init 26 = .ok (.newarray .int, 2) := by decide +kernel
theorem dX6_init_28 : decode cX6_init 28 = .ok (.putfield 16, 3) := by decide +kernel
theorem dX6_init_31 : decode cX6_init 31 = .ok (.aload_n 0, 1) := by decide +kernel
theorem dX6_init_32 : decode cX6_init 32 = .ok (.bipush 80, 2) := by decide +kernel
theorem dX6_init_34 : decode cX6_init 34 = .ok (.newarray .int, 2) := by decide +kernel
theorem dX6_init_36 : decode cX6_init 36 = .ok (.putfield 19, 3) := by decide +kernel
theorem dX6_init_39 : decode cX6_init 39 = .ok (.aload_n 0, 1) := by decide +kernel
theorem dX6_init_40 : decode cX6_init 40 = .ok (.bipush 100, 2) := by decide +kernel
theorem dX6_init_42 : decode cX6_init 42 = .ok (.newarray .int, 2) := by decide +kernel
theorem dX6_init_44 : decode cX6_init 44 = .ok (.putfield 22, 3) := by decide +kernel
theorem dX6_init_47 : decode cX6_init 47 = .ok (.aload_n 0, 1) := by decide +kernel
theorem dX6_init_48 : decode cX6_init 48 = .ok (.bipush 100, 2) := by decide +kernel
theorem dX6_init_50 : decode cX6_init 50 = .ok (.newarray .int, 2) := by decide +kernel
theorem dX6_init_52 : decode cX6_init 52 = .ok (.putfield 25, 3) := by decide +kernel
theorem dX6_init_55 : decode cX6_init 55 = .ok (.iconst 0, 1) := by decide +kernel
theorem dX6_init_56 : decode cX6_init 56 = .ok (.istore_n 1, 1) := by decide +kernel
theorem dX6_init_57 : decode cX6_init 57 = .ok (.iload_n 1, 1) := by decide +kernel
theorem dX6_init_58 : decode cX6_init 58 = .ok (.bipush 6, 2) := by decide +kernel
theorem dX6_init_60 : decode cX6_init 60 = .ok (.if_icmp .ge 32, 3) := by decide +kernel
theorem dX6_init_63 : decode cX6_init 63 = .ok (.aload_n 0, 1) := by decide +kernel
theorem dX6_init_64 : decode cX6_init 64 = .ok (.getfield 7, 3) := by decide +kernel
theorem dX6_init_67 : decode cX6_init 67 = .ok (.iload_n 1, 1) := by decide +kernel
theorem dX6_init_68 : decode cX6_init 68 = .ok (.iconst 1, 1) := by decide +kernel
theorem dX6_init_69 : decode cX6_init 69 = .ok (.invokestatic 28, 3) := by decide +kernel
theorem dX6_init_72 : decode cX6_init 72 = .ok (.bipush 99, 2) := by decide +kernel
theorem dX6_init_74 : decode cX6_init 74 = .ok (.iastore, 1) := by decide +kernel
theorem dX6_init_75 : decode cX6_init 75 = .ok (.aload_n 0, 1) := by decide +kernel
theorem dX6_init_76 : decode cX6_init 76 = .ok (.getfield 7, 3) := by decide +kernel
theorem dX6_init_79 : decode cX6_init 79 = .ok (.iload_n 1, 1) := by decide +kernel
theorem dX6_init_80 : decode cX6_init 80 = .ok (.iconst 2, 1) := by decide +kernel
theorem dX6_init_81 : decode cX6_init 81 = .ok (.invokestatic 28, 3) := by decide +kernel
theorem dX6_init_84 : decode cX6_init 84 = .ok (.iload_n 1, 1) := by decide +kernel
theorem dX6_init_85 : decode cX6_init 85 = .ok (.iastore, 1) := by decide +kernel
theorem dX6_init_86 : decode cX6_init 86 = .ok (.iinc 1 1, 3) := by decide +kernel
theorem dX6_init_89 : decode cX6_init 89 = .ok (.goto (-32), 3) := by decide +kernel
theorem dX6_init_92 : decode cX6_init 92 = .ok (.return_, 1) := by decide +kernel
theorem dX6_in_0 : decode cX6_in 0 = .ok (.iload_n 0, 1) := by decide +kernel
theorem dX6_in_1 : decode cX6_in 1 = .ok (.iload_n 1, 1) := by decide +kernel
theorem dX6_in_2 : decode cX6_in 2 = .ok (.if_icmp .lt 12, 3) := by decide +kernel
theorem dX6_in_5 : decode cX6_in 5 = .ok (.iload_n 0, 1) := by decide +kernel
theorem dX6_in_6 : decode cX6_in 6 = .ok (.iload_n 2, 1) := by decide +kernel
theorem dX6_in_7 : decode cX6_in 7 = .ok (.if_icmp .gt 7, 3) := by decide +kernel
theorem dX6_in_10 : decode cX6_in 10 = .ok (.iconst 1, 1) := by decide +kernel
theorem dX6_in_11 : decode cX6_in 11 = .ok (.goto 4, 3) := by decide +kernel
theorem dX6_in_14 : decode cX6_in 14 = .ok (.iconst 0, 1) := by decide +kernel
theorem dX6_in_15 : decode cX6_in 15 = .ok (.ireturn, 1) := by decide +kernel
theorem dX6_isChapter_0 : decode cX6_isChapter 0 = .ok (.iload_n 0, 1) := by decide +kernel
theorem dX6_isChapter_1 : decode cX6_isChapter 1 = .ok (.iconst 0, 1) := by decide +kernel
theorem dX6_isChapter_2 : decode cX6_isChapter 2 = .ok (.iconst 5, 1) := by decide +kernel
theorem dX6_isChapter_3 : decode cX6_isChapter 3 = .ok (.invokestatic 32, 3) := by decide +kernel
theorem dX6_isChapter_6 : decode cX6_isChapter 6 = .ok (.ireturn, 1) := by decide +kernel
theorem dX6_isCase_0 : decode cX6_isCase 0 = .ok (.iload_n 0, 1) := by decide +kernel
theorem dX6_isCase_1 : decode cX6_isCase 1 = .ok (.iconst 0, 1) := by decide +kernel
theorem dX6_isCase_2 : decode cX6_isCase 2 = .ok (.bipush 99, 2) := by decide +kernel
theorem dX6_isCase_4 : decode cX6_isCase 4 = .ok (.invokestatic 32, 3) := by decide +kernel
theorem dX6_isCase_7 : decode cX6_isCase 7 = .ok (.ireturn, 1) := by decide +kernel
theorem dX6_isDay_0 : decode cX6_isDay 0 = .ok (.iload_n 0, 1) := by decide +kernel
theorem dX6_isDay_1 : decode cX6_isDay 1 = .ok (.iconst 0, 1) := by decide +kernel
theorem dX6_isDay_2 : decode cX6_isDay 2 = .ok (.sipush 999, 3) := by decide +kernel
theorem dX6_isDay_5 : decode cX6_isDay 5 = .ok (.invokestatic 32, 3) := by decide +kernel
theorem dX6_isDay_8 : decode cX6_isDay 8 = .ok (.ireturn, 1) := by decide +kernel
theorem dX6_isSpan_0 : decode cX6_isSpan 0 = .ok (.iload_n 0, 1) := by decide +kernel
theorem dX6_isSpan_1 : decode cX6_isSpan 1 = .ok (.invokestatic 36, 3) := by decide +kernel
theorem dX6_isSpan_4 : decode cX6_isSpan 4 = .ok (.ifCond .eq 17, 3) := by decide +kernel
theorem dX6_isSpan_7 : decode cX6_isSpan 7 = .ok (.iload_n 1, 1) := by decide +kernel
theorem dX6_isSpan_8 : decode cX6_isSpan 8 = .ok (.iload_n 0, 1) := by decide +kernel
theorem dX6_isSpan_9 : decode cX6_isSpan 9 = .ok (.bipush 99, 2) := by decide +kernel
theorem dX6_isSpan_11 : decode cX6_isSpan 11 = .ok (.invokestatic 32, 3) := by decide +kernel
theorem dX6_isSpan_14 : decode cX6_isSpan 14 = .ok (.ifCond .eq 7, 3) := by decide +kernel
theorem dX6_isSpan_17 : decode cX6_isSpan 17 = .ok (.iconst 1, 1) := by decide +kernel
theorem dX6_isSpan_18 : decode cX6_isSpan 18 = .ok (.goto 4, 3) := by decide +kernel
theorem dX6_isSpan_21 : decode cX6_isSpan 21 = .ok (.iconst 0, 1) := by decide +kernel
theorem dX6_isSpan_22 : decode cX6_isSpan 22 = .ok (.ireturn, 1) := by decide +kernel
theorem dX6_isClause_0 : decode cX6_isClause 0 = .ok (.iload_n 1, 1) := by decide +kernel
theorem dX6_isClause_1 : decode cX6_isClause 1 = .ok (.iconst 0, 1) := by decide +kernel
theorem dX6_isClause_2 : decode cX6_isClause 2 = .ok (.aload_n 0, 1) := by decide +kernel
theorem dX6_isClause_3 : decode cX6_isClause 3 = .ok (.getfield 7, 3) := by decide +kernel
theorem dX6_isClause_6 : decode cX6_isClause 6 = .ok (.bipush 19, 2) := by decide +kernel
theorem dX6_isClause_8 : decode cX6_isClause 8 = .ok (.iaload, 1) := by decide +kernel
theorem dX6_isClause_9 : decode cX6_isClause 9 = .ok (.iconst 1, 1) := by decide +kernel
theorem dX6_isClause_10 : decode cX6_isClause 10 = .ok (.isub, 1) := by decide +kernel
theorem dX6_isClause_11 : decode cX6_isClause 11 = .ok (.invokestatic 32, 3) := by decide +kernel
theorem dX6_isClause_14 : decode cX6_isClause 14 = .ok (.ireturn, 1) := by decide +kernel
theorem dX6_ofChapter_0 : decode cX6_ofChapter 0 = .ok (.iconst 1, 1) := by decide +kernel
theorem dX6_ofChapter_1 : decode cX6_ofChapter 1 = .ok (.iconst 3, 1) := by decide +kernel
theorem dX6_ofChapter_2 : decode cX6_ofChapter 2 = .ok (.iload_n 0, 1) := by decide +kernel
theorem dX6_ofChapter_3 : decode cX6_ofChapter 3 = .ok (.imul, 1) := by decide +kernel
theorem dX6_ofChapter_4 : decode cX6_ofChapter 4 = .ok (.iadd, 1) := by decide +kernel
theorem dX6_ofChapter_5 : decode cX6_ofChapter 5 = .ok (.iload_n 1, 1) := by decide +kernel
theorem dX6_ofChapter_6 : decode cX6_ofChapter 6 = .ok (.iadd, 1) := by decide +kernel
theorem dX6_ofChapter_7 : decode cX6_ofChapter 7 = .ok (.ireturn, 1) := by decide +kernel
theorem dX6_of_0 : decode cX6_of 0 = .ok (.bipush 20, 2) := by decide +kernel
theorem dX6_of_2 : decode cX6_of 2 = .ok (.bipush 13, 2) := by decide +kernel
theorem dX6_of_4 : decode cX6_of 4 = .ok (.iload_n 0, 1) := by decide +kernel
theorem dX6_of_5 : decode cX6_of 5 = .ok (.imul, 1) := by decide +kernel
theorem dX6_of_6 : decode cX6_of 6 = .ok (.iadd, 1) := by decide +kernel
theorem dX6_of_7 : decode cX6_of 7 = .ok (.iload_n 1, 1) := by decide +kernel
theorem dX6_of_8 : decode cX6_of 8 = .ok (.iadd, 1) := by decide +kernel
theorem dX6_of_9 : decode cX6_of 9 = .ok (.ireturn, 1) := by decide +kernel
theorem dX6_get_0 : decode cX6_get 0 = .ok (.aload_n 0, 1) := by decide +kernel
theorem dX6_get_1 : decode cX6_get 1 = .ok (.getfield 7, 3) := by decide +kernel
theorem dX6_get_4 : decode cX6_get 4 = .ok (.iload_n 1, 1) := by decide +kernel
theorem dX6_get_5 : decode cX6_get 5 = .ok (.iload_n 2, 1) := by decide +kernel
theorem dX6_get_6 : decode cX6_get 6 = .ok (.invokestatic 40, 3) := by decide +kernel
theorem dX6_get_9 : decode cX6_get 9 = .ok (.iaload, 1) := by decide +kernel
theorem dX6_get_10 : decode cX6_get 10 = .ok (.ireturn, 1) := by decide +kernel
theorem dX6_record_0 : decode cX6_record 0 = .ok (.aload_n 0, 1) := by decide +kernel
theorem dX6_record_1 : decode cX6_record 1 = .ok (.getfield 43, 3) := by decide +kernel
theorem dX6_record_4 : decode cX6_record 4 = .ok (.iconst 4, 1) := by decide +kernel
theorem dX6_record_5 : decode cX6_record 5 = .ok (.if_icmp .ne 44, 3) := by decide +kernel
theorem dX6_record_8 : decode cX6_record 8 = .ok (.iconst 0, 1) := by decide +kernel
theorem dX6_record_9 : decode cX6_record 9 = .ok (.istore_n 1, 1) := by decide +kernel
theorem dX6_record_10 : decode cX6_record 10 = .ok (.iload_n 1, 1) := by decide +kernel
theorem dX6_record_11 : decode cX6_record 11 = .ok (.sipush 1230, 3) := by decide +kernel
theorem dX6_record_14 : decode cX6_record 14 = .ok (.if_icmp .ge 25, 3) := by decide +kernel
theorem dX6_record_17 : decode cX6_record 17 = .ok (.aload_n 0, 1) := by decide +kernel
theorem dX6_record_18 : decode cX6_record 18 = .ok (.getfield 13, 3) := by decide +kernel
theorem dX6_record_21 : decode cX6_record 21 = .ok (.iload_n 1, 1) := by decide +kernel
theorem dX6_record_22 : decode cX6_record 22 = .ok (.aload_n 0, 1) := by decide +kernel
theorem dX6_record_23 : decode cX6_record 23 = .ok (.getfield 13, 3) := by decide +kernel
theorem dX6_record_26 : decode cX6_record 26 = .ok (.iload_n 1, 1) := by decide +kernel
theorem dX6_record_27 : decode cX6_record 27 = .ok (.sipush 410, 3) := by decide +kernel
theorem dX6_record_30 : decode cX6_record 30 = .ok (.iadd, 1) := by decide +kernel
theorem dX6_record_31 : decode cX6_record 31 = .ok (.iaload, 1) := by decide +kernel
theorem dX6_record_32 : decode cX6_record 32 = .ok (.iastore, 1) := by decide +kernel
theorem dX6_record_33 : decode cX6_record 33 = .ok (.iinc 1 1, 3) := by decide +kernel
theorem dX6_record_36 : decode cX6_record 36 = .ok (.goto (-26), 3) := by decide +kernel
theorem dX6_record_39 : decode cX6_record 39 = .ok (.aload_n 0, 1) := by decide +kernel
theorem dX6_record_40 : decode cX6_record 40 = .ok (.dup, 1) := by decide +kernel
theorem dX6_record_41 : decode cX6_record 41 = .ok (.getfield 43, 3) := by decide +kernel
theorem dX6_record_44 : decode cX6_record 44 = .ok (.iconst 1, 1) := by decide +kernel
theorem dX6_record_45 : decode cX6_record 45 = .ok (.isub, 1) := by decide +kernel
theorem dX6_record_46 : decode cX6_record 46 = .ok (.putfield 43, 3) := by decide +kernel
theorem dX6_record_49 : decode cX6_record 49 = .ok (.iconst 0, 1) := by decide +kernel
theorem dX6_record_50 : decode cX6_record 50 = .ok (.istore_n 1, 1) := by decide +kernel
theorem dX6_record_51 : decode cX6_record 51 = .ok (.iload_n 1, 1) := by decide +kernel
theorem dX6_record_52 : decode cX6_record 52 = .ok (.sipush 410, 3) := by decide +kernel
theorem dX6_record_55 : decode cX6_record 55 = .ok (.if_icmp .ge 30, 3) := by decide +kernel
theorem dX6_record_58 : decode cX6_record 58 = .ok (.aload_n 0, 1) := by decide +kernel
theorem dX6_record_59 : decode cX6_record 59 = .ok (.getfield 13, 3) := by decide +kernel
theorem dX6_record_62 : decode cX6_record 62 = .ok (.sipush 410, 3) := by decide +kernel
theorem dX6_record_65 : decode cX6_record 65 = .ok (.aload_n 0, 1) := by decide +kernel
theorem dX6_record_66 : decode cX6_record 66 = .ok (.getfield 43, 3) := by decide +kernel
theorem dX6_record_69 : decode cX6_record 69 = .ok (.imul, 1) := by decide +kernel
theorem dX6_record_70 : decode cX6_record 70 = .ok (.iload_n 1, 1) := by decide +kernel
theorem dX6_record_71 : decode cX6_record 71 = .ok (.iadd, 1) := by decide +kernel
theorem dX6_record_72 : decode cX6_record 72 = .ok (.aload_n 0, 1) := by decide +kernel
theorem dX6_record_73 : decode cX6_record 73 = .ok (.getfield 7, 3) := by decide +kernel
theorem dX6_record_76 : decode cX6_record 76 = .ok (.iload_n 1, 1) := by decide +kernel
theorem dX6_record_77 : decode cX6_record 77 = .ok (.iaload, 1) := by decide +kernel
theorem dX6_record_78 : decode cX6_record 78 = .ok (.iastore, 1) := by decide +kernel
theorem dX6_record_79 : decode cX6_record 79 = .ok (.iinc 1 1, 3) := by decide +kernel
theorem dX6_record_82 : decode cX6_record 82 = .ok (.goto (-31), 3) := by decide +kernel
theorem dX6_record_85 : decode cX6_record 85 = .ok (.aload_n 0, 1) := by decide +kernel
theorem dX6_record_86 : decode cX6_record 86 = .ok (.dup, 1) := by decide +kernel
theorem dX6_record_87 : decode cX6_record 87 = .ok (.getfield 43, 3) := by decide +kernel
theorem dX6_record_90 : decode cX6_record 90 = .ok (.iconst 1, 1) := by decide +kernel
theorem dX6_record_91 : decode cX6_record 91 = .ok (.iadd, 1) := by decide +kernel
theorem dX6_record_92 : decode cX6_record 92 = .ok (.putfield 43, 3) := by decide +kernel
theorem dX6_record_95 : decode cX6_record 95 = .ok (.return_, 1) := by decide +kernel
theorem dX6_isInForce_0 : decode cX6_isInForce 0 = .ok (.aload_n 0, 1) := by decide +kernel
theorem dX6_isInForce_1 : decode cX6_isInForce 1 = .ok (.iload_n 1, 1) := by decide +kernel
theorem dX6_isInForce_2 : decode cX6_isInForce 2 = .ok (.iconst 1, 1) := by decide +kernel
theorem dX6_isInForce_3 : decode cX6_isInForce 3 = .ok (.invokevirtual 47, 3) := by decide +kernel
theorem dX6_isInForce_6 : decode cX6_isInForce 6 = .ok (.iload_n 2, 1) := by decide +kernel
theorem dX6_isInForce_7 : decode cX6_isInForce 7 = .ok (.if_icmp .gt 17, 3) := by decide +kernel
theorem dX6_isInForce_10 : decode cX6_isInForce 10 = .ok (.iload_n 2, 1) := by decide +kernel
theorem dX6_isInForce_11 : decode cX6_isInForce 11 = .ok (.aload_n 0, 1) := by decide +kernel
theorem dX6_isInForce_12 : decode cX6_isInForce 12 = .ok (.iload_n 1, 1) := by decide +kernel
theorem dX6_isInForce_13 : decode cX6_isInForce 13 = .ok (.iconst 2, 1) := by decide +kernel
theorem dX6_isInForce_14 : decode cX6_isInForce 14 = .ok (.invokevirtual 47, 3) := by decide +kernel
theorem dX6_isInForce_17 : decode cX6_isInForce 17 = .ok (.if_icmp .ge 7, 3) := by decide +kernel
theorem dX6_isInForce_20 : decode cX6_isInForce 20 = .ok (.iconst 1, 1) := by decide +kernel
theorem dX6_isInForce_21 : decode cX6_isInForce 21 = .ok (.goto 4, 3) := by decide +kernel
theorem dX6_isInForce_24 : decode cX6_isInForce 24 = .ok (.iconst 0, 1) := by decide +kernel
theorem dX6_isInForce_25 : decode cX6_isInForce 25 = .ok (.ireturn, 1) := by decide +kernel
theorem dX6_reaches_0 : decode cX6_reaches 0 = .ok (.iload_n 2, 1) := by decide +kernel
theorem dX6_reaches_1 : decode cX6_reaches 1 = .ok (.aload_n 0, 1) := by decide +kernel
theorem dX6_reaches_2 : decode cX6_reaches 2 = .ok (.getfield 7, 3) := by decide +kernel
theorem dX6_reaches_5 : decode cX6_reaches 5 = .ok (.iload_n 1, 1) := by decide +kernel
theorem dX6_reaches_6 : decode cX6_reaches 6 = .ok (.iconst 0, 1) := by decide +kernel
theorem dX6_reaches_7 : decode cX6_reaches 7 = .ok (.invokestatic 28, 3) := by decide +kernel
theorem dX6_reaches_10 : decode cX6_reaches 10 = .ok (.iaload, 1) := by decide +kernel
theorem dX6_reaches_11 : decode cX6_reaches 11 = .ok (.aload_n 0, 1) := by decide +kernel
theorem dX6_reaches_12 : decode cX6_reaches 12 = .ok (.getfield 7, 3) := by decide +kernel
theorem dX6_reaches_15 : decode cX6_reaches 15 = .ok (.iload_n 1, 1) := by decide +kernel
theorem dX6_reaches_16 : decode cX6_reaches 16 = .ok (.iconst 1, 1) := by decide +kernel
theorem dX6_reaches_17 : decode cX6_reaches 17 = .ok (.invokestatic 28, 3) := by decide +kernel
theorem dX6_reaches_20 : decode cX6_reaches 20 = .ok (.iaload, 1) := by decide +kernel
theorem dX6_reaches_21 : decode cX6_reaches 21 = .ok (.invokestatic 32, 3) := by decide +kernel
theorem dX6_reaches_24 : decode cX6_reaches 24 = .ok (.ireturn, 1) := by decide +kernel
theorem dX6_isExcepted_0 : decode cX6_isExcepted 0 = .ok (.iconst 0, 1) := by decide +kernel
theorem dX6_isExcepted_1 : decode cX6_isExcepted 1 = .ok (.istore_n 3, 1) := by decide +kernel
theorem dX6_isExcepted_2 : decode cX6_isExcepted 2 = .ok (.iconst 0, 1) := by decide +kernel
theorem dX6_isExcepted_3 : decode cX6_isExcepted 3 = .ok (.istore 4, 2) := by decide +kernel
theorem dX6_isExcepted_5 : decode cX6_isExcepted 5 = .ok (.iload 4, 2) := by decide +kernel
theorem dX6_isExcepted_7 : decode cX6_isExcepted 7 = .ok (.aload_n 0, 1) := by decide +kernel
theorem dX6_isExcepted_8 : decode cX6_isExcepted 8 = .ok (.iload_n 1, 1) := by decide +kernel
theorem dX6_isExcepted_9 : decode cX6_isExcepted 9 = .ok (.bipush 6, 2) := by decide +kernel
theorem dX6_isExcepted_11 : decode cX6_isExcepted 11 = .ok (.invokevirtual 47, 3) := by decide +kernel
theorem dX6_isExcepted_14 : decode cX6_isExcepted 14 = .ok (.if_icmp .ge 52, 3) := by decide +kernel
theorem dX6_isExcepted_17 : decode cX6_isExcepted 17 = .ok (.iload_n 3, 1) := by decide +kernel
theorem dX6_isExcepted_18 : decode cX6_isExcepted 18 = .ok (.ifCond .ne 36, 3) := by decide +kernel
theorem dX6_isExcepted_21 : decode cX6_isExcepted 21 = .ok (.iload_n 2, 1) := by decide +kernel
theorem dX6_isExcepted_22 : decode cX6_isExcepted 22 = .ok (.aload_n 0, 1) := by decide +kernel
theorem dX6_isExcepted_23 : decode cX6_isExcepted 23 = .ok (.iload_n 1, 1) := by decide +kernel
theorem dX6_isExcepted_24 : decode cX6_isExcepted 24 = .ok (.bipush 7, 2) := by decide +kernel
theorem dX6_isExcepted_26 : decode cX6_isExcepted 26 = .ok (.iconst 2, 1) := by decide +kernel
theorem dX6_isExcepted_27 : decode cX6_isExcepted 27 = .ok (.iload 4, 2) := by decide +kernel
theorem dX6_isExcepted_29 : decode cX6_isExcepted 29 = .ok (.imul, 1) := by decide +kernel
theorem dX6_isExcepted_30 : decode cX6_isExcepted 30 = .ok (.iadd, 1) := by decide +kernel
theorem dX6_isExcepted_31 : decode cX6_isExcepted 31 = .ok (.invokevirtual 47, 3) := by decide +kernel
theorem dX6_isExcepted_34 : decode cX6_isExcepted 34 = .ok (.aload_n 0, 1) := by decide +kernel
theorem dX6_isExcepted_35 : decode cX6_isExcepted 35 = .ok (.iload_n 1, 1) := by decide +kernel
theorem dX6_isExcepted_36 : decode cX6_isExcepted 36 = .ok (.bipush 7, 2) := by decide +kernel
theorem dX6_isExcepted_38 : decode cX6_isExcepted 38 = .ok (.iconst 2, 1) := by decide +kernel
theorem dX6_isExcepted_39 : decode cX6_isExcepted 39 = .ok (.iload 4, 2) := by decide +kernel
theorem dX6_isExcepted_41 : decode cX6_isExcepted 41 = .ok (.imul, 1) := by decide +kernel
theorem dX6_isExcepted_42 : decode cX6_isExcepted 42 = .ok (.iadd, 1) := by decide +kernel
theorem dX6_isExcepted_43 : decode cX6_isExcepted 43 = .ok (.iconst 1, 1) := by decide +kernel
theorem dX6_isExcepted_44 : decode cX6_isExcepted 44 = .ok (.iadd, 1) := by decide +kernel
theorem dX6_isExcepted_45 : decode cX6_isExcepted 45 = .ok (.invokevirtual 47, 3) := by decide +kernel
theorem dX6_isExcepted_48 : decode cX6_isExcepted 48 = .ok (.invokestatic 32, 3) := by decide +kernel
theorem dX6_isExcepted_51 : decode cX6_isExcepted 51 = .ok (.ifCond .eq 7, 3) := by decide +kernel
theorem dX6_isExcepted_54 : decode cX6_isExcepted 54 = .ok (.iconst 1, 1) := by decide +kernel
theorem dX6_isExcepted_55 : decode cX6_isExcepted 55 = .ok (.goto 4, 3) := by decide +kernel
theorem dX6_isExcepted_58 : decode cX6_isExcepted 58 = .ok (.iconst 0, 1) := by decide +kernel
theorem dX6_isExcepted_59 : decode cX6_isExcepted 59 = .ok (.istore_n 3, 1) := by decide +kernel
theorem dX6_isExcepted_60 : decode cX6_isExcepted 60 = .ok (.iinc 4 1, 3) := by decide +kernel
theorem dX6_isExcepted_63 : decode cX6_isExcepted 63 = .ok (.goto (-58), 3) := by decide +kernel
theorem dX6_isExcepted_66 : decode cX6_isExcepted 66 = .ok (.iload_n 3, 1) := by decide +kernel
theorem dX6_isExcepted_67 : decode cX6_isExcepted 67 = .ok (.ireturn, 1) := by decide +kernel
theorem dX6_meets_0 : decode cX6_meets 0 = .ok (.aload_n 0, 1) := by decide +kernel
theorem dX6_meets_1 : decode cX6_meets 1 = .ok (.aload_n 0, 1) := by decide +kernel
theorem dX6_meets_2 : decode cX6_meets 2 = .ok (.iload_n 1, 1) := by decide +kernel
theorem dX6_meets_3 : decode cX6_meets 3 = .ok (.iconst 0, 1) := by decide +kernel
theorem dX6_meets_4 : decode cX6_meets 4 = .ok (.invokevirtual 47, 3) := by decide +kernel
theorem dX6_meets_7 : decode cX6_meets 7 = .ok (.iload_n 2, 1) := by decide +kernel
theorem dX6_meets_8 : decode cX6_meets 8 = .ok (.invokevirtual 50, 3) := by decide +kernel
theorem dX6_meets_11 : decode cX6_meets 11 = .ok (.ifCond .eq 35, 3) := by decide +kernel
theorem dX6_meets_14 : decode cX6_meets 14 = .ok (.iload_n 2, 1) := by decide +kernel
theorem dX6_meets_15 : decode cX6_meets 15 = .ok (.aload_n 0, 1) := by decide +kernel
theorem dX6_meets_16 : decode cX6_meets 16 = .ok (.iload_n 1, 1) := by decide +kernel
theorem dX6_meets_17 : decode cX6_meets 17 = .ok (.iconst 3, 1) := by decide +kernel
theorem dX6_meets_18 : decode cX6_meets 18 = .ok (.invokevirtual 47, 3) := by decide +kernel
theorem dX6_meets_21 : decode cX6_meets 21 = .ok (.aload_n 0, 1) := by decide +kernel
theorem dX6_meets_22 : decode cX6_meets 22 = .ok (.iload_n 1, 1) := by decide +kernel
theorem dX6_meets_23 : decode cX6_meets 23 = .ok (.iconst 4, 1) := by decide +kernel
theorem dX6_meets_24 : decode cX6_meets 24 = .ok (.invokevirtual 47, 3) := by decide +kernel
theorem dX6_meets_27 : decode cX6_meets 27 = .ok (.invokestatic 32, 3) := by decide +kernel
theorem dX6_meets_30 : decode cX6_meets 30 = .ok (.ifCond .eq 16, 3) := by decide +kernel
theorem dX6_meets_33 : decode cX6_meets 33 = .ok (.aload_n 0, 1) := by decide +kernel
theorem dX6_meets_34 : decode cX6_meets 34 = .ok (.iload_n 1, 1) := by decide +kernel
theorem dX6_meets_35 : decode cX6_meets 35 = .ok (.iload_n 2, 1) := by decide +kernel
theorem dX6_meets_36 : decode cX6_meets 36 = .ok (.invokevirtual 54, 3) := by decide +kernel
theorem dX6_meets_39 : decode cX6_meets 39 = .ok (.ifCond .ne 7, 3) := by decide +kernel
theorem dX6_meets_42 : decode cX6_meets 42 = .ok (.iconst 1, 1) := by decide +kernel
theorem dX6_meets_43 : decode cX6_meets 43 = .ok (.goto 4, 3) := by decide +kernel
theorem dX6_meets_46 : decode cX6_meets 46 = .ok (.iconst 0, 1) := by decide +kernel
theorem dX6_meets_47 : decode cX6_meets 47 = .ok (.ireturn, 1) := by decide +kernel
theorem dX6_latestOf_0 : decode cX6_latestOf 0 = .ok (.bipush (-5), 2) := by decide +kernel
theorem dX6_latestOf_2 : decode cX6_latestOf 2 = .ok (.istore 5, 2) := by decide +kernel
theorem dX6_latestOf_4 : decode cX6_latestOf 4 = .ok (.iconst 0, 1) := by decide +kernel
theorem dX6_latestOf_5 : decode cX6_latestOf 5 = .ok (.istore 6, 2) := by decide +kernel
theorem dX6_latestOf_7 : decode cX6_latestOf 7 = .ok (.iload 6, 2) := by decide +kernel
theorem dX6_latestOf_9 : decode cX6_latestOf 9 = .ok (.aload_n 0, 1) := by decide +kernel
theorem dX6_latestOf_10 : decode cX6_latestOf 10 = .ok (.getfield 7, 3) := by decide +kernel
theorem dX6_latestOf_13 : decode cX6_latestOf 13 = .ok (.bipush 19, 2) := by decide +kernel
theorem dX6_latestOf_15 : decode cX6_latestOf 15 = .ok (.iaload, 1) := by decide +kernel
theorem dX6_latestOf_16 : decode cX6_latestOf 16 = .ok (.if_icmp .ge 92, 3) := by decide +kernel
theorem dX6_latestOf_19 : decode cX6_latestOf 19 = .ok (.iload 6, 2) := by decide +kernel
theorem dX6_latestOf_21 : decode cX6_latestOf 21 = .ok (.iload 4, 2) := by decide +kernel
theorem dX6_latestOf_23 : decode cX6_latestOf 23 = .ok (.if_icmp .eq 38, 3) := by decide +kernel
theorem dX6_latestOf_26 : decode cX6_latestOf 26 = .ok (.aload_n 0, 1) := by decide +kernel
theorem dX6_latestOf_27 : decode cX6_latestOf 27 = .ok (.iload 6, 2) := by decide +kernel
theorem dX6_latestOf_29 : decode cX6_latestOf 29 = .ok (.iconst 0, 1) := by decide +kernel
theorem dX6_latestOf_30 : decode cX6_latestOf 30 = .ok (.invokevirtual 47, 3) := by decide +kernel
theorem dX6_latestOf_33 : decode cX6_latestOf 33 = .ok (.iload_n 1, 1) := by decide +kernel
theorem dX6_latestOf_34 : decode cX6_latestOf 34 = .ok (.if_icmp .ne 27, 3) := by decide +kernel
theorem dX6_latestOf_37 : decode cX6_latestOf 37 = .ok (.aload_n 0, 1) := by decide +kernel
theorem dX6_latestOf_38 : decode cX6_latestOf 38 = .ok (.iload 6, 2) := by decide +kernel
theorem dX6_latestOf_40 : decode cX6_latestOf 40 = .ok (.iload_n 3, 1) := by decide +kernel
theorem dX6_latestOf_41 : decode cX6_latestOf 41 = .ok (.invokevirtual 57, 3) := by decide +kernel
theorem dX6_latestOf_44 : decode cX6_latestOf 44 = .ok (.ifCond .eq 17, 3) := by decide +kernel
theorem dX6_latestOf_47 : decode cX6_latestOf 47 = .ok (.aload_n 0, 1) := by decide +kernel
theorem dX6_latestOf_48 : decode cX6_latestOf 48 = .ok (.iload 6, 2) := by decide +kernel
theorem dX6_latestOf_50 : decode cX6_latestOf 50 = .ok (.iload_n 2, 1) := by decide +kernel
theorem dX6_latestOf_51 : decode cX6_latestOf 51 = .ok (.invokevirtual 60, 3) := by decide +kernel
theorem dX6_latestOf_54 : decode cX6_latestOf 54 = .ok (.ifCond .eq 7, 3) := by decide +kernel
theorem dX6_latestOf_57 : decode cX6_latestOf 57 = .ok (.iconst 1, 1) := by decide +kernel
theorem dX6_latestOf_58 : decode cX6_latestOf 58 = .ok (.goto 4, 3) := by decide +kernel
theorem dX6_latestOf_61 : decode cX6_latestOf 61 = .ok (.iconst 0, 1) := by decide +kernel
theorem dX6_latestOf_62 : decode cX6_latestOf 62 = .ok (.istore 7, 2) := by decide +kernel
theorem dX6_latestOf_64 : decode cX6_latestOf 64 = .ok (.iload 7, 2) := by decide +kernel
theorem dX6_latestOf_66 : decode cX6_latestOf 66 = .ok (.ifCond .eq 32, 3) := by decide +kernel
theorem dX6_latestOf_69 : decode cX6_latestOf 69 = .ok (.iload 5, 2) := by decide +kernel
theorem dX6_latestOf_71 : decode cX6_latestOf 71 = .ok (.bipush (-5), 2) := by decide +kernel
theorem dX6_latestOf_73 : decode cX6_latestOf 73 = .ok (.if_icmp .eq 20, 3) := by decide +kernel
theorem dX6_latestOf_76 : decode cX6_latestOf 76 = .ok (.aload_n 0, 1) := by decide +kernel
theorem dX6_latestOf_77 : decode cX6_latestOf 77 = .ok (.iload 6, 2) := by decide +kernel
theorem dX6_latestOf_79 : decode cX6_latestOf 79 = .ok (.iconst 1, 1) := by decide +kernel
theorem dX6_latestOf_80 : decode cX6_latestOf 80 = .ok (.invokevirtual 47, 3) := by decide +kernel
theorem dX6_latestOf_83 : decode cX6_latestOf 83 = .ok (.aload_n 0, 1) := by decide +kernel
theorem dX6_latestOf_84 : decode cX6_latestOf 84 = .ok (.iload 5, 2) := by decide +kernel
theorem dX6_latestOf_86 : decode cX6_latestOf 86 = .ok (.iconst 1, 1) := by decide +kernel
theorem dX6_latestOf_87 : decode cX6_latestOf 87 = .ok (.invokevirtual 47, 3) := by decide +kernel
theorem dX6_latestOf_90 : decode cX6_latestOf 90 = .ok (.if_icmp .lt 8, 3) := by decide +kernel
theorem dX6_latestOf_93 : decode cX6_latestOf 93 = .ok (.iload 6, 2) := by decide +kernel
theorem dX6_latestOf_95 : decode cX6_latestOf 95 = .ok (.goto 5, 3) := by decide +kernel
theorem dX6_latestOf_98 : decode cX6_latestOf 98 = .ok (.iload 5, 2) := by decide +kernel
theorem dX6_latestOf_100 : decode cX6_latestOf 100 = .ok (.istore 5, 2) := by decide +kernel
theorem dX6_latestOf_102 : decode cX6_latestOf 102 = .ok (.iinc 6 1, 3) := by decide +kernel
theorem dX6_latestOf_105 : decode cX6_latestOf 105 = .ok (.goto (-98), 3) := by decide +kernel
theorem dX6_latestOf_108 : decode cX6_latestOf 108 = .ok (.iload 5, 2) := by decide +kernel
theorem dX6_latestOf_110 : decode cX6_latestOf 110 = .ok (.ireturn, 1) := by decide +kernel
theorem dX6_speaksIn_0 : decode cX6_speaksIn 0 = .ok (.aload_n 0, 1) := by decide +kernel
theorem dX6_speaksIn_1 : decode cX6_speaksIn 1 = .ok (.iload_n 1, 1) := by decide +kernel
theorem dX6_speaksIn_2 : decode cX6_speaksIn 2 = .ok (.iload_n 2, 1) := by decide +kernel
theorem dX6_speaksIn_3 : decode cX6_speaksIn 3 = .ok (.iload_n 3, 1) := by decide +kernel
theorem dX6_speaksIn_4 : decode cX6_speaksIn 4 = .ok (.iload 4, 2) := by decide +kernel
theorem dX6_speaksIn_6 : decode cX6_speaksIn 6 = .ok (.invokevirtual 63, 3) := by decide +kernel
theorem dX6_speaksIn_9 : decode cX6_speaksIn 9 = .ok (.istore 5, 2) := by decide +kernel
theorem dX6_speaksIn_11 : decode cX6_speaksIn 11 = .ok (.iload 5, 2) := by decide +kernel
theorem dX6_speaksIn_13 : decode cX6_speaksIn 13 = .ok (.bipush (-5), 2) := by decide +kernel
theorem dX6_speaksIn_15 : decode cX6_speaksIn 15 = .ok (.if_icmp .eq 13, 3) := by decide +kernel
theorem dX6_speaksIn_18 : decode cX6_speaksIn 18 = .ok (.aload_n 0, 1) := by decide +kernel
theorem dX6_speaksIn_19 : decode cX6_speaksIn 19 = .ok (.iload 5, 2) := by decide +kernel
theorem dX6_speaksIn_21 : decode cX6_speaksIn 21 = .ok (.iconst 5, 1) := by decide +kernel
theorem dX6_speaksIn_22 : decode cX6_speaksIn 22 = .ok (.invokevirtual 47, 3) := by decide +kernel
theorem dX6_speaksIn_25 : decode cX6_speaksIn 25 = .ok (.ifCond .ne 8, 3) := by decide +kernel
theorem dX6_speaksIn_28 : decode cX6_speaksIn 28 = .ok (.bipush (-5), 2) := by decide +kernel
theorem dX6_speaksIn_30 : decode cX6_speaksIn 30 = .ok (.goto 5, 3) := by decide +kernel
theorem dX6_speaksIn_33 : decode cX6_speaksIn 33 = .ok (.iload 5, 2) := by decide +kernel
theorem dX6_speaksIn_35 : decode cX6_speaksIn 35 = .ok (.ireturn, 1) := by decide +kernel
theorem dX6_rules_0 : decode cX6_rules 0 = .ok (.bipush (-5), 2) := by decide +kernel
theorem dX6_rules_2 : decode cX6_rules 2 = .ok (.istore 4, 2) := by decide +kernel
theorem dX6_rules_4 : decode cX6_rules 4 = .ok (.bipush (-5), 2) := by decide +kernel
theorem dX6_rules_6 : decode cX6_rules 6 = .ok (.istore 5, 2) := by decide +kernel
theorem dX6_rules_8 : decode cX6_rules 8 = .ok (.iconst 0, 1) := by decide +kernel
theorem dX6_rules_9 : decode cX6_rules 9 = .ok (.istore 6, 2) := by decide +kernel
theorem dX6_rules_11 : decode cX6_rules 11 = .ok (.iload 6, 2) := by decide +kernel
theorem dX6_rules_13 : decode cX6_rules 13 = .ok (.bipush 6, 2) := by decide +kernel
theorem dX6_rules_15 : decode cX6_rules 15 = .ok (.if_icmp .ge 77, 3) := by decide +kernel
theorem dX6_rules_18 : decode cX6_rules 18 = .ok (.aload_n 0, 1) := by decide +kernel
theorem dX6_rules_19 : decode cX6_rules 19 = .ok (.getfield 7, 3) := by decide +kernel
theorem dX6_rules_22 : decode cX6_rules 22 = .ok (.iload 6, 2) := by decide +kernel
theorem dX6_rules_24 : decode cX6_rules 24 = .ok (.iconst 2, 1) := by decide +kernel
theorem dX6_rules_25 : decode cX6_rules 25 = .ok (.invokestatic 28, 3) := by decide +kernel
theorem dX6_rules_28 : decode cX6_rules 28 = .ok (.iaload, 1) := by decide +kernel
theorem dX6_rules_29 : decode cX6_rules 29 = .ok (.istore 7, 2) := by decide +kernel
theorem dX6_rules_31 : decode cX6_rules 31 = .ok (.iload 7, 2) := by decide +kernel
theorem dX6_rules_33 : decode cX6_rules 33 = .ok (.iload 5, 2) := by decide +kernel
theorem dX6_rules_35 : decode cX6_rules 35 = .ok (.if_icmp .le 15, 3) := by decide +kernel
theorem dX6_rules_38 : decode cX6_rules 38 = .ok (.aload_n 0, 1) := by decide +kernel
theorem dX6_rules_39 : decode cX6_rules 39 = .ok (.iload 6, 2) := by decide +kernel
theorem dX6_rules_41 : decode cX6_rules 41 = .ok (.iload_n 1, 1) := by decide +kernel
theorem dX6_rules_42 : decode cX6_rules 42 = .ok (.iload_n 2, 1) := by decide +kernel
theorem dX6_rules_43 : decode cX6_rules 43 = .ok (.iload_n 3, 1) := by decide +kernel
theorem dX6_rules_44 : decode cX6_rules 44 = .ok (.invokevirtual 67, 3) := by decide +kernel
theorem dX6_rules_47 : decode cX6_rules 47 = .ok (.goto 5, 3) := by decide +kernel
theorem dX6_rules_50 : decode cX6_rules 50 = .ok (.bipush (-5), 2) := by decide +kernel
theorem dX6_rules_52 : decode cX6_rules 52 = .ok (.istore 8, 2) := by decide +kernel
theorem dX6_rules_54 : decode cX6_rules 54 = .ok (.iload 8, 2) := by decide +kernel
theorem dX6_rules_56 : decode cX6_rules 56 = .ok (.bipush (-5), 2) := by decide +kernel
theorem dX6_rules_58 : decode cX6_rules 58 = .ok (.if_icmp .ne 8, 3) := by decide +kernel
theorem dX6_rules_61 : decode cX6_rules 61 = .ok (.iload 4, 2) := by decide +kernel
theorem dX6_rules_63 : decode cX6_rules 63 = .ok (.goto 5, 3) := by decide +kernel
theorem dX6_rules_66 : decode cX6_rules 66 = .ok (.iload 8, 2) := by decide +kernel
theorem dX6_rules_68 : decode cX6_rules 68 = .ok (.istore 4, 2) := by decide +kernel
theorem dX6_rules_70 : decode cX6_rules 70 = .ok (.iload 8, 2) := by decide +kernel
theorem dX6_rules_72 : decode cX6_rules 72 = .ok (.bipush (-5), 2) := by decide +kernel
theorem dX6_rules_74 : decode cX6_rules 74 = .ok (.if_icmp .ne 8, 3) := by decide +kernel
theorem dX6_rules_77 : decode cX6_rules 77 = .ok (.iload 5, 2) := by decide +kernel
theorem dX6_rules_79 : decode cX6_rules 79 = .ok (.goto 5, 3) := by decide +kernel
theorem dX6_rules_82 : decode cX6_rules 82 = .ok (.iload 7, 2) := by decide +kernel
theorem dX6_rules_84 : decode cX6_rules 84 = .ok (.istore 5, 2) := by decide +kernel
theorem dX6_rules_86 : decode cX6_rules 86 = .ok (.iinc 6 1, 3) := by decide +kernel
theorem dX6_rules_89 : decode cX6_rules 89 = .ok (.goto (-78), 3) := by decide +kernel
theorem dX6_rules_92 : decode cX6_rules 92 = .ok (.iload 4, 2) := by decide +kernel
theorem dX6_rules_94 : decode cX6_rules 94 = .ok (.ireturn, 1) := by decide +kernel
theorem dX6_worksOut_0 : decode cX6_worksOut 0 = .ok (.iconst 0, 1) := by decide +kernel
theorem dX6_worksOut_1 : decode cX6_worksOut 1 = .ok (.istore_n 2, 1) := by decide +kernel
theorem dX6_worksOut_2 : decode cX6_worksOut 2 = .ok (.iload_n 2, 1) := by decide +kernel
theorem dX6_worksOut_3 : decode cX6_worksOut 3 = .ok (.bipush 99, 2) := by decide +kernel
theorem dX6_worksOut_5 : decode cX6_worksOut 5 = .ok (.if_icmp .gt 27, 3) := by decide +kernel
theorem dX6_worksOut_8 : decode cX6_worksOut 8 = .ok (.aload_n 0, 1) := by decide +kernel
theorem dX6_worksOut_9 : decode cX6_worksOut 9 = .ok (.getfield 22, 3) := by decide +kernel
theorem dX6_worksOut_12 : decode cX6_worksOut 12 = .ok (.iload_n 2, 1) := by decide +kernel
theorem dX6_worksOut_13 : decode cX6_worksOut 13 = .ok (.aload_n 0, 1) := by decide +kernel
theorem dX6_worksOut_14 : decode cX6_worksOut 14 = .ok (.iload_n 2, 1) := by decide +kernel
theorem dX6_worksOut_15 : decode cX6_worksOut 15 = .ok (.aload_n 0, 1) := by decide +kernel
theorem dX6_worksOut_16 : decode cX6_worksOut 16 = .ok (.getfield 7, 3) := by decide +kernel
theorem dX6_worksOut_19 : decode cX6_worksOut 19 = .ok (.iconst 0, 1) := by decide +kernel
theorem dX6_worksOut_20 : decode cX6_worksOut 20 = .ok (.iaload, 1) := by decide +kernel
theorem dX6_worksOut_21 : decode cX6_worksOut 21 = .ok (.iload_n 1, 1) := by decide +kernel
theorem dX6_worksOut_22 : decode cX6_worksOut 22 = .ok (.invokevirtual 70, 3) := by decide +kernel
theorem dX6_worksOut_25 : decode cX6_worksOut 25 = .ok (.iastore, 1) := by decide +kernel
theorem dX6_worksOut_26 : decode cX6_worksOut 26 = .ok (.iinc 2 1, 3) := by decide +kernel
theorem dX6_worksOut_29 : decode cX6_worksOut 29 = .ok (.goto (-27), 3) := by decide +kernel
theorem dX6_worksOut_32 : decode cX6_worksOut 32 = .ok (.return_, 1) := by decide +kernel
theorem dX6_putAside_0 : decode cX6_putAside 0 = .ok (.aload_n 0, 1) := by decide +kernel
theorem dX6_putAside_1 : decode cX6_putAside 1 = .ok (.bipush (-5), 2) := by decide +kernel
theorem dX6_putAside_3 : decode cX6_putAside 3 = .ok (.invokevirtual 74, 3) := by decide +kernel
theorem dX6_putAside_6 : decode cX6_putAside 6 = .ok (.iconst 0, 1) := by decide +kernel
theorem dX6_putAside_7 : decode cX6_putAside 7 = .ok (.istore_n 1, 1) := by decide +kernel
theorem dX6_putAside_8 : decode cX6_putAside 8 = .ok (.iload_n 1, 1) := by decide +kernel
theorem dX6_putAside_9 : decode cX6_putAside 9 = .ok (.bipush 99, 2) := by decide +kernel
theorem dX6_putAside_11 : decode cX6_putAside 11 = .ok (.if_icmp .gt 21, 3) := by decide +kernel
theorem dX6_putAside_14 : decode cX6_putAside 14 = .ok (.aload_n 0, 1) := by decide +kernel
theorem dX6_putAside_15 : decode cX6_putAside 15 = .ok (.getfield 25, 3) := by decide +kernel
theorem dX6_putAside_18 : decode cX6_putAside 18 = .ok (.iload_n 1, 1) := by decide +kernel
theorem dX6_putAside_19 : decode cX6_putAside 19 = .ok (.aload_n 0, 1) := by decide +kernel
theorem dX6_putAside_20 : decode cX6_putAside 20 = .ok (.getfield 22, 3) := by decide +kernel
theorem dX6_putAside_23 : decode cX6_putAside 23 = .ok (.iload_n 1, 1) := by decide +kernel
theorem dX6_putAside_24 : decode cX6_putAside 24 = .ok (.iaload, 1) := by decide +kernel
theorem dX6_putAside_25 : decode cX6_putAside 25 = .ok (.iastore, 1) := by decide +kernel
theorem dX6_putAside_26 : decode cX6_putAside 26 = .ok (.iinc 1 1, 3) := by decide +kernel
theorem dX6_putAside_29 : decode cX6_putAside 29 = .ok (.goto (-21), 3) := by decide +kernel
theorem dX6_putAside_32 : decode cX6_putAside 32 = .ok (.return_, 1) := by decide +kernel
theorem dX6_changed_0 : decode cX6_changed 0 = .ok (.iconst 0, 1) := by decide +kernel
theorem dX6_changed_1 : decode cX6_changed 1 = .ok (.istore_n 1, 1) := by decide +kernel
theorem dX6_changed_2 : decode cX6_changed 2 = .ok (.iconst 0, 1) := by decide +kernel
theorem dX6_changed_3 : decode cX6_changed 3 = .ok (.istore_n 2, 1) := by decide +kernel
theorem dX6_changed_4 : decode cX6_changed 4 = .ok (.iload_n 2, 1) := by decide +kernel
theorem dX6_changed_5 : decode cX6_changed 5 = .ok (.bipush 99, 2) := by decide +kernel
theorem dX6_changed_7 : decode cX6_changed 7 = .ok (.if_icmp .gt 32, 3) := by decide +kernel
theorem dX6_changed_10 : decode cX6_changed 10 = .ok (.iload_n 1, 1) := by decide +kernel
theorem dX6_changed_11 : decode cX6_changed 11 = .ok (.aload_n 0, 1) := by decide +kernel
theorem dX6_changed_12 : decode cX6_changed 12 = .ok (.getfield 22, 3) := by decide +kernel
theorem dX6_changed_15 : decode cX6_changed 15 = .ok (.iload_n 2, 1) := by decide +kernel
theorem dX6_changed_16 : decode cX6_changed 16 = .ok (.iaload, 1) := by decide +kernel
theorem dX6_changed_17 : decode cX6_changed 17 = .ok (.aload_n 0, 1) := by decide +kernel
theorem dX6_changed_18 : decode cX6_changed 18 = .ok (.getfield 25, 3) := by decide +kernel
theorem dX6_changed_21 : decode cX6_changed 21 = .ok (.iload_n 2, 1) := by decide +kernel
theorem dX6_changed_22 : decode cX6_changed 22 = .ok (.iaload, 1) := by decide +kernel
theorem dX6_changed_23 : decode cX6_changed 23 = .ok (.if_icmp .ne 7, 3) := by decide +kernel
theorem dX6_changed_26 : decode cX6_changed 26 = .ok (.iconst 0, 1) := by decide +kernel
theorem dX6_changed_27 : decode cX6_changed 27 = .ok (.goto 4, 3) := by decide +kernel
theorem dX6_changed_30 : decode cX6_changed 30 = .ok (.iconst 1, 1) := by decide +kernel
theorem dX6_changed_31 : decode cX6_changed 31 = .ok (.iadd, 1) := by decide +kernel
theorem dX6_changed_32 : decode cX6_changed 32 = .ok (.istore_n 1, 1) := by decide +kernel
theorem dX6_changed_33 : decode cX6_changed 33 = .ok (.iinc 2 1, 3) := by decide +kernel
theorem dX6_changed_36 : decode cX6_changed 36 = .ok (.goto (-32), 3) := by decide +kernel
theorem dX6_changed_39 : decode cX6_changed 39 = .ok (.iload_n 1, 1) := by decide +kernel
theorem dX6_changed_40 : decode cX6_changed 40 = .ok (.ireturn, 1) := by decide +kernel
theorem dX6_setReach_0 : decode cX6_setReach 0 = .ok (.iload_n 1, 1) := by decide +kernel
theorem dX6_setReach_1 : decode cX6_setReach 1 = .ok (.invokestatic 78, 3) := by decide +kernel
theorem dX6_setReach_4 : decode cX6_setReach 4 = .ok (.ifCond .ne 5, 3) := by decide +kernel
theorem dX6_setReach_7 : decode cX6_setReach 7 = .ok (.iconst (-1), 1) := by decide +kernel
theorem dX6_setReach_8 : decode cX6_setReach 8 = .ok (.ireturn, 1) := by decide +kernel
theorem dX6_setReach_9 : decode cX6_setReach 9 = .ok (.iload_n 2, 1) := by decide +kernel
theorem dX6_setReach_10 : decode cX6_setReach 10 = .ok (.iload_n 3, 1) := by decide +kernel
theorem dX6_setReach_11 : decode cX6_setReach 11 = .ok (.invokestatic 81, 3) := by decide +kernel
theorem dX6_setReach_14 : decode cX6_setReach 14 = .ok (.ifCond .ne 6, 3) := by decide +kernel
theorem dX6_setReach_17 : decode cX6_setReach 17 = .ok (.bipush (-2), 2) := by decide +kernel
theorem dX6_setReach_19 : decode cX6_setReach 19 = .ok (.ireturn, 1) := by decide +kernel
theorem dX6_setReach_20 : decode cX6_setReach 20 = .ok (.aload_n 0, 1) := by decide +kernel
theorem dX6_setReach_21 : decode cX6_setReach 21 = .ok (.getfield 7, 3) := by decide +kernel
theorem dX6_setReach_24 : decode cX6_setReach 24 = .ok (.iload_n 1, 1) := by decide +kernel
theorem dX6_setReach_25 : decode cX6_setReach 25 = .ok (.iconst 0, 1) := by decide +kernel
theorem dX6_setReach_26 : decode cX6_setReach 26 = .ok (.invokestatic 28, 3) := by decide +kernel
theorem dX6_setReach_29 : decode cX6_setReach 29 = .ok (.iaload, 1) := by decide +kernel
theorem dX6_setReach_30 : decode cX6_setReach 30 = .ok (.istore 4, 2) := by decide +kernel
theorem dX6_setReach_32 : decode cX6_setReach 32 = .ok (.aload_n 0, 1) := by decide +kernel
theorem dX6_setReach_33 : decode cX6_setReach 33 = .ok (.getfield 7, 3) := by decide +kernel
theorem dX6_setReach_36 : decode cX6_setReach 36 = .ok (.iload_n 1, 1) := by decide +kernel
theorem dX6_setReach_37 : decode cX6_setReach 37 = .ok (.iconst 1, 1) := by decide +kernel
theorem dX6_setReach_38 : decode cX6_setReach 38 = .ok (.invokestatic 28, 3) := by decide +kernel
theorem dX6_setReach_41 : decode cX6_setReach 41 = .ok (.iaload, 1) := by decide +kernel
theorem dX6_setReach_42 : decode cX6_setReach 42 = .ok (.istore 5, 2) := by decide +kernel
theorem dX6_setReach_44 : decode cX6_setReach 44 = .ok (.iload 4, 2) := by decide +kernel
theorem dX6_setReach_46 : decode cX6_setReach 46 = .ok (.iload_n 2, 1) := by decide +kernel
theorem dX6_setReach_47 : decode cX6_setReach 47 = .ok (.if_icmp .ne 12, 3) := by decide +kernel
theorem dX6_setReach_50 : decode cX6_setReach 50 = .ok (.iload 5, 2) := by decide +kernel
theorem dX6_setReach_52 : decode cX6_setReach 52 = .ok (.iload_n 3, 1) := by decide +kernel
theorem dX6_setReach_53 : decode cX6_setReach 53 = .ok (.if_icmp .ne 6, 3) := by decide +kernel
theorem dX6_setReach_56 : decode cX6_setReach 56 = .ok (.bipush (-5), 2) := by decide +kernel
theorem dX6_setReach_58 : decode cX6_setReach 58 = .ok (.ireturn, 1) := by decide +kernel
theorem dX6_setReach_59 : decode cX6_setReach 59 = .ok (.aload_n 0, 1) := by decide +kernel
theorem dX6_setReach_60 : decode cX6_setReach 60 = .ok (.invokevirtual 84, 3) := by decide +kernel
theorem dX6_setReach_63 : decode cX6_setReach 63 = .ok (.aload_n 0, 1) := by decide +kernel
theorem dX6_setReach_64 : decode cX6_setReach 64 = .ok (.getfield 7, 3) := by decide +kernel
theorem dX6_setReach_67 : decode cX6_setReach 67 = .ok (.iload_n 1, 1) := by decide +kernel
theorem dX6_setReach_68 : decode cX6_setReach 68 = .ok (.iconst 0, 1) := by decide +kernel
theorem dX6_setReach_69 : decode cX6_setReach 69 = .ok (.invokestatic 28, 3) := by decide +kernel
theorem dX6_setReach_72 : decode cX6_setReach 72 = .ok (.iload_n 2, 1) := by decide +kernel
theorem dX6_setReach_73 : decode cX6_setReach 73 = .ok (.iastore, 1) := by decide +kernel
theorem dX6_setReach_74 : decode cX6_setReach 74 = .ok (.aload_n 0, 1) := by decide +kernel
theorem dX6_setReach_75 : decode cX6_setReach 75 = .ok (.getfield 7, 3) := by decide +kernel
theorem dX6_setReach_78 : decode cX6_setReach 78 = .ok (.iload_n 1, 1) := by decide +kernel
theorem dX6_setReach_79 : decode cX6_setReach 79 = .ok (.iconst 1, 1) := by decide +kernel
theorem dX6_setReach_80 : decode cX6_setReach 80 = .ok (.invokestatic 28, 3) := by decide +kernel
theorem dX6_setReach_83 : decode cX6_setReach 83 = .ok (.iload_n 3, 1) := by decide +kernel
theorem dX6_setReach_84 : decode cX6_setReach 84 = .ok (.iastore, 1) := by decide +kernel
theorem dX6_setReach_85 : decode cX6_setReach 85 = .ok (.bipush 100, 2) := by decide +kernel
theorem dX6_setReach_87 : decode cX6_setReach 87 = .ok (.iload 4, 2) := by decide +kernel
theorem dX6_setReach_89 : decode cX6_setReach 89 = .ok (.imul, 1) := by decide +kernel
theorem dX6_setReach_90 : decode cX6_setReach 90 = .ok (.iload 5, 2) := by decide +kernel
theorem dX6_setReach_92 : decode cX6_setReach 92 = .ok (.iadd, 1) := by decide +kernel
theorem dX6_setReach_93 : decode cX6_setReach 93 = .ok (.ireturn, 1) := by decide +kernel
theorem dX6_exchange_0 : decode cX6_exchange 0 = .ok (.iload_n 1, 1) := by decide +kernel
theorem dX6_exchange_1 : decode cX6_exchange 1 = .ok (.invokestatic 78, 3) := by decide +kernel
theorem dX6_exchange_4 : decode cX6_exchange 4 = .ok (.ifCond .eq 10, 3) := by decide +kernel
theorem dX6_exchange_7 : decode cX6_exchange 7 = .ok (.iload_n 2, 1) := by decide +kernel
theorem dX6_exchange_8 : decode cX6_exchange 8 = .ok (.invokestatic 78, 3) := by decide +kernel
theorem dX6_exchange_11 : decode cX6_exchange 11 = .ok (.ifCond .ne 5, 3) := by decide +kernel
theorem dX6_exchange_14 : decode cX6_exchange 14 = .ok (.iconst (-1), 1) := by decide +kernel
theorem dX6_exchange_15 : decode cX6_exchange 15 = .ok (.ireturn, 1) := by decide +kernel
theorem dX6_exchange_16 : decode cX6_exchange 16 = .ok (.iload_n 1, 1) := by decide +kernel
theorem dX6_exchange_17 : decode cX6_exchange 17 = .ok (.iload_n 2, 1) := by decide +kernel
theorem dX6_exchange_18 : decode cX6_exchange 18 = .ok (.if_icmp .ne 6, 3) := by decide +kernel
theorem dX6_exchange_21 : decode cX6_exchange 21 = .ok (.bipush (-5), 2) := by decide +kernel
theorem dX6_exchange_23 : decode cX6_exchange 23 = .ok (.ireturn, 1) := by decide +kernel
theorem dX6_exchange_24 : decode cX6_exchange 24 = .ok (.aload_n 0, 1) := by decide +kernel
theorem dX6_exchange_25 : decode cX6_exchange 25 = .ok (.invokevirtual 84, 3) := by decide +kernel
theorem dX6_exchange_28 : decode cX6_exchange 28 = .ok (.aload_n 0, 1) := by decide +kernel
theorem dX6_exchange_29 : decode cX6_exchange 29 = .ok (.getfield 7, 3) := by decide +kernel
theorem dX6_exchange_32 : decode cX6_exchange 32 = .ok (.iload_n 2, 1) := by decide +kernel
theorem dX6_exchange_33 : decode cX6_exchange 33 = .ok (.iconst 2, 1) := by decide +kernel
theorem dX6_exchange_34 : decode cX6_exchange 34 = .ok (.invokestatic 28, 3) := by decide +kernel
theorem dX6_exchange_37 : decode cX6_exchange 37 = .ok (.iaload, 1) := by decide +kernel
theorem dX6_exchange_38 : decode cX6_exchange 38 = .ok (.istore_n 3, 1) := by decide +kernel
theorem dX6_exchange_39 : decode cX6_exchange 39 = .ok (.aload_n 0, 1) := by decide +kernel
theorem dX6_exchange_40 : decode cX6_exchange 40 = .ok (.getfield 7, 3) := by decide +kernel
theorem dX6_exchange_43 : decode cX6_exchange 43 = .ok (.iload_n 2, 1) := by decide +kernel
theorem dX6_exchange_44 : decode cX6_exchange 44 = .ok (.iconst 2, 1) := by decide +kernel
theorem dX6_exchange_45 : decode cX6_exchange 45 = .ok (.invokestatic 28, 3) := by decide +kernel
theorem dX6_exchange_48 : decode cX6_exchange 48 = .ok (.aload_n 0, 1) := by decide +kernel
theorem dX6_exchange_49 : decode cX6_exchange 49 = .ok (.getfield 7, 3) := by decide +kernel
theorem dX6_exchange_52 : decode cX6_exchange 52 = .ok (.iload_n 1, 1) := by decide +kernel
theorem dX6_exchange_53 : decode cX6_exchange 53 = .ok (.iconst 2, 1) := by decide +kernel
theorem dX6_exchange_54 : decode cX6_exchange 54 = .ok (.invokestatic 28, 3) := by decide +kernel
theorem dX6_exchange_57 : decode cX6_exchange 57 = .ok (.iaload, 1) := by decide +kernel
theorem dX6_exchange_58 : decode cX6_exchange 58 = .ok (.iastore, 1) := by decide +kernel
theorem dX6_exchange_59 : decode cX6_exchange 59 = .ok (.aload_n 0, 1) := by decide +kernel
theorem dX6_exchange_60 : decode cX6_exchange 60 = .ok (.getfield 7, 3) := by decide +kernel
theorem dX6_exchange_63 : decode cX6_exchange 63 = .ok (.iload_n 1, 1) := by decide +kernel
theorem dX6_exchange_64 : decode cX6_exchange 64 = .ok (.iconst 2, 1) := by decide +kernel
theorem dX6_exchange_65 : decode cX6_exchange 65 = .ok (.invokestatic 28, 3) := by decide +kernel
theorem dX6_exchange_68 : decode cX6_exchange 68 = .ok (.iload_n 3, 1) := by decide +kernel
theorem dX6_exchange_69 : decode cX6_exchange 69 = .ok (.iastore, 1) := by decide +kernel
theorem dX6_exchange_70 : decode cX6_exchange 70 = .ok (.iload_n 3, 1) := by decide +kernel
theorem dX6_exchange_71 : decode cX6_exchange 71 = .ok (.ireturn, 1) := by decide +kernel
theorem dX6_writes_0 : decode cX6_writes 0 = .ok (.aload_n 0, 1) := by decide +kernel
theorem dX6_writes_1 : decode cX6_writes 1 = .ok (.getfield 7, 3) := by decide +kernel
theorem dX6_writes_4 : decode cX6_writes 4 = .ok (.bipush 19, 2) := by decide +kernel
theorem dX6_writes_6 : decode cX6_writes 6 = .ok (.iaload, 1) := by decide +kernel
theorem dX6_writes_7 : decode cX6_writes 7 = .ok (.istore 6, 2) := by decide +kernel
theorem dX6_writes_9 : decode cX6_writes 9 = .ok (.aload_n 0, 1) := by decide +kernel
theorem dX6_writes_10 : decode cX6_writes 10 = .ok (.getfield 7, 3) := by decide +kernel
theorem dX6_writes_13 : decode cX6_writes 13 = .ok (.bipush 19, 2) := by decide +kernel
theorem dX6_writes_15 : decode cX6_writes 15 = .ok (.dup2, 1) := by decide +kernel
theorem dX6_writes_16 : decode cX6_writes 16 = .ok (.iaload, 1) := by decide +kernel
theorem dX6_writes_17 : decode cX6_writes 17 = .ok (.iconst 1, 1) := by decide +kernel
theorem dX6_writes_18 : decode cX6_writes 18 = .ok (.iadd, 1) := by decide +kernel
theorem dX6_writes_19 : decode cX6_writes 19 = .ok (.iastore, 1) := by decide +kernel
theorem dX6_writes_20 : decode cX6_writes 20 = .ok (.aload_n 0, 1) := by decide +kernel
theorem dX6_writes_21 : decode cX6_writes 21 = .ok (.getfield 7, 3) := by decide +kernel
theorem dX6_writes_24 : decode cX6_writes 24 = .ok (.iload 6, 2) := by decide +kernel
theorem dX6_writes_26 : decode cX6_writes 26 = .ok (.iconst 0, 1) := by decide +kernel
theorem dX6_writes_27 : decode cX6_writes 27 = .ok (.invokestatic 40, 3) := by decide +kernel
theorem dX6_writes_30 : decode cX6_writes 30 = .ok (.iload_n 1, 1) := by decide +kernel
theorem dX6_writes_31 : decode cX6_writes 31 = .ok (.iastore, 1) := by decide +kernel
theorem dX6_writes_32 : decode cX6_writes 32 = .ok (.aload_n 0, 1) := by decide +kernel
theorem dX6_writes_33 : decode cX6_writes 33 = .ok (.getfield 7, 3) := by decide +kernel
theorem dX6_writes_36 : decode cX6_writes 36 = .ok (.iload 6, 2) := by decide +kernel
theorem dX6_writes_38 : decode cX6_writes 38 = .ok (.iconst 1, 1) := by decide +kernel
theorem dX6_writes_39 : decode cX6_writes 39 = .ok (.invokestatic 40, 3) := by decide +kernel
theorem dX6_writes_42 : decode cX6_writes 42 = .ok (.iload_n 2, 1) := by decide +kernel
theorem dX6_writes_43 : decode cX6_writes 43 = .ok (.iastore, 1) := by decide +kernel
theorem dX6_writes_44 : decode cX6_writes 44 = .ok (.aload_n 0, 1) := by decide +kernel
theorem dX6_writes_45 : decode cX6_writes 45 = .ok (.getfield 7, 3) := by decide +kernel
theorem dX6_writes_48 : decode cX6_writes 48 = .ok (.iload 6, 2) := by decide +kernel
theorem dX6_writes_50 : decode cX6_writes 50 = .ok (.iconst 2, 1) := by decide +kernel
theorem dX6_writes_51 : decode cX6_writes 51 = .ok (.invokestatic 40, 3) := by decide +kernel
theorem dX6_writes_54 : decode cX6_writes 54 = .ok (.sipush 1000, 3) := by decide +kernel
theorem dX6_writes_57 : decode cX6_writes 57 = .ok (.iastore, 1) := by decide +kernel
theorem dX6_writes_58 : decode cX6_writes 58 = .ok (.aload_n 0, 1) := by decide +kernel
theorem dX6_writes_59 : decode cX6_writes 59 = .ok (.getfield 7, 3) := by decide +kernel
theorem dX6_writes_62 : decode cX6_writes 62 = .ok (.iload 6, 2) := by decide +kernel
theorem dX6_writes_64 : decode cX6_writes 64 = .ok (.iconst 3, 1) := by decide +kernel
theorem dX6_writes_65 : decode cX6_writes 65 = .ok (.invokestatic 40, 3) := by decide +kernel
theorem dX6_writes_68 : decode cX6_writes 68 = .ok (.iload_n 3, 1) := by decide +kernel
theorem dX6_writes_69 : decode cX6_writes 69 = .ok (.iastore, 1) := by decide +kernel
theorem dX6_writes_70 : decode cX6_writes 70 = .ok (.aload_n 0, 1) := by decide +kernel
theorem dX6_writes_71 : decode cX6_writes 71 = .ok (.getfield 7, 3) := by decide +kernel
theorem dX6_writes_74 : decode cX6_writes 74 = .ok (.iload 6, 2) := by decide +kernel
theorem dX6_writes_76 : decode cX6_writes 76 = .ok (.iconst 4, 1) := by decide +kernel
theorem dX6_writes_77 : decode cX6_writes 77 = .ok (.invokestatic 40, 3) := by decide +kernel
theorem dX6_writes_80 : decode cX6_writes 80 = .ok (.iload 4, 2) := by decide +kernel
theorem dX6_writes_82 : decode cX6_writes 82 = .ok (.iastore, 1) := by decide +kernel
theorem dX6_writes_83 : decode cX6_writes 83 = .ok (.aload_n 0, 1) := by decide +kernel
theorem dX6_writes_84 : decode cX6_writes 84 = .ok (.getfield 7, 3) := by decide +kernel
theorem dX6_writes_87 : decode cX6_writes 87 = .ok (.iload 6, 2) := by decide +kernel
theorem dX6_writes_89 : decode cX6_writes 89 = .ok (.iconst 5, 1) := by decide +kernel
theorem dX6_writes_90 : decode cX6_writes 90 = .ok (.invokestatic 40, 3) := by decide +kernel
theorem dX6_writes_93 : decode cX6_writes 93 = .ok (.iload 5, 2) := by decide +kernel
theorem dX6_writes_95 : decode cX6_writes 95 = .ok (.iastore, 1) := by decide +kernel
theorem dX6_writes_96 : decode cX6_writes 96 = .ok (.aload_n 0, 1) := by decide +kernel
theorem dX6_writes_97 : decode cX6_writes 97 = .ok (.getfield 7, 3) := by decide +kernel
theorem dX6_writes_100 : decode cX6_writes 100 = .ok (.iload 6, 2) := by decide +kernel
theorem dX6_writes_102 : decode cX6_writes 102 = .ok (.bipush 6, 2) := by decide +kernel
theorem dX6_writes_104 : decode cX6_writes 104 = .ok (.invokestatic 40, 3) := by decide +kernel
theorem dX6_writes_107 : decode cX6_writes 107 = .ok (.iconst 0, 1) := by decide +kernel
theorem dX6_writes_108 : decode cX6_writes 108 = .ok (.iastore, 1) := by decide +kernel
theorem dX6_writes_109 : decode cX6_writes 109 = .ok (.return_, 1) := by decide +kernel
theorem dX6_excepts_0 : decode cX6_excepts 0 = .ok (.aload_n 0, 1) := by decide +kernel
theorem dX6_excepts_1 : decode cX6_excepts 1 = .ok (.iload_n 1, 1) := by decide +kernel
theorem dX6_excepts_2 : decode cX6_excepts 2 = .ok (.bipush 6, 2) := by decide +kernel
theorem dX6_excepts_4 : decode cX6_excepts 4 = .ok (.invokevirtual 47, 3) := by decide +kernel
theorem dX6_excepts_7 : decode cX6_excepts 7 = .ok (.istore 4, 2) := by decide +kernel
theorem dX6_excepts_9 : decode cX6_excepts 9 = .ok (.aload_n 0, 1) := by decide +kernel
theorem dX6_excepts_10 : decode cX6_excepts 10 = .ok (.getfield 7, 3) := by decide +kernel
theorem dX6_excepts_13 : decode cX6_excepts 13 = .ok (.iload_n 1, 1) := by decide +kernel
theorem dX6_excepts_14 : decode cX6_excepts 14 = .ok (.bipush 7, 2) := by decide +kernel
theorem dX6_excepts_16 : decode cX6_excepts 16 = .ok (.iconst 2, 1) := by decide +kernel
theorem dX6_excepts_17 : decode cX6_excepts 17 = .ok (.iload 4, 2) := by decide +kernel
theorem dX6_excepts_19 : decode cX6_excepts 19 = .ok (.imul, 1) := by decide +kernel
theorem dX6_excepts_20 : decode cX6_excepts 20 = .ok (.iadd, 1) := by decide +kernel
theorem dX6_excepts_21 : decode cX6_excepts 21 = .ok (.invokestatic 40, 3) := by decide +kernel
theorem dX6_excepts_24 : decode cX6_excepts 24 = .ok (.iload_n 2, 1) := by decide +kernel
theorem dX6_excepts_25 : decode cX6_excepts 25 = .ok (.iastore, 1) := by decide +kernel
theorem dX6_excepts_26 : decode cX6_excepts 26 = .ok (.aload_n 0, 1) := by decide +kernel
theorem dX6_excepts_27 : decode cX6_excepts 27 = .ok (.getfield 7, 3) := by decide +kernel
theorem dX6_excepts_30 : decode cX6_excepts 30 = .ok (.iload_n 1, 1) := by decide +kernel
theorem dX6_excepts_31 : decode cX6_excepts 31 = .ok (.bipush 7, 2) := by decide +kernel
theorem dX6_excepts_33 : decode cX6_excepts 33 = .ok (.iconst 2, 1) := by decide +kernel
theorem dX6_excepts_34 : decode cX6_excepts 34 = .ok (.iload 4, 2) := by decide +kernel
theorem dX6_excepts_36 : decode cX6_excepts 36 = .ok (.imul, 1) := by decide +kernel
theorem dX6_excepts_37 : decode cX6_excepts 37 = .ok (.iadd, 1) := by decide +kernel
theorem dX6_excepts_38 : decode cX6_excepts 38 = .ok (.iconst 1, 1) := by decide +kernel
theorem dX6_excepts_39 : decode cX6_excepts 39 = .ok (.iadd, 1) := by decide +kernel
theorem dX6_excepts_40 : decode cX6_excepts 40 = .ok (.invokestatic 40, 3) := by decide +kernel
theorem dX6_excepts_43 : decode cX6_excepts 43 = .ok (.iload_n 3, 1) := by decide +kernel
theorem dX6_excepts_44 : decode cX6_excepts 44 = .ok (.iastore, 1) := by decide +kernel
theorem dX6_excepts_45 : decode cX6_excepts 45 = .ok (.aload_n 0, 1) := by decide +kernel
theorem dX6_excepts_46 : decode cX6_excepts 46 = .ok (.getfield 7, 3) := by decide +kernel
theorem dX6_excepts_49 : decode cX6_excepts 49 = .ok (.iload_n 1, 1) := by decide +kernel
theorem dX6_excepts_50 : decode cX6_excepts 50 = .ok (.bipush 6, 2) := by decide +kernel
theorem dX6_excepts_52 : decode cX6_excepts 52 = .ok (.invokestatic 40, 3) := by decide +kernel
theorem dX6_excepts_55 : decode cX6_excepts 55 = .ok (.iload 4, 2) := by decide +kernel
theorem dX6_excepts_57 : decode cX6_excepts 57 = .ok (.iconst 1, 1) := by decide +kernel
theorem dX6_excepts_58 : decode cX6_excepts 58 = .ok (.iadd, 1) := by decide +kernel
theorem dX6_excepts_59 : decode cX6_excepts 59 = .ok (.iastore, 1) := by decide +kernel
theorem dX6_excepts_60 : decode cX6_excepts 60 = .ok (.iload 4, 2) := by decide +kernel
theorem dX6_excepts_62 : decode cX6_excepts 62 = .ok (.iconst 1, 1) := by decide +kernel
theorem dX6_excepts_63 : decode cX6_excepts 63 = .ok (.iadd, 1) := by decide +kernel
theorem dX6_excepts_64 : decode cX6_excepts 64 = .ok (.ireturn, 1) := by decide +kernel
theorem dX6_write_0 : decode cX6_write 0 = .ok (.iload_n 1, 1) := by decide +kernel
theorem dX6_write_1 : decode cX6_write 1 = .ok (.invokestatic 78, 3) := by decide +kernel
theorem dX6_write_4 : decode cX6_write 4 = .ok (.ifCond .ne 5, 3) := by decide +kernel
theorem dX6_write_7 : decode cX6_write 7 = .ok (.iconst (-1), 1) := by decide +kernel
theorem dX6_write_8 : decode cX6_write 8 = .ok (.ireturn, 1) := by decide +kernel
theorem dX6_write_9 : decode cX6_write 9 = .ok (.iload_n 2, 1) := by decide +kernel
theorem dX6_write_10 : decode cX6_write 10 = .ok (.invokestatic 87, 3) := by decide +kernel
theorem dX6_write_13 : decode cX6_write 13 = .ok (.ifCond .eq 23, 3) := by decide +kernel
theorem dX6_write_16 : decode cX6_write 16 = .ok (.iload_n 3, 1) := by decide +kernel
theorem dX6_write_17 : decode cX6_write 17 = .ok (.iload 4, 2) := by decide +kernel
theorem dX6_write_19 : decode cX6_write 19 = .ok (.invokestatic 81, 3) := by decide +kernel
theorem dX6_write_22 : decode cX6_write 22 = .ok (.ifCond .eq 14, 3) := by decide +kernel
theorem dX6_write_25 : decode cX6_write 25 = .ok (.iload 5, 2) := by decide +kernel
theorem dX6_write_27 : decode cX6_write 27 = .ok (.iconst 0, 1) := by decide +kernel
theorem dX6_write_28 : decode cX6_write 28 = .ok (.bipush 9, 2) := by decide +kernel
theorem dX6_write_30 : decode cX6_write 30 = .ok (.invokestatic 32, 3) := by decide +kernel
theorem dX6_write_33 : decode cX6_write 33 = .ok (.ifCond .ne 6, 3) := by decide +kernel
theorem dX6_write_36 : decode cX6_write 36 = .ok (.bipush (-2), 2) := by decide +kernel
theorem dX6_write_38 : decode cX6_write 38 = .ok (.ireturn, 1) := by decide +kernel
theorem dX6_write_39 : decode cX6_write 39 = .ok (.aload_n 0, 1) := by decide +kernel
theorem dX6_write_40 : decode cX6_write 40 = .ok (.getfield 7, 3) := by decide +kernel
theorem dX6_write_43 : decode cX6_write 43 = .ok (.bipush 19, 2) := by decide +kernel
theorem dX6_write_45 : decode cX6_write 45 = .ok (.iaload, 1) := by decide +kernel
theorem dX6_write_46 : decode cX6_write 46 = .ok (.bipush 30, 2) := by decide +kernel
theorem dX6_write_48 : decode cX6_write 48 = .ok (.if_icmp .ne 6, 3) := by decide +kernel
theorem dX6_write_51 : decode cX6_write 51 = .ok (.bipush (-3), 2) := by decide +kernel
theorem dX6_write_53 : decode cX6_write 53 = .ok (.ireturn, 1) := by decide +kernel
theorem dX6_write_54 : decode cX6_write 54 = .ok (.aload_n 0, 1) := by decide +kernel
theorem dX6_write_55 : decode cX6_write 55 = .ok (.invokevirtual 84, 3) := by decide +kernel
theorem dX6_write_58 : decode cX6_write 58 = .ok (.aload_n 0, 1) := by decide +kernel
theorem dX6_write_59 : decode cX6_write 59 = .ok (.iload_n 1, 1) := by decide +kernel
theorem dX6_write_60 : decode cX6_write 60 = .ok (.iload_n 2, 1) := by decide +kernel
theorem dX6_write_61 : decode cX6_write 61 = .ok (.iload_n 3, 1) := by decide +kernel
theorem dX6_write_62 : decode cX6_write 62 = .ok (.iload 4, 2) := by decide +kernel
theorem dX6_write_64 : decode cX6_write 64 = .ok (.iload 5, 2) := by decide +kernel
theorem dX6_write_66 : decode cX6_write 66 = .ok (.invokevirtual 90, 3) := by decide +kernel
theorem dX6_write_69 : decode cX6_write 69 = .ok (.aload_n 0, 1) := by decide +kernel
theorem dX6_write_70 : decode cX6_write 70 = .ok (.getfield 7, 3) := by decide +kernel
theorem dX6_write_73 : decode cX6_write 73 = .ok (.bipush 19, 2) := by decide +kernel
theorem dX6_write_75 : decode cX6_write 75 = .ok (.iaload, 1) := by decide +kernel
theorem dX6_write_76 : decode cX6_write 76 = .ok (.iconst 1, 1) := by decide +kernel
theorem dX6_write_77 : decode cX6_write 77 = .ok (.isub, 1) := by decide +kernel
theorem dX6_write_78 : decode cX6_write 78 = .ok (.ireturn, 1) := by decide +kernel
theorem dX6_except_0 : decode cX6_except 0 = .ok (.aload_n 0, 1) := by decide +kernel
theorem dX6_except_1 : decode cX6_except 1 = .ok (.iload_n 1, 1) := by decide +kernel
theorem dX6_except_2 : decode cX6_except 2 = .ok (.invokevirtual 94, 3) := by decide +kernel
theorem dX6_except_5 : decode cX6_except 5 = .ok (.ifCond .ne 5, 3) := by decide +kernel
theorem dX6_except_8 : decode cX6_except 8 = .ok (.iconst (-1), 1) := by decide +kernel
theorem dX6_except_9 : decode cX6_except 9 = .ok (.ireturn, 1) := by decide +kernel
theorem dX6_except_10 : decode cX6_except 10 = .ok (.iload_n 2, 1) := by decide +kernel
theorem dX6_except_11 : decode cX6_except 11 = .ok (.iload_n 3, 1) := by decide +kernel
theorem dX6_except_12 : decode cX6_except 12 = .ok (.invokestatic 81, 3) := by decide +kernel
theorem dX6_except_15 : decode cX6_except 15 = .ok (.ifCond .ne 6, 3) := by decide +kernel
theorem dX6_except_18 : decode cX6_except 18 = .ok (.bipush (-2), 2) := by decide +kernel
theorem dX6_except_20 : decode cX6_except 20 = .ok (.ireturn, 1) := by decide +kernel
theorem dX6_except_21 : decode cX6_except 21 = .ok (.aload_n 0, 1) := by decide +kernel
theorem dX6_except_22 : decode cX6_except 22 = .ok (.iload_n 1, 1) := by decide +kernel
theorem dX6_except_23 : decode cX6_except 23 = .ok (.bipush 6, 2) := by decide +kernel
theorem dX6_except_25 : decode cX6_except 25 = .ok (.invokevirtual 47, 3) := by decide +kernel
theorem dX6_except_28 : decode cX6_except 28 = .ok (.iconst 3, 1) := by decide +kernel
theorem dX6_except_29 : decode cX6_except 29 = .ok (.if_icmp .ne 6, 3) := by decide +kernel
theorem dX6_except_32 : decode cX6_except 32 = .ok (.bipush (-3), 2) := by decide +kernel
theorem dX6_except_34 : decode cX6_except 34 = .ok (.ireturn, 1) := by decide +kernel
theorem dX6_except_35 : decode cX6_except 35 = .ok (.aload_n 0, 1) := by decide +kernel
theorem dX6_except_36 : decode cX6_except 36 = .ok (.invokevirtual 84, 3) := by decide +kernel
theorem dX6_except_39 : decode cX6_except 39 = .ok (.aload_n 0, 1) := by decide +kernel
theorem dX6_except_40 : decode cX6_except 40 = .ok (.iload_n 1, 1) := by decide +kernel
theorem dX6_except_41 : decode cX6_except 41 = .ok (.iload_n 2, 1) := by decide +kernel
theorem dX6_except_42 : decode cX6_except 42 = .ok (.iload_n 3, 1) := by decide +kernel
theorem dX6_except_43 : decode cX6_except 43 = .ok (.invokevirtual 97, 3) := by decide +kernel
theorem dX6_except_46 : decode cX6_except 46 = .ok (.ireturn, 1) := by decide +kernel
theorem dX6_end_0 : decode cX6_end 0 = .ok (.aload_n 0, 1) := by decide +kernel
theorem dX6_end_1 : decode cX6_end 1 = .ok (.iload_n 1, 1) := by decide +kernel
theorem dX6_end_2 : decode cX6_end 2 = .ok (.invokevirtual 94, 3) := by decide +kernel
theorem dX6_end_5 : decode cX6_end 5 = .ok (.ifCond .ne 5, 3) := by decide +kernel
theorem dX6_end_8 : decode cX6_end 8 = .ok (.iconst (-1), 1) := by decide +kernel
theorem dX6_end_9 : decode cX6_end 9 = .ok (.ireturn, 1) := by decide +kernel
theorem dX6_end_10 : decode cX6_end 10 = .ok (.iload_n 2, 1) := by decide +kernel
theorem dX6_end_11 : decode cX6_end 11 = .ok (.iconst 1, 1) := by decide +kernel
theorem dX6_end_12 : decode cX6_end 12 = .ok (.sipush 1000, 3) := by decide +kernel
theorem dX6_end_15 : decode cX6_end 15 = .ok (.invokestatic 32, 3) := by decide +kernel
theorem dX6_end_18 : decode cX6_end 18 = .ok (.ifCond .ne 6, 3) := by decide +kernel
theorem dX6_end_21 : decode cX6_end 21 = .ok (.bipush (-2), 2) := by decide +kernel
theorem dX6_end_23 : decode cX6_end 23 = .ok (.ireturn, 1) := by decide +kernel
theorem dX6_end_24 : decode cX6_end 24 = .ok (.iload_n 2, 1) := by decide +kernel
theorem dX6_end_25 : decode cX6_end 25 = .ok (.aload_n 0, 1) := by decide +kernel
theorem dX6_end_26 : decode cX6_end 26 = .ok (.iload_n 1, 1) := by decide +kernel
theorem dX6_end_27 : decode cX6_end 27 = .ok (.iconst 1, 1) := by decide +kernel
theorem dX6_end_28 : decode cX6_end 28 = .ok (.invokevirtual 47, 3) := by decide +kernel
theorem dX6_end_31 : decode cX6_end 31 = .ok (.if_icmp .gt 6, 3) := by decide +kernel
theorem dX6_end_34 : decode cX6_end 34 = .ok (.bipush (-4), 2) := by decide +kernel
theorem dX6_end_36 : decode cX6_end 36 = .ok (.ireturn, 1) := by decide +kernel
theorem dX6_end_37 : decode cX6_end 37 = .ok (.aload_n 0, 1) := by decide +kernel
theorem dX6_end_38 : decode cX6_end 38 = .ok (.iload_n 1, 1) := by decide +kernel
theorem dX6_end_39 : decode cX6_end 39 = .ok (.iconst 2, 1) := by decide +kernel
theorem dX6_end_40 : decode cX6_end 40 = .ok (.invokevirtual 47, 3) := by decide +kernel
theorem dX6_end_43 : decode cX6_end 43 = .ok (.istore_n 3, 1) := by decide +kernel
theorem dX6_end_44 : decode cX6_end 44 = .ok (.iload_n 3, 1) := by decide +kernel
theorem dX6_end_45 : decode cX6_end 45 = .ok (.iload_n 2, 1) := by decide +kernel
theorem dX6_end_46 : decode cX6_end 46 = .ok (.if_icmp .ne 6, 3) := by decide +kernel
theorem dX6_end_49 : decode cX6_end 49 = .ok (.bipush (-5), 2) := by decide +kernel
theorem dX6_end_51 : decode cX6_end 51 = .ok (.ireturn, 1) := by decide +kernel
theorem dX6_end_52 : decode cX6_end 52 = .ok (.aload_n 0, 1) := by decide +kernel
theorem dX6_end_53 : decode cX6_end 53 = .ok (.invokevirtual 84, 3) := by decide +kernel
theorem dX6_end_56 : decode cX6_end 56 = .ok (.aload_n 0, 1) := by decide +kernel
theorem dX6_end_57 : decode cX6_end 57 = .ok (.getfield 7, 3) := by decide +kernel
theorem dX6_end_60 : decode cX6_end 60 = .ok (.iload_n 1, 1) := by decide +kernel
theorem dX6_end_61 : decode cX6_end 61 = .ok (.iconst 2, 1) := by decide +kernel
theorem dX6_end_62 : decode cX6_end 62 = .ok (.invokestatic 40, 3) := by decide +kernel
theorem dX6_end_65 : decode cX6_end 65 = .ok (.iload_n 2, 1) := by decide +kernel
theorem dX6_end_66 : decode cX6_end 66 = .ok (.iastore, 1) := by decide +kernel
theorem dX6_end_67 : decode cX6_end 67 = .ok (.iload_n 3, 1) := by decide +kernel
theorem dX6_end_68 : decode cX6_end 68 = .ok (.ireturn, 1) := by decide +kernel
theorem dX6_setDay_0 : decode cX6_setDay 0 = .ok (.iload_n 1, 1) := by decide +kernel
theorem dX6_setDay_1 : decode cX6_setDay 1 = .ok (.invokestatic 87, 3) := by decide +kernel
theorem dX6_setDay_4 : decode cX6_setDay 4 = .ok (.ifCond .ne 6, 3) := by decide +kernel
theorem dX6_setDay_7 : decode cX6_setDay 7 = .ok (.bipush (-2), 2) := by decide +kernel
theorem dX6_setDay_9 : decode cX6_setDay 9 = .ok (.ireturn, 1) := by decide +kernel
theorem dX6_setDay_10 : decode cX6_setDay 10 = .ok (.aload_n 0, 1) := by decide +kernel
theorem dX6_setDay_11 : decode cX6_setDay 11 = .ok (.getfield 7, 3) := by decide +kernel
theorem dX6_setDay_14 : decode cX6_setDay 14 = .ok (.iconst 0, 1) := by decide +kernel
theorem dX6_setDay_15 : decode cX6_setDay 15 = .ok (.iaload, 1) := by decide +kernel
theorem dX6_setDay_16 : decode cX6_setDay 16 = .ok (.iload_n 1, 1) := by decide +kernel
theorem dX6_setDay_17 : decode cX6_setDay 17 = .ok (.if_icmp .ne 6, 3) := by decide +kernel
theorem dX6_setDay_20 : decode cX6_setDay 20 = .ok (.bipush (-5), 2) := by decide +kernel
theorem dX6_setDay_22 : decode cX6_setDay 22 = .ok (.ireturn, 1) := by decide +kernel
theorem dX6_setDay_23 : decode cX6_setDay 23 = .ok (.aload_n 0, 1) := by decide +kernel
theorem dX6_setDay_24 : decode cX6_setDay 24 = .ok (.invokevirtual 84, 3) := by decide +kernel
theorem dX6_setDay_27 : decode cX6_setDay 27 = .ok (.aload_n 0, 1) := by decide +kernel
theorem dX6_setDay_28 : decode cX6_setDay 28 = .ok (.invokevirtual 100, 3) := by decide +kernel
theorem dX6_setDay_31 : decode cX6_setDay 31 = .ok (.aload_n 0, 1) := by decide +kernel
theorem dX6_setDay_32 : decode cX6_setDay 32 = .ok (.getfield 7, 3) := by decide +kernel
theorem dX6_setDay_35 : decode cX6_setDay 35 = .ok (.iconst 0, 1) := by decide +kernel
theorem dX6_setDay_36 : decode cX6_setDay 36 = .ok (.iload_n 1, 1) := by decide +kernel
theorem dX6_setDay_37 : decode cX6_setDay 37 = .ok (.iastore, 1) := by decide +kernel
theorem dX6_setDay_38 : decode cX6_setDay 38 = .ok (.aload_n 0, 1) := by decide +kernel
theorem dX6_setDay_39 : decode cX6_setDay 39 = .ok (.bipush (-5), 2) := by decide +kernel
theorem dX6_setDay_41 : decode cX6_setDay 41 = .ok (.invokevirtual 74, 3) := by decide +kernel
theorem dX6_setDay_44 : decode cX6_setDay 44 = .ok (.aload_n 0, 1) := by decide +kernel
theorem dX6_setDay_45 : decode cX6_setDay 45 = .ok (.invokevirtual 103, 3) := by decide +kernel
theorem dX6_setDay_48 : decode cX6_setDay 48 = .ok (.ireturn, 1) := by decide +kernel
theorem dX6_type_0 : decode cX6_type 0 = .ok (.aload_n 0, 1) := by decide +kernel
theorem dX6_type_1 : decode cX6_type 1 = .ok (.getfield 107, 3) := by decide +kernel
theorem dX6_type_4 : decode cX6_type 4 = .ok (.bipush 80, 2) := by decide +kernel
theorem dX6_type_6 : decode cX6_type 6 = .ok (.if_icmp .ne 6, 3) := by decide +kernel
theorem dX6_type_9 : decode cX6_type 9 = .ok (.bipush (-3), 2) := by decide +kernel
theorem dX6_type_11 : decode cX6_type 11 = .ok (.ireturn, 1) := by decide +kernel
theorem dX6_type_12 : decode cX6_type 12 = .ok (.aload_n 0, 1) := by decide +kernel
theorem dX6_type_13 : decode cX6_type 13 = .ok (.getfield 19, 3) := by decide +kernel
theorem dX6_type_16 : decode cX6_type 16 = .ok (.aload_n 0, 1) := by decide +kernel
theorem dX6_type_17 : decode cX6_type 17 = .ok (.getfield 107, 3) := by decide +kernel
theorem dX6_type_20 : decode cX6_type 20 = .ok (.iload_n 1, 1) := by decide +kernel
theorem dX6_type_21 : decode cX6_type 21 = .ok (.iastore, 1) := by decide +kernel
theorem dX6_type_22 : decode cX6_type 22 = .ok (.aload_n 0, 1) := by decide +kernel
theorem dX6_type_23 : decode cX6_type 23 = .ok (.dup, 1) := by decide +kernel
theorem dX6_type_24 : decode cX6_type 24 = .ok (.getfield 107, 3) := by decide +kernel
theorem dX6_type_27 : decode cX6_type 27 = .ok (.iconst 1, 1) := by decide +kernel
theorem dX6_type_28 : decode cX6_type 28 = .ok (.iadd, 1) := by decide +kernel
theorem dX6_type_29 : decode cX6_type 29 = .ok (.putfield 107, 3) := by decide +kernel
theorem dX6_type_32 : decode cX6_type 32 = .ok (.aload_n 0, 1) := by decide +kernel
theorem dX6_type_33 : decode cX6_type 33 = .ok (.getfield 107, 3) := by decide +kernel
theorem dX6_type_36 : decode cX6_type 36 = .ok (.ireturn, 1) := by decide +kernel
theorem dX6_clearText_0 : decode cX6_clearText 0 = .ok (.aload_n 0, 1) := by decide +kernel
theorem dX6_clearText_1 : decode cX6_clearText 1 = .ok (.getfield 107, 3) := by decide +kernel
theorem dX6_clearText_4 : decode cX6_clearText 4 = .ok (.istore_n 1, 1) := by decide +kernel
theorem dX6_clearText_5 : decode cX6_clearText 5 = .ok (.aload_n 0, 1) := by decide +kernel
theorem dX6_clearText_6 : decode cX6_clearText 6 = .ok (.iconst 0, 1) := by decide +kernel
theorem dX6_clearText_7 : decode cX6_clearText 7 = .ok (.putfield 107, 3) := by decide +kernel
theorem dX6_clearText_10 : decode cX6_clearText 10 = .ok (.iload_n 1, 1) := by decide +kernel
theorem dX6_clearText_11 : decode cX6_clearText 11 = .ok (.ireturn, 1) := by decide +kernel
theorem dX6_isNext_0 : decode cX6_isNext 0 = .ok (.aload_n 0, 1) := by decide +kernel
theorem dX6_isNext_1 : decode cX6_isNext 1 = .ok (.getfield 110, 3) := by decide +kernel
theorem dX6_isNext_4 : decode cX6_isNext 4 = .ok (.ifCond .ne 35, 3) := by decide +kernel
theorem dX6_isNext_7 : decode cX6_isNext 7 = .ok (.aload_n 0, 1) := by decide +kernel
theorem dX6_isNext_8 : decode cX6_isNext 8 = .ok (.getfield 114, 3) := by decide +kernel
theorem dX6_isNext_11 : decode cX6_isNext 11 = .ok (.aload_n 0, 1) := by decide +kernel
theorem dX6_isNext_12 : decode cX6_isNext 12 = .ok (.getfield 107, 3) := by decide +kernel
theorem dX6_isNext_15 : decode cX6_isNext 15 = .ok (.if_icmp .ge 24, 3) := by decide +kernel
theorem dX6_isNext_18 : decode cX6_isNext 18 = .ok (.aload_n 0, 1) := by decide +kernel
theorem dX6_isNext_19 : decode cX6_isNext 19 = .ok (.getfield 19, 3) := by decide +kernel
theorem dX6_isNext_22 : decode cX6_isNext 22 = .ok (.aload_n 0, 1) := by decide +kernel
theorem dX6_isNext_23 : decode cX6_isNext 23 = .ok (.getfield 114, 3) := by decide +kernel
theorem dX6_isNext_26 : decode cX6_isNext 26 = .ok (.iaload, 1) := by decide +kernel
theorem dX6_isNext_27 : decode cX6_isNext 27 = .ok (.iload_n 1, 1) := by decide +kernel
theorem dX6_isNext_28 : decode cX6_isNext 28 = .ok (.iload_n 2, 1) := by decide +kernel
theorem dX6_isNext_29 : decode cX6_isNext 29 = .ok (.invokestatic 32, 3) := by decide +kernel
theorem dX6_isNext_32 : decode cX6_isNext 32 = .ok (.ifCond .eq 7, 3) := by decide +kernel
theorem dX6_isNext_35 : decode cX6_isNext 35 = .ok (.iconst 1, 1) := by decide +kernel
theorem dX6_isNext_36 : decode cX6_isNext 36 = .ok (.goto 4, 3) := by decide +kernel
theorem dX6_isNext_39 : decode cX6_isNext 39 = .ok (.iconst 0, 1) := by decide +kernel
theorem dX6_isNext_40 : decode cX6_isNext 40 = .ok (.ireturn, 1) := by decide +kernel
theorem dX6_takes_0 : decode cX6_takes 0 = .ok (.aload_n 0, 1) := by decide +kernel
theorem dX6_takes_1 : decode cX6_takes 1 = .ok (.iload_n 1, 1) := by decide +kernel
theorem dX6_takes_2 : decode cX6_takes 2 = .ok (.iload_n 2, 1) := by decide +kernel
theorem dX6_takes_3 : decode cX6_takes 3 = .ok (.invokevirtual 117, 3) := by decide +kernel
theorem dX6_takes_6 : decode cX6_takes 6 = .ok (.istore_n 3, 1) := by decide +kernel
theorem dX6_takes_7 : decode cX6_takes 7 = .ok (.iload_n 3, 1) := by decide +kernel
theorem dX6_takes_8 : decode cX6_takes 8 = .ok (.ifCond .eq 17, 3) := by decide +kernel
theorem dX6_takes_11 : decode cX6_takes 11 = .ok (.aload_n 0, 1) := by decide +kernel
theorem dX6_takes_12 : decode cX6_takes 12 = .ok (.getfield 19, 3) := by decide +kernel
theorem dX6_takes_15 : decode cX6_takes 15 = .ok (.aload_n 0, 1) := by decide +kernel
theorem dX6_takes_16 : decode cX6_takes 16 = .ok (.getfield 114, 3) := by decide +kernel
theorem dX6_takes_19 : decode cX6_takes 19 = .ok (.iaload, 1) := by decide +kernel
theorem dX6_takes_20 : decode cX6_takes 20 = .ok (.iload_n 1, 1) := by decide +kernel
theorem dX6_takes_21 : decode cX6_takes 21 = .ok (.isub, 1) := by decide +kernel
theorem dX6_takes_22 : decode cX6_takes 22 = .ok (.goto 4, 3) := by decide +kernel
theorem dX6_takes_25 : decode cX6_takes 25 = .ok (.iconst 0, 1) := by decide +kernel
theorem dX6_takes_26 : decode cX6_takes 26 = .ok (.istore 4, 2) := by decide +kernel
theorem dX6_takes_28 : decode cX6_takes 28 = .ok (.aload_n 0, 1) := by decide +kernel
theorem dX6_takes_29 : decode cX6_takes 29 = .ok (.dup, 1) := by decide +kernel
theorem dX6_takes_30 : decode cX6_takes 30 = .ok (.getfield 114, 3) := by decide +kernel
theorem dX6_takes_33 : decode cX6_takes 33 = .ok (.iload_n 3, 1) := by decide +kernel
theorem dX6_takes_34 : decode cX6_takes 34 = .ok (.ifCond .eq 7, 3) := by decide +kernel
theorem dX6_takes_37 : decode cX6_takes 37 = .ok (.iconst 1, 1) := by decide +kernel
theorem dX6_takes_38 : decode cX6_takes 38 = .ok (.goto 4, 3) := by decide +kernel
theorem dX6_takes_41 : decode cX6_takes 41 = .ok (.iconst 0, 1) := by decide +kernel
theorem dX6_takes_42 : decode cX6_takes 42 = .ok (.iadd, 1) := by decide +kernel
theorem dX6_takes_43 : decode cX6_takes 43 = .ok (.putfield 114, 3) := by decide +kernel
theorem dX6_takes_46 : decode cX6_takes 46 = .ok (.aload_n 0, 1) := by decide +kernel
theorem dX6_takes_47 : decode cX6_takes 47 = .ok (.aload_n 0, 1) := by decide +kernel
theorem dX6_takes_48 : decode cX6_takes 48 = .ok (.getfield 110, 3) := by decide +kernel
theorem dX6_takes_51 : decode cX6_takes 51 = .ok (.ifCond .ne 7, 3) := by decide +kernel
theorem dX6_takes_54 : decode cX6_takes 54 = .ok (.iload_n 3, 1) := by decide +kernel
theorem dX6_takes_55 : decode cX6_takes 55 = .ok (.ifCond .ne 7, 3) := by decide +kernel
theorem dX6_takes_58 : decode cX6_takes 58 = .ok (.iconst 1, 1) := by decide +kernel
theorem dX6_takes_59 : decode cX6_takes 59 = .ok (.goto 4, 3) := by decide +kernel
theorem dX6_takes_62 : decode cX6_takes 62 = .ok (.iconst 0, 1) := by decide +kernel
theorem dX6_takes_63 : decode cX6_takes 63 = .ok (.putfield 110, 3) := by decide +kernel
theorem dX6_takes_66 : decode cX6_takes 66 = .ok (.iload 4, 2) := by decide +kernel
theorem dX6_takes_68 : decode cX6_takes 68 = .ok (.ireturn, 1) := by decide +kernel
theorem dX6_number_0 : decode cX6_number 0 = .ok (.aload_n 0, 1) := by decide +kernel
theorem dX6_number_1 : decode cX6_number 1 = .ok (.bipush 48, 2) := by decide +kernel
theorem dX6_number_3 : decode cX6_number 3 = .ok (.bipush 57, 2) := by decide +kernel
theorem dX6_number_5 : decode cX6_number 5 = .ok (.invokevirtual 120, 3) := by decide +kernel
theorem dX6_number_8 : decode cX6_number 8 = .ok (.istore_n 2, 1) := by decide +kernel
theorem dX6_number_9 : decode cX6_number 9 = .ok (.iload_n 2, 1) := by decide +kernel
theorem dX6_number_10 : decode cX6_number 10 = .ok (.ifCond .le 66, 3) := by decide +kernel
theorem dX6_number_13 : decode cX6_number 13 = .ok (.aload_n 0, 1) := by decide +kernel
theorem dX6_number_14 : decode cX6_number 14 = .ok (.bipush 48, 2) := by decide +kernel
theorem dX6_number_16 : decode cX6_number 16 = .ok (.bipush 57, 2) := by decide +kernel
theorem dX6_number_18 : decode cX6_number 18 = .ok (.invokevirtual 117, 3) := by decide +kernel
theorem dX6_number_21 : decode cX6_number 21 = .ok (.ifCond .eq 55, 3) := by decide +kernel
theorem dX6_number_24 : decode cX6_number 24 = .ok (.bipush 10, 2) := by decide +kernel
theorem dX6_number_26 : decode cX6_number 26 = .ok (.iload_n 2, 1) := by decide +kernel
theorem dX6_number_27 : decode cX6_number 27 = .ok (.imul, 1) := by decide +kernel
theorem dX6_number_28 : decode cX6_number 28 = .ok (.aload_n 0, 1) := by decide +kernel
theorem dX6_number_29 : decode cX6_number 29 = .ok (.getfield 19, 3) := by decide +kernel
theorem dX6_number_32 : decode cX6_number 32 = .ok (.aload_n 0, 1) := by decide +kernel
theorem dX6_number_33 : decode cX6_number 33 = .ok (.getfield 114, 3) := by decide +kernel
theorem dX6_number_36 : decode cX6_number 36 = .ok (.iaload, 1) := by decide +kernel
theorem dX6_number_37 : decode cX6_number 37 = .ok (.iadd, 1) := by decide +kernel
theorem dX6_number_38 : decode cX6_number 38 = .ok (.bipush 48, 2) := by decide +kernel
theorem dX6_number_40 : decode cX6_number 40 = .ok (.isub, 1) := by decide +kernel
theorem dX6_number_41 : decode cX6_number 41 = .ok (.iload_n 1, 1) := by decide +kernel
theorem dX6_number_42 : decode cX6_number 42 = .ok (.if_icmp .gt 34, 3) := by decide +kernel
theorem dX6_number_45 : decode cX6_number 45 = .ok (.bipush 10, 2) := by decide +kernel
theorem dX6_number_47 : decode cX6_number 47 = .ok (.iload_n 2, 1) := by decide +kernel
theorem dX6_number_48 : decode cX6_number 48 = .ok (.imul, 1) := by decide +kernel
theorem dX6_number_49 : decode cX6_number 49 = .ok (.aload_n 0, 1) := by decide +kernel
theorem dX6_number_50 : decode cX6_number 50 = .ok (.getfield 19, 3) := by decide +kernel
theorem dX6_number_53 : decode cX6_number 53 = .ok (.aload_n 0, 1) := by decide +kernel
theorem dX6_number_54 : decode cX6_number 54 = .ok (.getfield 114, 3) := by decide +kernel
theorem dX6_number_57 : decode cX6_number 57 = .ok (.iaload, 1) := by decide +kernel
theorem dX6_number_58 : decode cX6_number 58 = .ok (.iadd, 1) := by decide +kernel
theorem dX6_number_59 : decode cX6_number 59 = .ok (.bipush 48, 2) := by decide +kernel
theorem dX6_number_61 : decode cX6_number 61 = .ok (.isub, 1) := by decide +kernel
theorem dX6_number_62 : decode cX6_number 62 = .ok (.istore_n 2, 1) := by decide +kernel
theorem dX6_number_63 : decode cX6_number 63 = .ok (.aload_n 0, 1) := by decide +kernel
theorem dX6_number_64 : decode cX6_number 64 = .ok (.dup, 1) := by decide +kernel
theorem dX6_number_65 : decode cX6_number 65 = .ok (.getfield 114, 3) := by decide +kernel
theorem dX6_number_68 : decode cX6_number 68 = .ok (.iconst 1, 1) := by decide +kernel
theorem dX6_number_69 : decode cX6_number 69 = .ok (.iadd, 1) := by decide +kernel
theorem dX6_number_70 : decode cX6_number 70 = .ok (.putfield 114, 3) := by decide +kernel
theorem dX6_number_73 : decode cX6_number 73 = .ok (.goto (-64), 3) := by decide +kernel
theorem dX6_number_76 : decode cX6_number 76 = .ok (.iload_n 2, 1) := by decide +kernel
theorem dX6_number_77 : decode cX6_number 77 = .ok (.ireturn, 1) := by decide +kernel
theorem dX6_readSpan_0 : decode cX6_readSpan 0 = .ok (.aload_n 0, 1) := by decide +kernel
theorem dX6_readSpan_1 : decode cX6_readSpan 1 = .ok (.aload_n 0, 1) := by decide +kernel
theorem dX6_readSpan_2 : decode cX6_readSpan 2 = .ok (.bipush 99, 2) := by decide +kernel
theorem dX6_readSpan_4 : decode cX6_readSpan 4 = .ok (.invokevirtual 123, 3) := by decide +kernel
theorem dX6_readSpan_7 : decode cX6_readSpan 7 = .ok (.putfield 127, 3) := by decide +kernel
theorem dX6_readSpan_10 : decode cX6_readSpan 10 = .ok (.aload_n 0, 1) := by decide +kernel
theorem dX6_readSpan_11 : decode cX6_readSpan 11 = .ok (.bipush 45, 2) := by decide +kernel
theorem dX6_readSpan_13 : decode cX6_readSpan 13 = .ok (.bipush 45, 2) := by decide +kernel
theorem dX6_readSpan_15 : decode cX6_readSpan 15 = .ok (.invokevirtual 120, 3) := by decide +kernel
theorem dX6_readSpan_18 : decode cX6_readSpan 18 = .ok (.istore_n 1, 1) := by decide +kernel
theorem dX6_readSpan_19 : decode cX6_readSpan 19 = .ok (.aload_n 0, 1) := by decide +kernel
theorem dX6_readSpan_20 : decode cX6_readSpan 20 = .ok (.aload_n 0, 1) := by decide +kernel
theorem dX6_readSpan_21 : decode cX6_readSpan 21 = .ok (.bipush 99, 2) := by decide +kernel
theorem dX6_readSpan_23 : decode cX6_readSpan 23 = .ok (.invokevirtual 123, 3) := by decide +kernel
theorem dX6_readSpan_26 : decode cX6_readSpan 26 = .ok (.putfield 130, 3) := by decide +kernel
theorem dX6_readSpan_29 : decode cX6_readSpan 29 = .ok (.aload_n 0, 1) := by decide +kernel
theorem dX6_readSpan_30 : decode cX6_readSpan 30 = .ok (.aload_n 0, 1) := by decide +kernel
theorem dX6_readSpan_31 : decode cX6_readSpan 31 = .ok (.getfield 133, 3) := by decide +kernel
theorem dX6_readSpan_34 : decode cX6_readSpan 34 = .ok (.ifCond .ne 14, 3) := by decide +kernel
theorem dX6_readSpan_37 : decode cX6_readSpan 37 = .ok (.aload_n 0, 1) := by decide +kernel
theorem dX6_readSpan_38 : decode cX6_readSpan 38 = .ok (.getfield 130, 3) := by decide +kernel
theorem dX6_readSpan_41 : decode cX6_readSpan 41 = .ok (.aload_n 0, 1) := by decide +kernel
theorem dX6_readSpan_42 : decode cX6_readSpan 42 = .ok (.getfield 127, 3) := by decide +kernel
theorem dX6_readSpan_45 : decode cX6_readSpan 45 = .ok (.if_icmp .ge 7, 3) := by decide +kernel
theorem dX6_readSpan_48 : decode cX6_readSpan 48 = .ok (.iconst 1, 1) := by decide +kernel
theorem dX6_readSpan_49 : decode cX6_readSpan 49 = .ok (.goto 4, 3) := by decide +kernel
theorem dX6_readSpan_52 : decode cX6_readSpan 52 = .ok (.iconst 0, 1) := by decide +kernel
theorem dX6_readSpan_53 : decode cX6_readSpan 53 = .ok (.putfield 133, 3) := by decide +kernel
theorem dX6_readSpan_56 : decode cX6_readSpan 56 = .ok (.return_, 1) := by decide +kernel
theorem dX6_readClause_0 : decode cX6_readClause 0 = .ok (.aload_n 0, 1) := by decide +kernel
theorem dX6_readClause_1 : decode cX6_readClause 1 = .ok (.bipush 48, 2) := by decide +kernel
theorem dX6_readClause_3 : decode cX6_readClause 3 = .ok (.bipush 53, 2) := by decide +kernel
theorem dX6_readClause_5 : decode cX6_readClause 5 = .ok (.invokevirtual 120, 3) := by decide +kernel
theorem dX6_readClause_8 : decode cX6_readClause 8 = .ok (.istore_n 2, 1) := by decide +kernel
theorem dX6_readClause_9 : decode cX6_readClause 9 = .ok (.aload_n 0, 1) := by decide +kernel
theorem dX6_readClause_10 : decode cX6_readClause 10 = .ok (.bipush 64, 2) := by decide +kernel
theorem dX6_readClause_12 : decode cX6_readClause 12 = .ok (.bipush 64, 2) := by decide +kernel
theorem dX6_readClause_14 : decode cX6_readClause 14 = .ok (.invokevirtual 120, 3) := by decide +kernel
theorem dX6_readClause_17 : decode cX6_readClause 17 = .ok (.istore_n 3, 1) := by decide +kernel
theorem dX6_readClause_18 : decode cX6_readClause 18 = .ok (.aload_n 0, 1) := by decide +kernel
theorem dX6_readClause_19 : decode cX6_readClause 19 = .ok (.sipush 999, 3) := by decide +kernel
theorem dX6_readClause_22 : decode cX6_readClause 22 = .ok (.invokevirtual 123, 3) := by decide +kernel
theorem dX6_readClause_25 : decode cX6_readClause 25 = .ok (.istore 4, 2) := by decide +kernel
theorem dX6_readClause_27 : decode cX6_readClause 27 = .ok (.aload_n 0, 1) := by decide +kernel
theorem dX6_readClause_28 : decode cX6_readClause 28 = .ok (.bipush 58, 2) := by decide +kernel
theorem dX6_readClause_30 : decode cX6_readClause 30 = .ok (.bipush 58, 2) := by decide +kernel
theorem dX6_readClause_32 : decode cX6_readClause 32 = .ok (.invokevirtual 120, 3) := by decide +kernel
theorem dX6_readClause_35 : decode cX6_readClause 35 = .ok (.istore_n 3, 1) := by decide +kernel
theorem dX6_readClause_36 : decode cX6_readClause 36 = .ok (.aload_n 0, 1) := by decide +kernel
theorem dX6_readClause_37 : decode cX6_readClause 37 = .ok (.invokevirtual 136, 3) := by decide +kernel
theorem dX6_readClause_40 : decode cX6_readClause 40 = .ok (.aload_n 0, 1) := by decide +kernel
theorem dX6_readClause_41 : decode cX6_readClause 41 = .ok (.getfield 127, 3) := by decide +kernel
theorem dX6_readClause_44 : decode cX6_readClause 44 = .ok (.istore 5, 2) := by decide +kernel
theorem dX6_readClause_46 : decode cX6_readClause 46 = .ok (.aload_n 0, 1) := by decide +kernel
theorem dX6_readClause_47 : decode cX6_readClause 47 = .ok (.getfield 130, 3) := by decide +kernel
theorem dX6_readClause_50 : decode cX6_readClause 50 = .ok (.istore 6, 2) := by decide +kernel
theorem dX6_readClause_52 : decode cX6_readClause 52 = .ok (.aload_n 0, 1) := by decide +kernel
theorem dX6_readClause_53 : decode cX6_readClause 53 = .ok (.bipush 61, 2) := by decide +kernel
theorem dX6_readClause_55 : decode cX6_readClause 55 = .ok (.bipush 61, 2) := by decide +kernel
theorem dX6_readClause_57 : decode cX6_readClause 57 = .ok (.invokevirtual 120, 3) := by decide +kernel
theorem dX6_readClause_60 : decode cX6_readClause 60 = .ok (.istore_n 3, 1) := by decide +kernel
theorem dX6_readClause_61 : decode cX6_readClause 61 = .ok (.aload_n 0, 1) := by decide +kernel
theorem dX6_readClause_62 : decode cX6_readClause 62 = .ok (.bipush 48, 2) := by decide +kernel
theorem dX6_readClause_64 : decode cX6_readClause 64 = .ok (.bipush 57, 2) := by decide +kernel
theorem dX6_readClause_66 : decode cX6_readClause 66 = .ok (.invokevirtual 120, 3) := by decide +kernel
theorem dX6_readClause_69 : decode cX6_readClause 69 = .ok (.istore 7, 2) := by decide +kernel
theorem dX6_readClause_71 : decode cX6_readClause 71 = .ok (.iload_n 1, 1) := by decide +kernel
theorem dX6_readClause_72 : decode cX6_readClause 72 = .ok (.ifCond .eq 16, 3) := by decide +kernel
theorem dX6_readClause_75 : decode cX6_readClause 75 = .ok (.aload_n 0, 1) := by decide +kernel
theorem dX6_readClause_76 : decode cX6_readClause 76 = .ok (.iload_n 2, 1) := by decide +kernel
theorem dX6_readClause_77 : decode cX6_readClause 77 = .ok (.iload 4, 2) := by decide +kernel
theorem dX6_readClause_79 : decode cX6_readClause 79 = .ok (.iload 5, 2) := by decide +kernel
theorem dX6_readClause_81 : decode cX6_readClause 81 = .ok (.iload 6, 2) := by decide +kernel
theorem dX6_readClause_83 : decode cX6_readClause 83 = .ok (.iload 7, 2) := by decide +kernel
theorem dX6_readClause_85 : decode cX6_readClause 85 = .ok (.invokevirtual 90, 3) := by decide +kernel
theorem dX6_readClause_88 : decode cX6_readClause 88 = .ok (.aload_n 0, 1) := by decide +kernel
theorem dX6_readClause_89 : decode cX6_readClause 89 = .ok (.bipush 33, 2) := by decide +kernel
theorem dX6_readClause_91 : decode cX6_readClause 91 = .ok (.bipush 33, 2) := by decide +kernel
theorem dX6_readClause_93 : decode cX6_readClause 93 = .ok (.invokevirtual 117, 3) := by decide +kernel
theorem dX6_readClause_96 : decode cX6_readClause 96 = .ok (.istore 8, 2) := by decide +kernel
theorem dX6_readClause_98 : decode cX6_readClause 98 = .ok (.iconst 0, 1) := by decide +kernel
theorem dX6_readClause_99 : decode cX6_readClause 99 = .ok (.istore 9, 2) := by decide +kernel
theorem dX6_readClause_101 : decode cX6_readClause 101 = .ok (.iload 9, 2) := by decide +kernel
theorem dX6_readClause_103 : decode cX6_readClause 103 = .ok (.iconst 3, 1) := by decide +kernel
theorem dX6_readClause_104 : decode cX6_readClause 104 = .ok (.if_icmp .ge 69, 3) := by decide +kernel
theorem dX6_readClause_107 : decode cX6_readClause 107 = .ok (.iload 8, 2) := by decide +kernel
theorem dX6_readClause_109 : decode cX6_readClause 109 = .ok (.ifCond .eq 64, 3) := by decide +kernel
theorem dX6_readClause_112 : decode cX6_readClause 112 = .ok (.aload_n 0, 1) := by decide +kernel
theorem dX6_readClause_113 : decode cX6_readClause 113 = .ok (.dup, 1) := by decide +kernel
theorem dX6_readClause_114 : decode cX6_readClause 114 = .ok (.getfield 114, 3) := by decide +kernel
theorem dX6_readClause_117 : decode cX6_readClause 117 = .ok (.iconst 1, 1) := by decide +kernel
theorem dX6_readClause_118 : decode cX6_readClause 118 = .ok (.iadd, 1) := by decide +kernel
theorem dX6_readClause_119 : decode cX6_readClause 119 = .ok (.putfield 114, 3) := by decide +kernel
theorem dX6_readClause_122 : decode cX6_readClause 122 = .ok (.aload_n 0, 1) := by decide +kernel
theorem dX6_readClause_123 : decode cX6_readClause 123 = .ok (.invokevirtual 136, 3) := by decide +kernel
theorem dX6_readClause_126 : decode cX6_readClause 126 = .ok (.iload_n 1, 1) := by decide +kernel
theorem dX6_readClause_127 : decode cX6_readClause 127 = .ok (.ifCond .eq 27, 3) := by decide +kernel
theorem dX6_readClause_130 : decode cX6_readClause 130 = .ok (.aload_n 0, 1) := by decide +kernel
theorem dX6_readClause_131 : decode cX6_readClause 131 = .ok (.aload_n 0, 1) := by decide +kernel
theorem dX6_readClause_132 : decode cX6_readClause 132 = .ok (.getfield 7, 3) := by decide +kernel
theorem dX6_readClause_135 : decode cX6_readClause 135 = .ok (.bipush 19, 2) := by decide +kernel
theorem dX6_readClause_137 : decode cX6_readClause 137 = .ok (.iaload, 1) := by decide +kernel
theorem dX6_readClause_138 : decode cX6_readClause 138 = .ok (.iconst 1, 1) := by decide +kernel
theorem dX6_readClause_139 : decode cX6_readClause 139 = .ok (.isub, 1) := by decide +kernel
theorem dX6_readClause_140 : decode cX6_readClause 140 = .ok (.aload_n 0, 1) := by decide +kernel
theorem dX6_readClause_141 : decode cX6_readClause 141 = .ok (.getfield 127, 3) := by decide +kernel
theorem dX6_readClause_144 : decode cX6_readClause 144 = .ok (.aload_n 0, 1) := by decide +kernel
theorem dX6_readClause_145 : decode cX6_readClause 145 = .ok (.getfield 130, 3) := by decide +kernel
theorem dX6_readClause_148 : decode cX6_readClause 148 = .ok (.invokevirtual 97, 3) := by decide +kernel
theorem dX6_readClause_151 : decode cX6_readClause 151 = .ok (.goto 4, 3) := by decide +kernel
theorem dX6_readClause_154 : decode cX6_readClause 154 = .ok (.iconst 0, 1) := by decide +kernel
theorem dX6_readClause_155 : decode cX6_readClause 155 = .ok (.istore 10, 2) := by decide +kernel
theorem dX6_readClause_157 : decode cX6_readClause 157 = .ok (.aload_n 0, 1) := by decide +kernel
theorem dX6_readClause_158 : decode cX6_readClause 158 = .ok (.bipush 44, 2) := by decide +kernel
theorem dX6_readClause_160 : decode cX6_readClause 160 = .ok (.bipush 44, 2) := by decide +kernel
theorem dX6_readClause_162 : decode cX6_readClause 162 = .ok (.invokevirtual 117, 3) := by decide +kernel
theorem dX6_readClause_165 : decode cX6_readClause 165 = .ok (.istore 8, 2) := by decide +kernel
theorem dX6_readClause_167 : decode cX6_readClause 167 = .ok (.iinc 9 1, 3) := by decide +kernel
theorem dX6_readClause_170 : decode cX6_readClause 170 = .ok (.goto (-69), 3) := by decide +kernel
theorem dX6_readClause_173 : decode cX6_readClause 173 = .ok (.return_, 1) := by decide +kernel
theorem dX6_reads_0 : decode cX6_reads 0 = .ok (.aload_n 0, 1) := by decide +kernel
theorem dX6_reads_1 : decode cX6_reads 1 = .ok (.iconst 0, 1) := by decide +kernel
theorem dX6_reads_2 : decode cX6_reads 2 = .ok (.putfield 114, 3) := by decide +kernel
theorem dX6_reads_5 : decode cX6_reads 5 = .ok (.aload_n 0, 1) := by decide +kernel
theorem dX6_reads_6 : decode cX6_reads 6 = .ok (.iconst 0, 1) := by decide +kernel
theorem dX6_reads_7 : decode cX6_reads 7 = .ok (.putfield 110, 3) := by decide +kernel
theorem dX6_reads_10 : decode cX6_reads 10 = .ok (.aload_n 0, 1) := by decide +kernel
theorem dX6_reads_11 : decode cX6_reads 11 = .ok (.iconst 0, 1) := by decide +kernel
theorem dX6_reads_12 : decode cX6_reads 12 = .ok (.putfield 133, 3) := by decide +kernel
theorem dX6_reads_15 : decode cX6_reads 15 = .ok (.iconst 0, 1) := by decide +kernel
theorem dX6_reads_16 : decode cX6_reads 16 = .ok (.istore_n 2, 1) := by decide +kernel
theorem dX6_reads_17 : decode cX6_reads 17 = .ok (.iconst 1, 1) := by decide +kernel
theorem dX6_reads_18 : decode cX6_reads 18 = .ok (.istore_n 3, 1) := by decide +kernel
theorem dX6_reads_19 : decode cX6_reads 19 = .ok (.iload_n 3, 1) := by decide +kernel
theorem dX6_reads_20 : decode cX6_reads 20 = .ok (.ifCond .eq 65, 3) := by decide +kernel
theorem dX6_reads_23 : decode cX6_reads 23 = .ok (.aload_n 0, 1) := by decide +kernel
theorem dX6_reads_24 : decode cX6_reads 24 = .ok (.iload_n 1, 1) := by decide +kernel
theorem dX6_reads_25 : decode cX6_reads 25 = .ok (.invokevirtual 139, 3) := by decide +kernel
theorem dX6_reads_28 : decode cX6_reads 28 = .ok (.iinc 2 1, 3) := by decide +kernel
theorem dX6_reads_31 : decode cX6_reads 31 = .ok (.aload_n 0, 1) := by decide +kernel
theorem dX6_reads_32 : decode cX6_reads 32 = .ok (.getfield 110, 3) := by decide +kernel
theorem dX6_reads_35 : decode cX6_reads 35 = .ok (.ifCond .ne 18, 3) := by decide +kernel
theorem dX6_reads_38 : decode cX6_reads 38 = .ok (.aload_n 0, 1) := by decide +kernel
theorem dX6_reads_39 : decode cX6_reads 39 = .ok (.getfield 114, 3) := by decide +kernel
theorem dX6_reads_42 : decode cX6_reads 42 = .ok (.aload_n 0, 1) := by decide +kernel
theorem dX6_reads_43 : decode cX6_reads 43 = .ok (.getfield 107, 3) := by decide +kernel
theorem dX6_reads_46 : decode cX6_reads 46 = .ok (.if_icmp .ge 7, 3) := by decide +kernel
theorem dX6_reads_49 : decode cX6_reads 49 = .ok (.iconst 1, 1) := by decide +kernel
theorem dX6_reads_50 : decode cX6_reads 50 = .ok (.goto 4, 3) := by decide +kernel
theorem dX6_reads_53 : decode cX6_reads 53 = .ok (.iconst 0, 1) := by decide +kernel
theorem dX6_reads_54 : decode cX6_reads 54 = .ok (.istore_n 3, 1) := by decide +kernel
theorem dX6_reads_55 : decode cX6_reads 55 = .ok (.iload_n 3, 1) := by decide +kernel
theorem dX6_reads_56 : decode cX6_reads 56 = .ok (.ifCond .eq (-37), 3) := by decide +kernel
theorem dX6_reads_59 : decode cX6_reads 59 = .ok (.aload_n 0, 1) := by decide +kernel
theorem dX6_reads_60 : decode cX6_reads 60 = .ok (.bipush 59, 2) := by decide +kernel
theorem dX6_reads_62 : decode cX6_reads 62 = .ok (.bipush 59, 2) := by decide +kernel
theorem dX6_reads_64 : decode cX6_reads 64 = .ok (.invokevirtual 120, 3) := by decide +kernel
theorem dX6_reads_67 : decode cX6_reads 67 = .ok (.istore 4, 2) := by decide +kernel
theorem dX6_reads_69 : decode cX6_reads 69 = .ok (.aload_n 0, 1) := by decide +kernel
theorem dX6_reads_70 : decode cX6_reads 70 = .ok (.getfield 110, 3) := by decide +kernel
theorem dX6_reads_73 : decode cX6_reads 73 = .ok (.ifCond .ne 7, 3) := by decide +kernel
theorem dX6_reads_76 : decode cX6_reads 76 = .ok (.iconst 1, 1) := by decide +kernel
theorem dX6_reads_77 : decode cX6_reads 77 = .ok (.goto 4, 3) := by decide +kernel
theorem dX6_reads_80 : decode cX6_reads 80 = .ok (.iconst 0, 1) := by decide +kernel
theorem dX6_reads_81 : decode cX6_reads 81 = .ok (.istore_n 3, 1) := by decide +kernel
theorem dX6_reads_82 : decode cX6_reads 82 = .ok (.goto (-63), 3) := by decide +kernel
theorem dX6_reads_85 : decode cX6_reads 85 = .ok (.iload_n 2, 1) := by decide +kernel
theorem dX6_reads_86 : decode cX6_reads 86 = .ok (.ireturn, 1) := by decide +kernel
theorem dX6_writeAll_0 : decode cX6_writeAll 0 = .ok (.aload_n 0, 1) := by decide +kernel
theorem dX6_writeAll_1 : decode cX6_writeAll 1 = .ok (.iconst 0, 1) := by decide +kernel
theorem dX6_writeAll_2 : decode cX6_writeAll 2 = .ok (.invokevirtual 143, 3) := by decide +kernel
theorem dX6_writeAll_5 : decode cX6_writeAll 5 = .ok (.istore_n 1, 1) := by decide +kernel
theorem dX6_writeAll_6 : decode cX6_writeAll 6 = .ok (.aload_n 0, 1) := by decide +kernel
theorem dX6_writeAll_7 : decode cX6_writeAll 7 = .ok (.getfield 110, 3) := by decide +kernel
theorem dX6_writeAll_10 : decode cX6_writeAll 10 = .ok (.ifCond .eq 11, 3) := by decide +kernel
theorem dX6_writeAll_13 : decode cX6_writeAll 13 = .ok (.bipush (-100), 2) := by decide +kernel
theorem dX6_writeAll_15 : decode cX6_writeAll 15 = .ok (.aload_n 0, 1) := by decide +kernel
theorem dX6_writeAll_16 : decode cX6_writeAll 16 = .ok (.getfield 114, 3) := by decide +kernel
theorem dX6_writeAll_19 : decode cX6_writeAll 19 = .ok (.isub, 1) := by decide +kernel
theorem dX6_writeAll_20 : decode cX6_writeAll 20 = .ok (.ireturn, 1) := by decide +kernel
theorem dX6_writeAll_21 : decode cX6_writeAll 21 = .ok (.aload_n 0, 1) := by decide +kernel
theorem dX6_writeAll_22 : decode cX6_writeAll 22 = .ok (.getfield 133, 3) := by decide +kernel
theorem dX6_writeAll_25 : decode cX6_writeAll 25 = .ok (.ifCond .ne 17, 3) := by decide +kernel
theorem dX6_writeAll_28 : decode cX6_writeAll 28 = .ok (.aload_n 0, 1) := by decide +kernel
theorem dX6_writeAll_29 : decode cX6_writeAll 29 = .ok (.getfield 7, 3) := by decide +kernel
theorem dX6_writeAll_32 : decode cX6_writeAll 32 = .ok (.bipush 19, 2) := by decide +kernel
theorem dX6_writeAll_34 : decode cX6_writeAll 34 = .ok (.iaload, 1) := by decide +kernel
theorem dX6_writeAll_35 : decode cX6_writeAll 35 = .ok (.iload_n 1, 1) := by decide +kernel
theorem dX6_writeAll_36 : decode cX6_writeAll 36 = .ok (.iadd, 1) := by decide +kernel
theorem dX6_writeAll_37 : decode cX6_writeAll 37 = .ok (.bipush 30, 2) := by decide +kernel
theorem dX6_writeAll_39 : decode cX6_writeAll 39 = .ok (.if_icmp .le 18, 3) := by decide +kernel
theorem dX6_writeAll_42 : decode cX6_writeAll 42 = .ok (.aload_n 0, 1) := by decide +kernel
theorem dX6_writeAll_43 : decode cX6_writeAll 43 = .ok (.getfield 133, 3) := by decide +kernel
theorem dX6_writeAll_46 : decode cX6_writeAll 46 = .ok (.ifCond .eq 8, 3) := by decide +kernel
theorem dX6_writeAll_49 : decode cX6_writeAll 49 = .ok (.bipush (-2), 2) := by decide +kernel
theorem dX6_writeAll_51 : decode cX6_writeAll 51 = .ok (.goto 5, 3) := by decide +kernel
theorem dX6_writeAll_54 : decode cX6_writeAll 54 = .ok (.bipush (-3), 2) := by decide +kernel
theorem dX6_writeAll_56 : decode cX6_writeAll 56 = .ok (.ireturn, 1) := by decide +kernel
theorem dX6_writeAll_57 : decode cX6_writeAll 57 = .ok (.aload_n 0, 1) := by decide +kernel
theorem dX6_writeAll_58 : decode cX6_writeAll 58 = .ok (.invokevirtual 84, 3) := by decide +kernel
theorem dX6_writeAll_61 : decode cX6_writeAll 61 = .ok (.aload_n 0, 1) := by decide +kernel
theorem dX6_writeAll_62 : decode cX6_writeAll 62 = .ok (.iconst 1, 1) := by decide +kernel
theorem dX6_writeAll_63 : decode cX6_writeAll 63 = .ok (.invokevirtual 143, 3) := by decide +kernel
theorem dX6_writeAll_66 : decode cX6_writeAll 66 = .ok (.ireturn, 1) := by decide +kernel
theorem dX6_undo_0 : decode cX6_undo 0 = .ok (.aload_n 0, 1) := by decide +kernel
theorem dX6_undo_1 : decode cX6_undo 1 = .ok (.getfield 43, 3) := by decide +kernel
theorem dX6_undo_4 : decode cX6_undo 4 = .ok (.ifCond .ne 6, 3) := by decide +kernel
theorem dX6_undo_7 : decode cX6_undo 7 = .ok (.bipush (-5), 2) := by decide +kernel
theorem dX6_undo_9 : decode cX6_undo 9 = .ok (.ireturn, 1) := by decide +kernel
theorem dX6_undo_10 : decode cX6_undo 10 = .ok (.aload_n 0, 1) := by decide +kernel
theorem dX6_undo_11 : decode cX6_undo 11 = .ok (.dup, 1) := by decide +kernel
theorem dX6_undo_12 : decode cX6_undo 12 = .ok (.getfield 43, 3) := by decide +kernel
theorem dX6_undo_15 : decode cX6_undo 15 = .ok (.iconst 1, 1) := by decide +kernel
theorem dX6_undo_16 : decode cX6_undo 16 = .ok (.isub, 1) := by decide +kernel
theorem dX6_undo_17 : decode cX6_undo 17 = .ok (.putfield 43, 3) := by decide +kernel
theorem dX6_undo_20 : decode cX6_undo 20 = .ok (.iconst 0, 1) := by decide +kernel
theorem dX6_undo_21 : decode cX6_undo 21 = .ok (.istore_n 1, 1) := by decide +kernel
theorem dX6_undo_22 : decode cX6_undo 22 = .ok (.iload_n 1, 1) := by decide +kernel
theorem dX6_undo_23 : decode cX6_undo 23 = .ok (.sipush 410, 3) := by decide +kernel
theorem dX6_undo_26 : decode cX6_undo 26 = .ok (.if_icmp .ge 30, 3) := by decide +kernel
theorem dX6_undo_29 : decode cX6_undo 29 = .ok (.aload_n 0, 1) := by decide +kernel
theorem dX6_undo_30 : decode cX6_undo 30 = .ok (.getfield 7, 3) := by decide +kernel
theorem dX6_undo_33 : decode cX6_undo 33 = .ok (.iload_n 1, 1) := by decide +kernel
theorem dX6_undo_34 : decode cX6_undo 34 = .ok (.aload_n 0, 1) := by decide +kernel
theorem dX6_undo_35 : decode cX6_undo 35 = .ok (.getfield 13, 3) := by decide +kernel
theorem dX6_undo_38 : decode cX6_undo 38 = .ok (.sipush 410, 3) := by decide +kernel
theorem dX6_undo_41 : decode cX6_undo 41 = .ok (.aload_n 0, 1) := by decide +kernel
theorem dX6_undo_42 : decode cX6_undo 42 = .ok (.getfield 43, 3) := by decide +kernel
theorem dX6_undo_45 : decode cX6_undo 45 = .ok (.imul, 1) := by decide +kernel
theorem dX6_undo_46 : decode cX6_undo 46 = .ok (.iload_n 1, 1) := by decide +kernel
theorem dX6_undo_47 : decode cX6_undo 47 = .ok (.iadd, 1) := by decide +kernel
theorem dX6_undo_48 : decode cX6_undo 48 = .ok (.iaload, 1) := by decide +kernel
theorem dX6_undo_49 : decode cX6_undo 49 = .ok (.iastore, 1) := by decide +kernel
theorem dX6_undo_50 : decode cX6_undo 50 = .ok (.iinc 1 1, 3) := by decide +kernel
theorem dX6_undo_53 : decode cX6_undo 53 = .ok (.goto (-31), 3) := by decide +kernel
theorem dX6_undo_56 : decode cX6_undo 56 = .ok (.aload_n 0, 1) := by decide +kernel
theorem dX6_undo_57 : decode cX6_undo 57 = .ok (.getfield 43, 3) := by decide +kernel
theorem dX6_undo_60 : decode cX6_undo 60 = .ok (.ireturn, 1) := by decide +kernel
theorem dX6_keep_0 : decode cX6_keep 0 = .ok (.iconst 0, 1) := by decide +kernel
theorem dX6_keep_1 : decode cX6_keep 1 = .ok (.istore_n 1, 1) := by decide +kernel
theorem dX6_keep_2 : decode cX6_keep 2 = .ok (.iload_n 1, 1) := by decide +kernel
theorem dX6_keep_3 : decode cX6_keep 3 = .ok (.sipush 410, 3) := by decide +kernel
theorem dX6_keep_6 : decode cX6_keep 6 = .ok (.if_icmp .ge 21, 3) := by decide +kernel
theorem dX6_keep_9 : decode cX6_keep 9 = .ok (.aload_n 0, 1) := by decide +kernel
theorem dX6_keep_10 : decode cX6_keep 10 = .ok (.getfield 16, 3) := by decide +kernel
theorem dX6_keep_13 : decode cX6_keep 13 = .ok (.iload_n 1, 1) := by decide +kernel
theorem dX6_keep_14 : decode cX6_keep 14 = .ok (.aload_n 0, 1) := by decide +kernel
theorem dX6_keep_15 : decode cX6_keep 15 = .ok (.getfield 7, 3) := by decide +kernel
theorem dX6_keep_18 : decode cX6_keep 18 = .ok (.iload_n 1, 1) := by decide +kernel
theorem dX6_keep_19 : decode cX6_keep 19 = .ok (.iaload, 1) := by decide +kernel
theorem dX6_keep_20 : decode cX6_keep 20 = .ok (.iastore, 1) := by decide +kernel
theorem dX6_keep_21 : decode cX6_keep 21 = .ok (.iinc 1 1, 3) := by decide +kernel
theorem dX6_keep_24 : decode cX6_keep 24 = .ok (.goto (-22), 3) := by decide +kernel
theorem dX6_keep_27 : decode cX6_keep 27 = .ok (.aload_n 0, 1) := by decide +kernel
theorem dX6_keep_28 : decode cX6_keep 28 = .ok (.iconst 1, 1) := by decide +kernel
theorem dX6_keep_29 : decode cX6_keep 29 = .ok (.putfield 147, 3) := by decide +kernel
theorem dX6_keep_32 : decode cX6_keep 32 = .ok (.aload_n 0, 1) := by decide +kernel
theorem dX6_keep_33 : decode cX6_keep 33 = .ok (.getfield 7, 3) := by decide +kernel
theorem dX6_keep_36 : decode cX6_keep 36 = .ok (.bipush 19, 2) := by decide +kernel
theorem dX6_keep_38 : decode cX6_keep 38 = .ok (.iaload, 1) := by decide +kernel
theorem dX6_keep_39 : decode cX6_keep 39 = .ok (.ireturn, 1) := by decide +kernel
theorem dX6_restore_0 : decode cX6_restore 0 = .ok (.aload_n 0, 1) := by decide +kernel
theorem dX6_restore_1 : decode cX6_restore 1 = .ok (.getfield 147, 3) := by decide +kernel
theorem dX6_restore_4 : decode cX6_restore 4 = .ok (.ifCond .ne 6, 3) := by decide +kernel
theorem dX6_restore_7 : decode cX6_restore 7 = .ok (.bipush (-5), 2) := by decide +kernel
theorem dX6_restore_9 : decode cX6_restore 9 = .ok (.ireturn, 1) := by decide +kernel
theorem dX6_restore_10 : decode cX6_restore 10 = .ok (.aload_n 0, 1) := by decide +kernel
theorem dX6_restore_11 : decode cX6_restore 11 = .ok (.invokevirtual 84, 3) := by decide +kernel
theorem dX6_restore_14 : decode cX6_restore 14 = .ok (.iconst 0, 1) := by decide +kernel
theorem dX6_restore_15 : decode cX6_restore 15 = .ok (.istore_n 1, 1) := by decide +kernel
theorem dX6_restore_16 : decode cX6_restore 16 = .ok (.iload_n 1, 1) := by decide +kernel
theorem dX6_restore_17 : decode cX6_restore 17 = .ok (.sipush 410, 3) := by decide +kernel
theorem dX6_restore_20 : decode cX6_restore 20 = .ok (.if_icmp .ge 21, 3) := by decide +kernel
theorem dX6_restore_23 : decode cX6_restore 23 = .ok (.aload_n 0, 1) := by decide +kernel
theorem dX6_restore_24 : decode cX6_restore 24 = .ok (.getfield 7, 3) := by decide +kernel
theorem dX6_restore_27 : decode cX6_restore 27 = .ok (.iload_n 1, 1) := by decide +kernel
theorem dX6_restore_28 : decode cX6_restore 28 = .ok (.aload_n 0, 1) := by decide +kernel
theorem dX6_restore_29 : decode cX6_restore 29 = .ok (.getfield 16, 3) := by decide +kernel
theorem dX6_restore_32 : decode cX6_restore 32 = .ok (.iload_n 1, 1) := by decide +kernel
theorem dX6_restore_33 : decode cX6_restore 33 = .ok (.iaload, 1) := by decide +kernel
theorem dX6_restore_34 : decode cX6_restore 34 = .ok (.iastore, 1) := by decide +kernel
theorem dX6_restore_35 : decode cX6_restore 35 = .ok (.iinc 1 1, 3) := by decide +kernel
theorem dX6_restore_38 : decode cX6_restore 38 = .ok (.goto (-22), 3) := by decide +kernel
theorem dX6_restore_41 : decode cX6_restore 41 = .ok (.aload_n 0, 1) := by decide +kernel
theorem dX6_restore_42 : decode cX6_restore 42 = .ok (.getfield 7, 3) := by decide +kernel
theorem dX6_restore_45 : decode cX6_restore 45 = .ok (.bipush 19, 2) := by decide +kernel
theorem dX6_restore_47 : decode cX6_restore 47 = .ok (.iaload, 1) := by decide +kernel
theorem dX6_restore_48 : decode cX6_restore 48 = .ok (.ireturn, 1) := by decide +kernel
theorem dX6_clausesOf_0 : decode cX6_clausesOf 0 = .ok (.iconst 0, 1) := by decide +kernel
theorem dX6_clausesOf_1 : decode cX6_clausesOf 1 = .ok (.istore_n 3, 1) := by decide +kernel
theorem dX6_clausesOf_2 : decode cX6_clausesOf 2 = .ok (.iconst 0, 1) := by decide +kernel
theorem dX6_clausesOf_3 : decode cX6_clausesOf 3 = .ok (.istore 4, 2) := by decide +kernel
theorem dX6_clausesOf_5 : decode cX6_clausesOf 5 = .ok (.iload 4, 2) := by decide +kernel
theorem dX6_clausesOf_7 : decode cX6_clausesOf 7 = .ok (.aload_n 0, 1) := by decide +kernel
theorem dX6_clausesOf_8 : decode cX6_clausesOf 8 = .ok (.getfield 7, 3) := by decide +kernel
theorem dX6_clausesOf_11 : decode cX6_clausesOf 11 = .ok (.bipush 19, 2) := by decide +kernel
theorem dX6_clausesOf_13 : decode cX6_clausesOf 13 = .ok (.iaload, 1) := by decide +kernel
theorem dX6_clausesOf_14 : decode cX6_clausesOf 14 = .ok (.if_icmp .ge 65, 3) := by decide +kernel
theorem dX6_clausesOf_17 : decode cX6_clausesOf 17 = .ok (.iload_n 1, 1) := by decide +kernel
theorem dX6_clausesOf_18 : decode cX6_clausesOf 18 = .ok (.bipush (-5), 2) := by decide +kernel
theorem dX6_clausesOf_20 : decode cX6_clausesOf 20 = .ok (.if_icmp .eq 14, 3) := by decide +kernel
theorem dX6_clausesOf_23 : decode cX6_clausesOf 23 = .ok (.aload_n 0, 1) := by decide +kernel
theorem dX6_clausesOf_24 : decode cX6_clausesOf 24 = .ok (.iload 4, 2) := by decide +kernel
theorem dX6_clausesOf_26 : decode cX6_clausesOf 26 = .ok (.iconst 0, 1) := by decide +kernel
theorem dX6_clausesOf_27 : decode cX6_clausesOf 27 = .ok (.invokevirtual 47, 3) := by decide +kernel
theorem dX6_clausesOf_30 : decode cX6_clausesOf 30 = .ok (.iload_n 1, 1) := by decide +kernel
theorem dX6_clausesOf_31 : decode cX6_clausesOf 31 = .ok (.if_icmp .ne 7, 3) := by decide +kernel
theorem dX6_clausesOf_34 : decode cX6_clausesOf 34 = .ok (.iconst 1, 1) := by decide +kernel
theorem dX6_clausesOf_35 : decode cX6_clausesOf 35 = .ok (.goto 4, 3) := by decide +kernel
theorem dX6_clausesOf_38 : decode cX6_clausesOf 38 = .ok (.iconst 0, 1) := by decide +kernel
theorem dX6_clausesOf_39 : decode cX6_clausesOf 39 = .ok (.istore 5, 2) := by decide +kernel
theorem dX6_clausesOf_41 : decode cX6_clausesOf 41 = .ok (.iload_n 3, 1) := by decide +kernel
theorem dX6_clausesOf_42 : decode cX6_clausesOf 42 = .ok (.iload 5, 2) := by decide +kernel
theorem dX6_clausesOf_44 : decode cX6_clausesOf 44 = .ok (.ifCond .eq 26, 3) := by decide +kernel
theorem dX6_clausesOf_47 : decode cX6_clausesOf 47 = .ok (.iload_n 2, 1) := by decide +kernel
theorem dX6_clausesOf_48 : decode cX6_clausesOf 48 = .ok (.ifCond .eq 18, 3) := by decide +kernel
theorem dX6_clausesOf_51 : decode cX6_clausesOf 51 = .ok (.aload_n 0, 1) := by decide +kernel
theorem dX6_clausesOf_52 : decode cX6_clausesOf 52 = .ok (.iload 4, 2) := by decide +kernel
theorem dX6_clausesOf_54 : decode cX6_clausesOf 54 = .ok (.aload_n 0, 1) := by decide +kernel
theorem dX6_clausesOf_55 : decode cX6_clausesOf 55 = .ok (.getfield 7, 3) := by decide +kernel
theorem dX6_clausesOf_58 : decode cX6_clausesOf 58 = .ok (.iconst 0, 1) := by decide +kernel
theorem dX6_clausesOf_59 : decode cX6_clausesOf 59 = .ok (.iaload, 1) := by decide +kernel
theorem dX6_clausesOf_60 : decode cX6_clausesOf 60 = .ok (.invokevirtual 57, 3) := by decide +kernel
theorem dX6_clausesOf_63 : decode cX6_clausesOf 63 = .ok (.ifCond .eq 7, 3) := by decide +kernel
theorem dX6_clausesOf_66 : decode cX6_clausesOf 66 = .ok (.iconst 1, 1) := by decide +kernel
theorem dX6_clausesOf_67 : decode cX6_clausesOf 67 = .ok (.goto 4, 3) := by decide +kernel
theorem dX6_clausesOf_70 : decode cX6_clausesOf 70 = .ok (.iconst 0, 1) := by decide +kernel
theorem dX6_clausesOf_71 : decode cX6_clausesOf 71 = .ok (.iadd, 1) := by decide +kernel
theorem dX6_clausesOf_72 : decode cX6_clausesOf 72 = .ok (.istore_n 3, 1) := by decide +kernel
theorem dX6_clausesOf_73 : decode cX6_clausesOf 73 = .ok (.iinc 4 1, 3) := by decide +kernel
theorem dX6_clausesOf_76 : decode cX6_clausesOf 76 = .ok (.goto (-71), 3) := by decide +kernel
theorem dX6_clausesOf_79 : decode cX6_clausesOf 79 = .ok (.iload_n 3, 1) := by decide +kernel
theorem dX6_clausesOf_80 : decode cX6_clausesOf 80 = .ok (.ireturn, 1) := by decide +kernel
theorem dX6_ruledIn_0 : decode cX6_ruledIn 0 = .ok (.aload_n 0, 1) := by decide +kernel
theorem dX6_ruledIn_1 : decode cX6_ruledIn 1 = .ok (.bipush (-5), 2) := by decide +kernel
theorem dX6_ruledIn_3 : decode cX6_ruledIn 3 = .ok (.invokevirtual 74, 3) := by decide +kernel
theorem dX6_ruledIn_6 : decode cX6_ruledIn 6 = .ok (.iconst 0, 1) := by decide +kernel
theorem dX6_ruledIn_7 : decode cX6_ruledIn 7 = .ok (.istore_n 2, 1) := by decide +kernel
theorem dX6_ruledIn_8 : decode cX6_ruledIn 8 = .ok (.iconst 0, 1) := by decide +kernel
theorem dX6_ruledIn_9 : decode cX6_ruledIn 9 = .ok (.istore_n 3, 1) := by decide +kernel
theorem dX6_ruledIn_10 : decode cX6_ruledIn 10 = .ok (.iload_n 3, 1) := by decide +kernel
theorem dX6_ruledIn_11 : decode cX6_ruledIn 11 = .ok (.bipush 99, 2) := by decide +kernel
theorem dX6_ruledIn_13 : decode cX6_ruledIn 13 = .ok (.if_icmp .gt 43, 3) := by decide +kernel
theorem dX6_ruledIn_16 : decode cX6_ruledIn 16 = .ok (.iload_n 2, 1) := by decide +kernel
theorem dX6_ruledIn_17 : decode cX6_ruledIn 17 = .ok (.aload_n 0, 1) := by decide +kernel
theorem dX6_ruledIn_18 : decode cX6_ruledIn 18 = .ok (.getfield 22, 3) := by decide +kernel
theorem dX6_ruledIn_21 : decode cX6_ruledIn 21 = .ok (.iload_n 3, 1) := by decide +kernel
theorem dX6_ruledIn_22 : decode cX6_ruledIn 22 = .ok (.iaload, 1) := by decide +kernel
theorem dX6_ruledIn_23 : decode cX6_ruledIn 23 = .ok (.bipush (-5), 2) := by decide +kernel
theorem dX6_ruledIn_25 : decode cX6_ruledIn 25 = .ok (.if_icmp .eq 22, 3) := by decide +kernel
theorem dX6_ruledIn_28 : decode cX6_ruledIn 28 = .ok (.aload_n 0, 1) := by decide +kernel
theorem dX6_ruledIn_29 : decode cX6_ruledIn 29 = .ok (.aload_n 0, 1) := by decide +kernel
theorem dX6_ruledIn_30 : decode cX6_ruledIn 30 = .ok (.getfield 22, 3) := by decide +kernel
theorem dX6_ruledIn_33 : decode cX6_ruledIn 33 = .ok (.iload_n 3, 1) := by decide +kernel
theorem dX6_ruledIn_34 : decode cX6_ruledIn 34 = .ok (.iaload, 1) := by decide +kernel
theorem dX6_ruledIn_35 : decode cX6_ruledIn 35 = .ok (.iconst 0, 1) := by decide +kernel
theorem dX6_ruledIn_36 : decode cX6_ruledIn 36 = .ok (.invokevirtual 47, 3) := by decide +kernel
theorem dX6_ruledIn_39 : decode cX6_ruledIn 39 = .ok (.iload_n 1, 1) := by decide +kernel
theorem dX6_ruledIn_40 : decode cX6_ruledIn 40 = .ok (.if_icmp .ne 7, 3) := by decide +kernel
theorem dX6_ruledIn_43 : decode cX6_ruledIn 43 = .ok (.iconst 1, 1) := by decide +kernel
theorem dX6_ruledIn_44 : decode cX6_ruledIn 44 = .ok (.goto 4, 3) := by decide +kernel
theorem dX6_ruledIn_47 : decode cX6_ruledIn 47 = .ok (.iconst 0, 1) := by decide +kernel
theorem dX6_ruledIn_48 : decode cX6_ruledIn 48 = .ok (.iadd, 1) := by decide +kernel
theorem dX6_ruledIn_49 : decode cX6_ruledIn 49 = .ok (.istore_n 2, 1) := by decide +kernel
theorem dX6_ruledIn_50 : decode cX6_ruledIn 50 = .ok (.iinc 3 1, 3) := by decide +kernel
theorem dX6_ruledIn_53 : decode cX6_ruledIn 53 = .ok (.goto (-43), 3) := by decide +kernel
theorem dX6_ruledIn_56 : decode cX6_ruledIn 56 = .ok (.iload_n 2, 1) := by decide +kernel
theorem dX6_ruledIn_57 : decode cX6_ruledIn 57 = .ok (.ireturn, 1) := by decide +kernel
theorem dX6_chapter_0 : decode cX6_chapter 0 = .ok (.iload_n 1, 1) := by decide +kernel
theorem dX6_chapter_1 : decode cX6_chapter 1 = .ok (.invokestatic 78, 3) := by decide +kernel
theorem dX6_chapter_4 : decode cX6_chapter 4 = .ok (.ifCond .ne 5, 3) := by decide +kernel
theorem dX6_chapter_7 : decode cX6_chapter 7 = .ok (.iconst (-1), 1) := by decide +kernel
theorem dX6_chapter_8 : decode cX6_chapter 8 = .ok (.ireturn, 1) := by decide +kernel
theorem dX6_chapter_9 : decode cX6_chapter 9 = .ok (.iload_n 2, 1) := by decide +kernel
theorem dX6_chapter_10 : decode cX6_chapter 10 = .ok (.tableswitch 71 0 5 #[38, 38, 38, 49, 49, 65], 38) := by decide +kernel
theorem dX6_chapter_48 : decode cX6_chapter 48 = .ok (.aload_n 0, 1) := by decide +kernel
theorem dX6_chapter_49 : decode cX6_chapter 49 = .ok (.getfield 7, 3) := by decide +kernel
theorem dX6_chapter_52 : decode cX6_chapter 52 = .ok (.iload_n 1, 1) := by decide +kernel
theorem dX6_chapter_53 : decode cX6_chapter 53 = .ok (.iload_n 2, 1) := by decide +kernel
theorem dX6_chapter_54 : decode cX6_chapter 54 = .ok (.invokestatic 28, 3) := by decide +kernel
theorem dX6_chapter_57 : decode cX6_chapter 57 = .ok (.iaload, 1) := by decide +kernel
theorem dX6_chapter_58 : decode cX6_chapter 58 = .ok (.ireturn, 1) := by decide +kernel
theorem dX6_chapter_59 : decode cX6_chapter 59 = .ok (.aload_n 0, 1) := by decide +kernel
theorem dX6_chapter_60 : decode cX6_chapter 60 = .ok (.iload_n 1, 1) := by decide +kernel
theorem dX6_chapter_61 : decode cX6_chapter 61 = .ok (.iload_n 2, 1) := by decide +kernel
theorem dX6_chapter_62 : decode cX6_chapter 62 = .ok (.iconst 4, 1) := by decide +kernel
theorem dX6_chapter_63 : decode cX6_chapter 63 = .ok (.if_icmp .ne 7, 3) := by decide +kernel
theorem dX6_chapter_66 : decode cX6_chapter 66 = .ok (.iconst 1, 1) := by decide +kernel
theorem dX6_chapter_67 : decode cX6_chapter 67 = .ok (.goto 4, 3) := by decide +kernel
theorem dX6_chapter_70 : decode cX6_chapter 70 = .ok (.iconst 0, 1) := by decide +kernel
theorem dX6_chapter_71 : decode cX6_chapter 71 = .ok (.invokevirtual 150, 3) := by decide +kernel
theorem dX6_chapter_74 : decode cX6_chapter 74 = .ok (.ireturn, 1) := by decide +kernel
theorem dX6_chapter_75 : decode cX6_chapter 75 = .ok (.aload_n 0, 1) := by decide +kernel
theorem dX6_chapter_76 : decode cX6_chapter 76 = .ok (.iload_n 1, 1) := by decide +kernel
theorem dX6_chapter_77 : decode cX6_chapter 77 = .ok (.invokevirtual 154, 3) := by decide +kernel
theorem dX6_chapter_80 : decode cX6_chapter 80 = .ok (.ireturn, 1) := by decide +kernel
theorem dX6_chapter_81 : decode cX6_chapter 81 = .ok (.bipush (-2), 2) := by decide +kernel
theorem dX6_chapter_83 : decode cX6_chapter 83 = .ok (.ireturn, 1) := by decide +kernel
theorem dX6_spokenBy_0 : decode cX6_spokenBy 0 = .ok (.iconst 0, 1) := by decide +kernel
theorem dX6_spokenBy_1 : decode cX6_spokenBy 1 = .ok (.istore_n 2, 1) := by decide +kernel
theorem dX6_spokenBy_2 : decode cX6_spokenBy 2 = .ok (.iconst 0, 1) := by decide +kernel
theorem dX6_spokenBy_3 : decode cX6_spokenBy 3 = .ok (.istore_n 3, 1) := by decide +kernel
theorem dX6_spokenBy_4 : decode cX6_spokenBy 4 = .ok (.iload_n 3, 1) := by decide +kernel
theorem dX6_spokenBy_5 : decode cX6_spokenBy 5 = .ok (.bipush 99, 2) := by decide +kernel
theorem dX6_spokenBy_7 : decode cX6_spokenBy 7 = .ok (.if_icmp .gt 40, 3) := by decide +kernel
theorem dX6_spokenBy_10 : decode cX6_spokenBy 10 = .ok (.iload_n 2, 1) := by decide +kernel
theorem dX6_spokenBy_11 : decode cX6_spokenBy 11 = .ok (.aload_n 0, 1) := by decide +kernel
theorem dX6_spokenBy_12 : decode cX6_spokenBy 12 = .ok (.aload_n 0, 1) := by decide +kernel
theorem dX6_spokenBy_13 : decode cX6_spokenBy 13 = .ok (.iload_n 1, 1) := by decide +kernel
theorem dX6_spokenBy_14 : decode cX6_spokenBy 14 = .ok (.iconst 0, 1) := by decide +kernel
theorem dX6_spokenBy_15 : decode cX6_spokenBy 15 = .ok (.invokevirtual 47, 3) := by decide +kernel
theorem dX6_spokenBy_18 : decode cX6_spokenBy 18 = .ok (.iload_n 3, 1) := by decide +kernel
theorem dX6_spokenBy_19 : decode cX6_spokenBy 19 = .ok (.aload_n 0, 1) := by decide +kernel
theorem dX6_spokenBy_20 : decode cX6_spokenBy 20 = .ok (.getfield 7, 3) := by decide +kernel
theorem dX6_spokenBy_23 : decode cX6_spokenBy 23 = .ok (.iconst 0, 1) := by decide +kernel
theorem dX6_spokenBy_24 : decode cX6_spokenBy 24 = .ok (.iaload, 1) := by decide +kernel
theorem dX6_spokenBy_25 : decode cX6_spokenBy 25 = .ok (.bipush (-5), 2) := by decide +kernel
theorem dX6_spokenBy_27 : decode cX6_spokenBy 27 = .ok (.invokevirtual 67, 3) := by decide +kernel
theorem dX6_spokenBy_30 : decode cX6_spokenBy 30 = .ok (.iload_n 1, 1) := by decide +kernel
theorem dX6_spokenBy_31 : decode cX6_spokenBy 31 = .ok (.if_icmp .ne 7, 3) := by decide +kernel
theorem dX6_spokenBy_34 : decode cX6_spokenBy 34 = .ok (.iconst 1, 1) := by decide +kernel
theorem dX6_spokenBy_35 : decode cX6_spokenBy 35 = .ok (.goto 4, 3) := by decide +kernel
theorem dX6_spokenBy_38 : decode cX6_spokenBy 38 = .ok (.iconst 0, 1) := by decide +kernel
theorem dX6_spokenBy_39 : decode cX6_spokenBy 39 = .ok (.iadd, 1) := by decide +kernel
theorem dX6_spokenBy_40 : decode cX6_spokenBy 40 = .ok (.istore_n 2, 1) := by decide +kernel
theorem dX6_spokenBy_41 : decode cX6_spokenBy 41 = .ok (.iinc 3 1, 3) := by decide +kernel
theorem dX6_spokenBy_44 : decode cX6_spokenBy 44 = .ok (.goto (-40), 3) := by decide +kernel
theorem dX6_spokenBy_47 : decode cX6_spokenBy 47 = .ok (.iload_n 2, 1) := by decide +kernel
theorem dX6_spokenBy_48 : decode cX6_spokenBy 48 = .ok (.ireturn, 1) := by decide +kernel
theorem dX6_ruledBy_0 : decode cX6_ruledBy 0 = .ok (.iconst 0, 1) := by decide +kernel
theorem dX6_ruledBy_1 : decode cX6_ruledBy 1 = .ok (.istore_n 2, 1) := by decide +kernel
theorem dX6_ruledBy_2 : decode cX6_ruledBy 2 = .ok (.iconst 0, 1) := by decide +kernel
theorem dX6_ruledBy_3 : decode cX6_ruledBy 3 = .ok (.istore_n 3, 1) := by decide +kernel
theorem dX6_ruledBy_4 : decode cX6_ruledBy 4 = .ok (.iload_n 3, 1) := by decide +kernel
theorem dX6_ruledBy_5 : decode cX6_ruledBy 5 = .ok (.bipush 99, 2) := by decide +kernel
theorem dX6_ruledBy_7 : decode cX6_ruledBy 7 = .ok (.if_icmp .gt 27, 3) := by decide +kernel
theorem dX6_ruledBy_10 : decode cX6_ruledBy 10 = .ok (.iload_n 2, 1) := by decide +kernel
theorem dX6_ruledBy_11 : decode cX6_ruledBy 11 = .ok (.aload_n 0, 1) := by decide +kernel
theorem dX6_ruledBy_12 : decode cX6_ruledBy 12 = .ok (.getfield 22, 3) := by decide +kernel
theorem dX6_ruledBy_15 : decode cX6_ruledBy 15 = .ok (.iload_n 3, 1) := by decide +kernel
theorem dX6_ruledBy_16 : decode cX6_ruledBy 16 = .ok (.iaload, 1) := by decide +kernel
theorem dX6_ruledBy_17 : decode cX6_ruledBy 17 = .ok (.iload_n 1, 1) := by decide +kernel
theorem dX6_ruledBy_18 : decode cX6_ruledBy 18 = .ok (.if_icmp .ne 7, 3) := by decide +kernel
theorem dX6_ruledBy_21 : decode cX6_ruledBy 21 = .ok (.iconst 1, 1) := by decide +kernel
theorem dX6_ruledBy_22 : decode cX6_ruledBy 22 = .ok (.goto 4, 3) := by decide +kernel
theorem dX6_ruledBy_25 : decode cX6_ruledBy 25 = .ok (.iconst 0, 1) := by decide +kernel
theorem dX6_ruledBy_26 : decode cX6_ruledBy 26 = .ok (.iadd, 1) := by decide +kernel
theorem dX6_ruledBy_27 : decode cX6_ruledBy 27 = .ok (.istore_n 2, 1) := by decide +kernel
theorem dX6_ruledBy_28 : decode cX6_ruledBy 28 = .ok (.iinc 3 1, 3) := by decide +kernel
theorem dX6_ruledBy_31 : decode cX6_ruledBy 31 = .ok (.goto (-27), 3) := by decide +kernel
theorem dX6_ruledBy_34 : decode cX6_ruledBy 34 = .ok (.iload_n 2, 1) := by decide +kernel
theorem dX6_ruledBy_35 : decode cX6_ruledBy 35 = .ok (.ireturn, 1) := by decide +kernel
theorem dX6_clause_0 : decode cX6_clause 0 = .ok (.aload_n 0, 1) := by decide +kernel
theorem dX6_clause_1 : decode cX6_clause 1 = .ok (.iload_n 1, 1) := by decide +kernel
theorem dX6_clause_2 : decode cX6_clause 2 = .ok (.invokevirtual 94, 3) := by decide +kernel
theorem dX6_clause_5 : decode cX6_clause 5 = .ok (.ifCond .ne 5, 3) := by decide +kernel
theorem dX6_clause_8 : decode cX6_clause 8 = .ok (.iconst (-1), 1) := by decide +kernel
theorem dX6_clause_9 : decode cX6_clause 9 = .ok (.ireturn, 1) := by decide +kernel
theorem dX6_clause_10 : decode cX6_clause 10 = .ok (.iload_n 2, 1) := by decide +kernel
theorem dX6_clause_11 : decode cX6_clause 11 = .ok (.iconst 0, 1) := by decide +kernel
theorem dX6_clause_12 : decode cX6_clause 12 = .ok (.bipush 9, 2) := by decide +kernel
theorem dX6_clause_14 : decode cX6_clause 14 = .ok (.invokestatic 32, 3) := by decide +kernel
theorem dX6_clause_17 : decode cX6_clause 17 = .ok (.ifCond .ne 6, 3) := by decide +kernel
theorem dX6_clause_20 : decode cX6_clause 20 = .ok (.bipush (-2), 2) := by decide +kernel
theorem dX6_clause_22 : decode cX6_clause 22 = .ok (.ireturn, 1) := by decide +kernel
theorem dX6_clause_23 : decode cX6_clause 23 = .ok (.iload_n 2, 1) := by decide +kernel
theorem dX6_clause_24 : decode cX6_clause 24 = .ok (.bipush 9, 2) := by decide +kernel
theorem dX6_clause_26 : decode cX6_clause 26 = .ok (.if_icmp .ne 15, 3) := by decide +kernel
theorem dX6_clause_29 : decode cX6_clause 29 = .ok (.aload_n 0, 1) := by decide +kernel
theorem dX6_clause_30 : decode cX6_clause 30 = .ok (.bipush (-5), 2) := by decide +kernel
theorem dX6_clause_32 : decode cX6_clause 32 = .ok (.invokevirtual 74, 3) := by decide +kernel
theorem dX6_clause_35 : decode cX6_clause 35 = .ok (.aload_n 0, 1) := by decide +kernel
theorem dX6_clause_36 : decode cX6_clause 36 = .ok (.iload_n 1, 1) := by decide +kernel
theorem dX6_clause_37 : decode cX6_clause 37 = .ok (.invokevirtual 157, 3) := by decide +kernel
theorem dX6_clause_40 : decode cX6_clause 40 = .ok (.ireturn, 1) := by decide +kernel
theorem dX6_clause_41 : decode cX6_clause 41 = .ok (.iload_n 2, 1) := by decide +kernel
theorem dX6_clause_42 : decode cX6_clause 42 = .ok (.bipush 7, 2) := by decide +kernel
theorem dX6_clause_44 : decode cX6_clause 44 = .ok (.if_icmp .ge 12, 3) := by decide +kernel
theorem dX6_clause_47 : decode cX6_clause 47 = .ok (.aload_n 0, 1) := by decide +kernel
theorem dX6_clause_48 : decode cX6_clause 48 = .ok (.iload_n 1, 1) := by decide +kernel
theorem dX6_clause_49 : decode cX6_clause 49 = .ok (.iload_n 2, 1) := by decide +kernel
theorem dX6_clause_50 : decode cX6_clause 50 = .ok (.invokevirtual 47, 3) := by decide +kernel
theorem dX6_clause_53 : decode cX6_clause 53 = .ok (.goto 36, 3) := by decide +kernel
theorem dX6_clause_56 : decode cX6_clause 56 = .ok (.iload_n 2, 1) := by decide +kernel
theorem dX6_clause_57 : decode cX6_clause 57 = .ok (.bipush 8, 2) := by decide +kernel
theorem dX6_clause_59 : decode cX6_clause 59 = .ok (.if_icmp .ne 11, 3) := by decide +kernel
theorem dX6_clause_62 : decode cX6_clause 62 = .ok (.aload_n 0, 1) := by decide +kernel
theorem dX6_clause_63 : decode cX6_clause 63 = .ok (.iload_n 1, 1) := by decide +kernel
theorem dX6_clause_64 : decode cX6_clause 64 = .ok (.invokevirtual 160, 3) := by decide +kernel
theorem dX6_clause_67 : decode cX6_clause 67 = .ok (.goto 22, 3) := by decide +kernel
theorem dX6_clause_70 : decode cX6_clause 70 = .ok (.aload_n 0, 1) := by decide +kernel
theorem dX6_clause_71 : decode cX6_clause 71 = .ok (.iload_n 1, 1) := by decide +kernel
theorem dX6_clause_72 : decode cX6_clause 72 = .ok (.aload_n 0, 1) := by decide +kernel
theorem dX6_clause_73 : decode cX6_clause 73 = .ok (.getfield 7, 3) := by decide +kernel
theorem dX6_clause_76 : decode cX6_clause 76 = .ok (.iconst 0, 1) := by decide +kernel
theorem dX6_clause_77 : decode cX6_clause 77 = .ok (.iaload, 1) := by decide +kernel
theorem dX6_clause_78 : decode cX6_clause 78 = .ok (.invokevirtual 57, 3) := by decide +kernel
theorem dX6_clause_81 : decode cX6_clause 81 = .ok (.ifCond .eq 7, 3) := by decide +kernel
theorem dX6_clause_84 : decode cX6_clause 84 = .ok (.iconst 1, 1) := by decide +kernel
theorem dX6_clause_85 : decode cX6_clause 85 = .ok (.goto 4, 3) := by decide +kernel
theorem dX6_clause_88 : decode cX6_clause 88 = .ok (.iconst 0, 1) := by decide +kernel
theorem dX6_clause_89 : decode cX6_clause 89 = .ok (.ireturn, 1) := by decide +kernel
theorem dX6_ruling_0 : decode cX6_ruling 0 = .ok (.iload_n 1, 1) := by decide +kernel
theorem dX6_ruling_1 : decode cX6_ruling 1 = .ok (.invokestatic 36, 3) := by decide +kernel
theorem dX6_ruling_4 : decode cX6_ruling 4 = .ok (.ifCond .eq 10, 3) := by decide +kernel
theorem dX6_ruling_7 : decode cX6_ruling 7 = .ok (.iload_n 2, 1) := by decide +kernel
theorem dX6_ruling_8 : decode cX6_ruling 8 = .ok (.invokestatic 87, 3) := by decide +kernel
theorem dX6_ruling_11 : decode cX6_ruling 11 = .ok (.ifCond .ne 5, 3) := by decide +kernel
theorem dX6_ruling_14 : decode cX6_ruling 14 = .ok (.iconst (-1), 1) := by decide +kernel
theorem dX6_ruling_15 : decode cX6_ruling 15 = .ok (.ireturn, 1) := by decide +kernel
theorem dX6_ruling_16 : decode cX6_ruling 16 = .ok (.iload_n 3, 1) := by decide +kernel
theorem dX6_ruling_17 : decode cX6_ruling 17 = .ok (.iconst 0, 1) := by decide +kernel
theorem dX6_ruling_18 : decode cX6_ruling 18 = .ok (.iconst 2, 1) := by decide +kernel
theorem dX6_ruling_19 : decode cX6_ruling 19 = .ok (.invokestatic 32, 3) := by decide +kernel
theorem dX6_ruling_22 : decode cX6_ruling 22 = .ok (.ifCond .ne 6, 3) := by decide +kernel
theorem dX6_ruling_25 : decode cX6_ruling 25 = .ok (.bipush (-2), 2) := by decide +kernel
theorem dX6_ruling_27 : decode cX6_ruling 27 = .ok (.ireturn, 1) := by decide +kernel
theorem dX6_ruling_28 : decode cX6_ruling 28 = .ok (.aload_n 0, 1) := by decide +kernel
theorem dX6_ruling_29 : decode cX6_ruling 29 = .ok (.iload_n 1, 1) := by decide +kernel
theorem dX6_ruling_30 : decode cX6_ruling 30 = .ok (.iload_n 2, 1) := by decide +kernel
theorem dX6_ruling_31 : decode cX6_ruling 31 = .ok (.bipush (-5), 2) := by decide +kernel
theorem dX6_ruling_33 : decode cX6_ruling 33 = .ok (.invokevirtual 70, 3) := by decide +kernel
theorem dX6_ruling_36 : decode cX6_ruling 36 = .ok (.istore 4, 2) := by decide +kernel
theorem dX6_ruling_38 : decode cX6_ruling 38 = .ok (.iload 4, 2) := by decide +kernel
theorem dX6_ruling_40 : decode cX6_ruling 40 = .ok (.bipush (-5), 2) := by decide +kernel
theorem dX6_ruling_42 : decode cX6_ruling 42 = .ok (.if_icmp .ne 8, 3) := by decide +kernel
theorem dX6_ruling_45 : decode cX6_ruling 45 = .ok (.bipush (-5), 2) := by decide +kernel
theorem dX6_ruling_47 : decode cX6_ruling 47 = .ok (.goto 28, 3) := by decide +kernel
theorem dX6_ruling_50 : decode cX6_ruling 50 = .ok (.iload_n 3, 1) := by decide +kernel
theorem dX6_ruling_51 : decode cX6_ruling 51 = .ok (.iconst 1, 1) := by decide +kernel
theorem dX6_ruling_52 : decode cX6_ruling 52 = .ok (.if_icmp .ne 8, 3) := by decide +kernel
theorem dX6_ruling_55 : decode cX6_ruling 55 = .ok (.iload 4, 2) := by decide +kernel
theorem dX6_ruling_57 : decode cX6_ruling 57 = .ok (.goto 18, 3) := by decide +kernel
theorem dX6_ruling_60 : decode cX6_ruling 60 = .ok (.aload_n 0, 1) := by decide +kernel
theorem dX6_ruling_61 : decode cX6_ruling 61 = .ok (.iload 4, 2) := by decide +kernel
theorem dX6_ruling_63 : decode cX6_ruling 63 = .ok (.iload_n 3, 1) := by decide +kernel
theorem dX6_ruling_64 : decode cX6_ruling 64 = .ok (.ifCond .ne 7, 3) := by decide +kernel
theorem dX6_ruling_67 : decode cX6_ruling 67 = .ok (.iconst 5, 1) := by decide +kernel
theorem dX6_ruling_68 : decode cX6_ruling 68 = .ok (.goto 4, 3) := by decide +kernel
theorem dX6_ruling_71 : decode cX6_ruling 71 = .ok (.iconst 0, 1) := by decide +kernel
theorem dX6_ruling_72 : decode cX6_ruling 72 = .ok (.invokevirtual 47, 3) := by decide +kernel
theorem dX6_ruling_75 : decode cX6_ruling 75 = .ok (.ireturn, 1) := by decide +kernel
theorem dX6_painted_0 : decode cX6_painted 0 = .ok (.iload_n 1, 1) := by decide +kernel
theorem dX6_painted_1 : decode cX6_painted 1 = .ok (.invokestatic 36, 3) := by decide +kernel
theorem dX6_painted_4 : decode cX6_painted 4 = .ok (.ifCond .eq 21, 3) := by decide +kernel
theorem dX6_painted_7 : decode cX6_painted 7 = .ok (.iload_n 2, 1) := by decide +kernel
theorem dX6_painted_8 : decode cX6_painted 8 = .ok (.invokestatic 87, 3) := by decide +kernel
theorem dX6_painted_11 : decode cX6_painted 11 = .ok (.ifCond .eq 14, 3) := by decide +kernel
theorem dX6_painted_14 : decode cX6_painted 14 = .ok (.aload_n 0, 1) := by decide +kernel
theorem dX6_painted_15 : decode cX6_painted 15 = .ok (.iload_n 1, 1) := by decide +kernel
theorem dX6_painted_16 : decode cX6_painted 16 = .ok (.iload_n 2, 1) := by decide +kernel
theorem dX6_painted_17 : decode cX6_painted 17 = .ok (.bipush (-5), 2) := by decide +kernel
theorem dX6_painted_19 : decode cX6_painted 19 = .ok (.invokevirtual 70, 3) := by decide +kernel
theorem dX6_painted_22 : decode cX6_painted 22 = .ok (.goto 4, 3) := by decide +kernel
theorem dX6_painted_25 : decode cX6_painted 25 = .ok (.iconst (-1), 1) := by decide +kernel
theorem dX6_painted_26 : decode cX6_painted 26 = .ok (.ireturn, 1) := by decide +kernel
theorem dX6_areThere_0 : decode cX6_areThere 0 = .ok (.aload_n 0, 1) := by decide +kernel
theorem dX6_areThere_1 : decode cX6_areThere 1 = .ok (.iload_n 1, 1) := by decide +kernel
theorem dX6_areThere_2 : decode cX6_areThere 2 = .ok (.invokevirtual 94, 3) := by decide +kernel
theorem dX6_areThere_5 : decode cX6_areThere 5 = .ok (.ifCond .eq 21, 3) := by decide +kernel
theorem dX6_areThere_8 : decode cX6_areThere 8 = .ok (.iload_n 2, 1) := by decide +kernel
theorem dX6_areThere_9 : decode cX6_areThere 9 = .ok (.invokestatic 36, 3) := by decide +kernel
theorem dX6_areThere_12 : decode cX6_areThere 12 = .ok (.ifCond .eq 14, 3) := by decide +kernel
theorem dX6_areThere_15 : decode cX6_areThere 15 = .ok (.iload_n 3, 1) := by decide +kernel
theorem dX6_areThere_16 : decode cX6_areThere 16 = .ok (.invokestatic 87, 3) := by decide +kernel
theorem dX6_areThere_19 : decode cX6_areThere 19 = .ok (.ifCond .eq 7, 3) := by decide +kernel
theorem dX6_areThere_22 : decode cX6_areThere 22 = .ok (.iconst 1, 1) := by decide +kernel
theorem dX6_areThere_23 : decode cX6_areThere 23 = .ok (.goto 4, 3) := by decide +kernel
theorem dX6_areThere_26 : decode cX6_areThere 26 = .ok (.iconst 0, 1) := by decide +kernel
theorem dX6_areThere_27 : decode cX6_areThere 27 = .ok (.ireturn, 1) := by decide +kernel
theorem dX6_silencer_0 : decode cX6_silencer 0 = .ok (.aload_n 0, 1) := by decide +kernel
theorem dX6_silencer_1 : decode cX6_silencer 1 = .ok (.aload_n 0, 1) := by decide +kernel
theorem dX6_silencer_2 : decode cX6_silencer 2 = .ok (.iload_n 1, 1) := by decide +kernel
theorem dX6_silencer_3 : decode cX6_silencer 3 = .ok (.iconst 0, 1) := by decide +kernel
theorem dX6_silencer_4 : decode cX6_silencer 4 = .ok (.invokevirtual 47, 3) := by decide +kernel
theorem dX6_silencer_7 : decode cX6_silencer 7 = .ok (.iload_n 2, 1) := by decide +kernel
theorem dX6_silencer_8 : decode cX6_silencer 8 = .ok (.iload_n 3, 1) := by decide +kernel
theorem dX6_silencer_9 : decode cX6_silencer 9 = .ok (.bipush (-5), 2) := by decide +kernel
theorem dX6_silencer_11 : decode cX6_silencer 11 = .ok (.invokevirtual 63, 3) := by decide +kernel
theorem dX6_silencer_14 : decode cX6_silencer 14 = .ok (.istore 4, 2) := by decide +kernel
theorem dX6_silencer_16 : decode cX6_silencer 16 = .ok (.aload_n 0, 1) := by decide +kernel
theorem dX6_silencer_17 : decode cX6_silencer 17 = .ok (.iload_n 1, 1) := by decide +kernel
theorem dX6_silencer_18 : decode cX6_silencer 18 = .ok (.iload_n 3, 1) := by decide +kernel
theorem dX6_silencer_19 : decode cX6_silencer 19 = .ok (.invokevirtual 57, 3) := by decide +kernel
theorem dX6_silencer_22 : decode cX6_silencer 22 = .ok (.ifCond .eq 23, 3) := by decide +kernel
theorem dX6_silencer_25 : decode cX6_silencer 25 = .ok (.aload_n 0, 1) := by decide +kernel
theorem dX6_silencer_26 : decode cX6_silencer 26 = .ok (.iload_n 1, 1) := by decide +kernel
theorem dX6_silencer_27 : decode cX6_silencer 27 = .ok (.iload_n 2, 1) := by decide +kernel
theorem dX6_silencer_28 : decode cX6_silencer 28 = .ok (.invokevirtual 60, 3) := by decide +kernel
theorem dX6_silencer_31 : decode cX6_silencer 31 = .ok (.ifCond .eq 14, 3) := by decide +kernel
theorem dX6_silencer_34 : decode cX6_silencer 34 = .ok (.iload 4, 2) := by decide +kernel
theorem dX6_silencer_36 : decode cX6_silencer 36 = .ok (.iload_n 1, 1) := by decide +kernel
theorem dX6_silencer_37 : decode cX6_silencer 37 = .ok (.if_icmp .eq 8, 3) := by decide +kernel
theorem dX6_silencer_40 : decode cX6_silencer 40 = .ok (.iload 4, 2) := by decide +kernel
theorem dX6_silencer_42 : decode cX6_silencer 42 = .ok (.goto 5, 3) := by decide +kernel
theorem dX6_silencer_45 : decode cX6_silencer 45 = .ok (.bipush (-5), 2) := by decide +kernel
theorem dX6_silencer_47 : decode cX6_silencer 47 = .ok (.ireturn, 1) := by decide +kernel
theorem dX6_silencedBy_0 : decode cX6_silencedBy 0 = .ok (.aload_n 0, 1) := by decide +kernel
theorem dX6_silencedBy_1 : decode cX6_silencedBy 1 = .ok (.iload_n 1, 1) := by decide +kernel
theorem dX6_silencedBy_2 : decode cX6_silencedBy 2 = .ok (.iload_n 2, 1) := by decide +kernel
theorem dX6_silencedBy_3 : decode cX6_silencedBy 3 = .ok (.iload_n 3, 1) := by decide +kernel
theorem dX6_silencedBy_4 : decode cX6_silencedBy 4 = .ok (.invokevirtual 163, 3) := by decide +kernel
theorem dX6_silencedBy_7 : decode cX6_silencedBy 7 = .ok (.ifCond .eq 13, 3) := by decide +kernel
theorem dX6_silencedBy_10 : decode cX6_silencedBy 10 = .ok (.aload_n 0, 1) := by decide +kernel
theorem dX6_silencedBy_11 : decode cX6_silencedBy 11 = .ok (.iload_n 1, 1) := by decide +kernel
theorem dX6_silencedBy_12 : decode cX6_silencedBy 12 = .ok (.iload_n 2, 1) := by decide +kernel
theorem dX6_silencedBy_13 : decode cX6_silencedBy 13 = .ok (.iload_n 3, 1) := by decide +kernel
theorem dX6_silencedBy_14 : decode cX6_silencedBy 14 = .ok (.invokevirtual 166, 3) := by decide +kernel
theorem dX6_silencedBy_17 : decode cX6_silencedBy 17 = .ok (.goto 4, 3) := by decide +kernel
theorem dX6_silencedBy_20 : decode cX6_silencedBy 20 = .ok (.iconst (-1), 1) := by decide +kernel
theorem dX6_silencedBy_21 : decode cX6_silencedBy 21 = .ok (.ireturn, 1) := by decide +kernel
theorem dX6_reason_0 : decode cX6_reason 0 = .ok (.aload_n 0, 1) := by decide +kernel
theorem dX6_reason_1 : decode cX6_reason 1 = .ok (.iload_n 1, 1) := by decide +kernel
theorem dX6_reason_2 : decode cX6_reason 2 = .ok (.iload_n 2, 1) := by decide +kernel
theorem dX6_reason_3 : decode cX6_reason 3 = .ok (.iload_n 3, 1) := by decide +kernel
theorem dX6_reason_4 : decode cX6_reason 4 = .ok (.invokevirtual 163, 3) := by decide +kernel
theorem dX6_reason_7 : decode cX6_reason 7 = .ok (.ifCond .ne 5, 3) := by decide +kernel
theorem dX6_reason_10 : decode cX6_reason 10 = .ok (.iconst (-1), 1) := by decide +kernel
theorem dX6_reason_11 : decode cX6_reason 11 = .ok (.ireturn, 1) := by decide +kernel
theorem dX6_reason_12 : decode cX6_reason 12 = .ok (.aload_n 0, 1) := by decide +kernel
theorem dX6_reason_13 : decode cX6_reason 13 = .ok (.iload_n 1, 1) := by decide +kernel
theorem dX6_reason_14 : decode cX6_reason 14 = .ok (.iload_n 3, 1) := by decide +kernel
theorem dX6_reason_15 : decode cX6_reason 15 = .ok (.invokevirtual 57, 3) := by decide +kernel
theorem dX6_reason_18 : decode cX6_reason 18 = .ok (.ifCond .ne 19, 3) := by decide +kernel
theorem dX6_reason_21 : decode cX6_reason 21 = .ok (.aload_n 0, 1) := by decide +kernel
theorem dX6_reason_22 : decode cX6_reason 22 = .ok (.iload_n 1, 1) := by decide +kernel
theorem dX6_reason_23 : decode cX6_reason 23 = .ok (.iconst 1, 1) := by decide +kernel
theorem dX6_reason_24 : decode cX6_reason 24 = .ok (.invokevirtual 47, 3) := by decide +kernel
theorem dX6_reason_27 : decode cX6_reason 27 = .ok (.iload_n 3, 1) := by decide +kernel
theorem dX6_reason_28 : decode cX6_reason 28 = .ok (.if_icmp .le 7, 3) := by decide +kernel
theorem dX6_reason_31 : decode cX6_reason 31 = .ok (.iconst 1, 1) := by decide +kernel
theorem dX6_reason_32 : decode cX6_reason 32 = .ok (.goto 4, 3) := by decide +kernel
theorem dX6_reason_35 : decode cX6_reason 35 = .ok (.iconst 2, 1) := by decide +kernel
theorem dX6_reason_36 : decode cX6_reason 36 = .ok (.ireturn, 1) := by decide +kernel
theorem dX6_reason_37 : decode cX6_reason 37 = .ok (.aload_n 0, 1) := by decide +kernel
theorem dX6_reason_38 : decode cX6_reason 38 = .ok (.iload_n 1, 1) := by decide +kernel
theorem dX6_reason_39 : decode cX6_reason 39 = .ok (.iload_n 2, 1) := by decide +kernel
theorem dX6_reason_40 : decode cX6_reason 40 = .ok (.invokevirtual 60, 3) := by decide +kernel
theorem dX6_reason_43 : decode cX6_reason 43 = .ok (.ifCond .ne 46, 3) := by decide +kernel
theorem dX6_reason_46 : decode cX6_reason 46 = .ok (.aload_n 0, 1) := by decide +kernel
theorem dX6_reason_47 : decode cX6_reason 47 = .ok (.aload_n 0, 1) := by decide +kernel
theorem dX6_reason_48 : decode cX6_reason 48 = .ok (.iload_n 1, 1) := by decide +kernel
theorem dX6_reason_49 : decode cX6_reason 49 = .ok (.iconst 0, 1) := by decide +kernel
theorem dX6_reason_50 : decode cX6_reason 50 = .ok (.invokevirtual 47, 3) := by decide +kernel
theorem dX6_reason_53 : decode cX6_reason 53 = .ok (.iload_n 2, 1) := by decide +kernel
theorem dX6_reason_54 : decode cX6_reason 54 = .ok (.invokevirtual 50, 3) := by decide +kernel
theorem dX6_reason_57 : decode cX6_reason 57 = .ok (.ifCond .ne 7, 3) := by decide +kernel
theorem dX6_reason_60 : decode cX6_reason 60 = .ok (.iconst 3, 1) := by decide +kernel
theorem dX6_reason_61 : decode cX6_reason 61 = .ok (.goto 27, 3) := by decide +kernel
theorem dX6_reason_64 : decode cX6_reason 64 = .ok (.iload_n 2, 1) := by decide +kernel
theorem dX6_reason_65 : decode cX6_reason 65 = .ok (.aload_n 0, 1) := by decide +kernel
theorem dX6_reason_66 : decode cX6_reason 66 = .ok (.iload_n 1, 1) := by decide +kernel
theorem dX6_reason_67 : decode cX6_reason 67 = .ok (.iconst 3, 1) := by decide +kernel
theorem dX6_reason_68 : decode cX6_reason 68 = .ok (.invokevirtual 47, 3) := by decide +kernel
theorem dX6_reason_71 : decode cX6_reason 71 = .ok (.aload_n 0, 1) := by decide +kernel
theorem dX6_reason_72 : decode cX6_reason 72 = .ok (.iload_n 1, 1) := by decide +kernel
theorem dX6_reason_73 : decode cX6_reason 73 = .ok (.iconst 4, 1) := by decide +kernel
theorem dX6_reason_74 : decode cX6_reason 74 = .ok (.invokevirtual 47, 3) := by decide +kernel
theorem dX6_reason_77 : decode cX6_reason 77 = .ok (.invokestatic 32, 3) := by decide +kernel
theorem dX6_reason_80 : decode cX6_reason 80 = .ok (.ifCond .ne 7, 3) := by decide +kernel
theorem dX6_reason_83 : decode cX6_reason 83 = .ok (.iconst 4, 1) := by decide +kernel
theorem dX6_reason_84 : decode cX6_reason 84 = .ok (.goto 4, 3) := by decide +kernel
theorem dX6_reason_87 : decode cX6_reason 87 = .ok (.iconst 5, 1) := by decide +kernel
theorem dX6_reason_88 : decode cX6_reason 88 = .ok (.ireturn, 1) := by decide +kernel
theorem dX6_reason_89 : decode cX6_reason 89 = .ok (.aload_n 0, 1) := by decide +kernel
theorem dX6_reason_90 : decode cX6_reason 90 = .ok (.iload_n 1, 1) := by decide +kernel
theorem dX6_reason_91 : decode cX6_reason 91 = .ok (.iload_n 2, 1) := by decide +kernel
theorem dX6_reason_92 : decode cX6_reason 92 = .ok (.iload_n 3, 1) := by decide +kernel
theorem dX6_reason_93 : decode cX6_reason 93 = .ok (.invokevirtual 166, 3) := by decide +kernel
theorem dX6_reason_96 : decode cX6_reason 96 = .ok (.bipush (-5), 2) := by decide +kernel
theorem dX6_reason_98 : decode cX6_reason 98 = .ok (.if_icmp .eq 6, 3) := by decide +kernel
theorem dX6_reason_101 : decode cX6_reason 101 = .ok (.bipush 6, 2) := by decide +kernel
theorem dX6_reason_103 : decode cX6_reason 103 = .ok (.ireturn, 1) := by decide +kernel
theorem dX6_reason_104 : decode cX6_reason 104 = .ok (.aload_n 0, 1) := by decide +kernel
theorem dX6_reason_105 : decode cX6_reason 105 = .ok (.iload_n 1, 1) := by decide +kernel
theorem dX6_reason_106 : decode cX6_reason 106 = .ok (.iconst 5, 1) := by decide +kernel
theorem dX6_reason_107 : decode cX6_reason 107 = .ok (.invokevirtual 47, 3) := by decide +kernel
theorem dX6_reason_110 : decode cX6_reason 110 = .ok (.ifCond .ne 8, 3) := by decide +kernel
theorem dX6_reason_113 : decode cX6_reason 113 = .ok (.bipush 7, 2) := by decide +kernel
theorem dX6_reason_115 : decode cX6_reason 115 = .ok (.goto 21, 3) := by decide +kernel
theorem dX6_reason_118 : decode cX6_reason 118 = .ok (.aload_n 0, 1) := by decide +kernel
theorem dX6_reason_119 : decode cX6_reason 119 = .ok (.iload_n 2, 1) := by decide +kernel
theorem dX6_reason_120 : decode cX6_reason 120 = .ok (.iload_n 3, 1) := by decide +kernel
theorem dX6_reason_121 : decode cX6_reason 121 = .ok (.bipush (-5), 2) := by decide +kernel
theorem dX6_reason_123 : decode cX6_reason 123 = .ok (.invokevirtual 70, 3) := by decide +kernel
theorem dX6_reason_126 : decode cX6_reason 126 = .ok (.iload_n 1, 1) := by decide +kernel
theorem dX6_reason_127 : decode cX6_reason 127 = .ok (.if_icmp .ne 7, 3) := by decide +kernel
theorem dX6_reason_130 : decode cX6_reason 130 = .ok (.iconst 0, 1) := by decide +kernel
theorem dX6_reason_131 : decode cX6_reason 131 = .ok (.goto 5, 3) := by decide +kernel
theorem dX6_reason_134 : decode cX6_reason 134 = .ok (.bipush 8, 2) := by decide +kernel
theorem dX6_reason_136 : decode cX6_reason 136 = .ok (.ireturn, 1) := by decide +kernel
theorem dX6_changesOn_0 : decode cX6_changesOn 0 = .ok (.iload_n 1, 1) := by decide +kernel
theorem dX6_changesOn_1 : decode cX6_changesOn 1 = .ok (.invokestatic 36, 3) := by decide +kernel
theorem dX6_changesOn_4 : decode cX6_changesOn 4 = .ok (.ifCond .eq 10, 3) := by decide +kernel
theorem dX6_changesOn_7 : decode cX6_changesOn 7 = .ok (.iload_n 2, 1) := by decide +kernel
theorem dX6_changesOn_8 : decode cX6_changesOn 8 = .ok (.invokestatic 87, 3) := by decide +kernel
theorem dX6_changesOn_11 : decode cX6_changesOn 11 = .ok (.ifCond .ne 5, 3) := by decide +kernel
theorem dX6_changesOn_14 : decode cX6_changesOn 14 = .ok (.iconst (-1), 1) := by decide +kernel
theorem dX6_changesOn_15 : decode cX6_changesOn 15 = .ok (.ireturn, 1) := by decide +kernel
theorem dX6_changesOn_16 : decode cX6_changesOn 16 = .ok (.bipush (-5), 2) := by decide +kernel
theorem dX6_changesOn_18 : decode cX6_changesOn 18 = .ok (.istore_n 3, 1) := by decide +kernel
theorem dX6_changesOn_19 : decode cX6_changesOn 19 = .ok (.aload_n 0, 1) := by decide +kernel
theorem dX6_changesOn_20 : decode cX6_changesOn 20 = .ok (.iload_n 1, 1) := by decide +kernel
theorem dX6_changesOn_21 : decode cX6_changesOn 21 = .ok (.iload_n 2, 1) := by decide +kernel
theorem dX6_changesOn_22 : decode cX6_changesOn 22 = .ok (.bipush (-5), 2) := by decide +kernel
theorem dX6_changesOn_24 : decode cX6_changesOn 24 = .ok (.invokevirtual 70, 3) := by decide +kernel
theorem dX6_changesOn_27 : decode cX6_changesOn 27 = .ok (.istore 4, 2) := by decide +kernel
theorem dX6_changesOn_29 : decode cX6_changesOn 29 = .ok (.iload_n 2, 1) := by decide +kernel
theorem dX6_changesOn_30 : decode cX6_changesOn 30 = .ok (.iconst 1, 1) := by decide +kernel
theorem dX6_changesOn_31 : decode cX6_changesOn 31 = .ok (.iadd, 1) := by decide +kernel
theorem dX6_changesOn_32 : decode cX6_changesOn 32 = .ok (.istore 5, 2) := by decide +kernel
theorem dX6_changesOn_34 : decode cX6_changesOn 34 = .ok (.iload 5, 2) := by decide +kernel
theorem dX6_changesOn_36 : decode cX6_changesOn 36 = .ok (.sipush 999, 3) := by decide +kernel
theorem dX6_changesOn_39 : decode cX6_changesOn 39 = .ok (.if_icmp .gt 37, 3) := by decide +kernel
theorem dX6_changesOn_42 : decode cX6_changesOn 42 = .ok (.iload_n 3, 1) := by decide +kernel
theorem dX6_changesOn_43 : decode cX6_changesOn 43 = .ok (.bipush (-5), 2) := by decide +kernel
theorem dX6_changesOn_45 : decode cX6_changesOn 45 = .ok (.if_icmp .ne 31, 3) := by decide +kernel
theorem dX6_changesOn_48 : decode cX6_changesOn 48 = .ok (.aload_n 0, 1) := by decide +kernel
theorem dX6_changesOn_49 : decode cX6_changesOn 49 = .ok (.iload_n 1, 1) := by decide +kernel
theorem dX6_changesOn_50 : decode cX6_changesOn 50 = .ok (.iload 5, 2) := by decide +kernel
theorem dX6_changesOn_52 : decode cX6_changesOn 52 = .ok (.bipush (-5), 2) := by decide +kernel
theorem dX6_changesOn_54 : decode cX6_changesOn 54 = .ok (.invokevirtual 70, 3) := by decide +kernel
theorem dX6_changesOn_57 : decode cX6_changesOn 57 = .ok (.iload 4, 2) := by decide +kernel
theorem dX6_changesOn_59 : decode cX6_changesOn 59 = .ok (.if_icmp .ne 8, 3) := by decide +kernel
theorem dX6_changesOn_62 : decode cX6_changesOn 62 = .ok (.bipush (-5), 2) := by decide +kernel
theorem dX6_changesOn_64 : decode cX6_changesOn 64 = .ok (.goto 5, 3) := by decide +kernel
theorem dX6_changesOn_67 : decode cX6_changesOn 67 = .ok (.iload 5, 2) := by decide +kernel
theorem dX6_changesOn_69 : decode cX6_changesOn 69 = .ok (.istore_n 3, 1) := by decide +kernel
theorem dX6_changesOn_70 : decode cX6_changesOn 70 = .ok (.iinc 5 1, 3) := by decide +kernel
theorem dX6_changesOn_73 : decode cX6_changesOn 73 = .ok (.goto (-39), 3) := by decide +kernel
theorem dX6_changesOn_76 : decode cX6_changesOn 76 = .ok (.iload_n 3, 1) := by decide +kernel
theorem dX6_changesOn_77 : decode cX6_changesOn 77 = .ok (.ireturn, 1) := by decide +kernel
theorem dX6_unlike_0 : decode cX6_unlike 0 = .ok (.iload_n 1, 1) := by decide +kernel
theorem dX6_unlike_1 : decode cX6_unlike 1 = .ok (.invokestatic 78, 3) := by decide +kernel
theorem dX6_unlike_4 : decode cX6_unlike 4 = .ok (.ifCond .eq 10, 3) := by decide +kernel
theorem dX6_unlike_7 : decode cX6_unlike 7 = .ok (.iload_n 2, 1) := by decide +kernel
theorem dX6_unlike_8 : decode cX6_unlike 8 = .ok (.invokestatic 78, 3) := by decide +kernel
theorem dX6_unlike_11 : decode cX6_unlike 11 = .ok (.ifCond .ne 5, 3) := by decide +kernel
theorem dX6_unlike_14 : decode cX6_unlike 14 = .ok (.iconst (-1), 1) := by decide +kernel
theorem dX6_unlike_15 : decode cX6_unlike 15 = .ok (.ireturn, 1) := by decide +kernel
theorem dX6_unlike_16 : decode cX6_unlike 16 = .ok (.iload_n 1, 1) := by decide +kernel
theorem dX6_unlike_17 : decode cX6_unlike 17 = .ok (.iload_n 2, 1) := by decide +kernel
theorem dX6_unlike_18 : decode cX6_unlike 18 = .ok (.if_icmp .ne 6, 3) := by decide +kernel
theorem dX6_unlike_21 : decode cX6_unlike 21 = .ok (.bipush (-2), 2) := by decide +kernel
theorem dX6_unlike_23 : decode cX6_unlike 23 = .ok (.ireturn, 1) := by decide +kernel
theorem dX6_unlike_24 : decode cX6_unlike 24 = .ok (.iconst 0, 1) := by decide +kernel
theorem dX6_unlike_25 : decode cX6_unlike 25 = .ok (.istore_n 3, 1) := by decide +kernel
theorem dX6_unlike_26 : decode cX6_unlike 26 = .ok (.iconst 0, 1) := by decide +kernel
theorem dX6_unlike_27 : decode cX6_unlike 27 = .ok (.istore 4, 2) := by decide +kernel
theorem dX6_unlike_29 : decode cX6_unlike 29 = .ok (.iload 4, 2) := by decide +kernel
theorem dX6_unlike_31 : decode cX6_unlike 31 = .ok (.bipush 99, 2) := by decide +kernel
theorem dX6_unlike_33 : decode cX6_unlike 33 = .ok (.if_icmp .gt 82, 3) := by decide +kernel
theorem dX6_unlike_36 : decode cX6_unlike 36 = .ok (.aload_n 0, 1) := by decide +kernel
theorem dX6_unlike_37 : decode cX6_unlike 37 = .ok (.iload_n 1, 1) := by decide +kernel
theorem dX6_unlike_38 : decode cX6_unlike 38 = .ok (.iload 4, 2) := by decide +kernel
theorem dX6_unlike_40 : decode cX6_unlike 40 = .ok (.aload_n 0, 1) := by decide +kernel
theorem dX6_unlike_41 : decode cX6_unlike 41 = .ok (.getfield 7, 3) := by decide +kernel
theorem dX6_unlike_44 : decode cX6_unlike 44 = .ok (.iconst 0, 1) := by decide +kernel
theorem dX6_unlike_45 : decode cX6_unlike 45 = .ok (.iaload, 1) := by decide +kernel
theorem dX6_unlike_46 : decode cX6_unlike 46 = .ok (.bipush (-5), 2) := by decide +kernel
theorem dX6_unlike_48 : decode cX6_unlike 48 = .ok (.invokevirtual 67, 3) := by decide +kernel
theorem dX6_unlike_51 : decode cX6_unlike 51 = .ok (.istore 5, 2) := by decide +kernel
theorem dX6_unlike_53 : decode cX6_unlike 53 = .ok (.aload_n 0, 1) := by decide +kernel
theorem dX6_unlike_54 : decode cX6_unlike 54 = .ok (.iload_n 2, 1) := by decide +kernel
theorem dX6_unlike_55 : decode cX6_unlike 55 = .ok (.iload 4, 2) := by decide +kernel
theorem dX6_unlike_57 : decode cX6_unlike 57 = .ok (.aload_n 0, 1) := by decide +kernel
theorem dX6_unlike_58 : decode cX6_unlike 58 = .ok (.getfield 7, 3) := by decide +kernel
theorem dX6_unlike_61 : decode cX6_unlike 61 = .ok (.iconst 0, 1) := by decide +kernel
theorem dX6_unlike_62 : decode cX6_unlike 62 = .ok (.iaload, 1) := by decide +kernel
theorem dX6_unlike_63 : decode cX6_unlike 63 = .ok (.bipush (-5), 2) := by decide +kernel
theorem dX6_unlike_65 : decode cX6_unlike 65 = .ok (.invokevirtual 67, 3) := by decide +kernel
theorem dX6_unlike_68 : decode cX6_unlike 68 = .ok (.istore 6, 2) := by decide +kernel
theorem dX6_unlike_70 : decode cX6_unlike 70 = .ok (.iload_n 3, 1) := by decide +kernel
theorem dX6_unlike_71 : decode cX6_unlike 71 = .ok (.iload 5, 2) := by decide +kernel
theorem dX6_unlike_73 : decode cX6_unlike 73 = .ok (.bipush (-5), 2) := by decide +kernel
theorem dX6_unlike_75 : decode cX6_unlike 75 = .ok (.if_icmp .eq 31, 3) := by decide +kernel
theorem dX6_unlike_78 : decode cX6_unlike 78 = .ok (.iload 6, 2) := by decide +kernel
theorem dX6_unlike_80 : decode cX6_unlike 80 = .ok (.bipush (-5), 2) := by decide +kernel
theorem dX6_unlike_82 : decode cX6_unlike 82 = .ok (.if_icmp .eq 24, 3) := by decide +kernel
theorem dX6_unlike_85 : decode cX6_unlike 85 = .ok (.aload_n 0, 1) := by decide +kernel
theorem dX6_unlike_86 : decode cX6_unlike 86 = .ok (.iload 5, 2) := by decide +kernel
theorem dX6_unlike_88 : decode cX6_unlike 88 = .ok (.iconst 5, 1) := by decide +kernel
theorem dX6_unlike_89 : decode cX6_unlike 89 = .ok (.invokevirtual 47, 3) := by decide +kernel
theorem dX6_unlike_92 : decode cX6_unlike 92 = .ok (.aload_n 0, 1) := by decide +kernel
theorem dX6_unlike_93 : decode cX6_unlike 93 = .ok (.iload 6, 2) := by decide +kernel
theorem dX6_unlike_95 : decode cX6_unlike 95 = .ok (.iconst 5, 1) := by decide +kernel
theorem dX6_unlike_96 : decode cX6_unlike 96 = .ok (.invokevirtual 47, 3) := by decide +kernel
theorem dX6_unlike_99 : decode cX6_unlike 99 = .ok (.if_icmp .eq 7, 3) := by decide +kernel
theorem dX6_unlike_102 : decode cX6_unlike 102 = .ok (.iconst 1, 1) := by decide +kernel
theorem dX6_unlike_103 : decode cX6_unlike 103 = .ok (.goto 4, 3) := by decide +kernel
theorem dX6_unlike_106 : decode cX6_unlike 106 = .ok (.iconst 0, 1) := by decide +kernel
theorem dX6_unlike_107 : decode cX6_unlike 107 = .ok (.iadd, 1) := by decide +kernel
theorem dX6_unlike_108 : decode cX6_unlike 108 = .ok (.istore_n 3, 1) := by decide +kernel
theorem dX6_unlike_109 : decode cX6_unlike 109 = .ok (.iinc 4 1, 3) := by decide +kernel
theorem dX6_unlike_112 : decode cX6_unlike 112 = .ok (.goto (-83), 3) := by decide +kernel
theorem dX6_unlike_115 : decode cX6_unlike 115 = .ok (.iload_n 3, 1) := by decide +kernel
theorem dX6_unlike_116 : decode cX6_unlike 116 = .ok (.ireturn, 1) := by decide +kernel
theorem dX6_ruleOn_0 : decode cX6_ruleOn 0 = .ok (.iconst 0, 1) := by decide +kernel
theorem dX6_ruleOn_1 : decode cX6_ruleOn 1 = .ok (.istore_n 2, 1) := by decide +kernel
theorem dX6_ruleOn_2 : decode cX6_ruleOn 2 = .ok (.iconst 0, 1) := by decide +kernel
theorem dX6_ruleOn_3 : decode cX6_ruleOn 3 = .ok (.istore_n 3, 1) := by decide +kernel
theorem dX6_ruleOn_4 : decode cX6_ruleOn 4 = .ok (.iload_n 3, 1) := by decide +kernel
theorem dX6_ruleOn_5 : decode cX6_ruleOn 5 = .ok (.bipush 99, 2) := by decide +kernel
theorem dX6_ruleOn_7 : decode cX6_ruleOn 7 = .ok (.if_icmp .gt 37, 3) := by decide +kernel
theorem dX6_ruleOn_10 : decode cX6_ruleOn 10 = .ok (.aload_n 0, 1) := by decide +kernel
theorem dX6_ruleOn_11 : decode cX6_ruleOn 11 = .ok (.iload_n 3, 1) := by decide +kernel
theorem dX6_ruleOn_12 : decode cX6_ruleOn 12 = .ok (.iload_n 1, 1) := by decide +kernel
theorem dX6_ruleOn_13 : decode cX6_ruleOn 13 = .ok (.bipush (-5), 2) := by decide +kernel
theorem dX6_ruleOn_15 : decode cX6_ruleOn 15 = .ok (.invokevirtual 70, 3) := by decide +kernel
theorem dX6_ruleOn_18 : decode cX6_ruleOn 18 = .ok (.istore 4, 2) := by decide +kernel
theorem dX6_ruleOn_20 : decode cX6_ruleOn 20 = .ok (.iload_n 2, 1) := by decide +kernel
theorem dX6_ruleOn_21 : decode cX6_ruleOn 21 = .ok (.iload 4, 2) := by decide +kernel
theorem dX6_ruleOn_23 : decode cX6_ruleOn 23 = .ok (.bipush (-5), 2) := by decide +kernel
theorem dX6_ruleOn_25 : decode cX6_ruleOn 25 = .ok (.if_icmp .ne 7, 3) := by decide +kernel
theorem dX6_ruleOn_28 : decode cX6_ruleOn 28 = .ok (.iconst 0, 1) := by decide +kernel
theorem dX6_ruleOn_29 : decode cX6_ruleOn 29 = .ok (.goto 7, 3) := by decide +kernel
theorem dX6_ruleOn_32 : decode cX6_ruleOn 32 = .ok (.iconst 1, 1) := by decide +kernel
theorem dX6_ruleOn_33 : decode cX6_ruleOn 33 = .ok (.iload 4, 2) := by decide +kernel
theorem dX6_ruleOn_35 : decode cX6_ruleOn 35 = .ok (.ishl, 1) := by decide +kernel
theorem dX6_ruleOn_36 : decode cX6_ruleOn 36 = .ok (.ior, 1) := by decide +kernel
theorem dX6_ruleOn_37 : decode cX6_ruleOn 37 = .ok (.istore_n 2, 1) := by decide +kernel
theorem dX6_ruleOn_38 : decode cX6_ruleOn 38 = .ok (.iinc 3 1, 3) := by decide +kernel
theorem dX6_ruleOn_41 : decode cX6_ruleOn 41 = .ok (.goto (-37), 3) := by decide +kernel
theorem dX6_ruleOn_44 : decode cX6_ruleOn 44 = .ok (.iload_n 2, 1) := by decide +kernel
theorem dX6_ruleOn_45 : decode cX6_ruleOn 45 = .ok (.ireturn, 1) := by decide +kernel
theorem dX6_idle_0 : decode cX6_idle 0 = .ok (.iconst 0, 1) := by decide +kernel
theorem dX6_idle_1 : decode cX6_idle 1 = .ok (.istore_n 1, 1) := by decide +kernel
theorem dX6_idle_2 : decode cX6_idle 2 = .ok (.iconst 0, 1) := by decide +kernel
theorem dX6_idle_3 : decode cX6_idle 3 = .ok (.istore_n 2, 1) := by decide +kernel
theorem dX6_idle_4 : decode cX6_idle 4 = .ok (.iload_n 2, 1) := by decide +kernel
theorem dX6_idle_5 : decode cX6_idle 5 = .ok (.iconst 2, 1) := by decide +kernel
theorem dX6_idle_6 : decode cX6_idle 6 = .ok (.aload_n 0, 1) := by decide +kernel
theorem dX6_idle_7 : decode cX6_idle 7 = .ok (.getfield 7, 3) := by decide +kernel
theorem dX6_idle_10 : decode cX6_idle 10 = .ok (.bipush 19, 2) := by decide +kernel
theorem dX6_idle_12 : decode cX6_idle 12 = .ok (.iaload, 1) := by decide +kernel
theorem dX6_idle_13 : decode cX6_idle 13 = .ok (.imul, 1) := by decide +kernel
theorem dX6_idle_14 : decode cX6_idle 14 = .ok (.if_icmp .ge 41, 3) := by decide +kernel
theorem dX6_idle_17 : decode cX6_idle 17 = .ok (.aload_n 0, 1) := by decide +kernel
theorem dX6_idle_18 : decode cX6_idle 18 = .ok (.iload_n 2, 1) := by decide +kernel
theorem dX6_idle_19 : decode cX6_idle 19 = .ok (.iconst 2, 1) := by decide +kernel
theorem dX6_idle_20 : decode cX6_idle 20 = .ok (.idiv, 1) := by decide +kernel
theorem dX6_idle_21 : decode cX6_idle 21 = .ok (.iconst 1, 1) := by decide +kernel
theorem dX6_idle_22 : decode cX6_idle 22 = .ok (.iload_n 2, 1) := by decide +kernel
theorem dX6_idle_23 : decode cX6_idle 23 = .ok (.iconst 2, 1) := by decide +kernel
theorem dX6_idle_24 : decode cX6_idle 24 = .ok (.irem, 1) := by decide +kernel
theorem dX6_idle_25 : decode cX6_idle 25 = .ok (.iadd, 1) := by decide +kernel
theorem dX6_idle_26 : decode cX6_idle 26 = .ok (.invokevirtual 47, 3) := by decide +kernel
theorem dX6_idle_29 : decode cX6_idle 29 = .ok (.istore_n 3, 1) := by decide +kernel
theorem dX6_idle_30 : decode cX6_idle 30 = .ok (.iload_n 1, 1) := by decide +kernel
theorem dX6_idle_31 : decode cX6_idle 31 = .ok (.iload_n 3, 1) := by decide +kernel
theorem dX6_idle_32 : decode cX6_idle 32 = .ok (.sipush 999, 3) := by decide +kernel
theorem dX6_idle_35 : decode cX6_idle 35 = .ok (.if_icmp .gt 11, 3) := by decide +kernel
theorem dX6_idle_38 : decode cX6_idle 38 = .ok (.aload_n 0, 1) := by decide +kernel
theorem dX6_idle_39 : decode cX6_idle 39 = .ok (.iload_n 3, 1) := by decide +kernel
theorem dX6_idle_40 : decode cX6_idle 40 = .ok (.invokevirtual 169, 3) := by decide +kernel
theorem dX6_idle_43 : decode cX6_idle 43 = .ok (.goto 4, 3) := by decide +kernel
theorem dX6_idle_46 : decode cX6_idle 46 = .ok (.iconst 0, 1) := by decide +kernel
theorem dX6_idle_47 : decode cX6_idle 47 = .ok (.ior, 1) := by decide +kernel
theorem dX6_idle_48 : decode cX6_idle 48 = .ok (.istore_n 1, 1) := by decide +kernel
theorem dX6_idle_49 : decode cX6_idle 49 = .ok (.iinc 2 1, 3) := by decide +kernel
theorem dX6_idle_52 : decode cX6_idle 52 = .ok (.goto (-48), 3) := by decide +kernel
theorem dX6_idle_55 : decode cX6_idle 55 = .ok (.iconst 1, 1) := by decide +kernel
theorem dX6_idle_56 : decode cX6_idle 56 = .ok (.aload_n 0, 1) := by decide +kernel
theorem dX6_idle_57 : decode cX6_idle 57 = .ok (.getfield 7, 3) := by decide +kernel
theorem dX6_idle_60 : decode cX6_idle 60 = .ok (.bipush 19, 2) := by decide +kernel
theorem dX6_idle_62 : decode cX6_idle 62 = .ok (.iaload, 1) := by decide +kernel
theorem dX6_idle_63 : decode cX6_idle 63 = .ok (.ishl, 1) := by decide +kernel
theorem dX6_idle_64 : decode cX6_idle 64 = .ok (.iconst 1, 1) := by decide +kernel
theorem dX6_idle_65 : decode cX6_idle 65 = .ok (.isub, 1) := by decide +kernel
theorem dX6_idle_66 : decode cX6_idle 66 = .ok (.iload_n 1, 1) := by decide +kernel
theorem dX6_idle_67 : decode cX6_idle 67 = .ok (.iconst (-1), 1) := by decide +kernel
theorem dX6_idle_68 : decode cX6_idle 68 = .ok (.ixor, 1) := by decide +kernel
theorem dX6_idle_69 : decode cX6_idle 69 = .ok (.iand, 1) := by decide +kernel
theorem dX6_idle_70 : decode cX6_idle 70 = .ok (.ireturn, 1) := by decide +kernel
theorem dX6_ifGone_0 : decode cX6_ifGone 0 = .ok (.aload_n 0, 1) := by decide +kernel
theorem dX6_ifGone_1 : decode cX6_ifGone 1 = .ok (.iload_n 1, 1) := by decide +kernel
theorem dX6_ifGone_2 : decode cX6_ifGone 2 = .ok (.invokevirtual 94, 3) := by decide +kernel
theorem dX6_ifGone_5 : decode cX6_ifGone 5 = .ok (.ifCond .ne 5, 3) := by decide +kernel
theorem dX6_ifGone_8 : decode cX6_ifGone 8 = .ok (.iconst (-1), 1) := by decide +kernel
theorem dX6_ifGone_9 : decode cX6_ifGone 9 = .ok (.ireturn, 1) := by decide +kernel
theorem dX6_ifGone_10 : decode cX6_ifGone 10 = .ok (.aload_n 0, 1) := by decide +kernel
theorem dX6_ifGone_11 : decode cX6_ifGone 11 = .ok (.invokevirtual 100, 3) := by decide +kernel
theorem dX6_ifGone_14 : decode cX6_ifGone 14 = .ok (.aload_n 0, 1) := by decide +kernel
theorem dX6_ifGone_15 : decode cX6_ifGone 15 = .ok (.iload_n 1, 1) := by decide +kernel
theorem dX6_ifGone_16 : decode cX6_ifGone 16 = .ok (.invokevirtual 74, 3) := by decide +kernel
theorem dX6_ifGone_19 : decode cX6_ifGone 19 = .ok (.aload_n 0, 1) := by decide +kernel
theorem dX6_ifGone_20 : decode cX6_ifGone 20 = .ok (.invokevirtual 103, 3) := by decide +kernel
theorem dX6_ifGone_23 : decode cX6_ifGone 23 = .ok (.ireturn, 1) := by decide +kernel
theorem dX6_weightiest_0 : decode cX6_weightiest 0 = .ok (.aload_n 0, 1) := by decide +kernel
theorem dX6_weightiest_1 : decode cX6_weightiest 1 = .ok (.bipush (-5), 2) := by decide +kernel
theorem dX6_weightiest_3 : decode cX6_weightiest 3 = .ok (.invokevirtual 74, 3) := by decide +kernel
theorem dX6_weightiest_6 : decode cX6_weightiest 6 = .ok (.bipush (-5), 2) := by decide +kernel
theorem dX6_weightiest_8 : decode cX6_weightiest 8 = .ok (.istore_n 1, 1) := by decide +kernel
theorem dX6_weightiest_9 : decode cX6_weightiest 9 = .ok (.iconst 0, 1) := by decide +kernel
theorem dX6_weightiest_10 : decode cX6_weightiest 10 = .ok (.istore_n 2, 1) := by decide +kernel
theorem dX6_weightiest_11 : decode cX6_weightiest 11 = .ok (.iconst 0, 1) := by decide +kernel
theorem dX6_weightiest_12 : decode cX6_weightiest 12 = .ok (.istore_n 3, 1) := by decide +kernel
theorem dX6_weightiest_13 : decode cX6_weightiest 13 = .ok (.iload_n 3, 1) := by decide +kernel
theorem dX6_weightiest_14 : decode cX6_weightiest 14 = .ok (.aload_n 0, 1) := by decide +kernel
theorem dX6_weightiest_15 : decode cX6_weightiest 15 = .ok (.getfield 7, 3) := by decide +kernel
theorem dX6_weightiest_18 : decode cX6_weightiest 18 = .ok (.bipush 19, 2) := by decide +kernel
theorem dX6_weightiest_20 : decode cX6_weightiest 20 = .ok (.iaload, 1) := by decide +kernel
theorem dX6_weightiest_21 : decode cX6_weightiest 21 = .ok (.if_icmp .ge 41, 3) := by decide +kernel
theorem dX6_weightiest_24 : decode cX6_weightiest 24 = .ok (.aload_n 0, 1) := by decide +kernel
theorem dX6_weightiest_25 : decode cX6_weightiest 25 = .ok (.iload_n 3, 1) := by decide +kernel
theorem dX6_weightiest_26 : decode cX6_weightiest 26 = .ok (.invokevirtual 157, 3) := by decide +kernel
theorem dX6_weightiest_29 : decode cX6_weightiest 29 = .ok (.istore 4, 2) := by decide +kernel
theorem dX6_weightiest_31 : decode cX6_weightiest 31 = .ok (.iload 4, 2) := by decide +kernel
theorem dX6_weightiest_33 : decode cX6_weightiest 33 = .ok (.iload_n 2, 1) := by decide +kernel
theorem dX6_weightiest_34 : decode cX6_weightiest 34 = .ok (.if_icmp .le 7, 3) := by decide +kernel
theorem dX6_weightiest_37 : decode cX6_weightiest 37 = .ok (.iload_n 3, 1) := by decide +kernel
theorem dX6_weightiest_38 : decode cX6_weightiest 38 = .ok (.goto 4, 3) := by decide +kernel
theorem dX6_weightiest_41 : decode cX6_weightiest 41 = .ok (.iload_n 1, 1) := by decide +kernel
theorem dX6_weightiest_42 : decode cX6_weightiest 42 = .ok (.istore_n 1, 1) := by decide +kernel
theorem dX6_weightiest_43 : decode cX6_weightiest 43 = .ok (.iload 4, 2) := by decide +kernel
theorem dX6_weightiest_45 : decode cX6_weightiest 45 = .ok (.iload_n 2, 1) := by decide +kernel
theorem dX6_weightiest_46 : decode cX6_weightiest 46 = .ok (.if_icmp .le 8, 3) := by decide +kernel
theorem dX6_weightiest_49 : decode cX6_weightiest 49 = .ok (.iload 4, 2) := by decide +kernel
theorem dX6_weightiest_51 : decode cX6_weightiest 51 = .ok (.goto 4, 3) := by decide +kernel
theorem dX6_weightiest_54 : decode cX6_weightiest 54 = .ok (.iload_n 2, 1) := by decide +kernel
theorem dX6_weightiest_55 : decode cX6_weightiest 55 = .ok (.istore_n 2, 1) := by decide +kernel
theorem dX6_weightiest_56 : decode cX6_weightiest 56 = .ok (.iinc 3 1, 3) := by decide +kernel
theorem dX6_weightiest_59 : decode cX6_weightiest 59 = .ok (.goto (-46), 3) := by decide +kernel
theorem dX6_weightiest_62 : decode cX6_weightiest 62 = .ok (.iload_n 1, 1) := by decide +kernel
theorem dX6_weightiest_63 : decode cX6_weightiest 63 = .ok (.ireturn, 1) := by decide +kernel
theorem dX6_ruled_0 : decode cX6_ruled 0 = .ok (.aload_n 0, 1) := by decide +kernel
theorem dX6_ruled_1 : decode cX6_ruled 1 = .ok (.bipush (-5), 2) := by decide +kernel
theorem dX6_ruled_3 : decode cX6_ruled 3 = .ok (.invokevirtual 74, 3) := by decide +kernel
theorem dX6_ruled_6 : decode cX6_ruled 6 = .ok (.bipush 100, 2) := by decide +kernel
theorem dX6_ruled_8 : decode cX6_ruled 8 = .ok (.aload_n 0, 1) := by decide +kernel
theorem dX6_ruled_9 : decode cX6_ruled 9 = .ok (.bipush (-5), 2) := by decide +kernel
theorem dX6_ruled_11 : decode cX6_ruled 11 = .ok (.invokevirtual 157, 3) := by decide +kernel
theorem dX6_ruled_14 : decode cX6_ruled 14 = .ok (.isub, 1) := by decide +kernel
theorem dX6_ruled_15 : decode cX6_ruled 15 = .ok (.ireturn, 1) := by decide +kernel
theorem dX6_spoken_0 : decode cX6_spoken 0 = .ok (.iconst 0, 1) := by decide +kernel
theorem dX6_spoken_1 : decode cX6_spoken 1 = .ok (.istore_n 1, 1) := by decide +kernel
theorem dX6_spoken_2 : decode cX6_spoken 2 = .ok (.iconst 0, 1) := by decide +kernel
theorem dX6_spoken_3 : decode cX6_spoken 3 = .ok (.istore_n 2, 1) := by decide +kernel
theorem dX6_spoken_4 : decode cX6_spoken 4 = .ok (.iload_n 2, 1) := by decide +kernel
theorem dX6_spoken_5 : decode cX6_spoken 5 = .ok (.sipush 600, 3) := by decide +kernel
theorem dX6_spoken_8 : decode cX6_spoken 8 = .ok (.if_icmp .ge 42, 3) := by decide +kernel
theorem dX6_spoken_11 : decode cX6_spoken 11 = .ok (.iload_n 1, 1) := by decide +kernel
theorem dX6_spoken_12 : decode cX6_spoken 12 = .ok (.aload_n 0, 1) := by decide +kernel
theorem dX6_spoken_13 : decode cX6_spoken 13 = .ok (.iload_n 2, 1) := by decide +kernel
theorem dX6_spoken_14 : decode cX6_spoken 14 = .ok (.bipush 100, 2) := by decide +kernel
theorem dX6_spoken_16 : decode cX6_spoken 16 = .ok (.idiv, 1) := by decide +kernel
theorem dX6_spoken_17 : decode cX6_spoken 17 = .ok (.iload_n 2, 1) := by decide +kernel
theorem dX6_spoken_18 : decode cX6_spoken 18 = .ok (.bipush 100, 2) := by decide +kernel
theorem dX6_spoken_20 : decode cX6_spoken 20 = .ok (.irem, 1) := by decide +kernel
theorem dX6_spoken_21 : decode cX6_spoken 21 = .ok (.aload_n 0, 1) := by decide +kernel
theorem dX6_spoken_22 : decode cX6_spoken 22 = .ok (.getfield 7, 3) := by decide +kernel
theorem dX6_spoken_25 : decode cX6_spoken 25 = .ok (.iconst 0, 1) := by decide +kernel
theorem dX6_spoken_26 : decode cX6_spoken 26 = .ok (.iaload, 1) := by decide +kernel
theorem dX6_spoken_27 : decode cX6_spoken 27 = .ok (.bipush (-5), 2) := by decide +kernel
theorem dX6_spoken_29 : decode cX6_spoken 29 = .ok (.invokevirtual 67, 3) := by decide +kernel
theorem dX6_spoken_32 : decode cX6_spoken 32 = .ok (.bipush (-5), 2) := by decide +kernel
theorem dX6_spoken_34 : decode cX6_spoken 34 = .ok (.if_icmp .ne 7, 3) := by decide +kernel
theorem dX6_spoken_37 : decode cX6_spoken 37 = .ok (.iconst 0, 1) := by decide +kernel
theorem dX6_spoken_38 : decode cX6_spoken 38 = .ok (.goto 4, 3) := by decide +kernel
theorem dX6_spoken_41 : decode cX6_spoken 41 = .ok (.iconst 1, 1) := by decide +kernel
theorem dX6_spoken_42 : decode cX6_spoken 42 = .ok (.iadd, 1) := by decide +kernel
theorem dX6_spoken_43 : decode cX6_spoken 43 = .ok (.istore_n 1, 1) := by decide +kernel
theorem dX6_spoken_44 : decode cX6_spoken 44 = .ok (.iinc 2 1, 3) := by decide +kernel
theorem dX6_spoken_47 : decode cX6_spoken 47 = .ok (.goto (-43), 3) := by decide +kernel
theorem dX6_spoken_50 : decode cX6_spoken 50 = .ok (.iload_n 1, 1) := by decide +kernel
theorem dX6_spoken_51 : decode cX6_spoken 51 = .ok (.ireturn, 1) := by decide +kernel
theorem dX6_allOf_0 : decode cX6_allOf 0 = .ok (.iconst 0, 1) := by decide +kernel
theorem dX6_allOf_1 : decode cX6_allOf 1 = .ok (.istore_n 2, 1) := by decide +kernel
theorem dX6_allOf_2 : decode cX6_allOf 2 = .ok (.iconst 0, 1) := by decide +kernel
theorem dX6_allOf_3 : decode cX6_allOf 3 = .ok (.istore_n 3, 1) := by decide +kernel
theorem dX6_allOf_4 : decode cX6_allOf 4 = .ok (.iload_n 3, 1) := by decide +kernel
theorem dX6_allOf_5 : decode cX6_allOf 5 = .ok (.aload_n 0, 1) := by decide +kernel
theorem dX6_allOf_6 : decode cX6_allOf 6 = .ok (.getfield 7, 3) := by decide +kernel
theorem dX6_allOf_9 : decode cX6_allOf 9 = .ok (.bipush 19, 2) := by decide +kernel
theorem dX6_allOf_11 : decode cX6_allOf 11 = .ok (.iaload, 1) := by decide +kernel
theorem dX6_allOf_12 : decode cX6_allOf 12 = .ok (.if_icmp .ge 40, 3) := by decide +kernel
theorem dX6_allOf_15 : decode cX6_allOf 15 = .ok (.iload_n 2, 1) := by decide +kernel
theorem dX6_allOf_16 : decode cX6_allOf 16 = .ok (.iload_n 1, 1) := by decide +kernel
theorem dX6_allOf_17 : decode cX6_allOf 17 = .ok (.ifCond .eq 13, 3) := by decide +kernel
theorem dX6_allOf_20 : decode cX6_allOf 20 = .ok (.aload_n 0, 1) := by decide +kernel
theorem dX6_allOf_21 : decode cX6_allOf 21 = .ok (.iload_n 3, 1) := by decide +kernel
theorem dX6_allOf_22 : decode cX6_allOf 22 = .ok (.bipush 6, 2) := by decide +kernel
theorem dX6_allOf_24 : decode cX6_allOf 24 = .ok (.invokevirtual 47, 3) := by decide +kernel
theorem dX6_allOf_27 : decode cX6_allOf 27 = .ok (.goto 17, 3) := by decide +kernel
theorem dX6_allOf_30 : decode cX6_allOf 30 = .ok (.aload_n 0, 1) := by decide +kernel
theorem dX6_allOf_31 : decode cX6_allOf 31 = .ok (.iload_n 3, 1) := by decide +kernel
theorem dX6_allOf_32 : decode cX6_allOf 32 = .ok (.iconst 5, 1) := by decide +kernel
theorem dX6_allOf_33 : decode cX6_allOf 33 = .ok (.invokevirtual 47, 3) := by decide +kernel
theorem dX6_allOf_36 : decode cX6_allOf 36 = .ok (.ifCond .ne 7, 3) := by decide +kernel
theorem dX6_allOf_39 : decode cX6_allOf 39 = .ok (.iconst 1, 1) := by decide +kernel
theorem dX6_allOf_40 : decode cX6_allOf 40 = .ok (.goto 4, 3) := by decide +kernel
theorem dX6_allOf_43 : decode cX6_allOf 43 = .ok (.iconst 0, 1) := by decide +kernel
theorem dX6_allOf_44 : decode cX6_allOf 44 = .ok (.iadd, 1) := by decide +kernel
theorem dX6_allOf_45 : decode cX6_allOf 45 = .ok (.istore_n 2, 1) := by decide +kernel
theorem dX6_allOf_46 : decode cX6_allOf 46 = .ok (.iinc 3 1, 3) := by decide +kernel
theorem dX6_allOf_49 : decode cX6_allOf 49 = .ok (.goto (-45), 3) := by decide +kernel
theorem dX6_allOf_52 : decode cX6_allOf 52 = .ok (.iload_n 2, 1) := by decide +kernel
theorem dX6_allOf_53 : decode cX6_allOf 53 = .ok (.ireturn, 1) := by decide +kernel
theorem dX6_count_0 : decode cX6_count 0 = .ok (.iload_n 1, 1) := by decide +kernel
theorem dX6_count_1 : decode cX6_count 1 = .ok (.tableswitch 109 0 8 #[51, 58, 66, 74, 79, 84, 84, 99, 104], 51) := by decide +kernel
theorem dX6_count_52 : decode cX6_count 52 = .ok (.aload_n 0, 1) := by decide +kernel
theorem dX6_count_53 : decode cX6_count 53 = .ok (.getfield 7, 3) := by decide +kernel
theorem dX6_count_56 : decode cX6_count 56 = .ok (.iconst 0, 1) := by decide +kernel
theorem dX6_count_57 : decode cX6_count 57 = .ok (.iaload, 1) := by decide +kernel
theorem dX6_count_58 : decode cX6_count 58 = .ok (.ireturn, 1) := by decide +kernel
theorem dX6_count_59 : decode cX6_count 59 = .ok (.aload_n 0, 1) := by decide +kernel
theorem dX6_count_60 : decode cX6_count 60 = .ok (.getfield 7, 3) := by decide +kernel
theorem dX6_count_63 : decode cX6_count 63 = .ok (.bipush 19, 2) := by decide +kernel
theorem dX6_count_65 : decode cX6_count 65 = .ok (.iaload, 1) := by decide +kernel
theorem dX6_count_66 : decode cX6_count 66 = .ok (.ireturn, 1) := by decide +kernel
theorem dX6_count_67 : decode cX6_count 67 = .ok (.aload_n 0, 1) := by decide +kernel
theorem dX6_count_68 : decode cX6_count 68 = .ok (.bipush (-5), 2) := by decide +kernel
theorem dX6_count_70 : decode cX6_count 70 = .ok (.iconst 1, 1) := by decide +kernel
theorem dX6_count_71 : decode cX6_count 71 = .ok (.invokevirtual 150, 3) := by decide +kernel
theorem dX6_count_74 : decode cX6_count 74 = .ok (.ireturn, 1) := by decide +kernel
theorem dX6_count_75 : decode cX6_count 75 = .ok (.aload_n 0, 1) := by decide +kernel
theorem dX6_count_76 : decode cX6_count 76 = .ok (.invokevirtual 172, 3) := by decide +kernel
theorem dX6_count_79 : decode cX6_count 79 = .ok (.ireturn, 1) := by decide +kernel
theorem dX6_count_80 : decode cX6_count 80 = .ok (.aload_n 0, 1) := by decide +kernel
theorem dX6_count_81 : decode cX6_count 81 = .ok (.invokevirtual 175, 3) := by decide +kernel
theorem dX6_count_84 : decode cX6_count 84 = .ok (.ireturn, 1) := by decide +kernel
theorem dX6_count_85 : decode cX6_count 85 = .ok (.aload_n 0, 1) := by decide +kernel
theorem dX6_count_86 : decode cX6_count 86 = .ok (.iload_n 1, 1) := by decide +kernel
theorem dX6_count_87 : decode cX6_count 87 = .ok (.iconst 5, 1) := by decide +kernel
theorem dX6_count_88 : decode cX6_count 88 = .ok (.if_icmp .ne 7, 3) := by decide +kernel
theorem dX6_count_91 : decode cX6_count 91 = .ok (.iconst 1, 1) := by decide +kernel
theorem dX6_count_92 : decode cX6_count 92 = .ok (.goto 4, 3) := by decide +kernel
theorem dX6_count_95 : decode cX6_count 95 = .ok (.iconst 0, 1) := by decide +kernel
theorem dX6_count_96 : decode cX6_count 96 = .ok (.invokevirtual 178, 3) := by decide +kernel
theorem dX6_count_99 : decode cX6_count 99 = .ok (.ireturn, 1) := by decide +kernel
theorem dX6_count_100 : decode cX6_count 100 = .ok (.aload_n 0, 1) := by decide +kernel
theorem dX6_count_101 : decode cX6_count 101 = .ok (.getfield 43, 3) := by decide +kernel
theorem dX6_count_104 : decode cX6_count 104 = .ok (.ireturn, 1) := by decide +kernel
theorem dX6_count_105 : decode cX6_count 105 = .ok (.aload_n 0, 1) := by decide +kernel
theorem dX6_count_106 : decode cX6_count 106 = .ok (.getfield 107, 3) := by decide +kernel
theorem dX6_count_109 : decode cX6_count 109 = .ok (.ireturn, 1) := by decide +kernel
theorem dX6_count_110 : decode cX6_count 110 = .ok (.bipush (-2), 2) := by decide +kernel
theorem dX6_count_112 : decode cX6_count 112 = .ok (.ireturn, 1) := by decide +kernel
theorem dJ9_max_7cf53_0 : decode cJ9_max_7cf53 0 = .ok (.iload_n 0, 1) := by decide +kernel
theorem dJ9_max_7cf53_1 : decode cJ9_max_7cf53 1 = .ok (.iload_n 1, 1) := by decide +kernel
theorem dJ9_max_7cf53_2 : decode cJ9_max_7cf53 2 = .ok (.if_icmp .lt 7, 3) := by decide +kernel
theorem dJ9_max_7cf53_5 : decode cJ9_max_7cf53 5 = .ok (.iload_n 0, 1) := by decide +kernel
theorem dJ9_max_7cf53_6 : decode cJ9_max_7cf53 6 = .ok (.goto 4, 3) := by decide +kernel
theorem dJ9_max_7cf53_9 : decode cJ9_max_7cf53 9 = .ok (.iload_n 1, 1) := by decide +kernel
theorem dJ9_max_7cf53_10 : decode cJ9_max_7cf53 10 = .ok (.ireturn, 1) := by decide +kernel
theorem dJ9_min_7cf53_0 : decode cJ9_min_7cf53 0 = .ok (.iload_n 0, 1) := by decide +kernel
theorem dJ9_min_7cf53_1 : decode cJ9_min_7cf53 1 = .ok (.iload_n 1, 1) := by decide +kernel
theorem dJ9_min_7cf53_2 : decode cJ9_min_7cf53 2 = .ok (.if_icmp .gt 7, 3) := by decide +kernel
theorem dJ9_min_7cf53_5 : decode cJ9_min_7cf53 5 = .ok (.iload_n 0, 1) := by decide +kernel
theorem dJ9_min_7cf53_6 : decode cJ9_min_7cf53 6 = .ok (.goto 4, 3) := by decide +kernel
theorem dJ9_min_7cf53_9 : decode cJ9_min_7cf53 9 = .ok (.iload_n 1, 1) := by decide +kernel
theorem dJ9_min_7cf53_10 : decode cJ9_min_7cf53 10 = .ok (.ireturn, 1) := by decide +kernel
theorem dJ7_fill_53178_0 : decode cJ7_fill_53178 0 = .ok (.iconst 0, 1) := by decide +kernel
theorem dJ7_fill_53178_1 : decode cJ7_fill_53178 1 = .ok (.istore_n 2, 1) := by decide +kernel
theorem dJ7_fill_53178_2 : decode cJ7_fill_53178 2 = .ok (.aload_n 0, 1) := by decide +kernel
theorem dJ7_fill_53178_3 : decode cJ7_fill_53178 3 = .ok (.arraylength, 1) := by decide +kernel
theorem dJ7_fill_53178_4 : decode cJ7_fill_53178 4 = .ok (.istore_n 3, 1) := by decide +kernel
theorem dJ7_fill_53178_5 : decode cJ7_fill_53178 5 = .ok (.iload_n 2, 1) := by decide +kernel
theorem dJ7_fill_53178_6 : decode cJ7_fill_53178 6 = .ok (.iload_n 3, 1) := by decide +kernel
theorem dJ7_fill_53178_7 : decode cJ7_fill_53178 7 = .ok (.if_icmp .ge 13, 3) := by decide +kernel
theorem dJ7_fill_53178_10 : decode cJ7_fill_53178 10 = .ok (.aload_n 0, 1) := by decide +kernel
theorem dJ7_fill_53178_11 : decode cJ7_fill_53178 11 = .ok (.iload_n 2, 1) := by decide +kernel
theorem dJ7_fill_53178_12 : decode cJ7_fill_53178 12 = .ok (.iload_n 1, 1) := by decide +kernel
theorem dJ7_fill_53178_13 : decode cJ7_fill_53178 13 = .ok (.iastore, 1) := by decide +kernel
theorem dJ7_fill_53178_14 : decode cJ7_fill_53178 14 = .ok (.iinc 2 1, 3) := by decide +kernel
theorem dJ7_fill_53178_17 : decode cJ7_fill_53178 17 = .ok (.goto (-12), 3) := by decide +kernel
theorem dJ7_fill_53178_20 : decode cJ7_fill_53178 20 = .ok (.return_, 1) := by decide +kernel
theorem dL_law_0 : decode cL_law 0 = .ok (.new 7, 3) := by decide +kernel
theorem dL_law_3 : decode cL_law 3 = .ok (.dup, 1) := by decide +kernel
theorem dL_law_4 : decode cL_law 4 = .ok (.invokespecial 9, 3) := by decide +kernel
theorem dL_law_7 : decode cL_law 7 = .ok (.astore_n 1, 1) := by decide +kernel
theorem dL_law_8 : decode cL_law 8 = .ok (.new 10, 3) := by decide +kernel
theorem dL_law_11 : decode cL_law 11 = .ok (.dup, 1) := by decide +kernel
theorem dL_law_12 : decode cL_law 12 = .ok (.invokespecial 12, 3) := by decide +kernel
theorem dL_law_15 : decode cL_law 15 = .ok (.astore_n 2, 1) := by decide +kernel
theorem dL_law_16 : decode cL_law 16 = .ok (.iconst 0, 1) := by decide +kernel
theorem dL_law_17 : decode cL_law 17 = .ok (.istore_n 3, 1) := by decide +kernel
theorem dL_law_18 : decode cL_law 18 = .ok (.iload_n 3, 1) := by decide +kernel
theorem dL_law_19 : decode cL_law 19 = .ok (.aload_n 0, 1) := by decide +kernel
theorem dL_law_20 : decode cL_law 20 = .ok (.arraylength, 1) := by decide +kernel
theorem dL_law_21 : decode cL_law 21 = .ok (.bipush 6, 2) := by decide +kernel
theorem dL_law_23 : decode cL_law 23 = .ok (.isub, 1) := by decide +kernel
theorem dL_law_24 : decode cL_law 24 = .ok (.if_icmp .gt 820, 3) := by decide +kernel
theorem dL_law_27 : decode cL_law 27 = .ok (.aload_n 0, 1) := by decide +kernel
theorem dL_law_28 : decode cL_law 28 = .ok (.iload_n 3, 1) := by decide +kernel
theorem dL_law_29 : decode cL_law 29 = .ok (.iaload, 1) := by decide +kernel
theorem dL_law_30 : decode cL_law 30 = .ok (.bipush 31, 2) := by decide +kernel
theorem dL_law_32 : decode cL_law 32 = .ok (.iand, 1) := by decide +kernel
theorem dL_law_33 : decode cL_law 33 = .ok (.tableswitch 805 0 23 #[111, 154, 187, 250, 293, 326, 349, 374, 387, 400, 413, 426, 439, 472, 505, 548, 581, 624, 667, 700, 733, 746, 769, 782], 111) := by decide +kernel
theorem dL_law_144 : decode cL_law 144 = .ok (.aload_n 1, 1) := by decide +kernel
theorem dL_law_145 : decode cL_law 145 = .ok (.aload_n 0, 1) := by decide +kernel
theorem dL_law_146 : decode cL_law 146 = .ok (.iload_n 3, 1) := by decide +kernel
theorem dL_law_147 : decode cL_law 147 = .ok (.iconst 1, 1) := by decide +kernel
theorem dL_law_148 : decode cL_law 148 = .ok (.iadd, 1) := by decide +kernel
theorem dL_law_149 : decode cL_law 149 = .ok (.iaload, 1) := by decide +kernel
theorem dL_law_150 : decode cL_law 150 = .ok (.aload_n 0, 1) := by decide +kernel
theorem dL_law_151 : decode cL_law 151 = .ok (.iload_n 3, 1) := by decide +kernel
theorem dL_law_152 : decode cL_law 152 = .ok (.iconst 2, 1) := by decide +kernel
theorem dL_law_153 : decode cL_law 153 = .ok (.iadd, 1) := by decide +kernel
theorem dL_law_154 : decode cL_law 154 = .ok (.iaload, 1) := by decide +kernel
theorem dL_law_155 : decode cL_law 155 = .ok (.aload_n 0, 1) := by decide +kernel
theorem dL_law_156 : decode cL_law 156 = .ok (.iload_n 3, 1) := by decide +kernel
theorem dL_law_157 : decode cL_law 157 = .ok (.iconst 3, 1) := by decide +kernel
theorem dL_law_158 : decode cL_law 158 = .ok (.iadd, 1) := by decide +kernel
theorem dL_law_159 : decode cL_law 159 = .ok (.iaload, 1) := by decide +kernel
theorem dL_law_160 : decode cL_law 160 = .ok (.invokevirtual 13, 3) := by decide +kernel
theorem dL_law_163 : decode cL_law 163 = .ok (.aload_n 2, 1) := by decide +kernel
theorem dL_law_164 : decode cL_law 164 = .ok (.aload_n 0, 1) := by decide +kernel
theorem dL_law_165 : decode cL_law 165 = .ok (.iload_n 3, 1) := by decide +kernel
theorem dL_law_166 : decode cL_law 166 = .ok (.iconst 1, 1) := by decide +kernel
theorem dL_law_167 : decode cL_law 167 = .ok (.iadd, 1) := by decide +kernel
theorem dL_law_168 : decode cL_law 168 = .ok (.iaload, 1) := by decide +kernel
theorem dL_law_169 : decode cL_law 169 = .ok (.aload_n 0, 1) := by decide +kernel
theorem dL_law_170 : decode cL_law 170 = .ok (.iload_n 3, 1) := by decide +kernel
theorem dL_law_171 : decode cL_law 171 = .ok (.iconst 2, 1) := by decide +kernel
theorem dL_law_172 : decode cL_law 172 = .ok (.iadd, 1) := by decide +kernel
theorem dL_law_173 : decode cL_law 173 = .ok (.iaload, 1) := by decide +kernel
theorem dL_law_174 : decode cL_law 174 = .ok (.aload_n 0, 1) := by decide +kernel
theorem dL_law_175 : decode cL_law 175 = .ok (.iload_n 3, 1) := by decide +kernel
theorem dL_law_176 : decode cL_law 176 = .ok (.iconst 3, 1) := by decide +kernel
theorem dL_law_177 : decode cL_law 177 = .ok (.iadd, 1) := by decide +kernel
theorem dL_law_178 : decode cL_law 178 = .ok (.iaload, 1) := by decide +kernel
theorem dL_law_179 : decode cL_law 179 = .ok (.invokevirtual 17, 3) := by decide +kernel
theorem dL_law_182 : decode cL_law 182 = .ok (.if_icmp .eq 656, 3) := by decide +kernel
theorem dL_law_185 : decode cL_law 185 = .ok (.iconst 0, 1) := by decide +kernel
theorem dL_law_186 : decode cL_law 186 = .ok (.ireturn, 1) := by decide +kernel
theorem dL_law_187 : decode cL_law 187 = .ok (.aload_n 1, 1) := by decide +kernel
theorem dL_law_188 : decode cL_law 188 = .ok (.aload_n 0, 1) := by decide +kernel
theorem dL_law_189 : decode cL_law 189 = .ok (.iload_n 3, 1) := by decide +kernel
theorem dL_law_190 : decode cL_law 190 = .ok (.iconst 1, 1) := by decide +kernel
theorem dL_law_191 : decode cL_law 191 = .ok (.iadd, 1) := by decide +kernel
theorem dL_law_192 : decode cL_law 192 = .ok (.iaload, 1) := by decide +kernel
theorem dL_law_193 : decode cL_law 193 = .ok (.aload_n 0, 1) := by decide +kernel
theorem dL_law_194 : decode cL_law 194 = .ok (.iload_n 3, 1) := by decide +kernel
theorem dL_law_195 : decode cL_law 195 = .ok (.iconst 2, 1) := by decide +kernel
theorem dL_law_196 : decode cL_law 196 = .ok (.iadd, 1) := by decide +kernel
theorem dL_law_197 : decode cL_law 197 = .ok (.iaload, 1) := by decide +kernel
theorem dL_law_198 : decode cL_law 198 = .ok (.invokevirtual 18, 3) := by decide +kernel
theorem dL_law_201 : decode cL_law 201 = .ok (.aload_n 2, 1) := by decide +kernel
theorem dL_law_202 : decode cL_law 202 = .ok (.aload_n 0, 1) := by decide +kernel
theorem dL_law_203 : decode cL_law 203 = .ok (.iload_n 3, 1) := by decide +kernel
theorem dL_law_204 : decode cL_law 204 = .ok (.iconst 1, 1) := by decide +kernel
theorem dL_law_205 : decode cL_law 205 = .ok (.iadd, 1) := by decide +kernel
theorem dL_law_206 : decode cL_law 206 = .ok (.iaload, 1) := by decide +kernel
theorem dL_law_207 : decode cL_law 207 = .ok (.aload_n 0, 1) := by decide +kernel
theorem dL_law_208 : decode cL_law 208 = .ok (.iload_n 3, 1) := by decide +kernel
theorem dL_law_209 : decode cL_law 209 = .ok (.iconst 2, 1) := by decide +kernel
theorem dL_law_210 : decode cL_law 210 = .ok (.iadd, 1) := by decide +kernel
theorem dL_law_211 : decode cL_law 211 = .ok (.iaload, 1) := by decide +kernel
theorem dL_law_212 : decode cL_law 212 = .ok (.invokevirtual 22, 3) := by decide +kernel
theorem dL_law_215 : decode cL_law 215 = .ok (.if_icmp .eq 623, 3) := by decide +kernel
theorem dL_law_218 : decode cL_law 218 = .ok (.iconst 0, 1) := by decide +kernel
theorem dL_law_219 : decode cL_law 219 = .ok (.ireturn, 1) := by decide +kernel
theorem dL_law_220 : decode cL_law 220 = .ok (.aload_n 1, 1) := by decide +kernel
theorem dL_law_221 : decode cL_law 221 = .ok (.aload_n 0, 1) := by decide +kernel
theorem dL_law_222 : decode cL_law 222 = .ok (.iload_n 3, 1) := by decide +kernel
theorem dL_law_223 : decode cL_law 223 = .ok (.iconst 1, 1) := by decide +kernel
theorem dL_law_224 : decode cL_law 224 = .ok (.iadd, 1) := by decide +kernel
theorem dL_law_225 : decode cL_law 225 = .ok (.iaload, 1) := by decide +kernel
theorem dL_law_226 : decode cL_law 226 = .ok (.aload_n 0, 1) := by decide +kernel
theorem dL_law_227 : decode cL_law 227 = .ok (.iload_n 3, 1) := by decide +kernel
theorem dL_law_228 : decode cL_law 228 = .ok (.iconst 2, 1) := by decide +kernel
theorem dL_law_229 : decode cL_law 229 = .ok (.iadd, 1) := by decide +kernel
theorem dL_law_230 : decode cL_law 230 = .ok (.iaload, 1) := by decide +kernel
theorem dL_law_231 : decode cL_law 231 = .ok (.aload_n 0, 1) := by decide +kernel
theorem dL_law_232 : decode cL_law 232 = .ok (.iload_n 3, 1) := by decide +kernel
theorem dL_law_233 : decode cL_law 233 = .ok (.iconst 3, 1) := by decide +kernel
theorem dL_law_234 : decode cL_law 234 = .ok (.iadd, 1) := by decide +kernel
theorem dL_law_235 : decode cL_law 235 = .ok (.iaload, 1) := by decide +kernel
theorem dL_law_236 : decode cL_law 236 = .ok (.aload_n 0, 1) := by decide +kernel
theorem dL_law_237 : decode cL_law 237 = .ok (.iload_n 3, 1) := by decide +kernel
theorem dL_law_238 : decode cL_law 238 = .ok (.iconst 4, 1) := by decide +kernel
theorem dL_law_239 : decode cL_law 239 = .ok (.iadd, 1) := by decide +kernel
theorem dL_law_240 : decode cL_law 240 = .ok (.iaload, 1) := by decide +kernel
theorem dL_law_241 : decode cL_law 241 = .ok (.aload_n 0, 1) := by decide +kernel
theorem dL_law_242 : decode cL_law 242 = .ok (.iload_n 3, 1) := by decide +kernel
theorem dL_law_243 : decode cL_law 243 = .ok (.iconst 5, 1) := by decide +kernel
theorem dL_law_244 : decode cL_law 244 = .ok (.iadd, 1) := by decide +kernel
theorem dL_law_245 : decode cL_law 245 = .ok (.iaload, 1) := by decide +kernel
theorem dL_law_246 : decode cL_law 246 = .ok (.invokevirtual 23, 3) := by decide +kernel
theorem dL_law_249 : decode cL_law 249 = .ok (.aload_n 2, 1) := by decide +kernel
theorem dL_law_250 : decode cL_law 250 = .ok (.aload_n 0, 1) := by decide +kernel
theorem dL_law_251 : decode cL_law 251 = .ok (.iload_n 3, 1) := by decide +kernel
theorem dL_law_252 : decode cL_law 252 = .ok (.iconst 1, 1) := by decide +kernel
theorem dL_law_253 : decode cL_law 253 = .ok (.iadd, 1) := by decide +kernel
theorem dL_law_254 : decode cL_law 254 = .ok (.iaload, 1) := by decide +kernel
theorem dL_law_255 : decode cL_law 255 = .ok (.aload_n 0, 1) := by decide +kernel
theorem dL_law_256 : decode cL_law 256 = .ok (.iload_n 3, 1) := by decide +kernel
theorem dL_law_257 : decode cL_law 257 = .ok (.iconst 2, 1) := by decide +kernel
theorem dL_law_258 : decode cL_law 258 = .ok (.iadd, 1) := by decide +kernel
theorem dL_law_259 : decode cL_law 259 = .ok (.iaload, 1) := by decide +kernel
theorem dL_law_260 : decode cL_law 260 = .ok (.aload_n 0, 1) := by decide +kernel
theorem dL_law_261 : decode cL_law 261 = .ok (.iload_n 3, 1) := by decide +kernel
theorem dL_law_262 : decode cL_law 262 = .ok (.iconst 3, 1) := by decide +kernel
theorem dL_law_263 : decode cL_law 263 = .ok (.iadd, 1) := by decide +kernel
theorem dL_law_264 : decode cL_law 264 = .ok (.iaload, 1) := by decide +kernel
theorem dL_law_265 : decode cL_law 265 = .ok (.aload_n 0, 1) := by decide +kernel
theorem dL_law_266 : decode cL_law 266 = .ok (.iload_n 3, 1) := by decide +kernel
theorem dL_law_267 : decode cL_law 267 = .ok (.iconst 4, 1) := by decide +kernel
theorem dL_law_268 : decode cL_law 268 = .ok (.iadd, 1) := by decide +kernel
theorem dL_law_269 : decode cL_law 269 = .ok (.iaload, 1) := by decide +kernel
theorem dL_law_270 : decode cL_law 270 = .ok (.aload_n 0, 1) := by decide +kernel
theorem dL_law_271 : decode cL_law 271 = .ok (.iload_n 3, 1) := by decide +kernel
theorem dL_law_272 : decode cL_law 272 = .ok (.iconst 5, 1) := by decide +kernel
theorem dL_law_273 : decode cL_law 273 = .ok (.iadd, 1) := by decide +kernel
theorem dL_law_274 : decode cL_law 274 = .ok (.iaload, 1) := by decide +kernel
theorem dL_law_275 : decode cL_law 275 = .ok (.invokevirtual 27, 3) := by decide +kernel
theorem dL_law_278 : decode cL_law 278 = .ok (.if_icmp .eq 560, 3) := by decide +kernel
theorem dL_law_281 : decode cL_law 281 = .ok (.iconst 0, 1) := by decide +kernel
theorem dL_law_282 : decode cL_law 282 = .ok (.ireturn, 1) := by decide +kernel
theorem dL_law_283 : decode cL_law 283 = .ok (.aload_n 1, 1) := by decide +kernel
theorem dL_law_284 : decode cL_law 284 = .ok (.aload_n 0, 1) := by decide +kernel
theorem dL_law_285 : decode cL_law 285 = .ok (.iload_n 3, 1) := by decide +kernel
theorem dL_law_286 : decode cL_law 286 = .ok (.iconst 1, 1) := by decide +kernel
theorem dL_law_287 : decode cL_law 287 = .ok (.iadd, 1) := by decide +kernel
theorem dL_law_288 : decode cL_law 288 = .ok (.iaload, 1) := by decide +kernel
theorem dL_law_289 : decode cL_law 289 = .ok (.aload_n 0, 1) := by decide +kernel
theorem dL_law_290 : decode cL_law 290 = .ok (.iload_n 3, 1) := by decide +kernel
theorem dL_law_291 : decode cL_law 291 = .ok (.iconst 2, 1) := by decide +kernel
theorem dL_law_292 : decode cL_law 292 = .ok (.iadd, 1) := by decide +kernel
theorem dL_law_293 : decode cL_law 293 = .ok (.iaload, 1) := by decide +kernel
theorem dL_law_294 : decode cL_law 294 = .ok (.aload_n 0, 1) := by decide +kernel
theorem dL_law_295 : decode cL_law 295 = .ok (.iload_n 3, 1) := by decide +kernel
theorem dL_law_296 : decode cL_law 296 = .ok (.iconst 3, 1) := by decide +kernel
theorem dL_law_297 : decode cL_law 297 = .ok (.iadd, 1) := by decide +kernel
theorem dL_law_298 : decode cL_law 298 = .ok (.iaload, 1) := by decide +kernel
theorem dL_law_299 : decode cL_law 299 = .ok (.invokevirtual 28, 3) := by decide +kernel
theorem dL_law_302 : decode cL_law 302 = .ok (.aload_n 2, 1) := by decide +kernel
theorem dL_law_303 : decode cL_law 303 = .ok (.aload_n 0, 1) := by decide +kernel
theorem dL_law_304 : decode cL_law 304 = .ok (.iload_n 3, 1) := by decide +kernel
theorem dL_law_305 : decode cL_law 305 = .ok (.iconst 1, 1) := by decide +kernel
theorem dL_law_306 : decode cL_law 306 = .ok (.iadd, 1) := by decide +kernel
theorem dL_law_307 : decode cL_law 307 = .ok (.iaload, 1) := by decide +kernel
theorem dL_law_308 : decode cL_law 308 = .ok (.aload_n 0, 1) := by decide +kernel
theorem dL_law_309 : decode cL_law 309 = .ok (.iload_n 3, 1) := by decide +kernel
theorem dL_law_310 : decode cL_law 310 = .ok (.iconst 2, 1) := by decide +kernel
theorem dL_law_311 : decode cL_law 311 = .ok (.iadd, 1) := by decide +kernel
theorem dL_law_312 : decode cL_law 312 = .ok (.iaload, 1) := by decide +kernel
theorem dL_law_313 : decode cL_law 313 = .ok (.aload_n 0, 1) := by decide +kernel
theorem dL_law_314 : decode cL_law 314 = .ok (.iload_n 3, 1) := by decide +kernel
theorem dL_law_315 : decode cL_law 315 = .ok (.iconst 3, 1) := by decide +kernel
theorem dL_law_316 : decode cL_law 316 = .ok (.iadd, 1) := by decide +kernel
theorem dL_law_317 : decode cL_law 317 = .ok (.iaload, 1) := by decide +kernel
theorem dL_law_318 : decode cL_law 318 = .ok (.invokevirtual 31, 3) := by decide +kernel
theorem dL_law_321 : decode cL_law 321 = .ok (.if_icmp .eq 517, 3) := by decide +kernel
theorem dL_law_324 : decode cL_law 324 = .ok (.iconst 0, 1) := by decide +kernel
theorem dL_law_325 : decode cL_law 325 = .ok (.ireturn, 1) := by decide +kernel
theorem dL_law_326 : decode cL_law 326 = .ok (.aload_n 1, 1) := by decide +kernel
theorem dL_law_327 : decode cL_law 327 = .ok (.aload_n 0, 1) := by decide +kernel
theorem dL_law_328 : decode cL_law 328 = .ok (.iload_n 3, 1) := by decide +kernel
theorem dL_law_329 : decode cL_law 329 = .ok (.iconst 1, 1) := by decide +kernel
theorem dL_law_330 : decode cL_law 330 = .ok (.iadd, 1) := by decide +kernel
theorem dL_law_331 : decode cL_law 331 = .ok (.iaload, 1) := by decide +kernel
theorem dL_law_332 : decode cL_law 332 = .ok (.aload_n 0, 1) := by decide +kernel
theorem dL_law_333 : decode cL_law 333 = .ok (.iload_n 3, 1) := by decide +kernel
theorem dL_law_334 : decode cL_law 334 = .ok (.iconst 2, 1) := by decide +kernel
theorem dL_law_335 : decode cL_law 335 = .ok (.iadd, 1) := by decide +kernel
theorem dL_law_336 : decode cL_law 336 = .ok (.iaload, 1) := by decide +kernel
theorem dL_law_337 : decode cL_law 337 = .ok (.invokevirtual 32, 3) := by decide +kernel
theorem dL_law_340 : decode cL_law 340 = .ok (.aload_n 2, 1) := by decide +kernel
theorem dL_law_341 : decode cL_law 341 = .ok (.aload_n 0, 1) := by decide +kernel
theorem dL_law_342 : decode cL_law 342 = .ok (.iload_n 3, 1) := by decide +kernel
theorem dL_law_343 : decode cL_law 343 = .ok (.iconst 1, 1) := by decide +kernel
theorem dL_law_344 : decode cL_law 344 = .ok (.iadd, 1) := by decide +kernel
theorem dL_law_345 : decode cL_law 345 = .ok (.iaload, 1) := by decide +kernel
theorem dL_law_346 : decode cL_law 346 = .ok (.aload_n 0, 1) := by decide +kernel
theorem dL_law_347 : decode cL_law 347 = .ok (.iload_n 3, 1) := by decide +kernel
theorem dL_law_348 : decode cL_law 348 = .ok (.iconst 2, 1) := by decide +kernel
theorem dL_law_349 : decode cL_law 349 = .ok (.iadd, 1) := by decide +kernel
theorem dL_law_350 : decode cL_law 350 = .ok (.iaload, 1) := by decide +kernel
theorem dL_law_351 : decode cL_law 351 = .ok (.invokevirtual 35, 3) := by decide +kernel
theorem dL_law_354 : decode cL_law 354 = .ok (.if_icmp .eq 484, 3) := by decide +kernel
theorem dL_law_357 : decode cL_law 357 = .ok (.iconst 0, 1) := by decide +kernel
theorem dL_law_358 : decode cL_law 358 = .ok (.ireturn, 1) := by decide +kernel
theorem dL_law_359 : decode cL_law 359 = .ok (.aload_n 1, 1) := by decide +kernel
theorem dL_law_360 : decode cL_law 360 = .ok (.aload_n 0, 1) := by decide +kernel
theorem dL_law_361 : decode cL_law 361 = .ok (.iload_n 3, 1) := by decide +kernel
theorem dL_law_362 : decode cL_law 362 = .ok (.iconst 1, 1) := by decide +kernel
theorem dL_law_363 : decode cL_law 363 = .ok (.iadd, 1) := by decide +kernel
theorem dL_law_364 : decode cL_law 364 = .ok (.iaload, 1) := by decide +kernel
theorem dL_law_365 : decode cL_law 365 = .ok (.invokevirtual 36, 3) := by decide +kernel
theorem dL_law_368 : decode cL_law 368 = .ok (.aload_n 2, 1) := by decide +kernel
theorem dL_law_369 : decode cL_law 369 = .ok (.aload_n 0, 1) := by decide +kernel
theorem dL_law_370 : decode cL_law 370 = .ok (.iload_n 3, 1) := by decide +kernel
theorem dL_law_371 : decode cL_law 371 = .ok (.iconst 1, 1) := by decide +kernel
theorem dL_law_372 : decode cL_law 372 = .ok (.iadd, 1) := by decide +kernel
theorem dL_law_373 : decode cL_law 373 = .ok (.iaload, 1) := by decide +kernel
theorem dL_law_374 : decode cL_law 374 = .ok (.invokevirtual 40, 3) := by decide +kernel
theorem dL_law_377 : decode cL_law 377 = .ok (.if_icmp .eq 461, 3) := by decide +kernel
theorem dL_law_380 : decode cL_law 380 = .ok (.iconst 0, 1) := by decide +kernel
theorem dL_law_381 : decode cL_law 381 = .ok (.ireturn, 1) := by decide +kernel
theorem dL_law_382 : decode cL_law 382 = .ok (.aload_n 1, 1) := by decide +kernel
theorem dL_law_383 : decode cL_law 383 = .ok (.aload_n 0, 1) := by decide +kernel
theorem dL_law_384 : decode cL_law 384 = .ok (.iload_n 3, 1) := by decide +kernel
theorem dL_law_385 : decode cL_law 385 = .ok (.iconst 1, 1) := by decide +kernel
theorem dL_law_386 : decode cL_law 386 = .ok (.iadd, 1) := by decide +kernel
theorem dL_law_387 : decode cL_law 387 = .ok (.iaload, 1) := by decide +kernel
theorem dL_law_388 : decode cL_law 388 = .ok (.i2c, 1) := by decide +kernel
theorem dL_law_389 : decode cL_law 389 = .ok (.invokevirtual 41, 3) := by decide +kernel
theorem dL_law_392 : decode cL_law 392 = .ok (.aload_n 2, 1) := by decide +kernel
theorem dL_law_393 : decode cL_law 393 = .ok (.aload_n 0, 1) := by decide +kernel
theorem dL_law_394 : decode cL_law 394 = .ok (.iload_n 3, 1) := by decide +kernel
theorem dL_law_395 : decode cL_law 395 = .ok (.iconst 1, 1) := by decide +kernel
theorem dL_law_396 : decode cL_law 396 = .ok (.iadd, 1) := by decide +kernel
theorem dL_law_397 : decode cL_law 397 = .ok (.iaload, 1) := by decide +kernel
theorem dL_law_398 : decode cL_law 398 = .ok (.i2c, 1) := by decide +kernel
theorem dL_law_399 : decode cL_law 399 = .ok (.invokevirtual 45, 3) := by decide +kernel
theorem dL_law_402 : decode cL_law 402 = .ok (.if_icmp .eq 436, 3) := by decide +kernel
theorem dL_law_405 : decode cL_law 405 = .ok (.iconst 0, 1) := by decide +kernel
theorem dL_law_406 : decode cL_law 406 = .ok (.ireturn, 1) := by decide +kernel
theorem dL_law_407 : decode cL_law 407 = .ok (.aload_n 1, 1) := by decide +kernel
theorem dL_law_408 : decode cL_law 408 = .ok (.invokevirtual 46, 3) := by decide +kernel
theorem dL_law_411 : decode cL_law 411 = .ok (.aload_n 2, 1) := by decide +kernel
theorem dL_law_412 : decode cL_law 412 = .ok (.invokevirtual 50, 3) := by decide +kernel
theorem dL_law_415 : decode cL_law 415 = .ok (.if_icmp .eq 423, 3) := by decide +kernel
theorem dL_law_418 : decode cL_law 418 = .ok (.iconst 0, 1) := by decide +kernel
theorem dL_law_419 : decode cL_law 419 = .ok (.ireturn, 1) := by decide +kernel
theorem dL_law_420 : decode cL_law 420 = .ok (.aload_n 1, 1) := by decide +kernel
theorem dL_law_421 : decode cL_law 421 = .ok (.invokevirtual 51, 3) := by decide +kernel
theorem dL_law_424 : decode cL_law 424 = .ok (.aload_n 2, 1) := by decide +kernel
theorem dL_law_425 : decode cL_law 425 = .ok (.invokevirtual 54, 3) := by decide +kernel
theorem dL_law_428 : decode cL_law 428 = .ok (.if_icmp .eq 410, 3) := by decide +kernel
theorem dL_law_431 : decode cL_law 431 = .ok (.iconst 0, 1) := by decide +kernel
theorem dL_law_432 : decode cL_law 432 = .ok (.ireturn, 1) := by decide +kernel
theorem dL_law_433 : decode cL_law 433 = .ok (.aload_n 1, 1) := by decide +kernel
theorem dL_law_434 : decode cL_law 434 = .ok (.invokevirtual 55, 3) := by decide +kernel
theorem dL_law_437 : decode cL_law 437 = .ok (.aload_n 2, 1) := by decide +kernel
theorem dL_law_438 : decode cL_law 438 = .ok (.invokevirtual 58, 3) := by decide +kernel
theorem dL_law_441 : decode cL_law 441 = .ok (.if_icmp .eq 397, 3) := by decide +kernel
theorem dL_law_444 : decode cL_law 444 = .ok (.iconst 0, 1) := by decide +kernel
theorem dL_law_445 : decode cL_law 445 = .ok (.ireturn, 1) := by decide +kernel
theorem dL_law_446 : decode cL_law 446 = .ok (.aload_n 1, 1) := by decide +kernel
theorem dL_law_447 : decode cL_law 447 = .ok (.invokevirtual 59, 3) := by decide +kernel
theorem dL_law_450 : decode cL_law 450 = .ok (.aload_n 2, 1) := by decide +kernel
theorem dL_law_451 : decode cL_law 451 = .ok (.invokevirtual 62, 3) := by decide +kernel
theorem dL_law_454 : decode cL_law 454 = .ok (.if_icmp .eq 384, 3) := by decide +kernel
theorem dL_law_457 : decode cL_law 457 = .ok (.iconst 0, 1) := by decide +kernel
theorem dL_law_458 : decode cL_law 458 = .ok (.ireturn, 1) := by decide +kernel
theorem dL_law_459 : decode cL_law 459 = .ok (.aload_n 1, 1) := by decide +kernel
theorem dL_law_460 : decode cL_law 460 = .ok (.invokevirtual 63, 3) := by decide +kernel
theorem dL_law_463 : decode cL_law 463 = .ok (.aload_n 2, 1) := by decide +kernel
theorem dL_law_464 : decode cL_law 464 = .ok (.invokevirtual 66, 3) := by decide +kernel
theorem dL_law_467 : decode cL_law 467 = .ok (.if_icmp .eq 371, 3) := by decide +kernel
theorem dL_law_470 : decode cL_law 470 = .ok (.iconst 0, 1) := by decide +kernel
theorem dL_law_471 : decode cL_law 471 = .ok (.ireturn, 1) := by decide +kernel
theorem dL_law_472 : decode cL_law 472 = .ok (.aload_n 1, 1) := by decide +kernel
theorem dL_law_473 : decode cL_law 473 = .ok (.aload_n 0, 1) := by decide +kernel
theorem dL_law_474 : decode cL_law 474 = .ok (.iload_n 3, 1) := by decide +kernel
theorem dL_law_475 : decode cL_law 475 = .ok (.iconst 1, 1) := by decide +kernel
theorem dL_law_476 : decode cL_law 476 = .ok (.iadd, 1) := by decide +kernel
theorem dL_law_477 : decode cL_law 477 = .ok (.iaload, 1) := by decide +kernel
theorem dL_law_478 : decode cL_law 478 = .ok (.aload_n 0, 1) := by decide +kernel
theorem dL_law_479 : decode cL_law 479 = .ok (.iload_n 3, 1) := by decide +kernel
theorem dL_law_480 : decode cL_law 480 = .ok (.iconst 2, 1) := by decide +kernel
theorem dL_law_481 : decode cL_law 481 = .ok (.iadd, 1) := by decide +kernel
theorem dL_law_482 : decode cL_law 482 = .ok (.iaload, 1) := by decide +kernel
theorem dL_law_483 : decode cL_law 483 = .ok (.invokevirtual 67, 3) := by decide +kernel
theorem dL_law_486 : decode cL_law 486 = .ok (.aload_n 2, 1) := by decide +kernel
theorem dL_law_487 : decode cL_law 487 = .ok (.aload_n 0, 1) := by decide +kernel
theorem dL_law_488 : decode cL_law 488 = .ok (.iload_n 3, 1) := by decide +kernel
theorem dL_law_489 : decode cL_law 489 = .ok (.iconst 1, 1) := by decide +kernel
theorem dL_law_490 : decode cL_law 490 = .ok (.iadd, 1) := by decide +kernel
theorem dL_law_491 : decode cL_law 491 = .ok (.iaload, 1) := by decide +kernel
theorem dL_law_492 : decode cL_law 492 = .ok (.aload_n 0, 1) := by decide +kernel
theorem dL_law_493 : decode cL_law 493 = .ok (.iload_n 3, 1) := by decide +kernel
theorem dL_law_494 : decode cL_law 494 = .ok (.iconst 2, 1) := by decide +kernel
theorem dL_law_495 : decode cL_law 495 = .ok (.iadd, 1) := by decide +kernel
theorem dL_law_496 : decode cL_law 496 = .ok (.iaload, 1) := by decide +kernel
theorem dL_law_497 : decode cL_law 497 = .ok (.invokevirtual 70, 3) := by decide +kernel
theorem dL_law_500 : decode cL_law 500 = .ok (.if_icmp .eq 338, 3) := by decide +kernel
theorem dL_law_503 : decode cL_law 503 = .ok (.iconst 0, 1) := by decide +kernel
theorem dL_law_504 : decode cL_law 504 = .ok (.ireturn, 1) := by decide +kernel
theorem dL_law_505 : decode cL_law 505 = .ok (.aload_n 1, 1) := by decide +kernel
theorem dL_law_506 : decode cL_law 506 = .ok (.aload_n 0, 1) := by decide +kernel
theorem dL_law_507 : decode cL_law 507 = .ok (.iload_n 3, 1) := by decide +kernel
theorem dL_law_508 : decode cL_law 508 = .ok (.iconst 1, 1) := by decide +kernel
theorem dL_law_509 : decode cL_law 509 = .ok (.iadd, 1) := by decide +kernel
theorem dL_law_510 : decode cL_law 510 = .ok (.iaload, 1) := by decide +kernel
theorem dL_law_511 : decode cL_law 511 = .ok (.aload_n 0, 1) := by decide +kernel
theorem dL_law_512 : decode cL_law 512 = .ok (.iload_n 3, 1) := by decide +kernel
theorem dL_law_513 : decode cL_law 513 = .ok (.iconst 2, 1) := by decide +kernel
theorem dL_law_514 : decode cL_law 514 = .ok (.iadd, 1) := by decide +kernel
theorem dL_law_515 : decode cL_law 515 = .ok (.iaload, 1) := by decide +kernel
theorem dL_law_516 : decode cL_law 516 = .ok (.invokevirtual 71, 3) := by decide +kernel
theorem dL_law_519 : decode cL_law 519 = .ok (.aload_n 2, 1) := by decide +kernel
theorem dL_law_520 : decode cL_law 520 = .ok (.aload_n 0, 1) := by decide +kernel
theorem dL_law_521 : decode cL_law 521 = .ok (.iload_n 3, 1) := by decide +kernel
theorem dL_law_522 : decode cL_law 522 = .ok (.iconst 1, 1) := by decide +kernel
theorem dL_law_523 : decode cL_law 523 = .ok (.iadd, 1) := by decide +kernel
theorem dL_law_524 : decode cL_law 524 = .ok (.iaload, 1) := by decide +kernel
theorem dL_law_525 : decode cL_law 525 = .ok (.aload_n 0, 1) := by decide +kernel
theorem dL_law_526 : decode cL_law 526 = .ok (.iload_n 3, 1) := by decide +kernel
theorem dL_law_527 : decode cL_law 527 = .ok (.iconst 2, 1) := by decide +kernel
theorem dL_law_528 : decode cL_law 528 = .ok (.iadd, 1) := by decide +kernel
theorem dL_law_529 : decode cL_law 529 = .ok (.iaload, 1) := by decide +kernel
theorem dL_law_530 : decode cL_law 530 = .ok (.invokevirtual 74, 3) := by decide +kernel
theorem dL_law_533 : decode cL_law 533 = .ok (.if_icmp .eq 305, 3) := by decide +kernel
theorem dL_law_536 : decode cL_law 536 = .ok (.iconst 0, 1) := by decide +kernel
theorem dL_law_537 : decode cL_law 537 = .ok (.ireturn, 1) := by decide +kernel
theorem dL_law_538 : decode cL_law 538 = .ok (.aload_n 1, 1) := by decide +kernel
theorem dL_law_539 : decode cL_law 539 = .ok (.aload_n 0, 1) := by decide +kernel
theorem dL_law_540 : decode cL_law 540 = .ok (.iload_n 3, 1) := by decide +kernel
theorem dL_law_541 : decode cL_law 541 = .ok (.iconst 1, 1) := by decide +kernel
theorem dL_law_542 : decode cL_law 542 = .ok (.iadd, 1) := by decide +kernel
theorem dL_law_543 : decode cL_law 543 = .ok (.iaload, 1) := by decide +kernel
theorem dL_law_544 : decode cL_law 544 = .ok (.aload_n 0, 1) := by decide +kernel
theorem dL_law_545 : decode cL_law 545 = .ok (.iload_n 3, 1) := by decide +kernel
theorem dL_law_546 : decode cL_law 546 = .ok (.iconst 2, 1) := by decide +kernel
theorem dL_law_547 : decode cL_law 547 = .ok (.iadd, 1) := by decide +kernel
theorem dL_law_548 : decode cL_law 548 = .ok (.iaload, 1) := by decide +kernel
theorem dL_law_549 : decode cL_law 549 = .ok (.aload_n 0, 1) := by decide +kernel
theorem dL_law_550 : decode cL_law 550 = .ok (.iload_n 3, 1) := by decide +kernel
theorem dL_law_551 : decode cL_law 551 = .ok (.iconst 3, 1) := by decide +kernel
theorem dL_law_552 : decode cL_law 552 = .ok (.iadd, 1) := by decide +kernel
theorem dL_law_553 : decode cL_law 553 = .ok (.iaload, 1) := by decide +kernel
theorem dL_law_554 : decode cL_law 554 = .ok (.invokevirtual 75, 3) := by decide +kernel
theorem dL_law_557 : decode cL_law 557 = .ok (.aload_n 2, 1) := by decide +kernel
theorem dL_law_558 : decode cL_law 558 = .ok (.aload_n 0, 1) := by decide +kernel
theorem dL_law_559 : decode cL_law 559 = .ok (.iload_n 3, 1) := by decide +kernel
theorem dL_law_560 : decode cL_law 560 = .ok (.iconst 1, 1) := by decide +kernel
theorem dL_law_561 : decode cL_law 561 = .ok (.iadd, 1) := by decide +kernel
theorem dL_law_562 : decode cL_law 562 = .ok (.iaload, 1) := by decide +kernel
theorem dL_law_563 : decode cL_law 563 = .ok (.aload_n 0, 1) := by decide +kernel
theorem dL_law_564 : decode cL_law 564 = .ok (.iload_n 3, 1) := by decide +kernel
theorem dL_law_565 : decode cL_law 565 = .ok (.iconst 2, 1) := by decide +kernel
theorem dL_law_566 : decode cL_law 566 = .ok (.iadd, 1) := by decide +kernel
theorem dL_law_567 : decode cL_law 567 = .ok (.iaload, 1) := by decide +kernel
theorem dL_law_568 : decode cL_law 568 = .ok (.aload_n 0, 1) := by decide +kernel
theorem dL_law_569 : decode cL_law 569 = .ok (.iload_n 3, 1) := by decide +kernel
theorem dL_law_570 : decode cL_law 570 = .ok (.iconst 3, 1) := by decide +kernel
theorem dL_law_571 : decode cL_law 571 = .ok (.iadd, 1) := by decide +kernel
theorem dL_law_572 : decode cL_law 572 = .ok (.iaload, 1) := by decide +kernel
theorem dL_law_573 : decode cL_law 573 = .ok (.invokevirtual 78, 3) := by decide +kernel
theorem dL_law_576 : decode cL_law 576 = .ok (.if_icmp .eq 262, 3) := by decide +kernel
theorem dL_law_579 : decode cL_law 579 = .ok (.iconst 0, 1) := by decide +kernel
theorem dL_law_580 : decode cL_law 580 = .ok (.ireturn, 1) := by decide +kernel
theorem dL_law_581 : decode cL_law 581 = .ok (.aload_n 1, 1) := by decide +kernel
theorem dL_law_582 : decode cL_law 582 = .ok (.aload_n 0, 1) := by decide +kernel
theorem dL_law_583 : decode cL_law 583 = .ok (.iload_n 3, 1) := by decide +kernel
theorem dL_law_584 : decode cL_law 584 = .ok (.iconst 1, 1) := by decide +kernel
theorem dL_law_585 : decode cL_law 585 = .ok (.iadd, 1) := by decide +kernel
theorem dL_law_586 : decode cL_law 586 = .ok (.iaload, 1) := by decide +kernel
theorem dL_law_587 : decode cL_law 587 = .ok (.aload_n 0, 1) := by decide +kernel
theorem dL_law_588 : decode cL_law 588 = .ok (.iload_n 3, 1) := by decide +kernel
theorem dL_law_589 : decode cL_law 589 = .ok (.iconst 2, 1) := by decide +kernel
theorem dL_law_590 : decode cL_law 590 = .ok (.iadd, 1) := by decide +kernel
theorem dL_law_591 : decode cL_law 591 = .ok (.iaload, 1) := by decide +kernel
theorem dL_law_592 : decode cL_law 592 = .ok (.invokevirtual 79, 3) := by decide +kernel
theorem dL_law_595 : decode cL_law 595 = .ok (.aload_n 2, 1) := by decide +kernel
theorem dL_law_596 : decode cL_law 596 = .ok (.aload_n 0, 1) := by decide +kernel
theorem dL_law_597 : decode cL_law 597 = .ok (.iload_n 3, 1) := by decide +kernel
theorem dL_law_598 : decode cL_law 598 = .ok (.iconst 1, 1) := by decide +kernel
theorem dL_law_599 : decode cL_law 599 = .ok (.iadd, 1) := by decide +kernel
theorem dL_law_600 : decode cL_law 600 = .ok (.iaload, 1) := by decide +kernel
theorem dL_law_601 : decode cL_law 601 = .ok (.aload_n 0, 1) := by decide +kernel
theorem dL_law_602 : decode cL_law 602 = .ok (.iload_n 3, 1) := by decide +kernel
theorem dL_law_603 : decode cL_law 603 = .ok (.iconst 2, 1) := by decide +kernel
theorem dL_law_604 : decode cL_law 604 = .ok (.iadd, 1) := by decide +kernel
theorem dL_law_605 : decode cL_law 605 = .ok (.iaload, 1) := by decide +kernel
theorem dL_law_606 : decode cL_law 606 = .ok (.invokevirtual 82, 3) := by decide +kernel
theorem dL_law_609 : decode cL_law 609 = .ok (.if_icmp .eq 229, 3) := by decide +kernel
theorem dL_law_612 : decode cL_law 612 = .ok (.iconst 0, 1) := by decide +kernel
theorem dL_law_613 : decode cL_law 613 = .ok (.ireturn, 1) := by decide +kernel
theorem dL_law_614 : decode cL_law 614 = .ok (.aload_n 1, 1) := by decide +kernel
theorem dL_law_615 : decode cL_law 615 = .ok (.aload_n 0, 1) := by decide +kernel
theorem dL_law_616 : decode cL_law 616 = .ok (.iload_n 3, 1) := by decide +kernel
theorem dL_law_617 : decode cL_law 617 = .ok (.iconst 1, 1) := by decide +kernel
theorem dL_law_618 : decode cL_law 618 = .ok (.iadd, 1) := by decide +kernel
theorem dL_law_619 : decode cL_law 619 = .ok (.iaload, 1) := by decide +kernel
theorem dL_law_620 : decode cL_law 620 = .ok (.aload_n 0, 1) := by decide +kernel
theorem dL_law_621 : decode cL_law 621 = .ok (.iload_n 3, 1) := by decide +kernel
theorem dL_law_622 : decode cL_law 622 = .ok (.iconst 2, 1) := by decide +kernel
theorem dL_law_623 : decode cL_law 623 = .ok (.iadd, 1) := by decide +kernel
theorem dL_law_624 : decode cL_law 624 = .ok (.iaload, 1) := by decide +kernel
theorem dL_law_625 : decode cL_law 625 = .ok (.aload_n 0, 1) := by decide +kernel
theorem dL_law_626 : decode cL_law 626 = .ok (.iload_n 3, 1) := by decide +kernel
theorem dL_law_627 : decode cL_law 627 = .ok (.iconst 3, 1) := by decide +kernel
theorem dL_law_628 : decode cL_law 628 = .ok (.iadd, 1) := by decide +kernel
theorem dL_law_629 : decode cL_law 629 = .ok (.iaload, 1) := by decide +kernel
theorem dL_law_630 : decode cL_law 630 = .ok (.invokevirtual 83, 3) := by decide +kernel
theorem dL_law_633 : decode cL_law 633 = .ok (.aload_n 2, 1) := by decide +kernel
theorem dL_law_634 : decode cL_law 634 = .ok (.aload_n 0, 1) := by decide +kernel
theorem dL_law_635 : decode cL_law 635 = .ok (.iload_n 3, 1) := by decide +kernel
theorem dL_law_636 : decode cL_law 636 = .ok (.iconst 1, 1) := by decide +kernel
theorem dL_law_637 : decode cL_law 637 = .ok (.iadd, 1) := by decide +kernel
theorem dL_law_638 : decode cL_law 638 = .ok (.iaload, 1) := by decide +kernel
theorem dL_law_639 : decode cL_law 639 = .ok (.aload_n 0, 1) := by decide +kernel
theorem dL_law_640 : decode cL_law 640 = .ok (.iload_n 3, 1) := by decide +kernel
theorem dL_law_641 : decode cL_law 641 = .ok (.iconst 2, 1) := by decide +kernel
theorem dL_law_642 : decode cL_law 642 = .ok (.iadd, 1) := by decide +kernel
theorem dL_law_643 : decode cL_law 643 = .ok (.iaload, 1) := by decide +kernel
theorem dL_law_644 : decode cL_law 644 = .ok (.aload_n 0, 1) := by decide +kernel
theorem dL_law_645 : decode cL_law 645 = .ok (.iload_n 3, 1) := by decide +kernel
theorem dL_law_646 : decode cL_law 646 = .ok (.iconst 3, 1) := by decide +kernel
theorem dL_law_647 : decode cL_law 647 = .ok (.iadd, 1) := by decide +kernel
theorem dL_law_648 : decode cL_law 648 = .ok (.iaload, 1) := by decide +kernel
theorem dL_law_649 : decode cL_law 649 = .ok (.invokevirtual 86, 3) := by decide +kernel
theorem dL_law_652 : decode cL_law 652 = .ok (.if_icmp .eq 186, 3) := by decide +kernel
theorem dL_law_655 : decode cL_law 655 = .ok (.iconst 0, 1) := by decide +kernel
theorem dL_law_656 : decode cL_law 656 = .ok (.ireturn, 1) := by decide +kernel
theorem dL_law_657 : decode cL_law 657 = .ok (.aload_n 1, 1) := by decide +kernel
theorem dL_law_658 : decode cL_law 658 = .ok (.aload_n 0, 1) := by decide +kernel
theorem dL_law_659 : decode cL_law 659 = .ok (.iload_n 3, 1) := by decide +kernel
theorem dL_law_660 : decode cL_law 660 = .ok (.iconst 1, 1) := by decide +kernel
theorem dL_law_661 : decode cL_law 661 = .ok (.iadd, 1) := by decide +kernel
theorem dL_law_662 : decode cL_law 662 = .ok (.iaload, 1) := by decide +kernel
theorem dL_law_663 : decode cL_law 663 = .ok (.aload_n 0, 1) := by decide +kernel
theorem dL_law_664 : decode cL_law 664 = .ok (.iload_n 3, 1) := by decide +kernel
theorem dL_law_665 : decode cL_law 665 = .ok (.iconst 2, 1) := by decide +kernel
theorem dL_law_666 : decode cL_law 666 = .ok (.iadd, 1) := by decide +kernel
theorem dL_law_667 : decode cL_law 667 = .ok (.iaload, 1) := by decide +kernel
theorem dL_law_668 : decode cL_law 668 = .ok (.aload_n 0, 1) := by decide +kernel
theorem dL_law_669 : decode cL_law 669 = .ok (.iload_n 3, 1) := by decide +kernel
theorem dL_law_670 : decode cL_law 670 = .ok (.iconst 3, 1) := by decide +kernel
theorem dL_law_671 : decode cL_law 671 = .ok (.iadd, 1) := by decide +kernel
theorem dL_law_672 : decode cL_law 672 = .ok (.iaload, 1) := by decide +kernel
theorem dL_law_673 : decode cL_law 673 = .ok (.invokevirtual 87, 3) := by decide +kernel
theorem dL_law_676 : decode cL_law 676 = .ok (.aload_n 2, 1) := by decide +kernel
theorem dL_law_677 : decode cL_law 677 = .ok (.aload_n 0, 1) := by decide +kernel
theorem dL_law_678 : decode cL_law 678 = .ok (.iload_n 3, 1) := by decide +kernel
theorem dL_law_679 : decode cL_law 679 = .ok (.iconst 1, 1) := by decide +kernel
theorem dL_law_680 : decode cL_law 680 = .ok (.iadd, 1) := by decide +kernel
theorem dL_law_681 : decode cL_law 681 = .ok (.iaload, 1) := by decide +kernel
theorem dL_law_682 : decode cL_law 682 = .ok (.aload_n 0, 1) := by decide +kernel
theorem dL_law_683 : decode cL_law 683 = .ok (.iload_n 3, 1) := by decide +kernel
theorem dL_law_684 : decode cL_law 684 = .ok (.iconst 2, 1) := by decide +kernel
theorem dL_law_685 : decode cL_law 685 = .ok (.iadd, 1) := by decide +kernel
theorem dL_law_686 : decode cL_law 686 = .ok (.iaload, 1) := by decide +kernel
theorem dL_law_687 : decode cL_law 687 = .ok (.aload_n 0, 1) := by decide +kernel
theorem dL_law_688 : decode cL_law 688 = .ok (.iload_n 3, 1) := by decide +kernel
theorem dL_law_689 : decode cL_law 689 = .ok (.iconst 3, 1) := by decide +kernel
theorem dL_law_690 : decode cL_law 690 = .ok (.iadd, 1) := by decide +kernel
theorem dL_law_691 : decode cL_law 691 = .ok (.iaload, 1) := by decide +kernel
theorem dL_law_692 : decode cL_law 692 = .ok (.invokevirtual 90, 3) := by decide +kernel
theorem dL_law_695 : decode cL_law 695 = .ok (.if_icmp .eq 143, 3) := by decide +kernel
theorem dL_law_698 : decode cL_law 698 = .ok (.iconst 0, 1) := by decide +kernel
theorem dL_law_699 : decode cL_law 699 = .ok (.ireturn, 1) := by decide +kernel
theorem dL_law_700 : decode cL_law 700 = .ok (.aload_n 1, 1) := by decide +kernel
theorem dL_law_701 : decode cL_law 701 = .ok (.aload_n 0, 1) := by decide +kernel
theorem dL_law_702 : decode cL_law 702 = .ok (.iload_n 3, 1) := by decide +kernel
theorem dL_law_703 : decode cL_law 703 = .ok (.iconst 1, 1) := by decide +kernel
theorem dL_law_704 : decode cL_law 704 = .ok (.iadd, 1) := by decide +kernel
theorem dL_law_705 : decode cL_law 705 = .ok (.iaload, 1) := by decide +kernel
theorem dL_law_706 : decode cL_law 706 = .ok (.aload_n 0, 1) := by decide +kernel
theorem dL_law_707 : decode cL_law 707 = .ok (.iload_n 3, 1) := by decide +kernel
theorem dL_law_708 : decode cL_law 708 = .ok (.iconst 2, 1) := by decide +kernel
theorem dL_law_709 : decode cL_law 709 = .ok (.iadd, 1) := by decide +kernel
theorem dL_law_710 : decode cL_law 710 = .ok (.iaload, 1) := by decide +kernel
theorem dL_law_711 : decode cL_law 711 = .ok (.invokevirtual 91, 3) := by decide +kernel
theorem dL_law_714 : decode cL_law 714 = .ok (.aload_n 2, 1) := by decide +kernel
theorem dL_law_715 : decode cL_law 715 = .ok (.aload_n 0, 1) := by decide +kernel
theorem dL_law_716 : decode cL_law 716 = .ok (.iload_n 3, 1) := by decide +kernel
theorem dL_law_717 : decode cL_law 717 = .ok (.iconst 1, 1) := by decide +kernel
theorem dL_law_718 : decode cL_law 718 = .ok (.iadd, 1) := by decide +kernel
theorem dL_law_719 : decode cL_law 719 = .ok (.iaload, 1) := by decide +kernel
theorem dL_law_720 : decode cL_law 720 = .ok (.aload_n 0, 1) := by decide +kernel
theorem dL_law_721 : decode cL_law 721 = .ok (.iload_n 3, 1) := by decide +kernel
theorem dL_law_722 : decode cL_law 722 = .ok (.iconst 2, 1) := by decide +kernel
theorem dL_law_723 : decode cL_law 723 = .ok (.iadd, 1) := by decide +kernel
theorem dL_law_724 : decode cL_law 724 = .ok (.iaload, 1) := by decide +kernel
theorem dL_law_725 : decode cL_law 725 = .ok (.invokevirtual 94, 3) := by decide +kernel
theorem dL_law_728 : decode cL_law 728 = .ok (.if_icmp .eq 110, 3) := by decide +kernel
theorem dL_law_731 : decode cL_law 731 = .ok (.iconst 0, 1) := by decide +kernel
theorem dL_law_732 : decode cL_law 732 = .ok (.ireturn, 1) := by decide +kernel
theorem dL_law_733 : decode cL_law 733 = .ok (.aload_n 1, 1) := by decide +kernel
theorem dL_law_734 : decode cL_law 734 = .ok (.aload_n 0, 1) := by decide +kernel
theorem dL_law_735 : decode cL_law 735 = .ok (.iload_n 3, 1) := by decide +kernel
theorem dL_law_736 : decode cL_law 736 = .ok (.iconst 1, 1) := by decide +kernel
theorem dL_law_737 : decode cL_law 737 = .ok (.iadd, 1) := by decide +kernel
theorem dL_law_738 : decode cL_law 738 = .ok (.iaload, 1) := by decide +kernel
theorem dL_law_739 : decode cL_law 739 = .ok (.aload_n 0, 1) := by decide +kernel
theorem dL_law_740 : decode cL_law 740 = .ok (.iload_n 3, 1) := by decide +kernel
theorem dL_law_741 : decode cL_law 741 = .ok (.iconst 2, 1) := by decide +kernel
theorem dL_law_742 : decode cL_law 742 = .ok (.iadd, 1) := by decide +kernel
theorem dL_law_743 : decode cL_law 743 = .ok (.iaload, 1) := by decide +kernel
theorem dL_law_744 : decode cL_law 744 = .ok (.invokevirtual 95, 3) := by decide +kernel
theorem dL_law_747 : decode cL_law 747 = .ok (.aload_n 2, 1) := by decide +kernel
theorem dL_law_748 : decode cL_law 748 = .ok (.aload_n 0, 1) := by decide +kernel
theorem dL_law_749 : decode cL_law 749 = .ok (.iload_n 3, 1) := by decide +kernel
theorem dL_law_750 : decode cL_law 750 = .ok (.iconst 1, 1) := by decide +kernel
theorem dL_law_751 : decode cL_law 751 = .ok (.iadd, 1) := by decide +kernel
theorem dL_law_752 : decode cL_law 752 = .ok (.iaload, 1) := by decide +kernel
theorem dL_law_753 : decode cL_law 753 = .ok (.aload_n 0, 1) := by decide +kernel
theorem dL_law_754 : decode cL_law 754 = .ok (.iload_n 3, 1) := by decide +kernel
theorem dL_law_755 : decode cL_law 755 = .ok (.iconst 2, 1) := by decide +kernel
theorem dL_law_756 : decode cL_law 756 = .ok (.iadd, 1) := by decide +kernel
theorem dL_law_757 : decode cL_law 757 = .ok (.iaload, 1) := by decide +kernel
theorem dL_law_758 : decode cL_law 758 = .ok (.invokevirtual 98, 3) := by decide +kernel
theorem dL_law_761 : decode cL_law 761 = .ok (.if_icmp .eq 77, 3) := by decide +kernel
theorem dL_law_764 : decode cL_law 764 = .ok (.iconst 0, 1) := by decide +kernel
theorem dL_law_765 : decode cL_law 765 = .ok (.ireturn, 1) := by decide +kernel
theorem dL_law_766 : decode cL_law 766 = .ok (.aload_n 1, 1) := by decide +kernel
theorem dL_law_767 : decode cL_law 767 = .ok (.invokevirtual 99, 3) := by decide +kernel
theorem dL_law_770 : decode cL_law 770 = .ok (.aload_n 2, 1) := by decide +kernel
theorem dL_law_771 : decode cL_law 771 = .ok (.invokevirtual 102, 3) := by decide +kernel
theorem dL_law_774 : decode cL_law 774 = .ok (.if_icmp .eq 64, 3) := by decide +kernel
theorem dL_law_777 : decode cL_law 777 = .ok (.iconst 0, 1) := by decide +kernel
theorem dL_law_778 : decode cL_law 778 = .ok (.ireturn, 1) := by decide +kernel
theorem dL_law_779 : decode cL_law 779 = .ok (.aload_n 1, 1) := by decide +kernel
theorem dL_law_780 : decode cL_law 780 = .ok (.aload_n 0, 1) := by decide +kernel
theorem dL_law_781 : decode cL_law 781 = .ok (.iload_n 3, 1) := by decide +kernel
theorem dL_law_782 : decode cL_law 782 = .ok (.iconst 1, 1) := by decide +kernel
theorem dL_law_783 : decode cL_law 783 = .ok (.iadd, 1) := by decide +kernel
theorem dL_law_784 : decode cL_law 784 = .ok (.iaload, 1) := by decide +kernel
theorem dL_law_785 : decode cL_law 785 = .ok (.invokevirtual 103, 3) := by decide +kernel
theorem dL_law_788 : decode cL_law 788 = .ok (.aload_n 2, 1) := by decide +kernel
theorem dL_law_789 : decode cL_law 789 = .ok (.aload_n 0, 1) := by decide +kernel
theorem dL_law_790 : decode cL_law 790 = .ok (.iload_n 3, 1) := by decide +kernel
theorem dL_law_791 : decode cL_law 791 = .ok (.iconst 1, 1) := by decide +kernel
theorem dL_law_792 : decode cL_law 792 = .ok (.iadd, 1) := by decide +kernel
theorem dL_law_793 : decode cL_law 793 = .ok (.iaload, 1) := by decide +kernel
theorem dL_law_794 : decode cL_law 794 = .ok (.invokevirtual 106, 3) := by decide +kernel
theorem dL_law_797 : decode cL_law 797 = .ok (.if_icmp .eq 41, 3) := by decide +kernel
theorem dL_law_800 : decode cL_law 800 = .ok (.iconst 0, 1) := by decide +kernel
theorem dL_law_801 : decode cL_law 801 = .ok (.ireturn, 1) := by decide +kernel
theorem dL_law_802 : decode cL_law 802 = .ok (.aload_n 1, 1) := by decide +kernel
theorem dL_law_803 : decode cL_law 803 = .ok (.invokevirtual 107, 3) := by decide +kernel
theorem dL_law_806 : decode cL_law 806 = .ok (.aload_n 2, 1) := by decide +kernel
theorem dL_law_807 : decode cL_law 807 = .ok (.invokevirtual 110, 3) := by decide +kernel
theorem dL_law_810 : decode cL_law 810 = .ok (.if_icmp .eq 28, 3) := by decide +kernel
theorem dL_law_813 : decode cL_law 813 = .ok (.iconst 0, 1) := by decide +kernel
theorem dL_law_814 : decode cL_law 814 = .ok (.ireturn, 1) := by decide +kernel
theorem dL_law_815 : decode cL_law 815 = .ok (.aload_n 1, 1) := by decide +kernel
theorem dL_law_816 : decode cL_law 816 = .ok (.aload_n 0, 1) := by decide +kernel
theorem dL_law_817 : decode cL_law 817 = .ok (.iload_n 3, 1) := by decide +kernel
theorem dL_law_818 : decode cL_law 818 = .ok (.iconst 1, 1) := by decide +kernel
theorem dL_law_819 : decode cL_law 819 = .ok (.iadd, 1) := by decide +kernel
theorem dL_law_820 : decode cL_law 820 = .ok (.iaload, 1) := by decide +kernel
theorem dL_law_821 : decode cL_law 821 = .ok (.invokevirtual 111, 3) := by decide +kernel
theorem dL_law_824 : decode cL_law 824 = .ok (.aload_n 2, 1) := by decide +kernel
theorem dL_law_825 : decode cL_law 825 = .ok (.aload_n 0, 1) := by decide +kernel
theorem dL_law_826 : decode cL_law 826 = .ok (.iload_n 3, 1) := by decide +kernel
theorem dL_law_827 : decode cL_law 827 = .ok (.iconst 1, 1) := by decide +kernel
theorem dL_law_828 : decode cL_law 828 = .ok (.iadd, 1) := by decide +kernel
theorem dL_law_829 : decode cL_law 829 = .ok (.iaload, 1) := by decide +kernel
theorem dL_law_830 : decode cL_law 830 = .ok (.invokevirtual 114, 3) := by decide +kernel
theorem dL_law_833 : decode cL_law 833 = .ok (.if_icmp .eq 5, 3) := by decide +kernel
theorem dL_law_836 : decode cL_law 836 = .ok (.iconst 0, 1) := by decide +kernel
theorem dL_law_837 : decode cL_law 837 = .ok (.ireturn, 1) := by decide +kernel
theorem dL_law_838 : decode cL_law 838 = .ok (.iinc 3 6, 3) := by decide +kernel
theorem dL_law_841 : decode cL_law 841 = .ok (.goto (-823), 3) := by decide +kernel
theorem dL_law_844 : decode cL_law 844 = .ok (.iconst 1, 1) := by decide +kernel
theorem dL_law_845 : decode cL_law 845 = .ok (.ireturn, 1) := by decide +kernel
