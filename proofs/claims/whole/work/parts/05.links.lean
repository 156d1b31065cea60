theorem lay_0 : Lay[0]? = some (.inl (5, [3, 16, 30, 1, 100, 0, 5, 6, 4])) := rfl
theorem lay_1 : Lay[1]? = some (.inl (2, [16, 20, 101, 102])) := rfl
theorem lay_2 : Lay[2]? = some (.inl (3, [103, 104, 105])) := rfl
theorem lay_3 : Lay[3]? = some (.inl (4, [106, 0, 0, 0, 0, 0])) := rfl
theorem lay_4 : Lay[4]? = some (.inl (1, [0, 7, 8, 9, 10, 11, 12, 13, 14, 15])) := rfl
theorem lay_5 : Lay[5]? = some (.inr (0, 30)) := rfl
theorem lay_6 : Lay[6]? = some (.inr (0, 30)) := rfl
theorem lay_7 : Lay[7]? = some (.inr (0, 30)) := rfl
theorem lay_8 : Lay[8]? = some (.inr (0, 30)) := rfl
theorem lay_9 : Lay[9]? = some (.inr (0, 30)) := rfl
theorem lay_10 : Lay[10]? = some (.inr (0, 30)) := rfl
theorem lay_11 : Lay[11]? = some (.inr (0, 30)) := rfl
theorem lay_12 : Lay[12]? = some (.inr (0, 90)) := rfl
theorem lay_13 : Lay[13]? = some (.inr (0, 90)) := rfl
theorem lay_14 : Lay[14]? = some (.inl (0, [0, 17, 18, 19, 20])) := rfl
theorem lay_15 : Lay[15]? = some (.inr (0, 6)) := rfl
theorem lay_16 : Lay[16]? = some (.inr (0, 6)) := rfl
theorem lay_17 : Lay[17]? = some (.inr (0, 6)) := rfl
theorem lay_18 : Lay[18]? = some (.inl (1, [0, 21, 22, 23, 24, 25, 26, 27, 28, 29])) := rfl
theorem lay_19 : Lay[19]? = some (.inr (0, 30)) := rfl
theorem lay_20 : Lay[20]? = some (.inr (0, 30)) := rfl
theorem lay_21 : Lay[21]? = some (.inr (0, 30)) := rfl
theorem lay_22 : Lay[22]? = some (.inr (0, 30)) := rfl
theorem lay_23 : Lay[23]? = some (.inr (0, 30)) := rfl
theorem lay_24 : Lay[24]? = some (.inr (0, 30)) := rfl
theorem lay_25 : Lay[25]? = some (.inr (0, 30)) := rfl
theorem lay_26 : Lay[26]? = some (.inr (0, 90)) := rfl
theorem lay_27 : Lay[27]? = some (.inr (0, 90)) := rfl
theorem lay_28 : Lay[28]? = some (.inl (0, [0, 31, 32, 33, 34])) := rfl
theorem lay_29 : Lay[29]? = some (.inr (0, 6)) := rfl
theorem lay_30 : Lay[30]? = some (.inr (0, 6)) := rfl
theorem lay_31 : Lay[31]? = some (.inr (0, 6)) := rfl
theorem lay_32 : Lay[32]? = some (.inl (1, [0, 35, 36, 37, 38, 39, 40, 41, 42, 43])) := rfl
theorem lay_33 : Lay[33]? = some (.inr (0, 30)) := rfl
theorem lay_34 : Lay[34]? = some (.inr (0, 30)) := rfl
theorem lay_35 : Lay[35]? = some (.inr (0, 30)) := rfl
theorem lay_36 : Lay[36]? = some (.inr (0, 30)) := rfl
theorem lay_37 : Lay[37]? = some (.inr (0, 30)) := rfl
theorem lay_38 : Lay[38]? = some (.inr (0, 30)) := rfl
theorem lay_39 : Lay[39]? = some (.inr (0, 30)) := rfl
theorem lay_40 : Lay[40]? = some (.inr (0, 90)) := rfl
theorem lay_41 : Lay[41]? = some (.inr (0, 90)) := rfl
theorem lay_42 : Lay[42]? = some (.inl (0, [0, 45, 46, 47, 48])) := rfl
theorem lay_43 : Lay[43]? = some (.inr (0, 6)) := rfl
theorem lay_44 : Lay[44]? = some (.inr (0, 6)) := rfl
theorem lay_45 : Lay[45]? = some (.inr (0, 6)) := rfl
theorem lay_46 : Lay[46]? = some (.inl (1, [0, 49, 50, 51, 52, 53, 54, 55, 56, 57])) := rfl
theorem lay_47 : Lay[47]? = some (.inr (0, 30)) := rfl
theorem lay_48 : Lay[48]? = some (.inr (0, 30)) := rfl
theorem lay_49 : Lay[49]? = some (.inr (0, 30)) := rfl
theorem lay_50 : Lay[50]? = some (.inr (0, 30)) := rfl
theorem lay_51 : Lay[51]? = some (.inr (0, 30)) := rfl
theorem lay_52 : Lay[52]? = some (.inr (0, 30)) := rfl
theorem lay_53 : Lay[53]? = some (.inr (0, 30)) := rfl
theorem lay_54 : Lay[54]? = some (.inr (0, 90)) := rfl
theorem lay_55 : Lay[55]? = some (.inr (0, 90)) := rfl
theorem lay_56 : Lay[56]? = some (.inl (0, [0, 59, 60, 61, 62])) := rfl
theorem lay_57 : Lay[57]? = some (.inr (0, 6)) := rfl
theorem lay_58 : Lay[58]? = some (.inr (0, 6)) := rfl
theorem lay_59 : Lay[59]? = some (.inr (0, 6)) := rfl
theorem lay_60 : Lay[60]? = some (.inl (1, [0, 63, 64, 65, 66, 67, 68, 69, 70, 71])) := rfl
theorem lay_61 : Lay[61]? = some (.inr (0, 30)) := rfl
theorem lay_62 : Lay[62]? = some (.inr (0, 30)) := rfl
theorem lay_63 : Lay[63]? = some (.inr (0, 30)) := rfl
theorem lay_64 : Lay[64]? = some (.inr (0, 30)) := rfl
theorem lay_65 : Lay[65]? = some (.inr (0, 30)) := rfl
theorem lay_66 : Lay[66]? = some (.inr (0, 30)) := rfl
theorem lay_67 : Lay[67]? = some (.inr (0, 30)) := rfl
theorem lay_68 : Lay[68]? = some (.inr (0, 90)) := rfl
theorem lay_69 : Lay[69]? = some (.inr (0, 90)) := rfl
theorem lay_70 : Lay[70]? = some (.inl (0, [0, 73, 74, 75, 76])) := rfl
theorem lay_71 : Lay[71]? = some (.inr (0, 6)) := rfl
theorem lay_72 : Lay[72]? = some (.inr (0, 6)) := rfl
theorem lay_73 : Lay[73]? = some (.inr (0, 6)) := rfl
theorem lay_74 : Lay[74]? = some (.inl (1, [0, 77, 78, 79, 80, 81, 82, 83, 84, 85])) := rfl
theorem lay_75 : Lay[75]? = some (.inr (0, 30)) := rfl
theorem lay_76 : Lay[76]? = some (.inr (0, 30)) := rfl
theorem lay_77 : Lay[77]? = some (.inr (0, 30)) := rfl
theorem lay_78 : Lay[78]? = some (.inr (0, 30)) := rfl
theorem lay_79 : Lay[79]? = some (.inr (0, 30)) := rfl
theorem lay_80 : Lay[80]? = some (.inr (0, 30)) := rfl
theorem lay_81 : Lay[81]? = some (.inr (0, 30)) := rfl
theorem lay_82 : Lay[82]? = some (.inr (0, 90)) := rfl
theorem lay_83 : Lay[83]? = some (.inr (0, 90)) := rfl
theorem lay_84 : Lay[84]? = some (.inl (0, [0, 87, 88, 89, 90])) := rfl
theorem lay_85 : Lay[85]? = some (.inr (0, 6)) := rfl
theorem lay_86 : Lay[86]? = some (.inr (0, 6)) := rfl
theorem lay_87 : Lay[87]? = some (.inr (0, 6)) := rfl
theorem lay_88 : Lay[88]? = some (.inl (1, [0, 91, 92, 93, 94, 95, 96, 97, 98, 99])) := rfl
theorem lay_89 : Lay[89]? = some (.inr (0, 30)) := rfl
theorem lay_90 : Lay[90]? = some (.inr (0, 30)) := rfl
theorem lay_91 : Lay[91]? = some (.inr (0, 30)) := rfl
theorem lay_92 : Lay[92]? = some (.inr (0, 30)) := rfl
theorem lay_93 : Lay[93]? = some (.inr (0, 30)) := rfl
theorem lay_94 : Lay[94]? = some (.inr (0, 30)) := rfl
theorem lay_95 : Lay[95]? = some (.inr (0, 30)) := rfl
theorem lay_96 : Lay[96]? = some (.inr (0, 90)) := rfl
theorem lay_97 : Lay[97]? = some (.inr (0, 90)) := rfl
theorem lay_98 : Lay[98]? = some (.inr (2, 4)) := rfl
theorem lay_99 : Lay[99]? = some (.inr (0, 6)) := rfl
theorem lay_100 : Lay[100]? = some (.inr (0, 30)) := rfl
theorem lay_101 : Lay[101]? = some (.inr (0, 100)) := rfl
theorem lay_102 : Lay[102]? = some (.inr (0, 100)) := rfl
theorem lay_103 : Lay[103]? = some (.inr (0, 30)) := rfl
theorem lay_104 : Lay[104]? = some (.inr (1, 80)) := rfl
theorem lay_105 : Lay[105]? = some (.inl (6, [108, 109, 0, 110, 1, 111, 0, 112, 113, 0, 1, 1, 0, 0])) := rfl
theorem lay_106 : Lay[106]? = some (.inr (0, 410)) := rfl
theorem lay_107 : Lay[107]? = some (.inr (0, 1640)) := rfl
theorem lay_108 : Lay[108]? = some (.inr (0, 410)) := rfl
theorem lay_109 : Lay[109]? = some (.inr (0, 80)) := rfl
theorem lay_110 : Lay[110]? = some (.inr (0, 100)) := rfl
theorem lay_111 : Lay[111]? = some (.inr (0, 100)) := rfl
theorem pf_I : parseFieldDescriptor "I" = some .int := by decide +kernel
theorem pf_Z : parseFieldDescriptor "Z" = some .boolean := by decide +kernel
theorem okC0 : okC 0 RX0 TX0 5 := ⟨rfl, fun w hw => List.mem_filter.mpr ⟨(by decide +kernel : ∀ w ∈ u_ws RX0 TX0 5, w ∈ lw_tbl) w hw, (by decide +kernel : ∀ w ∈ u_ws RX0 TX0 5, goodWord w = true) w hw⟩, ⟨tyX0, tyX0_ok⟩, nmX0⟩
theorem okC1 : okC 1 RX1 TX1 10 := ⟨rfl, fun w hw => List.mem_filter.mpr ⟨(by decide +kernel : ∀ w ∈ u_ws RX1 TX1 10, w ∈ lw_tbl) w hw, (by decide +kernel : ∀ w ∈ u_ws RX1 TX1 10, goodWord w = true) w hw⟩, ⟨tyX1, tyX1_ok⟩, nmX1⟩
theorem okC2 : okC 2 RX2 TX2 4 := ⟨rfl, fun w hw => List.mem_filter.mpr ⟨(by decide +kernel : ∀ w ∈ u_ws RX2 TX2 4, w ∈ lw_tbl) w hw, (by decide +kernel : ∀ w ∈ u_ws RX2 TX2 4, goodWord w = true) w hw⟩, ⟨tyX2, tyX2_ok⟩, nmX2⟩
theorem okC3 : okC 3 RX3 TX3 3 := ⟨rfl, fun w hw => List.mem_filter.mpr ⟨(by decide +kernel : ∀ w ∈ u_ws RX3 TX3 3, w ∈ lw_tbl) w hw, (by decide +kernel : ∀ w ∈ u_ws RX3 TX3 3, goodWord w = true) w hw⟩, ⟨tyX3, tyX3_ok⟩, nmX3⟩
theorem okC4 : okC 4 RX4 TX4 6 := ⟨rfl, fun w hw => List.mem_filter.mpr ⟨(by decide +kernel : ∀ w ∈ u_ws RX4 TX4 6, w ∈ lw_tbl) w hw, (by decide +kernel : ∀ w ∈ u_ws RX4 TX4 6, goodWord w = true) w hw⟩, ⟨tyX4, tyX4_ok⟩, nmX4⟩
theorem okC5 : okC 5 RX5 TX5 9 := ⟨rfl, fun w hw => List.mem_filter.mpr ⟨(by decide +kernel : ∀ w ∈ u_ws RX5 TX5 9, w ∈ lw_tbl) w hw, (by decide +kernel : ∀ w ∈ u_ws RX5 TX5 9, goodWord w = true) w hw⟩, ⟨tyX5, tyX5_ok⟩, nmX5⟩
theorem okC6 : okC 6 RX6 TX6 14 := ⟨rfl, fun w hw => List.mem_filter.mpr ⟨(by decide +kernel : ∀ w ∈ u_ws RX6 TX6 14, w ∈ lw_tbl) w hw, (by decide +kernel : ∀ w ∈ u_ws RX6 TX6 14, goodWord w = true) w hw⟩, ⟨tyX6, tyX6_ok⟩, nmX6⟩
abbrev mX0_init : MM := (yX0_init, cX0_init, 2, none)
theorem ok_X0_init : okM mX0_init 0 := ⟨gw_in 71 (by decide +kernel) (by decide +kernel), gw_in 45 (by decide +kernel) (by decide +kernel), ⟨by decide +kernel, by decide +kernel, by decide +kernel⟩, by decide, by decide +kernel⟩
abbrev mX0_copyFrom : MM := (yX0_copyFrom, cX0_copyFrom, 2, none)
theorem ok_X0_copyFrom : okV mX0_copyFrom 1 := ⟨⟨gw_in 274 (by decide +kernel) (by decide +kernel), gw_in 45 (by decide +kernel) (by decide +kernel), ⟨by decide +kernel, by decide +kernel, by decide +kernel⟩, by decide, by decide +kernel⟩, gw_in 272 (by decide +kernel) (by decide +kernel), gw_in 273 (by decide +kernel) (by decide +kernel)⟩
abbrev mX0_reaches : MM := (yX0_reaches, cX0_reaches, 3, some .boolean)
theorem ok_X0_reaches : okV mX0_reaches 2 := ⟨⟨gw_in 350 (by decide +kernel) (by decide +kernel), gw_in 45 (by decide +kernel) (by decide +kernel), ⟨by decide +kernel, by decide +kernel, by decide +kernel⟩, by decide, by decide +kernel⟩, gw_in 348 (by decide +kernel) (by decide +kernel), gw_in 349 (by decide +kernel) (by decide +kernel)⟩
abbrev mX0_meets : MM := (yX0_meets, cX0_meets, 3, some .boolean)
theorem ok_X0_meets : okV mX0_meets 2 := ⟨⟨gw_in 342 (by decide +kernel) (by decide +kernel), gw_in 45 (by decide +kernel) (by decide +kernel), ⟨by decide +kernel, by decide +kernel, by decide +kernel⟩, by decide, by decide +kernel⟩, gw_in 340 (by decide +kernel) (by decide +kernel), gw_in 341 (by decide +kernel) (by decide +kernel)⟩
abbrev mX1_init : MM := (yX1_init, cX1_init, 1, none)
theorem ok_X1_init : okM mX1_init 0 := ⟨gw_in 77 (by decide +kernel) (by decide +kernel), gw_in 46 (by decide +kernel) (by decide +kernel), ⟨by decide +kernel, by decide +kernel, by decide +kernel⟩, by decide, by decide +kernel⟩
abbrev mX1_has : MM := (yX1_has, cX1_has, 2, some .boolean)
theorem ok_X1_has : okV mX1_has 1 := ⟨⟨gw_in 305 (by decide +kernel) (by decide +kernel), gw_in 46 (by decide +kernel) (by decide +kernel), ⟨by decide +kernel, by decide +kernel, by decide +kernel⟩, by decide, by decide +kernel⟩, gw_in 303 (by decide +kernel) (by decide +kernel), gw_in 304 (by decide +kernel) (by decide +kernel)⟩
abbrev mX1_add : MM := (yX1_add, cX1_add, 7, some .int)
theorem ok_X1_add : okV mX1_add 5 := ⟨⟨gw_in 297 (by decide +kernel) (by decide +kernel), gw_in 46 (by decide +kernel) (by decide +kernel), ⟨by decide +kernel, by decide +kernel, by decide +kernel⟩, by decide, by decide +kernel⟩, gw_in 295 (by decide +kernel) (by decide +kernel), gw_in 296 (by decide +kernel) (by decide +kernel)⟩
abbrev mX1_addException : MM := (yX1_addException, cX1_addException, 5, none)
theorem ok_X1_addException : okV mX1_addException 3 := ⟨⟨gw_in 310 (by decide +kernel) (by decide +kernel), gw_in 46 (by decide +kernel) (by decide +kernel), ⟨by decide +kernel, by decide +kernel, by decide +kernel⟩, by decide, by decide +kernel⟩, gw_in 308 (by decide +kernel) (by decide +kernel), gw_in 309 (by decide +kernel) (by decide +kernel)⟩
abbrev mX1_addAll : MM := (yX1_addAll, cX1_addAll, 6, none)
theorem ok_X1_addAll : okV mX1_addAll 1 := ⟨⟨gw_in 420 (by decide +kernel) (by decide +kernel), gw_in 46 (by decide +kernel) (by decide +kernel), ⟨by decide +kernel, by decide +kernel, by decide +kernel⟩, by decide, by decide +kernel⟩, gw_in 418 (by decide +kernel) (by decide +kernel), gw_in 419 (by decide +kernel) (by decide +kernel)⟩
abbrev mX1_copyFrom : MM := (yX1_copyFrom, cX1_copyFrom, 2, none)
theorem ok_X1_copyFrom : okV mX1_copyFrom 1 := ⟨⟨gw_in 281 (by decide +kernel) (by decide +kernel), gw_in 46 (by decide +kernel) (by decide +kernel), ⟨by decide +kernel, by decide +kernel, by decide +kernel⟩, by decide, by decide +kernel⟩, gw_in 279 (by decide +kernel) (by decide +kernel), gw_in 280 (by decide +kernel) (by decide +kernel)⟩
abbrev mX1_isInForce : MM := (yX1_isInForce, cX1_isInForce, 3, some .boolean)
theorem ok_X1_isInForce : okV mX1_isInForce 2 := ⟨⟨gw_in 338 (by decide +kernel) (by decide +kernel), gw_in 46 (by decide +kernel) (by decide +kernel), ⟨by decide +kernel, by decide +kernel, by decide +kernel⟩, by decide, by decide +kernel⟩, gw_in 336 (by decide +kernel) (by decide +kernel), gw_in 337 (by decide +kernel) (by decide +kernel)⟩
abbrev mX1_isInSpan : MM := (yX1_isInSpan, cX1_isInSpan, 3, some .boolean)
theorem ok_X1_isInSpan : okV mX1_isInSpan 2 := ⟨⟨gw_in 346 (by decide +kernel) (by decide +kernel), gw_in 46 (by decide +kernel) (by decide +kernel), ⟨by decide +kernel, by decide +kernel, by decide +kernel⟩, by decide, by decide +kernel⟩, gw_in 344 (by decide +kernel) (by decide +kernel), gw_in 345 (by decide +kernel) (by decide +kernel)⟩
abbrev mX1_isExcepted : MM := (yX1_isExcepted, cX1_isExcepted, 5, some .boolean)
theorem ok_X1_isExcepted : okV mX1_isExcepted 2 := ⟨⟨gw_in 354 (by decide +kernel) (by decide +kernel), gw_in 46 (by decide +kernel) (by decide +kernel), ⟨by decide +kernel, by decide +kernel, by decide +kernel⟩, by decide, by decide +kernel⟩, gw_in 352 (by decide +kernel) (by decide +kernel), gw_in 353 (by decide +kernel) (by decide +kernel)⟩
abbrev mX1_speaksAtAll : MM := (yX1_speaksAtAll, cX1_speaksAtAll, 2, some .boolean)
theorem ok_X1_speaksAtAll : okV mX1_speaksAtAll 1 := ⟨⟨gw_in 366 (by decide +kernel) (by decide +kernel), gw_in 46 (by decide +kernel) (by decide +kernel), ⟨by decide +kernel, by decide +kernel, by decide +kernel⟩, by decide, by decide +kernel⟩, gw_in 364 (by decide +kernel) (by decide +kernel), gw_in 365 (by decide +kernel) (by decide +kernel)⟩
abbrev mX1_hasReversedSpan : MM := (yX1_hasReversedSpan, cX1_hasReversedSpan, 4, some .boolean)
theorem ok_X1_hasReversedSpan : okV mX1_hasReversedSpan 0 := ⟨⟨gw_in 416 (by decide +kernel) (by decide +kernel), gw_in 46 (by decide +kernel) (by decide +kernel), ⟨by decide +kernel, by decide +kernel, by decide +kernel⟩, by decide, by decide +kernel⟩, gw_in 414 (by decide +kernel) (by decide +kernel), gw_in 415 (by decide +kernel) (by decide +kernel)⟩
abbrev mX1_nextTurn : MM := (yX1_nextTurn, cX1_nextTurn, 4, some .int)
theorem ok_X1_nextTurn : okV mX1_nextTurn 1 := ⟨⟨gw_in 538 (by decide +kernel) (by decide +kernel), gw_in 46 (by decide +kernel) (by decide +kernel), ⟨by decide +kernel, by decide +kernel, by decide +kernel⟩, by decide, by decide +kernel⟩, gw_in 536 (by decide +kernel) (by decide +kernel), gw_in 537 (by decide +kernel) (by decide +kernel)⟩
abbrev mX1_countOfChapter : MM := (yX1_countOfChapter, cX1_countOfChapter, 4, some .int)
theorem ok_X1_countOfChapter : okV mX1_countOfChapter 1 := ⟨⟨gw_in 442 (by decide +kernel) (by decide +kernel), gw_in 46 (by decide +kernel) (by decide +kernel), ⟨by decide +kernel, by decide +kernel, by decide +kernel⟩, by decide, by decide +kernel⟩, gw_in 440 (by decide +kernel) (by decide +kernel), gw_in 441 (by decide +kernel) (by decide +kernel)⟩
abbrev mX1_countInForceOfChapter : MM := (yX1_countInForceOfChapter, cX1_countInForceOfChapter, 5, some .int)
theorem ok_X1_countInForceOfChapter : okV mX1_countInForceOfChapter 2 := ⟨⟨gw_in 446 (by decide +kernel) (by decide +kernel), gw_in 46 (by decide +kernel) (by decide +kernel), ⟨by decide +kernel, by decide +kernel, by decide +kernel⟩, by decide, by decide +kernel⟩, gw_in 444 (by decide +kernel) (by decide +kernel), gw_in 445 (by decide +kernel) (by decide +kernel)⟩
abbrev mX1_countInForce : MM := (yX1_countInForce, cX1_countInForce, 4, some .int)
theorem ok_X1_countInForce : okV mX1_countInForce 1 := ⟨⟨gw_in 583 (by decide +kernel) (by decide +kernel), gw_in 46 (by decide +kernel) (by decide +kernel), ⟨by decide +kernel, by decide +kernel, by decide +kernel⟩, by decide, by decide +kernel⟩, gw_in 581 (by decide +kernel) (by decide +kernel), gw_in 582 (by decide +kernel) (by decide +kernel)⟩
abbrev mX1_countExceptions : MM := (yX1_countExceptions, cX1_countExceptions, 3, some .int)
theorem ok_X1_countExceptions : okV mX1_countExceptions 0 := ⟨⟨gw_in 595 (by decide +kernel) (by decide +kernel), gw_in 46 (by decide +kernel) (by decide +kernel), ⟨by decide +kernel, by decide +kernel, by decide +kernel⟩, by decide, by decide +kernel⟩, gw_in 593 (by decide +kernel) (by decide +kernel), gw_in 594 (by decide +kernel) (by decide +kernel)⟩
abbrev mX1_countSilent : MM := (yX1_countSilent, cX1_countSilent, 3, some .int)
theorem ok_X1_countSilent : okV mX1_countSilent 0 := ⟨⟨gw_in 599 (by decide +kernel) (by decide +kernel), gw_in 46 (by decide +kernel) (by decide +kernel), ⟨by decide +kernel, by decide +kernel, by decide +kernel⟩, by decide, by decide +kernel⟩, gw_in 597 (by decide +kernel) (by decide +kernel), gw_in 598 (by decide +kernel) (by decide +kernel)⟩
abbrev mX2_init : MM := (yX2_init, cX2_init, 1, none)
theorem ok_X2_init : okM mX2_init 0 := ⟨gw_in 65 (by decide +kernel) (by decide +kernel), gw_in 44 (by decide +kernel) (by decide +kernel), ⟨by decide +kernel, by decide +kernel, by decide +kernel⟩, by decide, by decide +kernel⟩
abbrev mX2_findTops : MM := (yX2_findTops, cX2_findTops, 7, none)
theorem ok_X2_findTops : okV mX2_findTops 3 := ⟨⟨gw_in 331 (by decide +kernel) (by decide +kernel), gw_in 44 (by decide +kernel) (by decide +kernel), ⟨by decide +kernel, by decide +kernel, by decide +kernel⟩, by decide, by decide +kernel⟩, gw_in 329 (by decide +kernel) (by decide +kernel), gw_in 330 (by decide +kernel) (by decide +kernel)⟩
abbrev mX2_topSpeaks : MM := (yX2_topSpeaks, cX2_topSpeaks, 3, some .boolean)
theorem ok_X2_topSpeaks : okV mX2_topSpeaks 1 := ⟨⟨gw_in 362 (by decide +kernel) (by decide +kernel), gw_in 44 (by decide +kernel) (by decide +kernel), ⟨by decide +kernel, by decide +kernel, by decide +kernel⟩, by decide, by decide +kernel⟩, gw_in 360 (by decide +kernel) (by decide +kernel), gw_in 361 (by decide +kernel) (by decide +kernel)⟩
abbrev mX2_rulerOfTops : MM := (yX2_rulerOfTops, cX2_rulerOfTops, 4, some .int)
theorem ok_X2_rulerOfTops : okV mX2_rulerOfTops 0 := ⟨⟨gw_in 358 (by decide +kernel) (by decide +kernel), gw_in 44 (by decide +kernel) (by decide +kernel), ⟨by decide +kernel, by decide +kernel, by decide +kernel⟩, by decide, by decide +kernel⟩, gw_in 356 (by decide +kernel) (by decide +kernel), gw_in 357 (by decide +kernel) (by decide +kernel)⟩
abbrev mX2_ruler : MM := (yX2_ruler, cX2_ruler, 3, some .int)
theorem ok_X2_ruler : okV mX2_ruler 2 := ⟨⟨gw_in 327 (by decide +kernel) (by decide +kernel), gw_in 44 (by decide +kernel) (by decide +kernel), ⟨by decide +kernel, by decide +kernel, by decide +kernel⟩, by decide, by decide +kernel⟩, gw_in 325 (by decide +kernel) (by decide +kernel), gw_in 326 (by decide +kernel) (by decide +kernel)⟩
abbrev mX2_rulerWithout : MM := (yX2_rulerWithout, cX2_rulerWithout, 4, some .int)
theorem ok_X2_rulerWithout : okV mX2_rulerWithout 3 := ⟨⟨gw_in 567 (by decide +kernel) (by decide +kernel), gw_in 44 (by decide +kernel) (by decide +kernel), ⟨by decide +kernel, by decide +kernel, by decide +kernel⟩, by decide, by decide +kernel⟩, gw_in 565 (by decide +kernel) (by decide +kernel), gw_in 566 (by decide +kernel) (by decide +kernel)⟩
abbrev mX2_silencer : MM := (yX2_silencer, cX2_silencer, 5, some .int)
theorem ok_X2_silencer : okV mX2_silencer 3 := ⟨⟨gw_in 515 (by decide +kernel) (by decide +kernel), gw_in 44 (by decide +kernel) (by decide +kernel), ⟨by decide +kernel, by decide +kernel, by decide +kernel⟩, by decide, by decide +kernel⟩, gw_in 513 (by decide +kernel) (by decide +kernel), gw_in 514 (by decide +kernel) (by decide +kernel)⟩
abbrev mX2_whyNotRuling : MM := (yX2_whyNotRuling, cX2_whyNotRuling, 5, some .int)
theorem ok_X2_whyNotRuling : okV mX2_whyNotRuling 3 := ⟨⟨gw_in 523 (by decide +kernel) (by decide +kernel), gw_in 44 (by decide +kernel) (by decide +kernel), ⟨by decide +kernel, by decide +kernel, by decide +kernel⟩, by decide, by decide +kernel⟩, gw_in 521 (by decide +kernel) (by decide +kernel), gw_in 522 (by decide +kernel) (by decide +kernel)⟩
abbrev mX2_nextChange : MM := (yX2_nextChange, cX2_nextChange, 6, some .int)
theorem ok_X2_nextChange : okV mX2_nextChange 2 := ⟨⟨gw_in 534 (by decide +kernel) (by decide +kernel), gw_in 44 (by decide +kernel) (by decide +kernel), ⟨by decide +kernel, by decide +kernel, by decide +kernel⟩, by decide, by decide +kernel⟩, gw_in 532 (by decide +kernel) (by decide +kernel), gw_in 533 (by decide +kernel) (by decide +kernel)⟩
abbrev mX2_busyClauses : MM := (yX2_busyClauses, cX2_busyClauses, 6, some .int)
theorem ok_X2_busyClauses : okV mX2_busyClauses 0 := ⟨⟨gw_in 555 (by decide +kernel) (by decide +kernel), gw_in 44 (by decide +kernel) (by decide +kernel), ⟨by decide +kernel, by decide +kernel, by decide +kernel⟩, by decide, by decide +kernel⟩, gw_in 553 (by decide +kernel) (by decide +kernel), gw_in 554 (by decide +kernel) (by decide +kernel)⟩
abbrev mX2_casesChangedBetween : MM := (yX2_casesChangedBetween, cX2_casesChangedBetween, 5, some .int)
theorem ok_X2_casesChangedBetween : okV mX2_casesChangedBetween 2 := ⟨⟨gw_in 323 (by decide +kernel) (by decide +kernel), gw_in 44 (by decide +kernel) (by decide +kernel), ⟨by decide +kernel, by decide +kernel, by decide +kernel⟩, by decide, by decide +kernel⟩, gw_in 321 (by decide +kernel) (by decide +kernel), gw_in 322 (by decide +kernel) (by decide +kernel)⟩
abbrev mX2_casesChangedWithout : MM := (yX2_casesChangedWithout, cX2_casesChangedWithout, 4, some .int)
theorem ok_X2_casesChangedWithout : okV mX2_casesChangedWithout 1 := ⟨⟨gw_in 563 (by decide +kernel) (by decide +kernel), gw_in 44 (by decide +kernel) (by decide +kernel), ⟨by decide +kernel, by decide +kernel, by decide +kernel⟩, by decide, by decide +kernel⟩, gw_in 561 (by decide +kernel) (by decide +kernel), gw_in 562 (by decide +kernel) (by decide +kernel)⟩
abbrev mX2_tallyToday : MM := (yX2_tallyToday, cX2_tallyToday, 3, none)
theorem ok_X2_tallyToday : okV mX2_tallyToday 0 := ⟨⟨gw_in 455 (by decide +kernel) (by decide +kernel), gw_in 44 (by decide +kernel) (by decide +kernel), ⟨by decide +kernel, by decide +kernel, by decide +kernel⟩, by decide, by decide +kernel⟩, gw_in 453 (by decide +kernel) (by decide +kernel), gw_in 454 (by decide +kernel) (by decide +kernel)⟩
abbrev mX2_casesRuled : MM := (yX2_casesRuled, cX2_casesRuled, 3, some .int)
theorem ok_X2_casesRuled : okV mX2_casesRuled 0 := ⟨⟨gw_in 587 (by decide +kernel) (by decide +kernel), gw_in 44 (by decide +kernel) (by decide +kernel), ⟨by decide +kernel, by decide +kernel, by decide +kernel⟩, by decide, by decide +kernel⟩, gw_in 585 (by decide +kernel) (by decide +kernel), gw_in 586 (by decide +kernel) (by decide +kernel)⟩
abbrev mX2_casesRuledByClause : MM := (yX2_casesRuledByClause, cX2_casesRuledByClause, 2, some .int)
theorem ok_X2_casesRuledByClause : okV mX2_casesRuledByClause 1 := ⟨⟨gw_in 468 (by decide +kernel) (by decide +kernel), gw_in 44 (by decide +kernel) (by decide +kernel), ⟨by decide +kernel, by decide +kernel, by decide +kernel⟩, by decide, by decide +kernel⟩, gw_in 466 (by decide +kernel) (by decide +kernel), gw_in 467 (by decide +kernel) (by decide +kernel)⟩
abbrev mX2_casesRuledByChapter : MM := (yX2_casesRuledByChapter, cX2_casesRuledByChapter, 4, some .int)
theorem ok_X2_casesRuledByChapter : okV mX2_casesRuledByChapter 1 := ⟨⟨gw_in 451 (by decide +kernel) (by decide +kernel), gw_in 44 (by decide +kernel) (by decide +kernel), ⟨by decide +kernel, by decide +kernel, by decide +kernel⟩, by decide, by decide +kernel⟩, gw_in 449 (by decide +kernel) (by decide +kernel), gw_in 450 (by decide +kernel) (by decide +kernel)⟩
abbrev mX2_rulerOfMost : MM := (yX2_rulerOfMost, cX2_rulerOfMost, 4, some .int)
theorem ok_X2_rulerOfMost : okV mX2_rulerOfMost 0 := ⟨⟨gw_in 575 (by decide +kernel) (by decide +kernel), gw_in 44 (by decide +kernel) (by decide +kernel), ⟨by decide +kernel, by decide +kernel, by decide +kernel⟩, by decide, by decide +kernel⟩, gw_in 573 (by decide +kernel) (by decide +kernel), gw_in 574 (by decide +kernel) (by decide +kernel)⟩
abbrev mX2_casesSpokenOf : MM := (yX2_casesSpokenOf, cX2_casesSpokenOf, 5, some .int)
theorem ok_X2_casesSpokenOf : okV mX2_casesSpokenOf 1 := ⟨⟨gw_in 464 (by decide +kernel) (by decide +kernel), gw_in 44 (by decide +kernel) (by decide +kernel), ⟨by decide +kernel, by decide +kernel, by decide +kernel⟩, by decide, by decide +kernel⟩, gw_in 462 (by decide +kernel) (by decide +kernel), gw_in 463 (by decide +kernel) (by decide +kernel)⟩
abbrev mX2_timesSpoken : MM := (yX2_timesSpoken, cX2_timesSpoken, 4, some .int)
theorem ok_X2_timesSpoken : okV mX2_timesSpoken 0 := ⟨⟨gw_in 591 (by decide +kernel) (by decide +kernel), gw_in 44 (by decide +kernel) (by decide +kernel), ⟨by decide +kernel, by decide +kernel, by decide +kernel⟩, by decide, by decide +kernel⟩, gw_in 589 (by decide +kernel) (by decide +kernel), gw_in 590 (by decide +kernel) (by decide +kernel)⟩
abbrev mX2_casesOfUnlikeVerdicts : MM := (yX2_casesOfUnlikeVerdicts, cX2_casesOfUnlikeVerdicts, 5, some .int)
theorem ok_X2_casesOfUnlikeVerdicts : okV mX2_casesOfUnlikeVerdicts 2 := ⟨⟨gw_in 547 (by decide +kernel) (by decide +kernel), gw_in 44 (by decide +kernel) (by decide +kernel), ⟨by decide +kernel, by decide +kernel, by decide +kernel⟩, by decide, by decide +kernel⟩, gw_in 545 (by decide +kernel) (by decide +kernel), gw_in 546 (by decide +kernel) (by decide +kernel)⟩
abbrev mX3_init : MM := (yX3_init, cX3_init, 1, none)
theorem ok_X3_init : okM mX3_init 0 := ⟨gw_in 210 (by decide +kernel) (by decide +kernel), gw_in 48 (by decide +kernel) (by decide +kernel), ⟨by decide +kernel, by decide +kernel, by decide +kernel⟩, by decide, by decide +kernel⟩
abbrev mX3_paint : MM := (yX3_paint, cX3_paint, 5, none)
theorem ok_X3_paint : okV mX3_paint 2 := ⟨⟨gw_in 481 (by decide +kernel) (by decide +kernel), gw_in 48 (by decide +kernel) (by decide +kernel), ⟨by decide +kernel, by decide +kernel, by decide +kernel⟩, by decide, by decide +kernel⟩, gw_in 479 (by decide +kernel) (by decide +kernel), gw_in 480 (by decide +kernel) (by decide +kernel)⟩
abbrev mX3_sortByDates : MM := (yX3_sortByDates, cX3_sortByDates, 4, none)
theorem ok_X3_sortByDates : okV mX3_sortByDates 1 := ⟨⟨gw_in 485 (by decide +kernel) (by decide +kernel), gw_in 48 (by decide +kernel) (by decide +kernel), ⟨by decide +kernel, by decide +kernel, by decide +kernel⟩, by decide, by decide +kernel⟩, gw_in 484 (by decide +kernel) (by decide +kernel), gw_in 7 (by decide +kernel) (by decide +kernel)⟩
abbrev mX3_paintCoat : MM := (yX3_paintCoat, cX3_paintCoat, 9, none)
theorem ok_X3_paintCoat : okV mX3_paintCoat 3 := ⟨⟨gw_in 490 (by decide +kernel) (by decide +kernel), gw_in 48 (by decide +kernel) (by decide +kernel), ⟨by decide +kernel, by decide +kernel, by decide +kernel⟩, by decide, by decide +kernel⟩, gw_in 489 (by decide +kernel) (by decide +kernel), gw_in 8 (by decide +kernel) (by decide +kernel)⟩
abbrev mX3_paintClause : MM := (yX3_paintClause, cX3_paintClause, 6, none)
theorem ok_X3_paintClause : okV mX3_paintClause 4 := ⟨⟨gw_in 501 (by decide +kernel) (by decide +kernel), gw_in 48 (by decide +kernel) (by decide +kernel), ⟨by decide +kernel, by decide +kernel, by decide +kernel⟩, by decide, by decide +kernel⟩, gw_in 500 (by decide +kernel) (by decide +kernel), gw_in 9 (by decide +kernel) (by decide +kernel)⟩
abbrev mX3_layCoat : MM := (yX3_layCoat, cX3_layCoat, 4, none)
theorem ok_X3_layCoat : okV mX3_layCoat 1 := ⟨⟨gw_in 506 (by decide +kernel) (by decide +kernel), gw_in 48 (by decide +kernel) (by decide +kernel), ⟨by decide +kernel, by decide +kernel, by decide +kernel⟩, by decide, by decide +kernel⟩, gw_in 505 (by decide +kernel) (by decide +kernel), gw_in 10 (by decide +kernel) (by decide +kernel)⟩
abbrev mX4_init : MM := (yX4_init, cX4_init, 1, none)
theorem ok_X4_init : okM mX4_init 0 := ⟨gw_in 180 (by decide +kernel) (by decide +kernel), gw_in 47 (by decide +kernel) (by decide +kernel), ⟨by decide +kernel, by decide +kernel, by decide +kernel⟩, by decide, by decide +kernel⟩
abbrev mX4_add : MM := (yX4_add, cX4_add, 2, none)
theorem ok_X4_add : okV mX4_add 1 := ⟨⟨gw_in 374 (by decide +kernel) (by decide +kernel), gw_in 47 (by decide +kernel) (by decide +kernel), ⟨by decide +kernel, by decide +kernel, by decide +kernel⟩, by decide, by decide +kernel⟩, gw_in 372 (by decide +kernel) (by decide +kernel), gw_in 373 (by decide +kernel) (by decide +kernel)⟩
abbrev mX4_readClauses : MM := (yX4_readClauses, cX4_readClauses, 3, some .boolean)
theorem ok_X4_readClauses : okV mX4_readClauses 1 := ⟨⟨gw_in 386 (by decide +kernel) (by decide +kernel), gw_in 47 (by decide +kernel) (by decide +kernel), ⟨by decide +kernel, by decide +kernel, by decide +kernel⟩, by decide, by decide +kernel⟩, gw_in 384 (by decide +kernel) (by decide +kernel), gw_in 385 (by decide +kernel) (by decide +kernel)⟩
abbrev mX4_readClause : MM := (yX4_readClause, cX4_readClause, 5, some .boolean)
theorem ok_X4_readClause : okV mX4_readClause 1 := ⟨⟨gw_in 390 (by decide +kernel) (by decide +kernel), gw_in 47 (by decide +kernel) (by decide +kernel), ⟨by decide +kernel, by decide +kernel, by decide +kernel⟩, by decide, by decide +kernel⟩, gw_in 389 (by decide +kernel) (by decide +kernel), gw_in 1 (by decide +kernel) (by decide +kernel)⟩
abbrev mX4_readExceptions : MM := (yX4_readExceptions, cX4_readExceptions, 4, some .boolean)
theorem ok_X4_readExceptions : okV mX4_readExceptions 2 := ⟨⟨gw_in 411 (by decide +kernel) (by decide +kernel), gw_in 47 (by decide +kernel) (by decide +kernel), ⟨by decide +kernel, by decide +kernel, by decide +kernel⟩, by decide, by decide +kernel⟩, gw_in 410 (by decide +kernel) (by decide +kernel), gw_in 6 (by decide +kernel) (by decide +kernel)⟩
abbrev mX4_readSpan : MM := (yX4_readSpan, cX4_readSpan, 1, some .boolean)
theorem ok_X4_readSpan : okV mX4_readSpan 0 := ⟨⟨gw_in 406 (by decide +kernel) (by decide +kernel), gw_in 47 (by decide +kernel) (by decide +kernel), ⟨by decide +kernel, by decide +kernel, by decide +kernel⟩, by decide, by decide +kernel⟩, gw_in 405 (by decide +kernel) (by decide +kernel), gw_in 5 (by decide +kernel) (by decide +kernel)⟩
abbrev mX4_readSign : MM := (yX4_readSign, cX4_readSign, 2, some .boolean)
theorem ok_X4_readSign : okV mX4_readSign 1 := ⟨⟨gw_in 402 (by decide +kernel) (by decide +kernel), gw_in 47 (by decide +kernel) (by decide +kernel), ⟨by decide +kernel, by decide +kernel, by decide +kernel⟩, by decide, by decide +kernel⟩, gw_in 401 (by decide +kernel) (by decide +kernel), gw_in 4 (by decide +kernel) (by decide +kernel)⟩
abbrev mX4_readNumber : MM := (yX4_readNumber, cX4_readNumber, 3, some .boolean)
theorem ok_X4_readNumber : okV mX4_readNumber 1 := ⟨⟨gw_in 394 (by decide +kernel) (by decide +kernel), gw_in 47 (by decide +kernel) (by decide +kernel), ⟨by decide +kernel, by decide +kernel, by decide +kernel⟩, by decide, by decide +kernel⟩, gw_in 393 (by decide +kernel) (by decide +kernel), gw_in 2 (by decide +kernel) (by decide +kernel)⟩
abbrev mX4_digitHere : MM := (yX4_digitHere, cX4_digitHere, 2, some .int)
theorem ok_X4_digitHere : okV mX4_digitHere 0 := ⟨⟨gw_in 398 (by decide +kernel) (by decide +kernel), gw_in 47 (by decide +kernel) (by decide +kernel), ⟨by decide +kernel, by decide +kernel, by decide +kernel⟩, by decide, by decide +kernel⟩, gw_in 397 (by decide +kernel) (by decide +kernel), gw_in 3 (by decide +kernel) (by decide +kernel)⟩
abbrev mX5_init : MM := (yX5_init, cX5_init, 2, none)
theorem ok_X5_init : okM mX5_init 0 := ⟨gw_in 57 (by decide +kernel) (by decide +kernel), gw_in 43 (by decide +kernel) (by decide +kernel), ⟨by decide +kernel, by decide +kernel, by decide +kernel⟩, by decide, by decide +kernel⟩
abbrev mX5_setReach : MM := (yX5_setReach, cX5_setReach, 6, some .int)
theorem ok_X5_setReach : okV mX5_setReach 3 := ⟨⟨gw_in 254 (by decide +kernel) (by decide +kernel), gw_in 43 (by decide +kernel) (by decide +kernel), ⟨by decide +kernel, by decide +kernel, by decide +kernel⟩, by decide, by decide +kernel⟩, gw_in 252 (by decide +kernel) (by decide +kernel), gw_in 253 (by decide +kernel) (by decide +kernel)⟩
abbrev mX5_exchange : MM := (yX5_exchange, cX5_exchange, 4, some .int)
theorem ok_X5_exchange : okV mX5_exchange 2 := ⟨⟨gw_in 286 (by decide +kernel) (by decide +kernel), gw_in 43 (by decide +kernel) (by decide +kernel), ⟨by decide +kernel, by decide +kernel, by decide +kernel⟩, by decide, by decide +kernel⟩, gw_in 284 (by decide +kernel) (by decide +kernel), gw_in 285 (by decide +kernel) (by decide +kernel)⟩
abbrev mX5_write : MM := (yX5_write, cX5_write, 6, some .int)
theorem ok_X5_write : okV mX5_write 5 := ⟨⟨gw_in 290 (by decide +kernel) (by decide +kernel), gw_in 43 (by decide +kernel) (by decide +kernel), ⟨by decide +kernel, by decide +kernel, by decide +kernel⟩, by decide, by decide +kernel⟩, gw_in 288 (by decide +kernel) (by decide +kernel), gw_in 289 (by decide +kernel) (by decide +kernel)⟩
abbrev mX5_except : MM := (yX5_except, cX5_except, 4, some .int)
theorem ok_X5_except : okV mX5_except 3 := ⟨⟨gw_in 301 (by decide +kernel) (by decide +kernel), gw_in 43 (by decide +kernel) (by decide +kernel), ⟨by decide +kernel, by decide +kernel, by decide +kernel⟩, by decide, by decide +kernel⟩, gw_in 299 (by decide +kernel) (by decide +kernel), gw_in 300 (by decide +kernel) (by decide +kernel)⟩
abbrev mX5_end : MM := (yX5_end, cX5_end, 4, some .int)
theorem ok_X5_end : okV mX5_end 2 := ⟨⟨gw_in 315 (by decide +kernel) (by decide +kernel), gw_in 43 (by decide +kernel) (by decide +kernel), ⟨by decide +kernel, by decide +kernel, by decide +kernel⟩, by decide, by decide +kernel⟩, gw_in 313 (by decide +kernel) (by decide +kernel), gw_in 314 (by decide +kernel) (by decide +kernel)⟩
abbrev mX5_setDay : MM := (yX5_setDay, cX5_setDay, 3, some .int)
theorem ok_X5_setDay : okV mX5_setDay 1 := ⟨⟨gw_in 319 (by decide +kernel) (by decide +kernel), gw_in 43 (by decide +kernel) (by decide +kernel), ⟨by decide +kernel, by decide +kernel, by decide +kernel⟩, by decide, by decide +kernel⟩, gw_in 317 (by decide +kernel) (by decide +kernel), gw_in 318 (by decide +kernel) (by decide +kernel)⟩
abbrev mX5_type : MM := (yX5_type, cX5_type, 2, some .int)
theorem ok_X5_type : okV mX5_type 1 := ⟨⟨gw_in 370 (by decide +kernel) (by decide +kernel), gw_in 43 (by decide +kernel) (by decide +kernel), ⟨by decide +kernel, by decide +kernel, by decide +kernel⟩, by decide, by decide +kernel⟩, gw_in 368 (by decide +kernel) (by decide +kernel), gw_in 369 (by decide +kernel) (by decide +kernel)⟩
abbrev mX5_clearText : MM := (yX5_clearText, cX5_clearText, 2, some .int)
theorem ok_X5_clearText : okV mX5_clearText 0 := ⟨⟨gw_in 378 (by decide +kernel) (by decide +kernel), gw_in 43 (by decide +kernel) (by decide +kernel), ⟨by decide +kernel, by decide +kernel, by decide +kernel⟩, by decide, by decide +kernel⟩, gw_in 376 (by decide +kernel) (by decide +kernel), gw_in 377 (by decide +kernel) (by decide +kernel)⟩
abbrev mX5_writeAll : MM := (yX5_writeAll, cX5_writeAll, 1, some .int)
theorem ok_X5_writeAll : okV mX5_writeAll 0 := ⟨⟨gw_in 382 (by decide +kernel) (by decide +kernel), gw_in 43 (by decide +kernel) (by decide +kernel), ⟨by decide +kernel, by decide +kernel, by decide +kernel⟩, by decide, by decide +kernel⟩, gw_in 380 (by decide +kernel) (by decide +kernel), gw_in 381 (by decide +kernel) (by decide +kernel)⟩
abbrev mX5_undo : MM := (yX5_undo, cX5_undo, 1, some .int)
theorem ok_X5_undo : okV mX5_undo 0 := ⟨⟨gw_in 426 (by decide +kernel) (by decide +kernel), gw_in 43 (by decide +kernel) (by decide +kernel), ⟨by decide +kernel, by decide +kernel, by decide +kernel⟩, by decide, by decide +kernel⟩, gw_in 424 (by decide +kernel) (by decide +kernel), gw_in 425 (by decide +kernel) (by decide +kernel)⟩
abbrev mX5_keep : MM := (yX5_keep, cX5_keep, 1, some .int)
theorem ok_X5_keep : okV mX5_keep 0 := ⟨⟨gw_in 430 (by decide +kernel) (by decide +kernel), gw_in 43 (by decide +kernel) (by decide +kernel), ⟨by decide +kernel, by decide +kernel, by decide +kernel⟩, by decide, by decide +kernel⟩, gw_in 428 (by decide +kernel) (by decide +kernel), gw_in 429 (by decide +kernel) (by decide +kernel)⟩
abbrev mX5_restore : MM := (yX5_restore, cX5_restore, 1, some .int)
theorem ok_X5_restore : okV mX5_restore 0 := ⟨⟨gw_in 434 (by decide +kernel) (by decide +kernel), gw_in 43 (by decide +kernel) (by decide +kernel), ⟨by decide +kernel, by decide +kernel, by decide +kernel⟩, by decide, by decide +kernel⟩, gw_in 432 (by decide +kernel) (by decide +kernel), gw_in 433 (by decide +kernel) (by decide +kernel)⟩
abbrev mX5_chapter : MM := (yX5_chapter, cX5_chapter, 3, some .int)
theorem ok_X5_chapter : okV mX5_chapter 2 := ⟨⟨gw_in 438 (by decide +kernel) (by decide +kernel), gw_in 43 (by decide +kernel) (by decide +kernel), ⟨by decide +kernel, by decide +kernel, by decide +kernel⟩, by decide, by decide +kernel⟩, gw_in 436 (by decide +kernel) (by decide +kernel), gw_in 437 (by decide +kernel) (by decide +kernel)⟩
abbrev mX5_clause : MM := (yX5_clause, cX5_clause, 4, some .int)
theorem ok_X5_clause : okV mX5_clause 2 := ⟨⟨gw_in 459 (by decide +kernel) (by decide +kernel), gw_in 43 (by decide +kernel) (by decide +kernel), ⟨by decide +kernel, by decide +kernel, by decide +kernel⟩, by decide, by decide +kernel⟩, gw_in 457 (by decide +kernel) (by decide +kernel), gw_in 458 (by decide +kernel) (by decide +kernel)⟩
abbrev mX5_ruling : MM := (yX5_ruling, cX5_ruling, 5, some .int)
theorem ok_X5_ruling : okV mX5_ruling 3 := ⟨⟨gw_in 472 (by decide +kernel) (by decide +kernel), gw_in 43 (by decide +kernel) (by decide +kernel), ⟨by decide +kernel, by decide +kernel, by decide +kernel⟩, by decide, by decide +kernel⟩, gw_in 470 (by decide +kernel) (by decide +kernel), gw_in 471 (by decide +kernel) (by decide +kernel)⟩
abbrev mX5_painted : MM := (yX5_painted, cX5_painted, 4, some .int)
theorem ok_X5_painted : okV mX5_painted 2 := ⟨⟨gw_in 477 (by decide +kernel) (by decide +kernel), gw_in 43 (by decide +kernel) (by decide +kernel), ⟨by decide +kernel, by decide +kernel, by decide +kernel⟩, by decide, by decide +kernel⟩, gw_in 475 (by decide +kernel) (by decide +kernel), gw_in 476 (by decide +kernel) (by decide +kernel)⟩
abbrev mX5_silencedBy : MM := (yX5_silencedBy, cX5_silencedBy, 5, some .int)
theorem ok_X5_silencedBy : okV mX5_silencedBy 3 := ⟨⟨gw_in 511 (by decide +kernel) (by decide +kernel), gw_in 43 (by decide +kernel) (by decide +kernel), ⟨by decide +kernel, by decide +kernel, by decide +kernel⟩, by decide, by decide +kernel⟩, gw_in 509 (by decide +kernel) (by decide +kernel), gw_in 510 (by decide +kernel) (by decide +kernel)⟩
abbrev mX5_reason : MM := (yX5_reason, cX5_reason, 4, some .int)
theorem ok_X5_reason : okV mX5_reason 3 := ⟨⟨gw_in 519 (by decide +kernel) (by decide +kernel), gw_in 43 (by decide +kernel) (by decide +kernel), ⟨by decide +kernel, by decide +kernel, by decide +kernel⟩, by decide, by decide +kernel⟩, gw_in 517 (by decide +kernel) (by decide +kernel), gw_in 518 (by decide +kernel) (by decide +kernel)⟩
abbrev mX5_changesOn : MM := (yX5_changesOn, cX5_changesOn, 3, some .int)
theorem ok_X5_changesOn : okV mX5_changesOn 2 := ⟨⟨gw_in 530 (by decide +kernel) (by decide +kernel), gw_in 43 (by decide +kernel) (by decide +kernel), ⟨by decide +kernel, by decide +kernel, by decide +kernel⟩, by decide, by decide +kernel⟩, gw_in 528 (by decide +kernel) (by decide +kernel), gw_in 529 (by decide +kernel) (by decide +kernel)⟩
abbrev mX5_unlike : MM := (yX5_unlike, cX5_unlike, 3, some .int)
theorem ok_X5_unlike : okV mX5_unlike 2 := ⟨⟨gw_in 543 (by decide +kernel) (by decide +kernel), gw_in 43 (by decide +kernel) (by decide +kernel), ⟨by decide +kernel, by decide +kernel, by decide +kernel⟩, by decide, by decide +kernel⟩, gw_in 541 (by decide +kernel) (by decide +kernel), gw_in 542 (by decide +kernel) (by decide +kernel)⟩
abbrev mX5_idle : MM := (yX5_idle, cX5_idle, 2, some .int)
theorem ok_X5_idle : okV mX5_idle 0 := ⟨⟨gw_in 551 (by decide +kernel) (by decide +kernel), gw_in 43 (by decide +kernel) (by decide +kernel), ⟨by decide +kernel, by decide +kernel, by decide +kernel⟩, by decide, by decide +kernel⟩, gw_in 549 (by decide +kernel) (by decide +kernel), gw_in 550 (by decide +kernel) (by decide +kernel)⟩
abbrev mX5_ifGone : MM := (yX5_ifGone, cX5_ifGone, 2, some .int)
theorem ok_X5_ifGone : okV mX5_ifGone 1 := ⟨⟨gw_in 559 (by decide +kernel) (by decide +kernel), gw_in 43 (by decide +kernel) (by decide +kernel), ⟨by decide +kernel, by decide +kernel, by decide +kernel⟩, by decide, by decide +kernel⟩, gw_in 557 (by decide +kernel) (by decide +kernel), gw_in 558 (by decide +kernel) (by decide +kernel)⟩
abbrev mX5_weightiest : MM := (yX5_weightiest, cX5_weightiest, 2, some .int)
theorem ok_X5_weightiest : okV mX5_weightiest 0 := ⟨⟨gw_in 571 (by decide +kernel) (by decide +kernel), gw_in 43 (by decide +kernel) (by decide +kernel), ⟨by decide +kernel, by decide +kernel, by decide +kernel⟩, by decide, by decide +kernel⟩, gw_in 569 (by decide +kernel) (by decide +kernel), gw_in 570 (by decide +kernel) (by decide +kernel)⟩
abbrev mX5_count : MM := (yX5_count, cX5_count, 2, some .int)
theorem ok_X5_count : okV mX5_count 1 := ⟨⟨gw_in 579 (by decide +kernel) (by decide +kernel), gw_in 43 (by decide +kernel) (by decide +kernel), ⟨by decide +kernel, by decide +kernel, by decide +kernel⟩, by decide, by decide +kernel⟩, gw_in 577 (by decide +kernel) (by decide +kernel), gw_in 578 (by decide +kernel) (by decide +kernel)⟩
abbrev mX5_isBelow : MM := (yX5_isBelow, cX5_isBelow, 2, some .boolean)
theorem ok_X5_isBelow : okS mX5_isBelow 2 := ⟨⟨gw_in 260 (by decide +kernel) (by decide +kernel), gw_in 43 (by decide +kernel) (by decide +kernel), ⟨by decide +kernel, by decide +kernel, by decide +kernel⟩, by decide, by decide +kernel⟩, gw_in 259 (by decide +kernel) (by decide +kernel)⟩
abbrev mX5_isChapter : MM := (yX5_isChapter, cX5_isChapter, 1, some .boolean)
theorem ok_X5_isChapter : okS mX5_isChapter 1 := ⟨⟨gw_in 257 (by decide +kernel) (by decide +kernel), gw_in 43 (by decide +kernel) (by decide +kernel), ⟨by decide +kernel, by decide +kernel, by decide +kernel⟩, by decide, by decide +kernel⟩, gw_in 256 (by decide +kernel) (by decide +kernel)⟩
abbrev mX5_isCase : MM := (yX5_isCase, cX5_isCase, 1, some .boolean)
theorem ok_X5_isCase : okS mX5_isCase 1 := ⟨⟨gw_in 266 (by decide +kernel) (by decide +kernel), gw_in 43 (by decide +kernel) (by decide +kernel), ⟨by decide +kernel, by decide +kernel, by decide +kernel⟩, by decide, by decide +kernel⟩, gw_in 265 (by decide +kernel) (by decide +kernel)⟩
abbrev mX5_isDay : MM := (yX5_isDay, cX5_isDay, 1, some .boolean)
theorem ok_X5_isDay : okS mX5_isDay 1 := ⟨⟨gw_in 293 (by decide +kernel) (by decide +kernel), gw_in 43 (by decide +kernel) (by decide +kernel), ⟨by decide +kernel, by decide +kernel, by decide +kernel⟩, by decide, by decide +kernel⟩, gw_in 292 (by decide +kernel) (by decide +kernel)⟩
abbrev mX5_isSpan : MM := (yX5_isSpan, cX5_isSpan, 2, some .boolean)
theorem ok_X5_isSpan : okS mX5_isSpan 2 := ⟨⟨gw_in 263 (by decide +kernel) (by decide +kernel), gw_in 43 (by decide +kernel) (by decide +kernel), ⟨by decide +kernel, by decide +kernel, by decide +kernel⟩, by decide, by decide +kernel⟩, gw_in 262 (by decide +kernel) (by decide +kernel)⟩
abbrev mX5_record : MM := (yX5_record, cX5_record, 3, none)
theorem ok_X5_record : okV mX5_record 0 := ⟨⟨gw_in 270 (by decide +kernel) (by decide +kernel), gw_in 43 (by decide +kernel) (by decide +kernel), ⟨by decide +kernel, by decide +kernel, by decide +kernel⟩, by decide, by decide +kernel⟩, gw_in 269 (by decide +kernel) (by decide +kernel), gw_in 0 (by decide +kernel) (by decide +kernel)⟩
abbrev mX6_init : MM := (yX6_init, cX6_init, 2, none)
theorem ok_X6_init : okM mX6_init 0 := ⟨gw_in 605 (by decide +kernel) (by decide +kernel), gw_in 49 (by decide +kernel) (by decide +kernel), ⟨by decide +kernel, by decide +kernel, by decide +kernel⟩, by decide, by decide +kernel⟩
abbrev mX6_in : MM := (yX6_in, cX6_in, 3, some .boolean)
theorem ok_X6_in : okS mX6_in 3 := ⟨⟨gw_in 662 (by decide +kernel) (by decide +kernel), gw_in 49 (by decide +kernel) (by decide +kernel), ⟨by decide +kernel, by decide +kernel, by decide +kernel⟩, by decide, by decide +kernel⟩, gw_in 661 (by decide +kernel) (by decide +kernel)⟩
abbrev mX6_isChapter : MM := (yX6_isChapter, cX6_isChapter, 1, some .boolean)
theorem ok_X6_isChapter : okS mX6_isChapter 1 := ⟨⟨gw_in 659 (by decide +kernel) (by decide +kernel), gw_in 49 (by decide +kernel) (by decide +kernel), ⟨by decide +kernel, by decide +kernel, by decide +kernel⟩, by decide, by decide +kernel⟩, gw_in 658 (by decide +kernel) (by decide +kernel)⟩
abbrev mX6_isCase : MM := (yX6_isCase, cX6_isCase, 1, some .boolean)
theorem ok_X6_isCase : okS mX6_isCase 1 := ⟨⟨gw_in 668 (by decide +kernel) (by decide +kernel), gw_in 49 (by decide +kernel) (by decide +kernel), ⟨by decide +kernel, by decide +kernel, by decide +kernel⟩, by decide, by decide +kernel⟩, gw_in 667 (by decide +kernel) (by decide +kernel)⟩
abbrev mX6_isDay : MM := (yX6_isDay, cX6_isDay, 1, some .boolean)
theorem ok_X6_isDay : okS mX6_isDay 1 := ⟨⟨gw_in 683 (by decide +kernel) (by decide +kernel), gw_in 49 (by decide +kernel) (by decide +kernel), ⟨by decide +kernel, by decide +kernel, by decide +kernel⟩, by decide, by decide +kernel⟩, gw_in 682 (by decide +kernel) (by decide +kernel)⟩
abbrev mX6_isSpan : MM := (yX6_isSpan, cX6_isSpan, 2, some .boolean)
theorem ok_X6_isSpan : okS mX6_isSpan 2 := ⟨⟨gw_in 665 (by decide +kernel) (by decide +kernel), gw_in 49 (by decide +kernel) (by decide +kernel), ⟨by decide +kernel, by decide +kernel, by decide +kernel⟩, by decide, by decide +kernel⟩, gw_in 664 (by decide +kernel) (by decide +kernel)⟩
abbrev mX6_isClause : MM := (yX6_isClause, cX6_isClause, 2, some .boolean)
theorem ok_X6_isClause : okV mX6_isClause 1 := ⟨⟨gw_in 698 (by decide +kernel) (by decide +kernel), gw_in 49 (by decide +kernel) (by decide +kernel), ⟨by decide +kernel, by decide +kernel, by decide +kernel⟩, by decide, by decide +kernel⟩, gw_in 697 (by decide +kernel) (by decide +kernel), gw_in 13 (by decide +kernel) (by decide +kernel)⟩
abbrev mX6_ofChapter : MM := (yX6_ofChapter, cX6_ofChapter, 2, some .int)
theorem ok_X6_ofChapter : okS mX6_ofChapter 2 := ⟨⟨gw_in 609 (by decide +kernel) (by decide +kernel), gw_in 49 (by decide +kernel) (by decide +kernel), ⟨by decide +kernel, by decide +kernel, by decide +kernel⟩, by decide, by decide +kernel⟩, gw_in 608 (by decide +kernel) (by decide +kernel)⟩
abbrev mX6_of : MM := (yX6_of, cX6_of, 2, some .int)
theorem ok_X6_of : okS mX6_of 2 := ⟨⟨gw_in 690 (by decide +kernel) (by decide +kernel), gw_in 49 (by decide +kernel) (by decide +kernel), ⟨by decide +kernel, by decide +kernel, by decide +kernel⟩, by decide, by decide +kernel⟩, gw_in 689 (by decide +kernel) (by decide +kernel)⟩
abbrev mX6_get : MM := (yX6_get, cX6_get, 3, some .int)
theorem ok_X6_get : okV mX6_get 2 := ⟨⟨gw_in 702 (by decide +kernel) (by decide +kernel), gw_in 49 (by decide +kernel) (by decide +kernel), ⟨by decide +kernel, by decide +kernel, by decide +kernel⟩, by decide, by decide +kernel⟩, gw_in 701 (by decide +kernel) (by decide +kernel), gw_in 14 (by decide +kernel) (by decide +kernel)⟩
abbrev mX6_record : MM := (yX6_record, cX6_record, 2, none)
theorem ok_X6_record : okV mX6_record 0 := ⟨⟨gw_in 672 (by decide +kernel) (by decide +kernel), gw_in 49 (by decide +kernel) (by decide +kernel), ⟨by decide +kernel, by decide +kernel, by decide +kernel⟩, by decide, by decide +kernel⟩, gw_in 671 (by decide +kernel) (by decide +kernel), gw_in 11 (by decide +kernel) (by decide +kernel)⟩
abbrev mX6_isInForce : MM := (yX6_isInForce, cX6_isInForce, 3, some .boolean)
theorem ok_X6_isInForce : okV mX6_isInForce 2 := ⟨⟨gw_in 738 (by decide +kernel) (by decide +kernel), gw_in 49 (by decide +kernel) (by decide +kernel), ⟨by decide +kernel, by decide +kernel, by decide +kernel⟩, by decide, by decide +kernel⟩, gw_in 737 (by decide +kernel) (by decide +kernel), gw_in 21 (by decide +kernel) (by decide +kernel)⟩
abbrev mX6_reaches : MM := (yX6_reaches, cX6_reaches, 3, some .boolean)
theorem ok_X6_reaches : okV mX6_reaches 2 := ⟨⟨gw_in 746 (by decide +kernel) (by decide +kernel), gw_in 49 (by decide +kernel) (by decide +kernel), ⟨by decide +kernel, by decide +kernel, by decide +kernel⟩, by decide, by decide +kernel⟩, gw_in 745 (by decide +kernel) (by decide +kernel), gw_in 23 (by decide +kernel) (by decide +kernel)⟩
abbrev mX6_isExcepted : MM := (yX6_isExcepted, cX6_isExcepted, 5, some .boolean)
theorem ok_X6_isExcepted : okV mX6_isExcepted 2 := ⟨⟨gw_in 750 (by decide +kernel) (by decide +kernel), gw_in 49 (by decide +kernel) (by decide +kernel), ⟨by decide +kernel, by decide +kernel, by decide +kernel⟩, by decide, by decide +kernel⟩, gw_in 749 (by decide +kernel) (by decide +kernel), gw_in 24 (by decide +kernel) (by decide +kernel)⟩
abbrev mX6_meets : MM := (yX6_meets, cX6_meets, 3, some .boolean)
theorem ok_X6_meets : okV mX6_meets 2 := ⟨⟨gw_in 742 (by decide +kernel) (by decide +kernel), gw_in 49 (by decide +kernel) (by decide +kernel), ⟨by decide +kernel, by decide +kernel, by decide +kernel⟩, by decide, by decide +kernel⟩, gw_in 741 (by decide +kernel) (by decide +kernel), gw_in 22 (by decide +kernel) (by decide +kernel)⟩
abbrev mX6_latestOf : MM := (yX6_latestOf, cX6_latestOf, 8, some .int)
theorem ok_X6_latestOf : okV mX6_latestOf 4 := ⟨⟨gw_in 734 (by decide +kernel) (by decide +kernel), gw_in 49 (by decide +kernel) (by decide +kernel), ⟨by decide +kernel, by decide +kernel, by decide +kernel⟩, by decide, by decide +kernel⟩, gw_in 733 (by decide +kernel) (by decide +kernel), gw_in 20 (by decide +kernel) (by decide +kernel)⟩
abbrev mX6_speaksIn : MM := (yX6_speaksIn, cX6_speaksIn, 6, some .int)
theorem ok_X6_speaksIn : okV mX6_speaksIn 4 := ⟨⟨gw_in 730 (by decide +kernel) (by decide +kernel), gw_in 49 (by decide +kernel) (by decide +kernel), ⟨by decide +kernel, by decide +kernel, by decide +kernel⟩, by decide, by decide +kernel⟩, gw_in 729 (by decide +kernel) (by decide +kernel), gw_in 19 (by decide +kernel) (by decide +kernel)⟩
abbrev mX6_rules : MM := (yX6_rules, cX6_rules, 9, some .int)
theorem ok_X6_rules : okV mX6_rules 3 := ⟨⟨gw_in 726 (by decide +kernel) (by decide +kernel), gw_in 49 (by decide +kernel) (by decide +kernel), ⟨by decide +kernel, by decide +kernel, by decide +kernel⟩, by decide, by decide +kernel⟩, gw_in 725 (by decide +kernel) (by decide +kernel), gw_in 18 (by decide +kernel) (by decide +kernel)⟩
abbrev mX6_worksOut : MM := (yX6_worksOut, cX6_worksOut, 3, none)
theorem ok_X6_worksOut : okV mX6_worksOut 1 := ⟨⟨gw_in 722 (by decide +kernel) (by decide +kernel), gw_in 49 (by decide +kernel) (by decide +kernel), ⟨by decide +kernel, by decide +kernel, by decide +kernel⟩, by decide, by decide +kernel⟩, gw_in 721 (by decide +kernel) (by decide +kernel), gw_in 17 (by decide +kernel) (by decide +kernel)⟩
abbrev mX6_putAside : MM := (yX6_putAside, cX6_putAside, 2, none)
theorem ok_X6_putAside : okV mX6_putAside 0 := ⟨⟨gw_in 718 (by decide +kernel) (by decide +kernel), gw_in 49 (by decide +kernel) (by decide +kernel), ⟨by decide +kernel, by decide +kernel, by decide +kernel⟩, by decide, by decide +kernel⟩, gw_in 717 (by decide +kernel) (by decide +kernel), gw_in 16 (by decide +kernel) (by decide +kernel)⟩
abbrev mX6_changed : MM := (yX6_changed, cX6_changed, 3, some .int)
theorem ok_X6_changed : okV mX6_changed 0 := ⟨⟨gw_in 754 (by decide +kernel) (by decide +kernel), gw_in 49 (by decide +kernel) (by decide +kernel), ⟨by decide +kernel, by decide +kernel, by decide +kernel⟩, by decide, by decide +kernel⟩, gw_in 753 (by decide +kernel) (by decide +kernel), gw_in 25 (by decide +kernel) (by decide +kernel)⟩
abbrev mX6_setReach : MM := (yX6_setReach, cX6_setReach, 6, some .int)
theorem ok_X6_setReach : okV mX6_setReach 3 := ⟨⟨gw_in 656 (by decide +kernel) (by decide +kernel), gw_in 49 (by decide +kernel) (by decide +kernel), ⟨by decide +kernel, by decide +kernel, by decide +kernel⟩, by decide, by decide +kernel⟩, gw_in 654 (by decide +kernel) (by decide +kernel), gw_in 655 (by decide +kernel) (by decide +kernel)⟩
abbrev mX6_exchange : MM := (yX6_exchange, cX6_exchange, 4, some .int)
theorem ok_X6_exchange : okV mX6_exchange 2 := ⟨⟨gw_in 676 (by decide +kernel) (by decide +kernel), gw_in 49 (by decide +kernel) (by decide +kernel), ⟨by decide +kernel, by decide +kernel, by decide +kernel⟩, by decide, by decide +kernel⟩, gw_in 674 (by decide +kernel) (by decide +kernel), gw_in 675 (by decide +kernel) (by decide +kernel)⟩
abbrev mX6_writes : MM := (yX6_writes, cX6_writes, 7, none)
theorem ok_X6_writes : okV mX6_writes 5 := ⟨⟨gw_in 687 (by decide +kernel) (by decide +kernel), gw_in 49 (by decide +kernel) (by decide +kernel), ⟨by decide +kernel, by decide +kernel, by decide +kernel⟩, by decide, by decide +kernel⟩, gw_in 686 (by decide +kernel) (by decide +kernel), gw_in 12 (by decide +kernel) (by decide +kernel)⟩
abbrev mX6_excepts : MM := (yX6_excepts, cX6_excepts, 5, some .int)
theorem ok_X6_excepts : okV mX6_excepts 3 := ⟨⟨gw_in 706 (by decide +kernel) (by decide +kernel), gw_in 49 (by decide +kernel) (by decide +kernel), ⟨by decide +kernel, by decide +kernel, by decide +kernel⟩, by decide, by decide +kernel⟩, gw_in 705 (by decide +kernel) (by decide +kernel), gw_in 15 (by decide +kernel) (by decide +kernel)⟩
abbrev mX6_write : MM := (yX6_write, cX6_write, 6, some .int)
theorem ok_X6_write : okV mX6_write 5 := ⟨⟨gw_in 680 (by decide +kernel) (by decide +kernel), gw_in 49 (by decide +kernel) (by decide +kernel), ⟨by decide +kernel, by decide +kernel, by decide +kernel⟩, by decide, by decide +kernel⟩, gw_in 678 (by decide +kernel) (by decide +kernel), gw_in 679 (by decide +kernel) (by decide +kernel)⟩
abbrev mX6_except : MM := (yX6_except, cX6_except, 4, some .int)
theorem ok_X6_except : okV mX6_except 3 := ⟨⟨gw_in 694 (by decide +kernel) (by decide +kernel), gw_in 49 (by decide +kernel) (by decide +kernel), ⟨by decide +kernel, by decide +kernel, by decide +kernel⟩, by decide, by decide +kernel⟩, gw_in 692 (by decide +kernel) (by decide +kernel), gw_in 693 (by decide +kernel) (by decide +kernel)⟩
abbrev mX6_end : MM := (yX6_end, cX6_end, 4, some .int)
theorem ok_X6_end : okV mX6_end 2 := ⟨⟨gw_in 710 (by decide +kernel) (by decide +kernel), gw_in 49 (by decide +kernel) (by decide +kernel), ⟨by decide +kernel, by decide +kernel, by decide +kernel⟩, by decide, by decide +kernel⟩, gw_in 708 (by decide +kernel) (by decide +kernel), gw_in 709 (by decide +kernel) (by decide +kernel)⟩
abbrev mX6_setDay : MM := (yX6_setDay, cX6_setDay, 2, some .int)
theorem ok_X6_setDay : okV mX6_setDay 1 := ⟨⟨gw_in 714 (by decide +kernel) (by decide +kernel), gw_in 49 (by decide +kernel) (by decide +kernel), ⟨by decide +kernel, by decide +kernel, by decide +kernel⟩, by decide, by decide +kernel⟩, gw_in 712 (by decide +kernel) (by decide +kernel), gw_in 713 (by decide +kernel) (by decide +kernel)⟩
abbrev mX6_type : MM := (yX6_type, cX6_type, 2, some .int)
theorem ok_X6_type : okV mX6_type 1 := ⟨⟨gw_in 758 (by decide +kernel) (by decide +kernel), gw_in 49 (by decide +kernel) (by decide +kernel), ⟨by decide +kernel, by decide +kernel, by decide +kernel⟩, by decide, by decide +kernel⟩, gw_in 756 (by decide +kernel) (by decide +kernel), gw_in 757 (by decide +kernel) (by decide +kernel)⟩
abbrev mX6_clearText : MM := (yX6_clearText, cX6_clearText, 2, some .int)
theorem ok_X6_clearText : okV mX6_clearText 0 := ⟨⟨gw_in 762 (by decide +kernel) (by decide +kernel), gw_in 49 (by decide +kernel) (by decide +kernel), ⟨by decide +kernel, by decide +kernel, by decide +kernel⟩, by decide, by decide +kernel⟩, gw_in 760 (by decide +kernel) (by decide +kernel), gw_in 761 (by decide +kernel) (by decide +kernel)⟩
abbrev mX6_isNext : MM := (yX6_isNext, cX6_isNext, 3, some .boolean)
theorem ok_X6_isNext : okV mX6_isNext 2 := ⟨⟨gw_in 782 (by decide +kernel) (by decide +kernel), gw_in 49 (by decide +kernel) (by decide +kernel), ⟨by decide +kernel, by decide +kernel, by decide +kernel⟩, by decide, by decide +kernel⟩, gw_in 781 (by decide +kernel) (by decide +kernel), gw_in 29 (by decide +kernel) (by decide +kernel)⟩
abbrev mX6_takes : MM := (yX6_takes, cX6_takes, 5, some .int)
theorem ok_X6_takes : okV mX6_takes 2 := ⟨⟨gw_in 778 (by decide +kernel) (by decide +kernel), gw_in 49 (by decide +kernel) (by decide +kernel), ⟨by decide +kernel, by decide +kernel, by decide +kernel⟩, by decide, by decide +kernel⟩, gw_in 777 (by decide +kernel) (by decide +kernel), gw_in 28 (by decide +kernel) (by decide +kernel)⟩
abbrev mX6_number : MM := (yX6_number, cX6_number, 3, some .int)
theorem ok_X6_number : okV mX6_number 1 := ⟨⟨gw_in 786 (by decide +kernel) (by decide +kernel), gw_in 49 (by decide +kernel) (by decide +kernel), ⟨by decide +kernel, by decide +kernel, by decide +kernel⟩, by decide, by decide +kernel⟩, gw_in 785 (by decide +kernel) (by decide +kernel), gw_in 30 (by decide +kernel) (by decide +kernel)⟩
abbrev mX6_readSpan : MM := (yX6_readSpan, cX6_readSpan, 2, none)
theorem ok_X6_readSpan : okV mX6_readSpan 0 := ⟨⟨gw_in 790 (by decide +kernel) (by decide +kernel), gw_in 49 (by decide +kernel) (by decide +kernel), ⟨by decide +kernel, by decide +kernel, by decide +kernel⟩, by decide, by decide +kernel⟩, gw_in 789 (by decide +kernel) (by decide +kernel), gw_in 31 (by decide +kernel) (by decide +kernel)⟩
abbrev mX6_readClause : MM := (yX6_readClause, cX6_readClause, 11, none)
theorem ok_X6_readClause : okV mX6_readClause 1 := ⟨⟨gw_in 774 (by decide +kernel) (by decide +kernel), gw_in 49 (by decide +kernel) (by decide +kernel), ⟨by decide +kernel, by decide +kernel, by decide +kernel⟩, by decide, by decide +kernel⟩, gw_in 773 (by decide +kernel) (by decide +kernel), gw_in 27 (by decide +kernel) (by decide +kernel)⟩
abbrev mX6_reads : MM := (yX6_reads, cX6_reads, 5, some .int)
theorem ok_X6_reads : okV mX6_reads 1 := ⟨⟨gw_in 770 (by decide +kernel) (by decide +kernel), gw_in 49 (by decide +kernel) (by decide +kernel), ⟨by decide +kernel, by decide +kernel, by decide +kernel⟩, by decide, by decide +kernel⟩, gw_in 769 (by decide +kernel) (by decide +kernel), gw_in 26 (by decide +kernel) (by decide +kernel)⟩
abbrev mX6_writeAll : MM := (yX6_writeAll, cX6_writeAll, 2, some .int)
theorem ok_X6_writeAll : okV mX6_writeAll 0 := ⟨⟨gw_in 766 (by decide +kernel) (by decide +kernel), gw_in 49 (by decide +kernel) (by decide +kernel), ⟨by decide +kernel, by decide +kernel, by decide +kernel⟩, by decide, by decide +kernel⟩, gw_in 764 (by decide +kernel) (by decide +kernel), gw_in 765 (by decide +kernel) (by decide +kernel)⟩
abbrev mX6_undo : MM := (yX6_undo, cX6_undo, 2, some .int)
theorem ok_X6_undo : okV mX6_undo 0 := ⟨⟨gw_in 794 (by decide +kernel) (by decide +kernel), gw_in 49 (by decide +kernel) (by decide +kernel), ⟨by decide +kernel, by decide +kernel, by decide +kernel⟩, by decide, by decide +kernel⟩, gw_in 792 (by decide +kernel) (by decide +kernel), gw_in 793 (by decide +kernel) (by decide +kernel)⟩
abbrev mX6_keep : MM := (yX6_keep, cX6_keep, 2, some .int)
theorem ok_X6_keep : okV mX6_keep 0 := ⟨⟨gw_in 798 (by decide +kernel) (by decide +kernel), gw_in 49 (by decide +kernel) (by decide +kernel), ⟨by decide +kernel, by decide +kernel, by decide +kernel⟩, by decide, by decide +kernel⟩, gw_in 796 (by decide +kernel) (by decide +kernel), gw_in 797 (by decide +kernel) (by decide +kernel)⟩
abbrev mX6_restore : MM := (yX6_restore, cX6_restore, 2, some .int)
theorem ok_X6_restore : okV mX6_restore 0 := ⟨⟨gw_in 802 (by decide +kernel) (by decide +kernel), gw_in 49 (by decide +kernel) (by decide +kernel), ⟨by decide +kernel, by decide +kernel, by decide +kernel⟩, by decide, by decide +kernel⟩, gw_in 800 (by decide +kernel) (by decide +kernel), gw_in 801 (by decide +kernel) (by decide +kernel)⟩
abbrev mX6_clausesOf : MM := (yX6_clausesOf, cX6_clausesOf, 6, some .int)
theorem ok_X6_clausesOf : okV mX6_clausesOf 2 := ⟨⟨gw_in 810 (by decide +kernel) (by decide +kernel), gw_in 49 (by decide +kernel) (by decide +kernel), ⟨by decide +kernel, by decide +kernel, by decide +kernel⟩, by decide, by decide +kernel⟩, gw_in 809 (by decide +kernel) (by decide +kernel), gw_in 32 (by decide +kernel) (by decide +kernel)⟩
abbrev mX6_ruledIn : MM := (yX6_ruledIn, cX6_ruledIn, 4, some .int)
theorem ok_X6_ruledIn : okV mX6_ruledIn 1 := ⟨⟨gw_in 814 (by decide +kernel) (by decide +kernel), gw_in 49 (by decide +kernel) (by decide +kernel), ⟨by decide +kernel, by decide +kernel, by decide +kernel⟩, by decide, by decide +kernel⟩, gw_in 813 (by decide +kernel) (by decide +kernel), gw_in 33 (by decide +kernel) (by decide +kernel)⟩
abbrev mX6_chapter : MM := (yX6_chapter, cX6_chapter, 3, some .int)
theorem ok_X6_chapter : okV mX6_chapter 2 := ⟨⟨gw_in 806 (by decide +kernel) (by decide +kernel), gw_in 49 (by decide +kernel) (by decide +kernel), ⟨by decide +kernel, by decide +kernel, by decide +kernel⟩, by decide, by decide +kernel⟩, gw_in 804 (by decide +kernel) (by decide +kernel), gw_in 805 (by decide +kernel) (by decide +kernel)⟩
abbrev mX6_spokenBy : MM := (yX6_spokenBy, cX6_spokenBy, 4, some .int)
theorem ok_X6_spokenBy : okV mX6_spokenBy 1 := ⟨⟨gw_in 826 (by decide +kernel) (by decide +kernel), gw_in 49 (by decide +kernel) (by decide +kernel), ⟨by decide +kernel, by decide +kernel, by decide +kernel⟩, by decide, by decide +kernel⟩, gw_in 825 (by decide +kernel) (by decide +kernel), gw_in 35 (by decide +kernel) (by decide +kernel)⟩
abbrev mX6_ruledBy : MM := (yX6_ruledBy, cX6_ruledBy, 4, some .int)
theorem ok_X6_ruledBy : okV mX6_ruledBy 1 := ⟨⟨gw_in 822 (by decide +kernel) (by decide +kernel), gw_in 49 (by decide +kernel) (by decide +kernel), ⟨by decide +kernel, by decide +kernel, by decide +kernel⟩, by decide, by decide +kernel⟩, gw_in 821 (by decide +kernel) (by decide +kernel), gw_in 34 (by decide +kernel) (by decide +kernel)⟩
abbrev mX6_clause : MM := (yX6_clause, cX6_clause, 3, some .int)
theorem ok_X6_clause : okV mX6_clause 2 := ⟨⟨gw_in 818 (by decide +kernel) (by decide +kernel), gw_in 49 (by decide +kernel) (by decide +kernel), ⟨by decide +kernel, by decide +kernel, by decide +kernel⟩, by decide, by decide +kernel⟩, gw_in 816 (by decide +kernel) (by decide +kernel), gw_in 817 (by decide +kernel) (by decide +kernel)⟩
abbrev mX6_ruling : MM := (yX6_ruling, cX6_ruling, 5, some .int)
theorem ok_X6_ruling : okV mX6_ruling 3 := ⟨⟨gw_in 830 (by decide +kernel) (by decide +kernel), gw_in 49 (by decide +kernel) (by decide +kernel), ⟨by decide +kernel, by decide +kernel, by decide +kernel⟩, by decide, by decide +kernel⟩, gw_in 828 (by decide +kernel) (by decide +kernel), gw_in 829 (by decide +kernel) (by decide +kernel)⟩
abbrev mX6_painted : MM := (yX6_painted, cX6_painted, 3, some .int)
theorem ok_X6_painted : okV mX6_painted 2 := ⟨⟨gw_in 834 (by decide +kernel) (by decide +kernel), gw_in 49 (by decide +kernel) (by decide +kernel), ⟨by decide +kernel, by decide +kernel, by decide +kernel⟩, by decide, by decide +kernel⟩, gw_in 832 (by decide +kernel) (by decide +kernel), gw_in 833 (by decide +kernel) (by decide +kernel)⟩
abbrev mX6_areThere : MM := (yX6_areThere, cX6_areThere, 4, some .boolean)
theorem ok_X6_areThere : okV mX6_areThere 3 := ⟨⟨gw_in 842 (by decide +kernel) (by decide +kernel), gw_in 49 (by decide +kernel) (by decide +kernel), ⟨by decide +kernel, by decide +kernel, by decide +kernel⟩, by decide, by decide +kernel⟩, gw_in 841 (by decide +kernel) (by decide +kernel), gw_in 36 (by decide +kernel) (by decide +kernel)⟩
abbrev mX6_silencer : MM := (yX6_silencer, cX6_silencer, 5, some .int)
theorem ok_X6_silencer : okV mX6_silencer 3 := ⟨⟨gw_in 846 (by decide +kernel) (by decide +kernel), gw_in 49 (by decide +kernel) (by decide +kernel), ⟨by decide +kernel, by decide +kernel, by decide +kernel⟩, by decide, by decide +kernel⟩, gw_in 845 (by decide +kernel) (by decide +kernel), gw_in 37 (by decide +kernel) (by decide +kernel)⟩
abbrev mX6_silencedBy : MM := (yX6_silencedBy, cX6_silencedBy, 4, some .int)
theorem ok_X6_silencedBy : okV mX6_silencedBy 3 := ⟨⟨gw_in 838 (by decide +kernel) (by decide +kernel), gw_in 49 (by decide +kernel) (by decide +kernel), ⟨by decide +kernel, by decide +kernel, by decide +kernel⟩, by decide, by decide +kernel⟩, gw_in 836 (by decide +kernel) (by decide +kernel), gw_in 837 (by decide +kernel) (by decide +kernel)⟩
abbrev mX6_reason : MM := (yX6_reason, cX6_reason, 4, some .int)
theorem ok_X6_reason : okV mX6_reason 3 := ⟨⟨gw_in 850 (by decide +kernel) (by decide +kernel), gw_in 49 (by decide +kernel) (by decide +kernel), ⟨by decide +kernel, by decide +kernel, by decide +kernel⟩, by decide, by decide +kernel⟩, gw_in 848 (by decide +kernel) (by decide +kernel), gw_in 849 (by decide +kernel) (by decide +kernel)⟩
abbrev mX6_changesOn : MM := (yX6_changesOn, cX6_changesOn, 6, some .int)
theorem ok_X6_changesOn : okV mX6_changesOn 2 := ⟨⟨gw_in 854 (by decide +kernel) (by decide +kernel), gw_in 49 (by decide +kernel) (by decide +kernel), ⟨by decide +kernel, by decide +kernel, by decide +kernel⟩, by decide, by decide +kernel⟩, gw_in 852 (by decide +kernel) (by decide +kernel), gw_in 853 (by decide +kernel) (by decide +kernel)⟩
abbrev mX6_unlike : MM := (yX6_unlike, cX6_unlike, 7, some .int)
theorem ok_X6_unlike : okV mX6_unlike 2 := ⟨⟨gw_in 858 (by decide +kernel) (by decide +kernel), gw_in 49 (by decide +kernel) (by decide +kernel), ⟨by decide +kernel, by decide +kernel, by decide +kernel⟩, by decide, by decide +kernel⟩, gw_in 856 (by decide +kernel) (by decide +kernel), gw_in 857 (by decide +kernel) (by decide +kernel)⟩
abbrev mX6_ruleOn : MM := (yX6_ruleOn, cX6_ruleOn, 5, some .int)
theorem ok_X6_ruleOn : okV mX6_ruleOn 1 := ⟨⟨gw_in 866 (by decide +kernel) (by decide +kernel), gw_in 49 (by decide +kernel) (by decide +kernel), ⟨by decide +kernel, by decide +kernel, by decide +kernel⟩, by decide, by decide +kernel⟩, gw_in 865 (by decide +kernel) (by decide +kernel), gw_in 38 (by decide +kernel) (by decide +kernel)⟩
abbrev mX6_idle : MM := (yX6_idle, cX6_idle, 4, some .int)
theorem ok_X6_idle : okV mX6_idle 0 := ⟨⟨gw_in 862 (by decide +kernel) (by decide +kernel), gw_in 49 (by decide +kernel) (by decide +kernel), ⟨by decide +kernel, by decide +kernel, by decide +kernel⟩, by decide, by decide +kernel⟩, gw_in 860 (by decide +kernel) (by decide +kernel), gw_in 861 (by decide +kernel) (by decide +kernel)⟩
abbrev mX6_ifGone : MM := (yX6_ifGone, cX6_ifGone, 2, some .int)
theorem ok_X6_ifGone : okV mX6_ifGone 1 := ⟨⟨gw_in 870 (by decide +kernel) (by decide +kernel), gw_in 49 (by decide +kernel) (by decide +kernel), ⟨by decide +kernel, by decide +kernel, by decide +kernel⟩, by decide, by decide +kernel⟩, gw_in 868 (by decide +kernel) (by decide +kernel), gw_in 869 (by decide +kernel) (by decide +kernel)⟩
abbrev mX6_weightiest : MM := (yX6_weightiest, cX6_weightiest, 5, some .int)
theorem ok_X6_weightiest : okV mX6_weightiest 0 := ⟨⟨gw_in 874 (by decide +kernel) (by decide +kernel), gw_in 49 (by decide +kernel) (by decide +kernel), ⟨by decide +kernel, by decide +kernel, by decide +kernel⟩, by decide, by decide +kernel⟩, gw_in 872 (by decide +kernel) (by decide +kernel), gw_in 873 (by decide +kernel) (by decide +kernel)⟩
abbrev mX6_ruled : MM := (yX6_ruled, cX6_ruled, 1, some .int)
theorem ok_X6_ruled : okV mX6_ruled 0 := ⟨⟨gw_in 882 (by decide +kernel) (by decide +kernel), gw_in 49 (by decide +kernel) (by decide +kernel), ⟨by decide +kernel, by decide +kernel, by decide +kernel⟩, by decide, by decide +kernel⟩, gw_in 881 (by decide +kernel) (by decide +kernel), gw_in 39 (by decide +kernel) (by decide +kernel)⟩
abbrev mX6_spoken : MM := (yX6_spoken, cX6_spoken, 3, some .int)
theorem ok_X6_spoken : okV mX6_spoken 0 := ⟨⟨gw_in 886 (by decide +kernel) (by decide +kernel), gw_in 49 (by decide +kernel) (by decide +kernel), ⟨by decide +kernel, by decide +kernel, by decide +kernel⟩, by decide, by decide +kernel⟩, gw_in 885 (by decide +kernel) (by decide +kernel), gw_in 40 (by decide +kernel) (by decide +kernel)⟩
abbrev mX6_allOf : MM := (yX6_allOf, cX6_allOf, 4, some .int)
theorem ok_X6_allOf : okV mX6_allOf 1 := ⟨⟨gw_in 890 (by decide +kernel) (by decide +kernel), gw_in 49 (by decide +kernel) (by decide +kernel), ⟨by decide +kernel, by decide +kernel, by decide +kernel⟩, by decide, by decide +kernel⟩, gw_in 889 (by decide +kernel) (by decide +kernel), gw_in 41 (by decide +kernel) (by decide +kernel)⟩
abbrev mX6_count : MM := (yX6_count, cX6_count, 2, some .int)
theorem ok_X6_count : okV mX6_count 1 := ⟨⟨gw_in 878 (by decide +kernel) (by decide +kernel), gw_in 49 (by decide +kernel) (by decide +kernel), ⟨by decide +kernel, by decide +kernel, by decide +kernel⟩, by decide, by decide +kernel⟩, gw_in 876 (by decide +kernel) (by decide +kernel), gw_in 877 (by decide +kernel) (by decide +kernel)⟩
abbrev mJ7_fill_53178 : MM := (yJ7_fill_53178, cJ7_fill_53178, 4, none)
theorem ok_J7_fill_53178 : okS mJ7_fill_53178 2 := ⟨⟨gw_in 334 (by decide +kernel) (by decide +kernel), gw_in 51 (by decide +kernel) (by decide +kernel), ⟨by decide +kernel, by decide +kernel, by decide +kernel⟩, by decide, by decide +kernel⟩, gw_in 333 (by decide +kernel) (by decide +kernel)⟩
theorem ml_X2_11 : Cond.methodLink RX2 11 yX0_init ∈ gw_tbl := gw_in 69 (by decide +kernel) (by decide +kernel)
theorem fl_X1_9 : Cond.fieldLink RX1 9 "StatuteClauses$Clauses" "size" "I" ∈ gw_tbl := gw_in 79 (by decide +kernel) (by decide +kernel)
theorem fl_X2_36 : Cond.fieldLink RX2 36 "StatuteClauses$Clauses" "size" "I" ∈ gw_tbl := gw_in 80 (by decide +kernel) (by decide +kernel)
theorem fl_X3_47 : Cond.fieldLink RX3 47 "StatuteClauses$Clauses" "size" "I" ∈ gw_tbl := gw_in 81 (by decide +kernel) (by decide +kernel)
theorem fl_X4_31 : Cond.fieldLink RX4 31 "StatuteClauses$Clauses" "size" "I" ∈ gw_tbl := gw_in 82 (by decide +kernel) (by decide +kernel)
theorem fl_X5_92 : Cond.fieldLink RX5 92 "StatuteClauses$Clauses" "size" "I" ∈ gw_tbl := gw_in 83 (by decide +kernel) (by decide +kernel)
theorem fl_X1_15 : Cond.fieldLink RX1 15 "StatuteClauses$Clauses" "chapterOf" "[I" ∈ gw_tbl := gw_in 84 (by decide +kernel) (by decide +kernel)
theorem fl_X2_49 : Cond.fieldLink RX2 49 "StatuteClauses$Clauses" "chapterOf" "[I" ∈ gw_tbl := gw_in 85 (by decide +kernel) (by decide +kernel)
theorem fl_X0_46 : Cond.fieldLink RX0 46 "StatuteClauses$Clauses" "chapterOf" "[I" ∈ gw_tbl := gw_in 86 (by decide +kernel) (by decide +kernel)
theorem fl_X3_56 : Cond.fieldLink RX3 56 "StatuteClauses$Clauses" "chapterOf" "[I" ∈ gw_tbl := gw_in 87 (by decide +kernel) (by decide +kernel)
theorem fl_X5_157 : Cond.fieldLink RX5 157 "StatuteClauses$Clauses" "chapterOf" "[I" ∈ gw_tbl := gw_in 88 (by decide +kernel) (by decide +kernel)
theorem fl_X1_19 : Cond.fieldLink RX1 19 "StatuteClauses$Clauses" "date" "[I" ∈ gw_tbl := gw_in 89 (by decide +kernel) (by decide +kernel)
theorem fl_X2_52 : Cond.fieldLink RX2 52 "StatuteClauses$Clauses" "date" "[I" ∈ gw_tbl := gw_in 90 (by decide +kernel) (by decide +kernel)
theorem fl_X3_53 : Cond.fieldLink RX3 53 "StatuteClauses$Clauses" "date" "[I" ∈ gw_tbl := gw_in 91 (by decide +kernel) (by decide +kernel)
theorem fl_X5_109 : Cond.fieldLink RX5 109 "StatuteClauses$Clauses" "date" "[I" ∈ gw_tbl := gw_in 92 (by decide +kernel) (by decide +kernel)
theorem fl_X1_22 : Cond.fieldLink RX1 22 "StatuteClauses$Clauses" "endDay" "[I" ∈ gw_tbl := gw_in 93 (by decide +kernel) (by decide +kernel)
theorem fl_X5_112 : Cond.fieldLink RX5 112 "StatuteClauses$Clauses" "endDay" "[I" ∈ gw_tbl := gw_in 94 (by decide +kernel) (by decide +kernel)
theorem fl_X2_73 : Cond.fieldLink RX2 73 "StatuteClauses$Clauses" "endDay" "[I" ∈ gw_tbl := gw_in 95 (by decide +kernel) (by decide +kernel)
theorem fl_X1_25 : Cond.fieldLink RX1 25 "StatuteClauses$Clauses" "first" "[I" ∈ gw_tbl := gw_in 96 (by decide +kernel) (by decide +kernel)
theorem fl_X3_63 : Cond.fieldLink RX3 63 "StatuteClauses$Clauses" "first" "[I" ∈ gw_tbl := gw_in 97 (by decide +kernel) (by decide +kernel)
theorem fl_X5_160 : Cond.fieldLink RX5 160 "StatuteClauses$Clauses" "first" "[I" ∈ gw_tbl := gw_in 98 (by decide +kernel) (by decide +kernel)
theorem fl_X1_28 : Cond.fieldLink RX1 28 "StatuteClauses$Clauses" "last" "[I" ∈ gw_tbl := gw_in 99 (by decide +kernel) (by decide +kernel)
theorem fl_X3_75 : Cond.fieldLink RX3 75 "StatuteClauses$Clauses" "last" "[I" ∈ gw_tbl := gw_in 100 (by decide +kernel) (by decide +kernel)
theorem fl_X5_163 : Cond.fieldLink RX5 163 "StatuteClauses$Clauses" "last" "[I" ∈ gw_tbl := gw_in 101 (by decide +kernel) (by decide +kernel)
theorem fl_X1_31 : Cond.fieldLink RX1 31 "StatuteClauses$Clauses" "verdict" "[I" ∈ gw_tbl := gw_in 102 (by decide +kernel) (by decide +kernel)
theorem fl_X5_166 : Cond.fieldLink RX5 166 "StatuteClauses$Clauses" "verdict" "[I" ∈ gw_tbl := gw_in 103 (by decide +kernel) (by decide +kernel)
theorem fl_X2_103 : Cond.fieldLink RX2 103 "StatuteClauses$Clauses" "verdict" "[I" ∈ gw_tbl := gw_in 104 (by decide +kernel) (by decide +kernel)
theorem fl_X1_34 : Cond.fieldLink RX1 34 "StatuteClauses$Clauses" "exceptions" "[I" ∈ gw_tbl := gw_in 105 (by decide +kernel) (by decide +kernel)
theorem fl_X5_102 : Cond.fieldLink RX5 102 "StatuteClauses$Clauses" "exceptions" "[I" ∈ gw_tbl := gw_in 106 (by decide +kernel) (by decide +kernel)
theorem fl_X1_37 : Cond.fieldLink RX1 37 "StatuteClauses$Clauses" "exceptFirst" "[I" ∈ gw_tbl := gw_in 107 (by decide +kernel) (by decide +kernel)
theorem fl_X1_40 : Cond.fieldLink RX1 40 "StatuteClauses$Clauses" "exceptLast" "[I" ∈ gw_tbl := gw_in 108 (by decide +kernel) (by decide +kernel)
theorem fl_X0_9 : Cond.fieldLink RX0 9 "StatuteClauses$Book" "today" "I" ∈ gw_tbl := gw_in 131 (by decide +kernel) (by decide +kernel)
theorem fl_X5_115 : Cond.fieldLink RX5 115 "StatuteClauses$Book" "today" "I" ∈ gw_tbl := gw_in 132 (by decide +kernel) (by decide +kernel)
theorem fl_X2_93 : Cond.fieldLink RX2 93 "StatuteClauses$Book" "today" "I" ∈ gw_tbl := gw_in 133 (by decide +kernel) (by decide +kernel)
theorem fl_X0_15 : Cond.fieldLink RX0 15 "StatuteClauses$Book" "reachFirst" "[I" ∈ gw_tbl := gw_in 134 (by decide +kernel) (by decide +kernel)
theorem fl_X5_70 : Cond.fieldLink RX5 70 "StatuteClauses$Book" "reachFirst" "[I" ∈ gw_tbl := gw_in 135 (by decide +kernel) (by decide +kernel)
theorem fl_X3_66 : Cond.fieldLink RX3 66 "StatuteClauses$Book" "reachFirst" "[I" ∈ gw_tbl := gw_in 136 (by decide +kernel) (by decide +kernel)
theorem fl_X0_19 : Cond.fieldLink RX0 19 "StatuteClauses$Book" "reachLast" "[I" ∈ gw_tbl := gw_in 137 (by decide +kernel) (by decide +kernel)
theorem fl_X5_74 : Cond.fieldLink RX5 74 "StatuteClauses$Book" "reachLast" "[I" ∈ gw_tbl := gw_in 138 (by decide +kernel) (by decide +kernel)
theorem fl_X3_78 : Cond.fieldLink RX3 78 "StatuteClauses$Book" "reachLast" "[I" ∈ gw_tbl := gw_in 139 (by decide +kernel) (by decide +kernel)
theorem fl_X0_22 : Cond.fieldLink RX0 22 "StatuteClauses$Book" "rankOf" "[I" ∈ gw_tbl := gw_in 140 (by decide +kernel) (by decide +kernel)
theorem fl_X3_37 : Cond.fieldLink RX3 37 "StatuteClauses$Book" "rankOf" "[I" ∈ gw_tbl := gw_in 141 (by decide +kernel) (by decide +kernel)
theorem fl_X5_80 : Cond.fieldLink RX5 80 "StatuteClauses$Book" "rankOf" "[I" ∈ gw_tbl := gw_in 142 (by decide +kernel) (by decide +kernel)
theorem fl_X2_62 : Cond.fieldLink RX2 62 "StatuteClauses$Book" "rankOf" "[I" ∈ gw_tbl := gw_in 143 (by decide +kernel) (by decide +kernel)
theorem fl_X2_18 : Cond.fieldLink RX2 18 "StatuteClauses$Book" "clauses" "LStatuteClauses$Clauses;" ∈ gw_tbl := gw_in 144 (by decide +kernel) (by decide +kernel)
theorem fl_X0_28 : Cond.fieldLink RX0 28 "StatuteClauses$Book" "clauses" "LStatuteClauses$Clauses;" ∈ gw_tbl := gw_in 145 (by decide +kernel) (by decide +kernel)
theorem fl_X3_21 : Cond.fieldLink RX3 21 "StatuteClauses$Book" "clauses" "LStatuteClauses$Clauses;" ∈ gw_tbl := gw_in 146 (by decide +kernel) (by decide +kernel)
theorem fl_X5_89 : Cond.fieldLink RX5 89 "StatuteClauses$Book" "clauses" "LStatuteClauses$Clauses;" ∈ gw_tbl := gw_in 147 (by decide +kernel) (by decide +kernel)
theorem fl_X2_12 : Cond.fieldLink RX2 12 "StatuteClauses$Judge" "book" "LStatuteClauses$Book;" ∈ gw_tbl := gw_in 159 (by decide +kernel) (by decide +kernel)
theorem fl_X5_16 : Cond.fieldLink RX5 16 "StatuteClauses$Judge" "book" "LStatuteClauses$Book;" ∈ gw_tbl := gw_in 160 (by decide +kernel) (by decide +kernel)
theorem fl_X2_22 : Cond.fieldLink RX2 22 "StatuteClauses$Judge" "clauses" "LStatuteClauses$Clauses;" ∈ gw_tbl := gw_in 161 (by decide +kernel) (by decide +kernel)
theorem fl_X2_23 : Cond.fieldLink RX2 23 "StatuteClauses$Judge" "tops" "[I" ∈ gw_tbl := gw_in 162 (by decide +kernel) (by decide +kernel)
theorem fl_X2_27 : Cond.fieldLink RX2 27 "StatuteClauses$Judge" "tally" "[I" ∈ gw_tbl := gw_in 163 (by decide +kernel) (by decide +kernel)
theorem ml_X5_25 : Cond.methodLink RX5 25 yX0_init ∈ gw_tbl := gw_in 174 (by decide +kernel) (by decide +kernel)
theorem fl_X4_9 : Cond.fieldLink RX4 9 "StatuteClauses$Text" "signs" "[C" ∈ gw_tbl := gw_in 182 (by decide +kernel) (by decide +kernel)
theorem fl_X4_15 : Cond.fieldLink RX4 15 "StatuteClauses$Text" "length" "I" ∈ gw_tbl := gw_in 183 (by decide +kernel) (by decide +kernel)
theorem fl_X5_122 : Cond.fieldLink RX5 122 "StatuteClauses$Text" "length" "I" ∈ gw_tbl := gw_in 184 (by decide +kernel) (by decide +kernel)
theorem fl_X4_19 : Cond.fieldLink RX4 19 "StatuteClauses$Text" "at" "I" ∈ gw_tbl := gw_in 185 (by decide +kernel) (by decide +kernel)
theorem fl_X5_132 : Cond.fieldLink RX5 132 "StatuteClauses$Text" "at" "I" ∈ gw_tbl := gw_in 186 (by decide +kernel) (by decide +kernel)
theorem fl_X4_22 : Cond.fieldLink RX4 22 "StatuteClauses$Text" "value" "I" ∈ gw_tbl := gw_in 187 (by decide +kernel) (by decide +kernel)
theorem fl_X4_25 : Cond.fieldLink RX4 25 "StatuteClauses$Text" "first" "I" ∈ gw_tbl := gw_in 188 (by decide +kernel) (by decide +kernel)
theorem fl_X4_28 : Cond.fieldLink RX4 28 "StatuteClauses$Text" "last" "I" ∈ gw_tbl := gw_in 189 (by decide +kernel) (by decide +kernel)
theorem fl_X3_9 : Cond.fieldLink RX3 9 "StatuteClauses$Painter" "canvas" "[I" ∈ gw_tbl := gw_in 212 (by decide +kernel) (by decide +kernel)
theorem fl_X5_188 : Cond.fieldLink RX5 188 "StatuteClauses$Painter" "canvas" "[I" ∈ gw_tbl := gw_in 213 (by decide +kernel) (by decide +kernel)
theorem fl_X3_15 : Cond.fieldLink RX3 15 "StatuteClauses$Painter" "coat" "[I" ∈ gw_tbl := gw_in 214 (by decide +kernel) (by decide +kernel)
theorem fl_X3_18 : Cond.fieldLink RX3 18 "StatuteClauses$Painter" "order" "[I" ∈ gw_tbl := gw_in 215 (by decide +kernel) (by decide +kernel)
theorem fl_X5_10 : Cond.fieldLink RX5 10 "StatuteClauses" "judge" "LStatuteClauses$Judge;" ∈ gw_tbl := gw_in 223 (by decide +kernel) (by decide +kernel)
theorem fl_X5_20 : Cond.fieldLink RX5 20 "StatuteClauses" "now" "LStatuteClauses$Book;" ∈ gw_tbl := gw_in 224 (by decide +kernel) (by decide +kernel)
theorem fl_X5_26 : Cond.fieldLink RX5 26 "StatuteClauses" "snapshot" "LStatuteClauses$Book;" ∈ gw_tbl := gw_in 225 (by decide +kernel) (by decide +kernel)
theorem fl_X5_29 : Cond.fieldLink RX5 29 "StatuteClauses" "hasSnapshot" "Z" ∈ gw_tbl := gw_in 226 (by decide +kernel) (by decide +kernel)
theorem fl_X5_33 : Cond.fieldLink RX5 33 "StatuteClauses" "past" "[LStatuteClauses$Book;" ∈ gw_tbl := gw_in 227 (by decide +kernel) (by decide +kernel)
theorem fl_X5_37 : Cond.fieldLink RX5 37 "StatuteClauses" "pastSize" "I" ∈ gw_tbl := gw_in 228 (by decide +kernel) (by decide +kernel)
theorem fl_X5_44 : Cond.fieldLink RX5 44 "StatuteClauses" "text" "LStatuteClauses$Text;" ∈ gw_tbl := gw_in 229 (by decide +kernel) (by decide +kernel)
theorem fl_X5_51 : Cond.fieldLink RX5 51 "StatuteClauses" "draft" "LStatuteClauses$Clauses;" ∈ gw_tbl := gw_in 230 (by decide +kernel) (by decide +kernel)
theorem fl_X5_58 : Cond.fieldLink RX5 58 "StatuteClauses" "painter" "LStatuteClauses$Painter;" ∈ gw_tbl := gw_in 231 (by decide +kernel) (by decide +kernel)
theorem ml_X5_62 : Cond.methodLink RX5 62 yX5_isChapter ∈ gw_tbl := gw_in 255 (by decide +kernel) (by decide +kernel)
theorem ml_X5_86 : Cond.methodLink RX5 86 yX5_isBelow ∈ gw_tbl := gw_in 258 (by decide +kernel) (by decide +kernel)
theorem ml_X5_66 : Cond.methodLink RX5 66 yX5_isSpan ∈ gw_tbl := gw_in 261 (by decide +kernel) (by decide +kernel)
theorem ml_X5_178 : Cond.methodLink RX5 178 yX5_isCase ∈ gw_tbl := gw_in 264 (by decide +kernel) (by decide +kernel)
theorem ml_X5_77 : Cond.methodLink RX5 77 yX5_record ∈ gw_tbl := gw_in 267 (by decide +kernel) (by decide +kernel)
theorem ml_X5_143 : Cond.methodLink RX5 143 yX0_copyFrom ∈ gw_tbl := gw_in 271 (by decide +kernel) (by decide +kernel)
theorem ml_X0_32 : Cond.methodLink RX0 32 arraycopyName ∈ gw_tbl := gw_in 275 (by decide +kernel) (by decide +kernel)
theorem ml_X0_38 : Cond.methodLink RX0 38 yX1_copyFrom ∈ gw_tbl := gw_in 278 (by decide +kernel) (by decide +kernel)
theorem ml_X1_59 : Cond.methodLink RX1 59 arraycopyName ∈ gw_tbl := gw_in 282 (by decide +kernel) (by decide +kernel)
theorem ml_X5_83 : Cond.methodLink RX5 83 yX5_isDay ∈ gw_tbl := gw_in 291 (by decide +kernel) (by decide +kernel)
theorem ml_X5_95 : Cond.methodLink RX5 95 yX1_add ∈ gw_tbl := gw_in 294 (by decide +kernel) (by decide +kernel)
theorem ml_X5_99 : Cond.methodLink RX5 99 yX1_has ∈ gw_tbl := gw_in 302 (by decide +kernel) (by decide +kernel)
theorem ml_X5_105 : Cond.methodLink RX5 105 yX1_addException ∈ gw_tbl := gw_in 307 (by decide +kernel) (by decide +kernel)
theorem ml_X1_47 : Cond.methodLink RX1 47 yX1_has ∈ gw_tbl := gw_in 311 (by decide +kernel) (by decide +kernel)
theorem ml_X5_118 : Cond.methodLink RX5 118 yX2_casesChangedBetween ∈ gw_tbl := gw_in 320 (by decide +kernel) (by decide +kernel)
theorem ml_X2_85 : Cond.methodLink RX2 85 yX2_ruler ∈ gw_tbl := gw_in 324 (by decide +kernel) (by decide +kernel)
theorem ml_X2_65 : Cond.methodLink RX2 65 yX2_findTops ∈ gw_tbl := gw_in 328 (by decide +kernel) (by decide +kernel)
theorem ml_X2_30 : Cond.methodLink RX2 30 yJ7_fill_53178 ∈ gw_tbl := gw_in 332 (by decide +kernel) (by decide +kernel)
theorem ml_X2_42 : Cond.methodLink RX2 42 yX1_isInForce ∈ gw_tbl := gw_in 335 (by decide +kernel) (by decide +kernel)
theorem ml_X2_46 : Cond.methodLink RX2 46 yX0_meets ∈ gw_tbl := gw_in 339 (by decide +kernel) (by decide +kernel)
theorem ml_X0_42 : Cond.methodLink RX0 42 yX1_isInSpan ∈ gw_tbl := gw_in 343 (by decide +kernel) (by decide +kernel)
theorem ml_X0_49 : Cond.methodLink RX0 49 yX0_reaches ∈ gw_tbl := gw_in 347 (by decide +kernel) (by decide +kernel)
theorem ml_X0_52 : Cond.methodLink RX0 52 yX1_isExcepted ∈ gw_tbl := gw_in 351 (by decide +kernel) (by decide +kernel)
theorem ml_X2_69 : Cond.methodLink RX2 69 yX2_rulerOfTops ∈ gw_tbl := gw_in 355 (by decide +kernel) (by decide +kernel)
theorem ml_X2_59 : Cond.methodLink RX2 59 yX2_topSpeaks ∈ gw_tbl := gw_in 359 (by decide +kernel) (by decide +kernel)
theorem ml_X2_55 : Cond.methodLink RX2 55 yX1_speaksAtAll ∈ gw_tbl := gw_in 363 (by decide +kernel) (by decide +kernel)
theorem ml_X5_125 : Cond.methodLink RX5 125 yX4_add ∈ gw_tbl := gw_in 371 (by decide +kernel) (by decide +kernel)
theorem ml_X5_128 : Cond.methodLink RX5 128 yX4_readClauses ∈ gw_tbl := gw_in 383 (by decide +kernel) (by decide +kernel)
theorem ml_X4_36 : Cond.methodLink RX4 36 yX4_readClause ∈ gw_tbl := gw_in 387 (by decide +kernel) (by decide +kernel)
theorem ml_X4_44 : Cond.methodLink RX4 44 yX4_readNumber ∈ gw_tbl := gw_in 391 (by decide +kernel) (by decide +kernel)
theorem ml_X4_64 : Cond.methodLink RX4 64 yX4_digitHere ∈ gw_tbl := gw_in 395 (by decide +kernel) (by decide +kernel)
theorem ml_X4_40 : Cond.methodLink RX4 40 yX4_readSign ∈ gw_tbl := gw_in 399 (by decide +kernel) (by decide +kernel)
theorem ml_X4_48 : Cond.methodLink RX4 48 yX4_readSpan ∈ gw_tbl := gw_in 403 (by decide +kernel) (by decide +kernel)
theorem ml_X4_52 : Cond.methodLink RX4 52 yX1_add ∈ gw_tbl := gw_in 407 (by decide +kernel) (by decide +kernel)
theorem ml_X4_56 : Cond.methodLink RX4 56 yX4_readExceptions ∈ gw_tbl := gw_in 408 (by decide +kernel) (by decide +kernel)
theorem ml_X4_60 : Cond.methodLink RX4 60 yX1_addException ∈ gw_tbl := gw_in 412 (by decide +kernel) (by decide +kernel)
theorem ml_X5_135 : Cond.methodLink RX5 135 yX1_hasReversedSpan ∈ gw_tbl := gw_in 413 (by decide +kernel) (by decide +kernel)
theorem ml_X5_139 : Cond.methodLink RX5 139 yX1_addAll ∈ gw_tbl := gw_in 417 (by decide +kernel) (by decide +kernel)
theorem ml_X1_51 : Cond.methodLink RX1 51 yX1_add ∈ gw_tbl := gw_in 421 (by decide +kernel) (by decide +kernel)
theorem ml_X1_55 : Cond.methodLink RX1 55 yX1_addException ∈ gw_tbl := gw_in 422 (by decide +kernel) (by decide +kernel)
theorem ml_X5_147 : Cond.methodLink RX5 147 yX1_countOfChapter ∈ gw_tbl := gw_in 439 (by decide +kernel) (by decide +kernel)
theorem ml_X5_151 : Cond.methodLink RX5 151 yX1_countInForceOfChapter ∈ gw_tbl := gw_in 443 (by decide +kernel) (by decide +kernel)
theorem ml_X1_71 : Cond.methodLink RX1 71 yX1_isInForce ∈ gw_tbl := gw_in 447 (by decide +kernel) (by decide +kernel)
theorem ml_X5_154 : Cond.methodLink RX5 154 yX2_casesRuledByChapter ∈ gw_tbl := gw_in 448 (by decide +kernel) (by decide +kernel)
theorem ml_X2_100 : Cond.methodLink RX2 100 yX2_tallyToday ∈ gw_tbl := gw_in 452 (by decide +kernel) (by decide +kernel)
theorem ml_X5_169 : Cond.methodLink RX5 169 yX1_isInForce ∈ gw_tbl := gw_in 460 (by decide +kernel) (by decide +kernel)
theorem ml_X5_172 : Cond.methodLink RX5 172 yX2_casesSpokenOf ∈ gw_tbl := gw_in 461 (by decide +kernel) (by decide +kernel)
theorem ml_X5_175 : Cond.methodLink RX5 175 yX2_casesRuledByClause ∈ gw_tbl := gw_in 465 (by decide +kernel) (by decide +kernel)
theorem ml_X5_181 : Cond.methodLink RX5 181 yX2_ruler ∈ gw_tbl := gw_in 473 (by decide +kernel) (by decide +kernel)
theorem ml_X5_184 : Cond.methodLink RX5 184 yX3_paint ∈ gw_tbl := gw_in 478 (by decide +kernel) (by decide +kernel)
theorem ml_X3_27 : Cond.methodLink RX3 27 yX3_sortByDates ∈ gw_tbl := gw_in 482 (by decide +kernel) (by decide +kernel)
theorem ml_X3_31 : Cond.methodLink RX3 31 yJ7_fill_53178 ∈ gw_tbl := gw_in 486 (by decide +kernel) (by decide +kernel)
theorem ml_X3_40 : Cond.methodLink RX3 40 yX3_paintCoat ∈ gw_tbl := gw_in 487 (by decide +kernel) (by decide +kernel)
theorem ml_X3_59 : Cond.methodLink RX3 59 yX1_isInForce ∈ gw_tbl := gw_in 491 (by decide +kernel) (by decide +kernel)
theorem ml_X3_69 : Cond.methodLink RX3 69 Lib.Math.max.name ∈ gw_tbl := gw_in 492 (by decide +kernel) (by decide +kernel)
theorem ml_X3_81 : Cond.methodLink RX3 81 Lib.Math.min.name ∈ gw_tbl := gw_in 495 (by decide +kernel) (by decide +kernel)
theorem ml_X3_84 : Cond.methodLink RX3 84 yX3_paintClause ∈ gw_tbl := gw_in 498 (by decide +kernel) (by decide +kernel)
theorem ml_X3_88 : Cond.methodLink RX3 88 yX1_isExcepted ∈ gw_tbl := gw_in 502 (by decide +kernel) (by decide +kernel)
theorem ml_X3_44 : Cond.methodLink RX3 44 yX3_layCoat ∈ gw_tbl := gw_in 503 (by decide +kernel) (by decide +kernel)
theorem ml_X3_91 : Cond.methodLink RX3 91 yX1_speaksAtAll ∈ gw_tbl := gw_in 507 (by decide +kernel) (by decide +kernel)
theorem ml_X5_191 : Cond.methodLink RX5 191 yX2_silencer ∈ gw_tbl := gw_in 512 (by decide +kernel) (by decide +kernel)
theorem ml_X5_195 : Cond.methodLink RX5 195 yX2_whyNotRuling ∈ gw_tbl := gw_in 520 (by decide +kernel) (by decide +kernel)
theorem ml_X2_76 : Cond.methodLink RX2 76 yX0_reaches ∈ gw_tbl := gw_in 524 (by decide +kernel) (by decide +kernel)
theorem ml_X2_79 : Cond.methodLink RX2 79 yX1_isInSpan ∈ gw_tbl := gw_in 525 (by decide +kernel) (by decide +kernel)
theorem ml_X2_82 : Cond.methodLink RX2 82 yX1_isExcepted ∈ gw_tbl := gw_in 526 (by decide +kernel) (by decide +kernel)
theorem ml_X5_198 : Cond.methodLink RX5 198 yX2_nextChange ∈ gw_tbl := gw_in 531 (by decide +kernel) (by decide +kernel)
theorem ml_X2_89 : Cond.methodLink RX2 89 yX1_nextTurn ∈ gw_tbl := gw_in 535 (by decide +kernel) (by decide +kernel)
theorem ml_X1_65 : Cond.methodLink RX1 65 Lib.Math.min.name ∈ gw_tbl := gw_in 539 (by decide +kernel) (by decide +kernel)
theorem ml_X5_201 : Cond.methodLink RX5 201 yX2_casesOfUnlikeVerdicts ∈ gw_tbl := gw_in 544 (by decide +kernel) (by decide +kernel)
theorem ml_X5_204 : Cond.methodLink RX5 204 yX2_busyClauses ∈ gw_tbl := gw_in 552 (by decide +kernel) (by decide +kernel)
theorem ml_X5_208 : Cond.methodLink RX5 208 yX2_casesChangedWithout ∈ gw_tbl := gw_in 560 (by decide +kernel) (by decide +kernel)
theorem ml_X2_96 : Cond.methodLink RX2 96 yX2_rulerWithout ∈ gw_tbl := gw_in 564 (by decide +kernel) (by decide +kernel)
theorem ml_X5_211 : Cond.methodLink RX5 211 yX2_rulerOfMost ∈ gw_tbl := gw_in 572 (by decide +kernel) (by decide +kernel)
theorem ml_X5_214 : Cond.methodLink RX5 214 yX1_countInForce ∈ gw_tbl := gw_in 580 (by decide +kernel) (by decide +kernel)
theorem ml_X5_217 : Cond.methodLink RX5 217 yX2_casesRuled ∈ gw_tbl := gw_in 584 (by decide +kernel) (by decide +kernel)
theorem ml_X5_220 : Cond.methodLink RX5 220 yX2_timesSpoken ∈ gw_tbl := gw_in 588 (by decide +kernel) (by decide +kernel)
theorem ml_X5_223 : Cond.methodLink RX5 223 yX1_countExceptions ∈ gw_tbl := gw_in 592 (by decide +kernel) (by decide +kernel)
theorem ml_X5_226 : Cond.methodLink RX5 226 yX1_countSilent ∈ gw_tbl := gw_in 596 (by decide +kernel) (by decide +kernel)
theorem ml_X1_74 : Cond.methodLink RX1 74 yX1_speaksAtAll ∈ gw_tbl := gw_in 600 (by decide +kernel) (by decide +kernel)
theorem ml_X6_28 : Cond.methodLink RX6 28 yX6_ofChapter ∈ gw_tbl := gw_in 607 (by decide +kernel) (by decide +kernel)
theorem fl_X6_7 : Cond.fieldLink RX6 7 "StatuteClausesModel" "s" "[I" ∈ gw_tbl := gw_in 610 (by decide +kernel) (by decide +kernel)
theorem fl_X6_13 : Cond.fieldLink RX6 13 "StatuteClausesModel" "history" "[I" ∈ gw_tbl := gw_in 611 (by decide +kernel) (by decide +kernel)
theorem fl_X6_43 : Cond.fieldLink RX6 43 "StatuteClausesModel" "known" "I" ∈ gw_tbl := gw_in 612 (by decide +kernel) (by decide +kernel)
theorem fl_X6_16 : Cond.fieldLink RX6 16 "StatuteClausesModel" "snapshot" "[I" ∈ gw_tbl := gw_in 613 (by decide +kernel) (by decide +kernel)
theorem fl_X6_147 : Cond.fieldLink RX6 147 "StatuteClausesModel" "isKept" "Z" ∈ gw_tbl := gw_in 614 (by decide +kernel) (by decide +kernel)
theorem fl_X6_19 : Cond.fieldLink RX6 19 "StatuteClausesModel" "text" "[I" ∈ gw_tbl := gw_in 615 (by decide +kernel) (by decide +kernel)
theorem fl_X6_107 : Cond.fieldLink RX6 107 "StatuteClausesModel" "length" "I" ∈ gw_tbl := gw_in 616 (by decide +kernel) (by decide +kernel)
theorem fl_X6_22 : Cond.fieldLink RX6 22 "StatuteClausesModel" "rulings" "[I" ∈ gw_tbl := gw_in 617 (by decide +kernel) (by decide +kernel)
theorem fl_X6_25 : Cond.fieldLink RX6 25 "StatuteClausesModel" "were" "[I" ∈ gw_tbl := gw_in 618 (by decide +kernel) (by decide +kernel)
theorem fl_X6_114 : Cond.fieldLink RX6 114 "StatuteClausesModel" "spot" "I" ∈ gw_tbl := gw_in 619 (by decide +kernel) (by decide +kernel)
theorem fl_X6_110 : Cond.fieldLink RX6 110 "StatuteClausesModel" "isWrong" "Z" ∈ gw_tbl := gw_in 620 (by decide +kernel) (by decide +kernel)
theorem fl_X6_133 : Cond.fieldLink RX6 133 "StatuteClausesModel" "isBad" "Z" ∈ gw_tbl := gw_in 621 (by decide +kernel) (by decide +kernel)
theorem fl_X6_127 : Cond.fieldLink RX6 127 "StatuteClausesModel" "first" "I" ∈ gw_tbl := gw_in 622 (by decide +kernel) (by decide +kernel)
theorem fl_X6_130 : Cond.fieldLink RX6 130 "StatuteClausesModel" "last" "I" ∈ gw_tbl := gw_in 623 (by decide +kernel) (by decide +kernel)
theorem ml_X6_78 : Cond.methodLink RX6 78 yX6_isChapter ∈ gw_tbl := gw_in 657 (by decide +kernel) (by decide +kernel)
theorem ml_X6_32 : Cond.methodLink RX6 32 yX6_in ∈ gw_tbl := gw_in 660 (by decide +kernel) (by decide +kernel)
theorem ml_X6_81 : Cond.methodLink RX6 81 yX6_isSpan ∈ gw_tbl := gw_in 663 (by decide +kernel) (by decide +kernel)
theorem ml_X6_36 : Cond.methodLink RX6 36 yX6_isCase ∈ gw_tbl := gw_in 666 (by decide +kernel) (by decide +kernel)
theorem ml_X6_84 : Cond.methodLink RX6 84 yX6_record ∈ gw_tbl := gw_in 669 (by decide +kernel) (by decide +kernel)
theorem ml_X6_87 : Cond.methodLink RX6 87 yX6_isDay ∈ gw_tbl := gw_in 681 (by decide +kernel) (by decide +kernel)
theorem ml_X6_90 : Cond.methodLink RX6 90 yX6_writes ∈ gw_tbl := gw_in 684 (by decide +kernel) (by decide +kernel)
theorem ml_X6_40 : Cond.methodLink RX6 40 yX6_of ∈ gw_tbl := gw_in 688 (by decide +kernel) (by decide +kernel)
theorem ml_X6_94 : Cond.methodLink RX6 94 yX6_isClause ∈ gw_tbl := gw_in 695 (by decide +kernel) (by decide +kernel)
theorem ml_X6_47 : Cond.methodLink RX6 47 yX6_get ∈ gw_tbl := gw_in 699 (by decide +kernel) (by decide +kernel)
theorem ml_X6_97 : Cond.methodLink RX6 97 yX6_excepts ∈ gw_tbl := gw_in 703 (by decide +kernel) (by decide +kernel)
theorem ml_X6_100 : Cond.methodLink RX6 100 yX6_putAside ∈ gw_tbl := gw_in 715 (by decide +kernel) (by decide +kernel)
theorem ml_X6_74 : Cond.methodLink RX6 74 yX6_worksOut ∈ gw_tbl := gw_in 719 (by decide +kernel) (by decide +kernel)
theorem ml_X6_70 : Cond.methodLink RX6 70 yX6_rules ∈ gw_tbl := gw_in 723 (by decide +kernel) (by decide +kernel)
theorem ml_X6_67 : Cond.methodLink RX6 67 yX6_speaksIn ∈ gw_tbl := gw_in 727 (by decide +kernel) (by decide +kernel)
theorem ml_X6_63 : Cond.methodLink RX6 63 yX6_latestOf ∈ gw_tbl := gw_in 731 (by decide +kernel) (by decide +kernel)
theorem ml_X6_57 : Cond.methodLink RX6 57 yX6_isInForce ∈ gw_tbl := gw_in 735 (by decide +kernel) (by decide +kernel)
theorem ml_X6_60 : Cond.methodLink RX6 60 yX6_meets ∈ gw_tbl := gw_in 739 (by decide +kernel) (by decide +kernel)
theorem ml_X6_50 : Cond.methodLink RX6 50 yX6_reaches ∈ gw_tbl := gw_in 743 (by decide +kernel) (by decide +kernel)
theorem ml_X6_54 : Cond.methodLink RX6 54 yX6_isExcepted ∈ gw_tbl := gw_in 747 (by decide +kernel) (by decide +kernel)
theorem ml_X6_103 : Cond.methodLink RX6 103 yX6_changed ∈ gw_tbl := gw_in 751 (by decide +kernel) (by decide +kernel)
theorem ml_X6_143 : Cond.methodLink RX6 143 yX6_reads ∈ gw_tbl := gw_in 767 (by decide +kernel) (by decide +kernel)
theorem ml_X6_139 : Cond.methodLink RX6 139 yX6_readClause ∈ gw_tbl := gw_in 771 (by decide +kernel) (by decide +kernel)
theorem ml_X6_120 : Cond.methodLink RX6 120 yX6_takes ∈ gw_tbl := gw_in 775 (by decide +kernel) (by decide +kernel)
theorem ml_X6_117 : Cond.methodLink RX6 117 yX6_isNext ∈ gw_tbl := gw_in 779 (by decide +kernel) (by decide +kernel)
theorem ml_X6_123 : Cond.methodLink RX6 123 yX6_number ∈ gw_tbl := gw_in 783 (by decide +kernel) (by decide +kernel)
theorem ml_X6_136 : Cond.methodLink RX6 136 yX6_readSpan ∈ gw_tbl := gw_in 787 (by decide +kernel) (by decide +kernel)
theorem ml_X6_150 : Cond.methodLink RX6 150 yX6_clausesOf ∈ gw_tbl := gw_in 807 (by decide +kernel) (by decide +kernel)
theorem ml_X6_154 : Cond.methodLink RX6 154 yX6_ruledIn ∈ gw_tbl := gw_in 811 (by decide +kernel) (by decide +kernel)
theorem ml_X6_157 : Cond.methodLink RX6 157 yX6_ruledBy ∈ gw_tbl := gw_in 819 (by decide +kernel) (by decide +kernel)
theorem ml_X6_160 : Cond.methodLink RX6 160 yX6_spokenBy ∈ gw_tbl := gw_in 823 (by decide +kernel) (by decide +kernel)
theorem ml_X6_163 : Cond.methodLink RX6 163 yX6_areThere ∈ gw_tbl := gw_in 839 (by decide +kernel) (by decide +kernel)
theorem ml_X6_166 : Cond.methodLink RX6 166 yX6_silencer ∈ gw_tbl := gw_in 843 (by decide +kernel) (by decide +kernel)
theorem ml_X6_169 : Cond.methodLink RX6 169 yX6_ruleOn ∈ gw_tbl := gw_in 863 (by decide +kernel) (by decide +kernel)
theorem ml_X6_172 : Cond.methodLink RX6 172 yX6_ruled ∈ gw_tbl := gw_in 879 (by decide +kernel) (by decide +kernel)
theorem ml_X6_175 : Cond.methodLink RX6 175 yX6_spoken ∈ gw_tbl := gw_in 883 (by decide +kernel) (by decide +kernel)
theorem ml_X6_178 : Cond.methodLink RX6 178 yX6_allOf ∈ gw_tbl := gw_in 887 (by decide +kernel) (by decide +kernel)
/-- the object of class Clauses at c, its nine arrays behind it -/
def IsCl (c : Nat) : Prop := Lay[c]? = some (.inl (1, [0, c + 3, c + 4, c + 5, c + 6, c + 7, c + 8, c + 9, c + 10, c + 11])) ∧ Lay[c + 1]? = some (.inr (0, 30)) ∧ Lay[c + 2]? = some (.inr (0, 30)) ∧ Lay[c + 3]? = some (.inr (0, 30)) ∧ Lay[c + 4]? = some (.inr (0, 30)) ∧ Lay[c + 5]? = some (.inr (0, 30)) ∧ Lay[c + 6]? = some (.inr (0, 30)) ∧ Lay[c + 7]? = some (.inr (0, 30)) ∧ Lay[c + 8]? = some (.inr (0, 90)) ∧ Lay[c + 9]? = some (.inr (0, 90))
/-- the book at b, its three arrays, its clauses -/
def IsBk (b : Nat) : Prop := Lay[b]? = some (.inl (0, [0, b + 3, b + 4, b + 5, b + 6])) ∧ Lay[b + 1]? = some (.inr (0, 6)) ∧ Lay[b + 2]? = some (.inr (0, 6)) ∧ Lay[b + 3]? = some (.inr (0, 6)) ∧ IsCl (b + 4)
theorem isCl_4 : IsCl 4 := ⟨rfl, rfl, rfl, rfl, rfl, rfl, rfl, rfl, rfl, rfl⟩
theorem isCl_18 : IsCl 18 := ⟨rfl, rfl, rfl, rfl, rfl, rfl, rfl, rfl, rfl, rfl⟩
theorem isBk_14 : IsBk 14 := ⟨rfl, rfl, rfl, rfl, rfl, rfl, rfl, rfl, rfl, rfl, rfl, rfl, rfl, rfl⟩
theorem isBk_28 : IsBk 28 := ⟨rfl, rfl, rfl, rfl, rfl, rfl, rfl, rfl, rfl, rfl, rfl, rfl, rfl, rfl⟩
theorem isBk_42 : IsBk 42 := ⟨rfl, rfl, rfl, rfl, rfl, rfl, rfl, rfl, rfl, rfl, rfl, rfl, rfl, rfl⟩
theorem isBk_56 : IsBk 56 := ⟨rfl, rfl, rfl, rfl, rfl, rfl, rfl, rfl, rfl, rfl, rfl, rfl, rfl, rfl⟩
theorem isBk_70 : IsBk 70 := ⟨rfl, rfl, rfl, rfl, rfl, rfl, rfl, rfl, rfl, rfl, rfl, rfl, rfl, rfl⟩
theorem isBk_84 : IsBk 84 := ⟨rfl, rfl, rfl, rfl, rfl, rfl, rfl, rfl, rfl, rfl, rfl, rfl, rfl, rfl⟩
