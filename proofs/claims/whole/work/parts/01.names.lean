-- ===== PART A: goes FIRST, ahead of the names: the tables' words, and 'selects' of the private methods out of them =====
/-- a private method of a class that the tables say can be made, by its rows of tables_1 -/
def lw_okq (q : MethodName × Nat) : Prop := (q.1.cls ≠ "java/lang/invoke/MethodHandle" ∧ q.1.cls ≠ "java/lang/invoke/VarHandle") ∧ Cond.instantiable q.1.cls q.2 ∈ tables_1 ∧ Cond.privateMethod q.1 ∈ tables_1 ∧ Cond.instanceMethod q.1 ∈ tables_1
theorem lw_p0 : lw_okq (⟨"StatuteClauses", "record", "()V"⟩, 9) := ⟨⟨by decide +kernel, by decide +kernel⟩, List.mem_of_getElem? (i := 12) (by decide +kernel), List.mem_of_getElem? (i := 226) (by decide +kernel), List.mem_of_getElem? (i := 227) (by decide +kernel)⟩
theorem lw_p1 : lw_okq (⟨"StatuteClauses$Text", "readClause", "(LStatuteClauses$Clauses;)Z"⟩, 6) := ⟨⟨by decide +kernel, by decide +kernel⟩, List.mem_of_getElem? (i := 135) (by decide +kernel), List.mem_of_getElem? (i := 346) (by decide +kernel), List.mem_of_getElem? (i := 347) (by decide +kernel)⟩
theorem lw_p2 : lw_okq (⟨"StatuteClauses$Text", "readNumber", "(I)Z"⟩, 6) := ⟨⟨by decide +kernel, by decide +kernel⟩, List.mem_of_getElem? (i := 135) (by decide +kernel), List.mem_of_getElem? (i := 350) (by decide +kernel), List.mem_of_getElem? (i := 351) (by decide +kernel)⟩
theorem lw_p3 : lw_okq (⟨"StatuteClauses$Text", "digitHere", "()I"⟩, 6) := ⟨⟨by decide +kernel, by decide +kernel⟩, List.mem_of_getElem? (i := 135) (by decide +kernel), List.mem_of_getElem? (i := 354) (by decide +kernel), List.mem_of_getElem? (i := 355) (by decide +kernel)⟩
theorem lw_p4 : lw_okq (⟨"StatuteClauses$Text", "readSign", "(C)Z"⟩, 6) := ⟨⟨by decide +kernel, by decide +kernel⟩, List.mem_of_getElem? (i := 135) (by decide +kernel), List.mem_of_getElem? (i := 358) (by decide +kernel), List.mem_of_getElem? (i := 359) (by decide +kernel)⟩
theorem lw_p5 : lw_okq (⟨"StatuteClauses$Text", "readSpan", "()Z"⟩, 6) := ⟨⟨by decide +kernel, by decide +kernel⟩, List.mem_of_getElem? (i := 135) (by decide +kernel), List.mem_of_getElem? (i := 362) (by decide +kernel), List.mem_of_getElem? (i := 363) (by decide +kernel)⟩
theorem lw_p6 : lw_okq (⟨"StatuteClauses$Text", "readExceptions", "(LStatuteClauses$Clauses;I)Z"⟩, 6) := ⟨⟨by decide +kernel, by decide +kernel⟩, List.mem_of_getElem? (i := 135) (by decide +kernel), List.mem_of_getElem? (i := 367) (by decide +kernel), List.mem_of_getElem? (i := 368) (by decide +kernel)⟩
theorem lw_p7 : lw_okq (⟨"StatuteClauses$Painter", "sortByDates", "(LStatuteClauses$Clauses;)V"⟩, 3) := ⟨⟨by decide +kernel, by decide +kernel⟩, List.mem_of_getElem? (i := 165) (by decide +kernel), List.mem_of_getElem? (i := 441) (by decide +kernel), List.mem_of_getElem? (i := 442) (by decide +kernel)⟩
theorem lw_p8 : lw_okq (⟨"StatuteClauses$Painter", "paintCoat", "(LStatuteClauses$Book;II)V"⟩, 3) := ⟨⟨by decide +kernel, by decide +kernel⟩, List.mem_of_getElem? (i := 165) (by decide +kernel), List.mem_of_getElem? (i := 446) (by decide +kernel), List.mem_of_getElem? (i := 447) (by decide +kernel)⟩
theorem lw_p9 : lw_okq (⟨"StatuteClauses$Painter", "paintClause", "(LStatuteClauses$Clauses;III)V"⟩, 3) := ⟨⟨by decide +kernel, by decide +kernel⟩, List.mem_of_getElem? (i := 165) (by decide +kernel), List.mem_of_getElem? (i := 457) (by decide +kernel), List.mem_of_getElem? (i := 458) (by decide +kernel)⟩
theorem lw_p10 : lw_okq (⟨"StatuteClauses$Painter", "layCoat", "(LStatuteClauses$Clauses;)V"⟩, 3) := ⟨⟨by decide +kernel, by decide +kernel⟩, List.mem_of_getElem? (i := 165) (by decide +kernel), List.mem_of_getElem? (i := 462) (by decide +kernel), List.mem_of_getElem? (i := 463) (by decide +kernel)⟩
theorem lw_p11 : lw_okq (⟨"StatuteClausesModel", "record", "()V"⟩, 14) := ⟨⟨by decide +kernel, by decide +kernel⟩, List.mem_of_getElem? (i := 560) (by decide +kernel), List.mem_of_getElem? (i := 628) (by decide +kernel), List.mem_of_getElem? (i := 629) (by decide +kernel)⟩
theorem lw_p12 : lw_okq (⟨"StatuteClausesModel", "writes", "(IIIII)V"⟩, 14) := ⟨⟨by decide +kernel, by decide +kernel⟩, List.mem_of_getElem? (i := 560) (by decide +kernel), List.mem_of_getElem? (i := 643) (by decide +kernel), List.mem_of_getElem? (i := 644) (by decide +kernel)⟩
theorem lw_p13 : lw_okq (⟨"StatuteClausesModel", "isClause", "(I)Z"⟩, 14) := ⟨⟨by decide +kernel, by decide +kernel⟩, List.mem_of_getElem? (i := 560) (by decide +kernel), List.mem_of_getElem? (i := 654) (by decide +kernel), List.mem_of_getElem? (i := 655) (by decide +kernel)⟩
theorem lw_p14 : lw_okq (⟨"StatuteClausesModel", "get", "(II)I"⟩, 14) := ⟨⟨by decide +kernel, by decide +kernel⟩, List.mem_of_getElem? (i := 560) (by decide +kernel), List.mem_of_getElem? (i := 658) (by decide +kernel), List.mem_of_getElem? (i := 659) (by decide +kernel)⟩
theorem lw_p15 : lw_okq (⟨"StatuteClausesModel", "excepts", "(III)I"⟩, 14) := ⟨⟨by decide +kernel, by decide +kernel⟩, List.mem_of_getElem? (i := 560) (by decide +kernel), List.mem_of_getElem? (i := 662) (by decide +kernel), List.mem_of_getElem? (i := 663) (by decide +kernel)⟩
def lw_privs_1 : List (MethodName × Nat) := [(⟨"StatuteClauses", "record", "()V"⟩, 9), (⟨"StatuteClauses$Text", "readClause", "(LStatuteClauses$Clauses;)Z"⟩, 6), (⟨"StatuteClauses$Text", "readNumber", "(I)Z"⟩, 6), (⟨"StatuteClauses$Text", "digitHere", "()I"⟩, 6), (⟨"StatuteClauses$Text", "readSign", "(C)Z"⟩, 6), (⟨"StatuteClauses$Text", "readSpan", "()Z"⟩, 6), (⟨"StatuteClauses$Text", "readExceptions", "(LStatuteClauses$Clauses;I)Z"⟩, 6), (⟨"StatuteClauses$Painter", "sortByDates", "(LStatuteClauses$Clauses;)V"⟩, 3), (⟨"StatuteClauses$Painter", "paintCoat", "(LStatuteClauses$Book;II)V"⟩, 3), (⟨"StatuteClauses$Painter", "paintClause", "(LStatuteClauses$Clauses;III)V"⟩, 3), (⟨"StatuteClauses$Painter", "layCoat", "(LStatuteClauses$Clauses;)V"⟩, 3), (⟨"StatuteClausesModel", "record", "()V"⟩, 14), (⟨"StatuteClausesModel", "writes", "(IIIII)V"⟩, 14), (⟨"StatuteClausesModel", "isClause", "(I)Z"⟩, 14), (⟨"StatuteClausesModel", "get", "(II)I"⟩, 14), (⟨"StatuteClausesModel", "excepts", "(III)I"⟩, 14)]
theorem lw_r1 : ∀ q ∈ lw_privs_1, lw_okq q := List.forall_mem_cons.mpr ⟨lw_p0, List.forall_mem_cons.mpr ⟨lw_p1, List.forall_mem_cons.mpr ⟨lw_p2, List.forall_mem_cons.mpr ⟨lw_p3, List.forall_mem_cons.mpr ⟨lw_p4, List.forall_mem_cons.mpr ⟨lw_p5, List.forall_mem_cons.mpr ⟨lw_p6, List.forall_mem_cons.mpr ⟨lw_p7, List.forall_mem_cons.mpr ⟨lw_p8, List.forall_mem_cons.mpr ⟨lw_p9, List.forall_mem_cons.mpr ⟨lw_p10, List.forall_mem_cons.mpr ⟨lw_p11, List.forall_mem_cons.mpr ⟨lw_p12, List.forall_mem_cons.mpr ⟨lw_p13, List.forall_mem_cons.mpr ⟨lw_p14, List.forall_mem_cons.mpr ⟨lw_p15, fun _ h => absurd h List.not_mem_nil⟩⟩⟩⟩⟩⟩⟩⟩⟩⟩⟩⟩⟩⟩⟩⟩
theorem lw_p16 : lw_okq (⟨"StatuteClausesModel", "putAside", "()V"⟩, 14) := ⟨⟨by decide +kernel, by decide +kernel⟩, List.mem_of_getElem? (i := 560) (by decide +kernel), List.mem_of_getElem? (i := 674) (by decide +kernel), List.mem_of_getElem? (i := 675) (by decide +kernel)⟩
theorem lw_p17 : lw_okq (⟨"StatuteClausesModel", "worksOut", "(I)V"⟩, 14) := ⟨⟨by decide +kernel, by decide +kernel⟩, List.mem_of_getElem? (i := 560) (by decide +kernel), List.mem_of_getElem? (i := 678) (by decide +kernel), List.mem_of_getElem? (i := 679) (by decide +kernel)⟩
theorem lw_p18 : lw_okq (⟨"StatuteClausesModel", "rules", "(III)I"⟩, 14) := ⟨⟨by decide +kernel, by decide +kernel⟩, List.mem_of_getElem? (i := 560) (by decide +kernel), List.mem_of_getElem? (i := 682) (by decide +kernel), List.mem_of_getElem? (i := 683) (by decide +kernel)⟩
theorem lw_p19 : lw_okq (⟨"StatuteClausesModel", "speaksIn", "(IIII)I"⟩, 14) := ⟨⟨by decide +kernel, by decide +kernel⟩, List.mem_of_getElem? (i := 560) (by decide +kernel), List.mem_of_getElem? (i := 686) (by decide +kernel), List.mem_of_getElem? (i := 687) (by decide +kernel)⟩
theorem lw_p20 : lw_okq (⟨"StatuteClausesModel", "latestOf", "(IIII)I"⟩, 14) := ⟨⟨by decide +kernel, by decide +kernel⟩, List.mem_of_getElem? (i := 560) (by decide +kernel), List.mem_of_getElem? (i := 690) (by decide +kernel), List.mem_of_getElem? (i := 691) (by decide +kernel)⟩
theorem lw_p21 : lw_okq (⟨"StatuteClausesModel", "isInForce", "(II)Z"⟩, 14) := ⟨⟨by decide +kernel, by decide +kernel⟩, List.mem_of_getElem? (i := 560) (by decide +kernel), List.mem_of_getElem? (i := 694) (by decide +kernel), List.mem_of_getElem? (i := 695) (by decide +kernel)⟩
theorem lw_p22 : lw_okq (⟨"StatuteClausesModel", "meets", "(II)Z"⟩, 14) := ⟨⟨by decide +kernel, by decide +kernel⟩, List.mem_of_getElem? (i := 560) (by decide +kernel), List.mem_of_getElem? (i := 698) (by decide +kernel), List.mem_of_getElem? (i := 699) (by decide +kernel)⟩
theorem lw_p23 : lw_okq (⟨"StatuteClausesModel", "reaches", "(II)Z"⟩, 14) := ⟨⟨by decide +kernel, by decide +kernel⟩, List.mem_of_getElem? (i := 560) (by decide +kernel), List.mem_of_getElem? (i := 702) (by decide +kernel), List.mem_of_getElem? (i := 703) (by decide +kernel)⟩
theorem lw_p24 : lw_okq (⟨"StatuteClausesModel", "isExcepted", "(II)Z"⟩, 14) := ⟨⟨by decide +kernel, by decide +kernel⟩, List.mem_of_getElem? (i := 560) (by decide +kernel), List.mem_of_getElem? (i := 706) (by decide +kernel), List.mem_of_getElem? (i := 707) (by decide +kernel)⟩
theorem lw_p25 : lw_okq (⟨"StatuteClausesModel", "changed", "()I"⟩, 14) := ⟨⟨by decide +kernel, by decide +kernel⟩, List.mem_of_getElem? (i := 560) (by decide +kernel), List.mem_of_getElem? (i := 710) (by decide +kernel), List.mem_of_getElem? (i := 711) (by decide +kernel)⟩
theorem lw_p26 : lw_okq (⟨"StatuteClausesModel", "reads", "(Z)I"⟩, 14) := ⟨⟨by decide +kernel, by decide +kernel⟩, List.mem_of_getElem? (i := 560) (by decide +kernel), List.mem_of_getElem? (i := 726) (by decide +kernel), List.mem_of_getElem? (i := 727) (by decide +kernel)⟩
theorem lw_p27 : lw_okq (⟨"StatuteClausesModel", "readClause", "(Z)V"⟩, 14) := ⟨⟨by decide +kernel, by decide +kernel⟩, List.mem_of_getElem? (i := 560) (by decide +kernel), List.mem_of_getElem? (i := 730) (by decide +kernel), List.mem_of_getElem? (i := 731) (by decide +kernel)⟩
theorem lw_p28 : lw_okq (⟨"StatuteClausesModel", "takes", "(II)I"⟩, 14) := ⟨⟨by decide +kernel, by decide +kernel⟩, List.mem_of_getElem? (i := 560) (by decide +kernel), List.mem_of_getElem? (i := 734) (by decide +kernel), List.mem_of_getElem? (i := 735) (by decide +kernel)⟩
theorem lw_p29 : lw_okq (⟨"StatuteClausesModel", "isNext", "(II)Z"⟩, 14) := ⟨⟨by decide +kernel, by decide +kernel⟩, List.mem_of_getElem? (i := 560) (by decide +kernel), List.mem_of_getElem? (i := 738) (by decide +kernel), List.mem_of_getElem? (i := 739) (by decide +kernel)⟩
theorem lw_p30 : lw_okq (⟨"StatuteClausesModel", "number", "(I)I"⟩, 14) := ⟨⟨by decide +kernel, by decide +kernel⟩, List.mem_of_getElem? (i := 560) (by decide +kernel), List.mem_of_getElem? (i := 742) (by decide +kernel), List.mem_of_getElem? (i := 743) (by decide +kernel)⟩
theorem lw_p31 : lw_okq (⟨"StatuteClausesModel", "readSpan", "()V"⟩, 14) := ⟨⟨by decide +kernel, by decide +kernel⟩, List.mem_of_getElem? (i := 560) (by decide +kernel), List.mem_of_getElem? (i := 746) (by decide +kernel), List.mem_of_getElem? (i := 747) (by decide +kernel)⟩
def lw_privs_2 : List (MethodName × Nat) := [(⟨"StatuteClausesModel", "putAside", "()V"⟩, 14), (⟨"StatuteClausesModel", "worksOut", "(I)V"⟩, 14), (⟨"StatuteClausesModel", "rules", "(III)I"⟩, 14), (⟨"StatuteClausesModel", "speaksIn", "(IIII)I"⟩, 14), (⟨"StatuteClausesModel", "latestOf", "(IIII)I"⟩, 14), (⟨"StatuteClausesModel", "isInForce", "(II)Z"⟩, 14), (⟨"StatuteClausesModel", "meets", "(II)Z"⟩, 14), (⟨"StatuteClausesModel", "reaches", "(II)Z"⟩, 14), (⟨"StatuteClausesModel", "isExcepted", "(II)Z"⟩, 14), (⟨"StatuteClausesModel", "changed", "()I"⟩, 14), (⟨"StatuteClausesModel", "reads", "(Z)I"⟩, 14), (⟨"StatuteClausesModel", "readClause", "(Z)V"⟩, 14), (⟨"StatuteClausesModel", "takes", "(II)I"⟩, 14), (⟨"StatuteClausesModel", "isNext", "(II)Z"⟩, 14), (⟨"StatuteClausesModel", "number", "(I)I"⟩, 14), (⟨"StatuteClausesModel", "readSpan", "()V"⟩, 14)]
theorem lw_r2 : ∀ q ∈ lw_privs_2, lw_okq q := List.forall_mem_cons.mpr ⟨lw_p16, List.forall_mem_cons.mpr ⟨lw_p17, List.forall_mem_cons.mpr ⟨lw_p18, List.forall_mem_cons.mpr ⟨lw_p19, List.forall_mem_cons.mpr ⟨lw_p20, List.forall_mem_cons.mpr ⟨lw_p21, List.forall_mem_cons.mpr ⟨lw_p22, List.forall_mem_cons.mpr ⟨lw_p23, List.forall_mem_cons.mpr ⟨lw_p24, List.forall_mem_cons.mpr ⟨lw_p25, List.forall_mem_cons.mpr ⟨lw_p26, List.forall_mem_cons.mpr ⟨lw_p27, List.forall_mem_cons.mpr ⟨lw_p28, List.forall_mem_cons.mpr ⟨lw_p29, List.forall_mem_cons.mpr ⟨lw_p30, List.forall_mem_cons.mpr ⟨lw_p31, fun _ h => absurd h List.not_mem_nil⟩⟩⟩⟩⟩⟩⟩⟩⟩⟩⟩⟩⟩⟩⟩⟩
theorem lw_p32 : lw_okq (⟨"StatuteClausesModel", "clausesOf", "(IZ)I"⟩, 14) := ⟨⟨by decide +kernel, by decide +kernel⟩, List.mem_of_getElem? (i := 560) (by decide +kernel), List.mem_of_getElem? (i := 766) (by decide +kernel), List.mem_of_getElem? (i := 767) (by decide +kernel)⟩
theorem lw_p33 : lw_okq (⟨"StatuteClausesModel", "ruledIn", "(I)I"⟩, 14) := ⟨⟨by decide +kernel, by decide +kernel⟩, List.mem_of_getElem? (i := 560) (by decide +kernel), List.mem_of_getElem? (i := 770) (by decide +kernel), List.mem_of_getElem? (i := 771) (by decide +kernel)⟩
theorem lw_p34 : lw_okq (⟨"StatuteClausesModel", "ruledBy", "(I)I"⟩, 14) := ⟨⟨by decide +kernel, by decide +kernel⟩, List.mem_of_getElem? (i := 560) (by decide +kernel), List.mem_of_getElem? (i := 778) (by decide +kernel), List.mem_of_getElem? (i := 779) (by decide +kernel)⟩
theorem lw_p35 : lw_okq (⟨"StatuteClausesModel", "spokenBy", "(I)I"⟩, 14) := ⟨⟨by decide +kernel, by decide +kernel⟩, List.mem_of_getElem? (i := 560) (by decide +kernel), List.mem_of_getElem? (i := 782) (by decide +kernel), List.mem_of_getElem? (i := 783) (by decide +kernel)⟩
theorem lw_p36 : lw_okq (⟨"StatuteClausesModel", "areThere", "(III)Z"⟩, 14) := ⟨⟨by decide +kernel, by decide +kernel⟩, List.mem_of_getElem? (i := 560) (by decide +kernel), List.mem_of_getElem? (i := 798) (by decide +kernel), List.mem_of_getElem? (i := 799) (by decide +kernel)⟩
theorem lw_p37 : lw_okq (⟨"StatuteClausesModel", "silencer", "(III)I"⟩, 14) := ⟨⟨by decide +kernel, by decide +kernel⟩, List.mem_of_getElem? (i := 560) (by decide +kernel), List.mem_of_getElem? (i := 802) (by decide +kernel), List.mem_of_getElem? (i := 803) (by decide +kernel)⟩
theorem lw_p38 : lw_okq (⟨"StatuteClausesModel", "ruleOn", "(I)I"⟩, 14) := ⟨⟨by decide +kernel, by decide +kernel⟩, List.mem_of_getElem? (i := 560) (by decide +kernel), List.mem_of_getElem? (i := 822) (by decide +kernel), List.mem_of_getElem? (i := 823) (by decide +kernel)⟩
theorem lw_p39 : lw_okq (⟨"StatuteClausesModel", "ruled", "()I"⟩, 14) := ⟨⟨by decide +kernel, by decide +kernel⟩, List.mem_of_getElem? (i := 560) (by decide +kernel), List.mem_of_getElem? (i := 838) (by decide +kernel), List.mem_of_getElem? (i := 839) (by decide +kernel)⟩
theorem lw_p40 : lw_okq (⟨"StatuteClausesModel", "spoken", "()I"⟩, 14) := ⟨⟨by decide +kernel, by decide +kernel⟩, List.mem_of_getElem? (i := 560) (by decide +kernel), List.mem_of_getElem? (i := 842) (by decide +kernel), List.mem_of_getElem? (i := 843) (by decide +kernel)⟩
theorem lw_p41 : lw_okq (⟨"StatuteClausesModel", "allOf", "(Z)I"⟩, 14) := ⟨⟨by decide +kernel, by decide +kernel⟩, List.mem_of_getElem? (i := 560) (by decide +kernel), List.mem_of_getElem? (i := 846) (by decide +kernel), List.mem_of_getElem? (i := 847) (by decide +kernel)⟩
def lw_privs_3 : List (MethodName × Nat) := [(⟨"StatuteClausesModel", "clausesOf", "(IZ)I"⟩, 14), (⟨"StatuteClausesModel", "ruledIn", "(I)I"⟩, 14), (⟨"StatuteClausesModel", "ruledBy", "(I)I"⟩, 14), (⟨"StatuteClausesModel", "spokenBy", "(I)I"⟩, 14), (⟨"StatuteClausesModel", "areThere", "(III)Z"⟩, 14), (⟨"StatuteClausesModel", "silencer", "(III)I"⟩, 14), (⟨"StatuteClausesModel", "ruleOn", "(I)I"⟩, 14), (⟨"StatuteClausesModel", "ruled", "()I"⟩, 14), (⟨"StatuteClausesModel", "spoken", "()I"⟩, 14), (⟨"StatuteClausesModel", "allOf", "(Z)I"⟩, 14)]
theorem lw_r3 : ∀ q ∈ lw_privs_3, lw_okq q := List.forall_mem_cons.mpr ⟨lw_p32, List.forall_mem_cons.mpr ⟨lw_p33, List.forall_mem_cons.mpr ⟨lw_p34, List.forall_mem_cons.mpr ⟨lw_p35, List.forall_mem_cons.mpr ⟨lw_p36, List.forall_mem_cons.mpr ⟨lw_p37, List.forall_mem_cons.mpr ⟨lw_p38, List.forall_mem_cons.mpr ⟨lw_p39, List.forall_mem_cons.mpr ⟨lw_p40, List.forall_mem_cons.mpr ⟨lw_p41, fun _ h => absurd h List.not_mem_nil⟩⟩⟩⟩⟩⟩⟩⟩⟩⟩
def lw_privs : List (MethodName × Nat) := lw_privs_1 ++ (lw_privs_2 ++ (lw_privs_3))
def lw_tbl : List Cond := k2_sels lw_privs ++ tables_1
theorem lw_privs_ok : ∀ q ∈ lw_privs, lw_okq q := by
  show ∀ q ∈ lw_privs_1 ++ (lw_privs_2 ++ (lw_privs_3)), lw_okq q
  exact List.forall_mem_append.mpr ⟨lw_r1, List.forall_mem_append.mpr ⟨lw_r2, lw_r3⟩⟩

def RX0 : String := "StatuteClauses$Book"
def TX0 : u_T := fun k => match k with
  | 0 => ("StatuteClauses$Book", "today", "I", false)
  | 1 => ("StatuteClauses$Book", "reachFirst", "[I", true)
  | 2 => ("StatuteClauses$Book", "reachLast", "[I", true)
  | 3 => ("StatuteClauses$Book", "rankOf", "[I", true)
  | _ => ("StatuteClauses$Book", "clauses", "LStatuteClauses$Clauses;", true)
def tyX0 : Nat → FieldType := fun k => match k with
  | 0 => .int
  | 1 => .array .int
  | 2 => .array .int
  | 3 => .array .int
  | _ => .object "StatuteClauses$Clauses"
abbrev wsX00 : List Cond := u_ws RX0 TX0 5
theorem nmX0 : ∀ a, a < 5 → ∀ b, b < 5 → a ≠ b → (TX0 a).2.1 ≠ (TX0 b).2.1 := by decide +kernel
theorem tyX0_ok : ∀ k, k < 5 → parseFieldDescriptor (TX0 k).2.2.1 = some (tyX0 k) := by decide +kernel
abbrev cX0_init : ByteArray := prog_2_method_1_code
def yX0_init : MethodName := ⟨RX0, "<init>", "()V"⟩
abbrev cX0_copyFrom : ByteArray := prog_2_method_2_code
def yX0_copyFrom : MethodName := ⟨RX0, "copyFrom", "(LStatuteClauses$Book;)V"⟩
abbrev cX0_reaches : ByteArray := prog_2_method_3_code
def yX0_reaches : MethodName := ⟨RX0, "reaches", "(II)Z"⟩
abbrev cX0_meets : ByteArray := prog_2_method_4_code
def yX0_meets : MethodName := ⟨RX0, "meets", "(II)Z"⟩
def RX1 : String := "StatuteClauses$Clauses"
def TX1 : u_T := fun k => match k with
  | 0 => ("StatuteClauses$Clauses", "size", "I", false)
  | 1 => ("StatuteClauses$Clauses", "chapterOf", "[I", true)
  | 2 => ("StatuteClauses$Clauses", "date", "[I", true)
  | 3 => ("StatuteClauses$Clauses", "endDay", "[I", true)
  | 4 => ("StatuteClauses$Clauses", "first", "[I", true)
  | 5 => ("StatuteClauses$Clauses", "last", "[I", true)
  | 6 => ("StatuteClauses$Clauses", "verdict", "[I", true)
  | 7 => ("StatuteClauses$Clauses", "exceptions", "[I", true)
  | 8 => ("StatuteClauses$Clauses", "exceptFirst", "[I", true)
  | _ => ("StatuteClauses$Clauses", "exceptLast", "[I", true)
def tyX1 : Nat → FieldType := fun k => match k with
  | 0 => .int
  | 1 => .array .int
  | 2 => .array .int
  | 3 => .array .int
  | 4 => .array .int
  | 5 => .array .int
  | 6 => .array .int
  | 7 => .array .int
  | 8 => .array .int
  | _ => .array .int
abbrev wsX10 : List Cond := u_ws RX1 TX1 10
theorem nmX1 : ∀ a, a < 10 → ∀ b, b < 10 → a ≠ b → (TX1 a).2.1 ≠ (TX1 b).2.1 := by decide +kernel
theorem tyX1_ok : ∀ k, k < 10 → parseFieldDescriptor (TX1 k).2.2.1 = some (tyX1 k) := by decide +kernel
abbrev cX1_init : ByteArray := prog_3_method_1_code
def yX1_init : MethodName := ⟨RX1, "<init>", "()V"⟩
abbrev cX1_has : ByteArray := prog_3_method_2_code
def yX1_has : MethodName := ⟨RX1, "has", "(I)Z"⟩
abbrev cX1_add : ByteArray := prog_3_method_3_code
def yX1_add : MethodName := ⟨RX1, "add", "(IIIII)I"⟩
abbrev cX1_addException : ByteArray := prog_3_method_4_code
def yX1_addException : MethodName := ⟨RX1, "addException", "(III)V"⟩
abbrev cX1_addAll : ByteArray := prog_3_method_5_code
def yX1_addAll : MethodName := ⟨RX1, "addAll", "(LStatuteClauses$Clauses;)V"⟩
abbrev cX1_copyFrom : ByteArray := prog_3_method_6_code
def yX1_copyFrom : MethodName := ⟨RX1, "copyFrom", "(LStatuteClauses$Clauses;)V"⟩
abbrev cX1_isInForce : ByteArray := prog_3_method_7_code
def yX1_isInForce : MethodName := ⟨RX1, "isInForce", "(II)Z"⟩
abbrev cX1_isInSpan : ByteArray := prog_3_method_8_code
def yX1_isInSpan : MethodName := ⟨RX1, "isInSpan", "(II)Z"⟩
abbrev cX1_isExcepted : ByteArray := prog_3_method_9_code
def yX1_isExcepted : MethodName := ⟨RX1, "isExcepted", "(II)Z"⟩
abbrev cX1_speaksAtAll : ByteArray := prog_3_method_10_code
def yX1_speaksAtAll : MethodName := ⟨RX1, "speaksAtAll", "(I)Z"⟩
abbrev cX1_hasReversedSpan : ByteArray := prog_3_method_11_code
def yX1_hasReversedSpan : MethodName := ⟨RX1, "hasReversedSpan", "()Z"⟩
abbrev cX1_nextTurn : ByteArray := prog_3_method_12_code
def yX1_nextTurn : MethodName := ⟨RX1, "nextTurn", "(I)I"⟩
abbrev cX1_countOfChapter : ByteArray := prog_3_method_13_code
def yX1_countOfChapter : MethodName := ⟨RX1, "countOfChapter", "(I)I"⟩
abbrev cX1_countInForceOfChapter : ByteArray := prog_3_method_14_code
def yX1_countInForceOfChapter : MethodName := ⟨RX1, "countInForceOfChapter", "(II)I"⟩
abbrev cX1_countInForce : ByteArray := prog_3_method_15_code
def yX1_countInForce : MethodName := ⟨RX1, "countInForce", "(I)I"⟩
abbrev cX1_countExceptions : ByteArray := prog_3_method_16_code
def yX1_countExceptions : MethodName := ⟨RX1, "countExceptions", "()I"⟩
abbrev cX1_countSilent : ByteArray := prog_3_method_17_code
def yX1_countSilent : MethodName := ⟨RX1, "countSilent", "()I"⟩
def RX2 : String := "StatuteClauses$Judge"
def TX2 : u_T := fun k => match k with
  | 0 => ("StatuteClauses$Judge", "book", "LStatuteClauses$Book;", true)
  | 1 => ("StatuteClauses$Judge", "clauses", "LStatuteClauses$Clauses;", true)
  | 2 => ("StatuteClauses$Judge", "tops", "[I", true)
  | _ => ("StatuteClauses$Judge", "tally", "[I", true)
def tyX2 : Nat → FieldType := fun k => match k with
  | 0 => .object "StatuteClauses$Book"
  | 1 => .object "StatuteClauses$Clauses"
  | 2 => .array .int
  | _ => .array .int
abbrev wsX20 : List Cond := u_ws RX2 TX2 4
theorem nmX2 : ∀ a, a < 4 → ∀ b, b < 4 → a ≠ b → (TX2 a).2.1 ≠ (TX2 b).2.1 := by decide +kernel
theorem tyX2_ok : ∀ k, k < 4 → parseFieldDescriptor (TX2 k).2.2.1 = some (tyX2 k) := by decide +kernel
abbrev cX2_init : ByteArray := prog_4_method_1_code
def yX2_init : MethodName := ⟨RX2, "<init>", "()V"⟩
abbrev cX2_findTops : ByteArray := prog_4_method_2_code
def yX2_findTops : MethodName := ⟨RX2, "findTops", "(III)V"⟩
abbrev cX2_topSpeaks : ByteArray := prog_4_method_3_code
def yX2_topSpeaks : MethodName := ⟨RX2, "topSpeaks", "(I)Z"⟩
abbrev cX2_rulerOfTops : ByteArray := prog_4_method_4_code
def yX2_rulerOfTops : MethodName := ⟨RX2, "rulerOfTops", "()I"⟩
abbrev cX2_ruler : ByteArray := prog_4_method_5_code
def yX2_ruler : MethodName := ⟨RX2, "ruler", "(II)I"⟩
abbrev cX2_rulerWithout : ByteArray := prog_4_method_6_code
def yX2_rulerWithout : MethodName := ⟨RX2, "rulerWithout", "(III)I"⟩
abbrev cX2_silencer : ByteArray := prog_4_method_7_code
def yX2_silencer : MethodName := ⟨RX2, "silencer", "(III)I"⟩
abbrev cX2_whyNotRuling : ByteArray := prog_4_method_8_code
def yX2_whyNotRuling : MethodName := ⟨RX2, "whyNotRuling", "(III)I"⟩
abbrev cX2_nextChange : ByteArray := prog_4_method_9_code
def yX2_nextChange : MethodName := ⟨RX2, "nextChange", "(II)I"⟩
abbrev cX2_busyClauses : ByteArray := prog_4_method_10_code
def yX2_busyClauses : MethodName := ⟨RX2, "busyClauses", "()I"⟩
abbrev cX2_casesChangedBetween : ByteArray := prog_4_method_11_code
def yX2_casesChangedBetween : MethodName := ⟨RX2, "casesChangedBetween", "(II)I"⟩
abbrev cX2_casesChangedWithout : ByteArray := prog_4_method_12_code
def yX2_casesChangedWithout : MethodName := ⟨RX2, "casesChangedWithout", "(I)I"⟩
abbrev cX2_tallyToday : ByteArray := prog_4_method_13_code
def yX2_tallyToday : MethodName := ⟨RX2, "tallyToday", "()V"⟩
abbrev cX2_casesRuled : ByteArray := prog_4_method_14_code
def yX2_casesRuled : MethodName := ⟨RX2, "casesRuled", "()I"⟩
abbrev cX2_casesRuledByClause : ByteArray := prog_4_method_15_code
def yX2_casesRuledByClause : MethodName := ⟨RX2, "casesRuledByClause", "(I)I"⟩
abbrev cX2_casesRuledByChapter : ByteArray := prog_4_method_16_code
def yX2_casesRuledByChapter : MethodName := ⟨RX2, "casesRuledByChapter", "(I)I"⟩
abbrev cX2_rulerOfMost : ByteArray := prog_4_method_17_code
def yX2_rulerOfMost : MethodName := ⟨RX2, "rulerOfMost", "()I"⟩
abbrev cX2_casesSpokenOf : ByteArray := prog_4_method_18_code
def yX2_casesSpokenOf : MethodName := ⟨RX2, "casesSpokenOf", "(I)I"⟩
abbrev cX2_timesSpoken : ByteArray := prog_4_method_19_code
def yX2_timesSpoken : MethodName := ⟨RX2, "timesSpoken", "()I"⟩
abbrev cX2_casesOfUnlikeVerdicts : ByteArray := prog_4_method_20_code
def yX2_casesOfUnlikeVerdicts : MethodName := ⟨RX2, "casesOfUnlikeVerdicts", "(II)I"⟩
def RX3 : String := "StatuteClauses$Painter"
def TX3 : u_T := fun k => match k with
  | 0 => ("StatuteClauses$Painter", "canvas", "[I", true)
  | 1 => ("StatuteClauses$Painter", "coat", "[I", true)
  | _ => ("StatuteClauses$Painter", "order", "[I", true)
def tyX3 : Nat → FieldType := fun k => match k with
  | 0 => .array .int
  | 1 => .array .int
  | _ => .array .int
abbrev wsX30 : List Cond := u_ws RX3 TX3 3
theorem nmX3 : ∀ a, a < 3 → ∀ b, b < 3 → a ≠ b → (TX3 a).2.1 ≠ (TX3 b).2.1 := by decide +kernel
theorem tyX3_ok : ∀ k, k < 3 → parseFieldDescriptor (TX3 k).2.2.1 = some (tyX3 k) := by decide +kernel
abbrev cX3_init : ByteArray := prog_5_method_1_code
def yX3_init : MethodName := ⟨RX3, "<init>", "()V"⟩
abbrev cX3_paint : ByteArray := prog_5_method_2_code
def yX3_paint : MethodName := ⟨RX3, "paint", "(LStatuteClauses$Book;I)V"⟩
abbrev cX3_sortByDates : ByteArray := prog_5_method_3_code
def yX3_sortByDates : MethodName := ⟨RX3, "sortByDates", "(LStatuteClauses$Clauses;)V"⟩
abbrev cX3_paintCoat : ByteArray := prog_5_method_4_code
def yX3_paintCoat : MethodName := ⟨RX3, "paintCoat", "(LStatuteClauses$Book;II)V"⟩
abbrev cX3_paintClause : ByteArray := prog_5_method_5_code
def yX3_paintClause : MethodName := ⟨RX3, "paintClause", "(LStatuteClauses$Clauses;III)V"⟩
abbrev cX3_layCoat : ByteArray := prog_5_method_6_code
def yX3_layCoat : MethodName := ⟨RX3, "layCoat", "(LStatuteClauses$Clauses;)V"⟩
def RX4 : String := "StatuteClauses$Text"
def TX4 : u_T := fun k => match k with
  | 0 => ("StatuteClauses$Text", "signs", "[C", true)
  | 1 => ("StatuteClauses$Text", "length", "I", false)
  | 2 => ("StatuteClauses$Text", "at", "I", false)
  | 3 => ("StatuteClauses$Text", "value", "I", false)
  | 4 => ("StatuteClauses$Text", "first", "I", false)
  | _ => ("StatuteClauses$Text", "last", "I", false)
def tyX4 : Nat → FieldType := fun k => match k with
  | 0 => .array .char
  | 1 => .int
  | 2 => .int
  | 3 => .int
  | 4 => .int
  | _ => .int
abbrev wsX40 : List Cond := u_ws RX4 TX4 6
theorem nmX4 : ∀ a, a < 6 → ∀ b, b < 6 → a ≠ b → (TX4 a).2.1 ≠ (TX4 b).2.1 := by decide +kernel
theorem tyX4_ok : ∀ k, k < 6 → parseFieldDescriptor (TX4 k).2.2.1 = some (tyX4 k) := by decide +kernel
abbrev cX4_init : ByteArray := prog_6_method_1_code
def yX4_init : MethodName := ⟨RX4, "<init>", "()V"⟩
abbrev cX4_add : ByteArray := prog_6_method_2_code
def yX4_add : MethodName := ⟨RX4, "add", "(C)V"⟩
abbrev cX4_readClauses : ByteArray := prog_6_method_3_code
def yX4_readClauses : MethodName := ⟨RX4, "readClauses", "(LStatuteClauses$Clauses;)Z"⟩
abbrev cX4_readClause : ByteArray := prog_6_method_4_code
def yX4_readClause : MethodName := ⟨RX4, "readClause", "(LStatuteClauses$Clauses;)Z"⟩
abbrev cX4_readExceptions : ByteArray := prog_6_method_5_code
def yX4_readExceptions : MethodName := ⟨RX4, "readExceptions", "(LStatuteClauses$Clauses;I)Z"⟩
abbrev cX4_readSpan : ByteArray := prog_6_method_6_code
def yX4_readSpan : MethodName := ⟨RX4, "readSpan", "()Z"⟩
abbrev cX4_readSign : ByteArray := prog_6_method_7_code
def yX4_readSign : MethodName := ⟨RX4, "readSign", "(C)Z"⟩
abbrev cX4_readNumber : ByteArray := prog_6_method_8_code
def yX4_readNumber : MethodName := ⟨RX4, "readNumber", "(I)Z"⟩
abbrev cX4_digitHere : ByteArray := prog_6_method_9_code
def yX4_digitHere : MethodName := ⟨RX4, "digitHere", "()I"⟩
def RX5 : String := "StatuteClauses"
def TX5 : u_T := fun k => match k with
  | 0 => ("StatuteClauses", "judge", "LStatuteClauses$Judge;", true)
  | 1 => ("StatuteClauses", "now", "LStatuteClauses$Book;", true)
  | 2 => ("StatuteClauses", "snapshot", "LStatuteClauses$Book;", true)
  | 3 => ("StatuteClauses", "hasSnapshot", "Z", false)
  | 4 => ("StatuteClauses", "past", "[LStatuteClauses$Book;", true)
  | 5 => ("StatuteClauses", "pastSize", "I", false)
  | 6 => ("StatuteClauses", "text", "LStatuteClauses$Text;", true)
  | 7 => ("StatuteClauses", "draft", "LStatuteClauses$Clauses;", true)
  | _ => ("StatuteClauses", "painter", "LStatuteClauses$Painter;", true)
def tyX5 : Nat → FieldType := fun k => match k with
  | 0 => .object "StatuteClauses$Judge"
  | 1 => .object "StatuteClauses$Book"
  | 2 => .object "StatuteClauses$Book"
  | 3 => .boolean
  | 4 => .array (.object "StatuteClauses$Book")
  | 5 => .int
  | 6 => .object "StatuteClauses$Text"
  | 7 => .object "StatuteClauses$Clauses"
  | _ => .object "StatuteClauses$Painter"
abbrev wsX50 : List Cond := u_ws RX5 TX5 9
theorem nmX5 : ∀ a, a < 9 → ∀ b, b < 9 → a ≠ b → (TX5 a).2.1 ≠ (TX5 b).2.1 := by decide +kernel
theorem tyX5_ok : ∀ k, k < 9 → parseFieldDescriptor (TX5 k).2.2.1 = some (tyX5 k) := by decide +kernel
abbrev cX5_init : ByteArray := prog_1_method_1_code
def yX5_init : MethodName := ⟨RX5, "<init>", "()V"⟩
abbrev cX5_setReach : ByteArray := prog_1_method_2_code
def yX5_setReach : MethodName := ⟨RX5, "setReach", "(III)I"⟩
abbrev cX5_exchange : ByteArray := prog_1_method_3_code
def yX5_exchange : MethodName := ⟨RX5, "exchange", "(II)I"⟩
abbrev cX5_write : ByteArray := prog_1_method_4_code
def yX5_write : MethodName := ⟨RX5, "write", "(IIIII)I"⟩
abbrev cX5_except : ByteArray := prog_1_method_5_code
def yX5_except : MethodName := ⟨RX5, "except", "(III)I"⟩
abbrev cX5_end : ByteArray := prog_1_method_6_code
def yX5_end : MethodName := ⟨RX5, "end", "(II)I"⟩
abbrev cX5_setDay : ByteArray := prog_1_method_7_code
def yX5_setDay : MethodName := ⟨RX5, "setDay", "(I)I"⟩
abbrev cX5_type : ByteArray := prog_1_method_8_code
def yX5_type : MethodName := ⟨RX5, "type", "(C)I"⟩
abbrev cX5_clearText : ByteArray := prog_1_method_9_code
def yX5_clearText : MethodName := ⟨RX5, "clearText", "()I"⟩
abbrev cX5_writeAll : ByteArray := prog_1_method_10_code
def yX5_writeAll : MethodName := ⟨RX5, "writeAll", "()I"⟩
abbrev cX5_undo : ByteArray := prog_1_method_11_code
def yX5_undo : MethodName := ⟨RX5, "undo", "()I"⟩
abbrev cX5_keep : ByteArray := prog_1_method_12_code
def yX5_keep : MethodName := ⟨RX5, "keep", "()I"⟩
abbrev cX5_restore : ByteArray := prog_1_method_13_code
def yX5_restore : MethodName := ⟨RX5, "restore", "()I"⟩
abbrev cX5_chapter : ByteArray := prog_1_method_14_code
def yX5_chapter : MethodName := ⟨RX5, "chapter", "(II)I"⟩
abbrev cX5_clause : ByteArray := prog_1_method_15_code
def yX5_clause : MethodName := ⟨RX5, "clause", "(II)I"⟩
abbrev cX5_ruling : ByteArray := prog_1_method_16_code
def yX5_ruling : MethodName := ⟨RX5, "ruling", "(III)I"⟩
abbrev cX5_painted : ByteArray := prog_1_method_17_code
def yX5_painted : MethodName := ⟨RX5, "painted", "(II)I"⟩
abbrev cX5_silencedBy : ByteArray := prog_1_method_18_code
def yX5_silencedBy : MethodName := ⟨RX5, "silencedBy", "(III)I"⟩
abbrev cX5_reason : ByteArray := prog_1_method_19_code
def yX5_reason : MethodName := ⟨RX5, "reason", "(III)I"⟩
abbrev cX5_changesOn : ByteArray := prog_1_method_20_code
def yX5_changesOn : MethodName := ⟨RX5, "changesOn", "(II)I"⟩
abbrev cX5_unlike : ByteArray := prog_1_method_21_code
def yX5_unlike : MethodName := ⟨RX5, "unlike", "(II)I"⟩
abbrev cX5_idle : ByteArray := prog_1_method_22_code
def yX5_idle : MethodName := ⟨RX5, "idle", "()I"⟩
abbrev cX5_ifGone : ByteArray := prog_1_method_23_code
def yX5_ifGone : MethodName := ⟨RX5, "ifGone", "(I)I"⟩
abbrev cX5_weightiest : ByteArray := prog_1_method_24_code
def yX5_weightiest : MethodName := ⟨RX5, "weightiest", "()I"⟩
abbrev cX5_count : ByteArray := prog_1_method_25_code
def yX5_count : MethodName := ⟨RX5, "count", "(I)I"⟩
abbrev cX5_isBelow : ByteArray := prog_1_method_26_code
def yX5_isBelow : MethodName := ⟨RX5, "isBelow", "(II)Z"⟩
abbrev cX5_isChapter : ByteArray := prog_1_method_27_code
def yX5_isChapter : MethodName := ⟨RX5, "isChapter", "(I)Z"⟩
abbrev cX5_isCase : ByteArray := prog_1_method_28_code
def yX5_isCase : MethodName := ⟨RX5, "isCase", "(I)Z"⟩
abbrev cX5_isDay : ByteArray := prog_1_method_29_code
def yX5_isDay : MethodName := ⟨RX5, "isDay", "(I)Z"⟩
abbrev cX5_isSpan : ByteArray := prog_1_method_30_code
def yX5_isSpan : MethodName := ⟨RX5, "isSpan", "(II)Z"⟩
abbrev cX5_record : ByteArray := prog_1_method_31_code
def yX5_record : MethodName := ⟨RX5, "record", "()V"⟩
def RX6 : String := "StatuteClausesModel"
def TX6 : u_T := fun k => match k with
  | 0 => ("StatuteClausesModel", "s", "[I", true)
  | 1 => ("StatuteClausesModel", "history", "[I", true)
  | 2 => ("StatuteClausesModel", "known", "I", false)
  | 3 => ("StatuteClausesModel", "snapshot", "[I", true)
  | 4 => ("StatuteClausesModel", "isKept", "Z", false)
  | 5 => ("StatuteClausesModel", "text", "[I", true)
  | 6 => ("StatuteClausesModel", "length", "I", false)
  | 7 => ("StatuteClausesModel", "rulings", "[I", true)
  | 8 => ("StatuteClausesModel", "were", "[I", true)
  | 9 => ("StatuteClausesModel", "spot", "I", false)
  | 10 => ("StatuteClausesModel", "isWrong", "Z", false)
  | 11 => ("StatuteClausesModel", "isBad", "Z", false)
  | 12 => ("StatuteClausesModel", "first", "I", false)
  | _ => ("StatuteClausesModel", "last", "I", false)
def tyX6 : Nat → FieldType := fun k => match k with
  | 0 => .array .int
  | 1 => .array .int
  | 2 => .int
  | 3 => .array .int
  | 4 => .boolean
  | 5 => .array .int
  | 6 => .int
  | 7 => .array .int
  | 8 => .array .int
  | 9 => .int
  | 10 => .boolean
  | 11 => .boolean
  | 12 => .int
  | _ => .int
abbrev wsX60 : List Cond := u_ws RX6 TX6 14
theorem nmX6 : ∀ a, a < 14 → ∀ b, b < 14 → a ≠ b → (TX6 a).2.1 ≠ (TX6 b).2.1 := by decide +kernel
theorem tyX6_ok : ∀ k, k < 14 → parseFieldDescriptor (TX6 k).2.2.1 = some (tyX6 k) := by decide +kernel
abbrev cX6_init : ByteArray := prog_8_method_1_code
def yX6_init : MethodName := ⟨RX6, "<init>", "()V"⟩
abbrev cX6_in : ByteArray := prog_8_method_2_code
def yX6_in : MethodName := ⟨RX6, "in", "(III)Z"⟩
abbrev cX6_isChapter : ByteArray := prog_8_method_3_code
def yX6_isChapter : MethodName := ⟨RX6, "isChapter", "(I)Z"⟩
abbrev cX6_isCase : ByteArray := prog_8_method_4_code
def yX6_isCase : MethodName := ⟨RX6, "isCase", "(I)Z"⟩
abbrev cX6_isDay : ByteArray := prog_8_method_5_code
def yX6_isDay : MethodName := ⟨RX6, "isDay", "(I)Z"⟩
abbrev cX6_isSpan : ByteArray := prog_8_method_6_code
def yX6_isSpan : MethodName := ⟨RX6, "isSpan", "(II)Z"⟩
abbrev cX6_isClause : ByteArray := prog_8_method_7_code
def yX6_isClause : MethodName := ⟨RX6, "isClause", "(I)Z"⟩
abbrev cX6_ofChapter : ByteArray := prog_8_method_8_code
def yX6_ofChapter : MethodName := ⟨RX6, "ofChapter", "(II)I"⟩
abbrev cX6_of : ByteArray := prog_8_method_9_code
def yX6_of : MethodName := ⟨RX6, "of", "(II)I"⟩
abbrev cX6_get : ByteArray := prog_8_method_10_code
def yX6_get : MethodName := ⟨RX6, "get", "(II)I"⟩
abbrev cX6_record : ByteArray := prog_8_method_11_code
def yX6_record : MethodName := ⟨RX6, "record", "()V"⟩
abbrev cX6_isInForce : ByteArray := prog_8_method_12_code
def yX6_isInForce : MethodName := ⟨RX6, "isInForce", "(II)Z"⟩
abbrev cX6_reaches : ByteArray := prog_8_method_13_code
def yX6_reaches : MethodName := ⟨RX6, "reaches", "(II)Z"⟩
abbrev cX6_isExcepted : ByteArray := prog_8_method_14_code
def yX6_isExcepted : MethodName := ⟨RX6, "isExcepted", "(II)Z"⟩
abbrev cX6_meets : ByteArray := prog_8_method_15_code
def yX6_meets : MethodName := ⟨RX6, "meets", "(II)Z"⟩
abbrev cX6_latestOf : ByteArray := prog_8_method_16_code
def yX6_latestOf : MethodName := ⟨RX6, "latestOf", "(IIII)I"⟩
abbrev cX6_speaksIn : ByteArray := prog_8_method_17_code
def yX6_speaksIn : MethodName := ⟨RX6, "speaksIn", "(IIII)I"⟩
abbrev cX6_rules : ByteArray := prog_8_method_18_code
def yX6_rules : MethodName := ⟨RX6, "rules", "(III)I"⟩
abbrev cX6_worksOut : ByteArray := prog_8_method_19_code
def yX6_worksOut : MethodName := ⟨RX6, "worksOut", "(I)V"⟩
abbrev cX6_putAside : ByteArray := prog_8_method_20_code
def yX6_putAside : MethodName := ⟨RX6, "putAside", "()V"⟩
abbrev cX6_changed : ByteArray := prog_8_method_21_code
def yX6_changed : MethodName := ⟨RX6, "changed", "()I"⟩
abbrev cX6_setReach : ByteArray := prog_8_method_22_code
def yX6_setReach : MethodName := ⟨RX6, "setReach", "(III)I"⟩
abbrev cX6_exchange : ByteArray := prog_8_method_23_code
def yX6_exchange : MethodName := ⟨RX6, "exchange", "(II)I"⟩
abbrev cX6_writes : ByteArray := prog_8_method_24_code
def yX6_writes : MethodName := ⟨RX6, "writes", "(IIIII)V"⟩
abbrev cX6_excepts : ByteArray := prog_8_method_25_code
def yX6_excepts : MethodName := ⟨RX6, "excepts", "(III)I"⟩
abbrev cX6_write : ByteArray := prog_8_method_26_code
def yX6_write : MethodName := ⟨RX6, "write", "(IIIII)I"⟩
abbrev cX6_except : ByteArray := prog_8_method_27_code
def yX6_except : MethodName := ⟨RX6, "except", "(III)I"⟩
abbrev cX6_end : ByteArray := prog_8_method_28_code
def yX6_end : MethodName := ⟨RX6, "end", "(II)I"⟩
abbrev cX6_setDay : ByteArray := prog_8_method_29_code
def yX6_setDay : MethodName := ⟨RX6, "setDay", "(I)I"⟩
abbrev cX6_type : ByteArray := prog_8_method_30_code
def yX6_type : MethodName := ⟨RX6, "type", "(C)I"⟩
abbrev cX6_clearText : ByteArray := prog_8_method_31_code
def yX6_clearText : MethodName := ⟨RX6, "clearText", "()I"⟩
abbrev cX6_isNext : ByteArray := prog_8_method_32_code
def yX6_isNext : MethodName := ⟨RX6, "isNext", "(II)Z"⟩
abbrev cX6_takes : ByteArray := prog_8_method_33_code
def yX6_takes : MethodName := ⟨RX6, "takes", "(II)I"⟩
abbrev cX6_number : ByteArray := prog_8_method_34_code
def yX6_number : MethodName := ⟨RX6, "number", "(I)I"⟩
abbrev cX6_readSpan : ByteArray := prog_8_method_35_code
def yX6_readSpan : MethodName := ⟨RX6, "readSpan", "()V"⟩
abbrev cX6_readClause : ByteArray := prog_8_method_36_code
def yX6_readClause : MethodName := ⟨RX6, "readClause", "(Z)V"⟩
abbrev cX6_reads : ByteArray := prog_8_method_37_code
def yX6_reads : MethodName := ⟨RX6, "reads", "(Z)I"⟩
abbrev cX6_writeAll : ByteArray := prog_8_method_38_code
def yX6_writeAll : MethodName := ⟨RX6, "writeAll", "()I"⟩
abbrev cX6_undo : ByteArray := prog_8_method_39_code
def yX6_undo : MethodName := ⟨RX6, "undo", "()I"⟩
abbrev cX6_keep : ByteArray := prog_8_method_40_code
def yX6_keep : MethodName := ⟨RX6, "keep", "()I"⟩
abbrev cX6_restore : ByteArray := prog_8_method_41_code
def yX6_restore : MethodName := ⟨RX6, "restore", "()I"⟩
abbrev cX6_clausesOf : ByteArray := prog_8_method_42_code
def yX6_clausesOf : MethodName := ⟨RX6, "clausesOf", "(IZ)I"⟩
abbrev cX6_ruledIn : ByteArray := prog_8_method_43_code
def yX6_ruledIn : MethodName := ⟨RX6, "ruledIn", "(I)I"⟩
abbrev cX6_chapter : ByteArray := prog_8_method_44_code
def yX6_chapter : MethodName := ⟨RX6, "chapter", "(II)I"⟩
abbrev cX6_spokenBy : ByteArray := prog_8_method_45_code
def yX6_spokenBy : MethodName := ⟨RX6, "spokenBy", "(I)I"⟩
abbrev cX6_ruledBy : ByteArray := prog_8_method_46_code
def yX6_ruledBy : MethodName := ⟨RX6, "ruledBy", "(I)I"⟩
abbrev cX6_clause : ByteArray := prog_8_method_47_code
def yX6_clause : MethodName := ⟨RX6, "clause", "(II)I"⟩
abbrev cX6_ruling : ByteArray := prog_8_method_48_code
def yX6_ruling : MethodName := ⟨RX6, "ruling", "(III)I"⟩
abbrev cX6_painted : ByteArray := prog_8_method_49_code
def yX6_painted : MethodName := ⟨RX6, "painted", "(II)I"⟩
abbrev cX6_areThere : ByteArray := prog_8_method_50_code
def yX6_areThere : MethodName := ⟨RX6, "areThere", "(III)Z"⟩
abbrev cX6_silencer : ByteArray := prog_8_method_51_code
def yX6_silencer : MethodName := ⟨RX6, "silencer", "(III)I"⟩
abbrev cX6_silencedBy : ByteArray := prog_8_method_52_code
def yX6_silencedBy : MethodName := ⟨RX6, "silencedBy", "(III)I"⟩
abbrev cX6_reason : ByteArray := prog_8_method_53_code
def yX6_reason : MethodName := ⟨RX6, "reason", "(III)I"⟩
abbrev cX6_changesOn : ByteArray := prog_8_method_54_code
def yX6_changesOn : MethodName := ⟨RX6, "changesOn", "(II)I"⟩
abbrev cX6_unlike : ByteArray := prog_8_method_55_code
def yX6_unlike : MethodName := ⟨RX6, "unlike", "(II)I"⟩
abbrev cX6_ruleOn : ByteArray := prog_8_method_56_code
def yX6_ruleOn : MethodName := ⟨RX6, "ruleOn", "(I)I"⟩
abbrev cX6_idle : ByteArray := prog_8_method_57_code
def yX6_idle : MethodName := ⟨RX6, "idle", "()I"⟩
abbrev cX6_ifGone : ByteArray := prog_8_method_58_code
def yX6_ifGone : MethodName := ⟨RX6, "ifGone", "(I)I"⟩
abbrev cX6_weightiest : ByteArray := prog_8_method_59_code
def yX6_weightiest : MethodName := ⟨RX6, "weightiest", "()I"⟩
abbrev cX6_ruled : ByteArray := prog_8_method_60_code
def yX6_ruled : MethodName := ⟨RX6, "ruled", "()I"⟩
abbrev cX6_spoken : ByteArray := prog_8_method_61_code
def yX6_spoken : MethodName := ⟨RX6, "spoken", "()I"⟩
abbrev cX6_allOf : ByteArray := prog_8_method_62_code
def yX6_allOf : MethodName := ⟨RX6, "allOf", "(Z)I"⟩
abbrev cX6_count : ByteArray := prog_8_method_63_code
def yX6_count : MethodName := ⟨RX6, "count", "(I)I"⟩
def RJ9 : String := "java/lang/Math"
def TJ9 : u_T := fun k => match k with
  | _ => ("", "", "", false)
def tyJ9 : Nat → FieldType := fun k => match k with
  | _ => .int
abbrev cJ9_max_7cf53 : ByteArray := prog_9_method_65_code
def yJ9_max_7cf53 : MethodName := ⟨RJ9, "max", "(II)I"⟩
abbrev cJ9_min_7cf53 : ByteArray := prog_9_method_69_code
def yJ9_min_7cf53 : MethodName := ⟨RJ9, "min", "(II)I"⟩
def RJ10 : String := "java/lang/System"
def TJ10 : u_T := fun k => match k with
  | _ => ("", "", "", false)
def tyJ10 : Nat → FieldType := fun k => match k with
  | _ => .int
def RJ7 : String := "java/util/Arrays"
def TJ7 : u_T := fun k => match k with
  | _ => ("", "", "", false)
def tyJ7 : Nat → FieldType := fun k => match k with
  | _ => .int
abbrev cJ7_fill_53178 : ByteArray := prog_11_method_103_code
def yJ7_fill_53178 : MethodName := ⟨RJ7, "fill", "([II)V"⟩
def RL : String := "StatuteClausesLaw"
abbrev cL_law : ByteArray := code
def yL_law : MethodName := ⟨RL, "law", "([I)Z"⟩
abbrev vwCl : List vw_C := [(RX0, TX0, 5), (RX1, TX1, 10), (RX2, TX2, 4), (RX3, TX3, 3), (RX4, TX4, 6), (RX5, TX5, 9), (RX6, TX6, 14)]
