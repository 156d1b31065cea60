section
-- ===== PART A: goes FIRST, ahead of the names: the tables' words, and 'selects' of the private methods out of them =====
/-- a private method of a class that the tables say can be made, by its rows of tables_1 -/
def lw_okq (q : MethodName × Nat) : Prop := (q.1.cls ≠ "java/lang/invoke/MethodHandle" ∧ q.1.cls ≠ "java/lang/invoke/VarHandle") ∧ Cond.instantiable q.1.cls q.2 ∈ tables_1 ∧ Cond.privateMethod q.1 ∈ tables_1 ∧ Cond.instanceMethod q.1 ∈ tables_1
theorem lw_p0 : lw_okq (⟨"StatuteClauses", "record", "()V"⟩, 9) := ⟨⟨by decide +kernel, by decide +kernel⟩, List.mem_of_getElem? (i := 12) (by decide +kernel), List.mem_of_getElem? (i := 226) (by decide +kernel), List.mem_of_getElem? (i := 227) (by decide +kernel)⟩
theorem lw_p1 : lw_okq (⟨"StatuteClauses$Text", "readClause", "(LStatuteClauses$Clauses;)Z"⟩, 6) := ⟨⟨by decide +kernel, by decide +kernel⟩, List.mem_of_getElem? (i := 135) (by decide +kernel), List.mem_of_getElem? (i := 350) (by decide +kernel), List.mem_of_getElem? (i := 351) (by decide +kernel)⟩
theorem lw_p2 : lw_okq (⟨"StatuteClauses$Text", "readNumber", "(I)Z"⟩, 6) := ⟨⟨by decide +kernel, by decide +kernel⟩, List.mem_of_getElem? (i := 135) (by decide +kernel), List.mem_of_getElem? (i := 354) (by decide +kernel), List.mem_of_getElem? (i := 355) (by decide +kernel)⟩
theorem lw_p3 : lw_okq (⟨"StatuteClauses$Text", "digitHere", "()I"⟩, 6) := ⟨⟨by decide +kernel, by decide +kernel⟩, List.mem_of_getElem? (i := 135) (by decide +kernel), List.mem_of_getElem? (i := 358) (by decide +kernel), List.mem_of_getElem? (i := 359) (by decide +kernel)⟩
theorem lw_p4 : lw_okq (⟨"StatuteClauses$Text", "readSign", "(C)Z"⟩, 6) := ⟨⟨by decide +kernel, by decide +kernel⟩, List.mem_of_getElem? (i := 135) (by decide +kernel), List.mem_of_getElem? (i := 362) (by decide +kernel), List.mem_of_getElem? (i := 363) (by decide +kernel)⟩
theorem lw_p5 : lw_okq (⟨"StatuteClauses$Text", "readSpan", "()Z"⟩, 6) := ⟨⟨by decide +kernel, by decide +kernel⟩, List.mem_of_getElem? (i := 135) (by decide +kernel), List.mem_of_getElem? (i := 366) (by decide +kernel), List.mem_of_getElem? (i := 367) (by decide +kernel)⟩
theorem lw_p6 : lw_okq (⟨"StatuteClauses$Text", "readExceptions", "(LStatuteClauses$Clauses;I)Z"⟩, 6) := ⟨⟨by decide +kernel, by decide +kernel⟩, List.mem_of_getElem? (i := 135) (by decide +kernel), List.mem_of_getElem? (i := 371) (by decide +kernel), List.mem_of_getElem? (i := 372) (by decide +kernel)⟩
theorem lw_p7 : lw_okq (⟨"StatuteClauses$Painter", "sortByDates", "(LStatuteClauses$Clauses;)V"⟩, 3) := ⟨⟨by decide +kernel, by decide +kernel⟩, List.mem_of_getElem? (i := 165) (by decide +kernel), List.mem_of_getElem? (i := 445) (by decide +kernel), List.mem_of_getElem? (i := 446) (by decide +kernel)⟩
theorem lw_p8 : lw_okq (⟨"StatuteClauses$Painter", "paintCoat", "(LStatuteClauses$Book;II)V"⟩, 3) := ⟨⟨by decide +kernel, by decide +kernel⟩, List.mem_of_getElem? (i := 165) (by decide +kernel), List.mem_of_getElem? (i := 450) (by decide +kernel), List.mem_of_getElem? (i := 451) (by decide +kernel)⟩
theorem lw_p9 : lw_okq (⟨"StatuteClauses$Painter", "paintClause", "(LStatuteClauses$Clauses;III)V"⟩, 3) := ⟨⟨by decide +kernel, by decide +kernel⟩, List.mem_of_getElem? (i := 165) (by decide +kernel), List.mem_of_getElem? (i := 461) (by decide +kernel), List.mem_of_getElem? (i := 462) (by decide +kernel)⟩
theorem lw_p10 : lw_okq (⟨"StatuteClauses$Painter", "layCoat", "(LStatuteClauses$Clauses;)V"⟩, 3) := ⟨⟨by decide +kernel, by decide +kernel⟩, List.mem_of_getElem? (i := 165) (by decide +kernel), List.mem_of_getElem? (i := 466) (by decide +kernel), List.mem_of_getElem? (i := 467) (by decide +kernel)⟩
theorem lw_p11 : lw_okq (⟨"StatuteClausesModel", "record", "()V"⟩, 14) := ⟨⟨by decide +kernel, by decide +kernel⟩, List.mem_of_getElem? (i := 560) (by decide +kernel), List.mem_of_getElem? (i := 628) (by decide +kernel), List.mem_of_getElem? (i := 629) (by decide +kernel)⟩
theorem lw_p12 : lw_okq (⟨"StatuteClausesModel", "writes", "(IIIII)V"⟩, 14) := ⟨⟨by decide +kernel, by decide +kernel⟩, List.mem_of_getElem? (i := 560) (by decide +kernel), List.mem_of_getElem? (i := 643) (by decide +kernel), List.mem_of_getElem? (i := 644) (by decide +kernel)⟩
theorem lw_p13 : lw_okq (⟨"StatuteClausesModel", "isClause", "(I)Z"⟩, 14) := ⟨⟨by decide +kernel, by decide +kernel⟩, List.mem_of_getElem? (i := 560) (by decide +kernel), List.mem_of_getElem? (i := 654) (by decide +kernel), List.mem_of_getElem? (i := 655) (by decide +kernel)⟩
theorem lw_p14 : lw_okq (⟨"StatuteClausesModel", "get", "(II)I"⟩, 14) := ⟨⟨by decide +kernel, by decide +kernel⟩, List.mem_of_getElem? (i := 560) (by decide +kernel), List.mem_of_getElem? (i := 658) (by decide +kernel), List.mem_of_getElem? (i := 659) (by decide +kernel)⟩
theorem lw_p15 : lw_okq (⟨"StatuteClausesModel", "excepts", "(III)I"⟩, 14) := ⟨⟨by decide +kernel, by decide +kernel⟩, List.mem_of_getElem? (i := 560) (by decide +kernel), List.mem_of_getElem? (i := 662) (by decide +kernel), List.mem_of_getElem? (i := 663) (by decide +kernel)⟩
def lw_privs_1 : List (MethodName × Nat) := [(⟨"StatuteClauses", "record", "()V"⟩, 9), (⟨"StatuteClauses$Text", "readClause", "(LStatuteClauses$Clauses;)Z"⟩, 6), (⟨"StatuteClauses$Text", "readNumber", "(I)Z"⟩, 6), (⟨"StatuteClauses$Text", "digitHere", "()I"⟩, 6), (⟨"StatuteClauses$Text", "readSign", "(C)Z"⟩, 6), (⟨"StatuteClauses$Text", "readSpan", "()Z"⟩, 6), (⟨"StatuteClauses$Text", "readExceptions", "(LStatuteClauses$Clauses;I)Z"⟩, 6), (⟨"StatuteClauses$Painter", "sortByDates", "(LStatuteClauses$Clauses;)V"⟩, 3), (⟨"StatuteClauses$Painter", "paintCoat", "(LStatuteClauses$Book;II)V"⟩, 3), (⟨"StatuteClauses$Painter", "paintClause", "(LStatuteClauses$Clauses;III)V"⟩, 3), (⟨"StatuteClauses$Painter", "layCoat", "(LStatuteClauses$Clauses;)V"⟩, 3), (⟨"StatuteClausesModel", "record", "()V"⟩, 14), (⟨"StatuteClausesModel", "writes", "(IIIII)V"⟩, 14), (⟨"StatuteClausesModel", "isClause", "(I)Z"⟩, 14), (⟨"StatuteClausesModel", "get", "(II)I"⟩, 14), (⟨"StatuteClausesModel", "excepts", "(III)I"⟩, 14)]
theorem lw_r1 : ∀ q ∈ lw_privs_1, lw_okq q := List.forall_mem_cons.mpr ⟨lw_p0, List.forall_mem_cons.mpr ⟨lw_p1, List.forall_mem_cons.mpr ⟨lw_p2, List.forall_mem_cons.mpr ⟨lw_p3, List.forall_mem_cons.mpr ⟨lw_p4, List.forall_mem_cons.mpr ⟨lw_p5, List.forall_mem_cons.mpr ⟨lw_p6, List.forall_mem_cons.mpr ⟨lw_p7, List.forall_mem_cons.mpr ⟨lw_p8, List.forall_mem_cons.mpr ⟨lw_p9, List.forall_mem_cons.mpr ⟨lw_p10, List.forall_mem_cons.mpr ⟨lw_p11, List.forall_mem_cons.mpr ⟨lw_p12, List.forall_mem_cons.mpr ⟨lw_p13, List.forall_mem_cons.mpr ⟨lw_p14, List.forall_mem_cons.mpr ⟨lw_p15, fun _ h => absurd h List.not_mem_nil⟩⟩⟩⟩⟩⟩⟩⟩⟩⟩⟩⟩⟩⟩⟩⟩
theorem lw_p16 : lw_okq (⟨"StatuteClausesModel", "putAside", "()V"⟩, 14) := ⟨⟨by decide +kernel, by decide +kernel⟩, List.mem_of_getElem? (i := 560) (by decide +kernel), List.mem_of_getElem? (i := 674) (by decide +kernel), List.mem_of_getElem? (i := 675) (by decide +kernel)⟩
theorem lw_p17 : lw_okq (⟨"StatuteClausesModel", "worksOut", "(I)V"⟩, 14) := ⟨⟨by decide +kernel, by decide +kernel⟩, List.mem_of_getElem? (i := 560) (by decide +kernel), List.mem_of_getElem? (i := 678) (by decide +kernel), List.mem_of_getElem? (i := 679) (by decide +kernel)⟩
theorem lw_p18 : lw_okq (⟨"StatuteClausesModel", "rules", "(III)I"⟩, 14) := ⟨⟨by decide +kernel, by decide +kernel⟩, List.mem_of_getElem? (i := 560) (by decide +kernel), List.mem_of_getElem? (i := 682) (by decide +kernel), List.mem_of_getElem? (i := 683) (by decide +kernel)⟩
theorem lw_p19 : lw_okq (⟨"StatuteClausesModel", "speaksIn", "(IIII)I"⟩, 14) := ⟨⟨by decide +kernel, by decide +kernel⟩, List.mem_of_getElem? (i := 560) (by decide +kernel), List.mem_of_getElem? (i := 686) (by decide +kernel), List.mem_of_getElem? (i := 687) (by decide +kernel)⟩
theorem lw_p20 : lw_okq (⟨"StatuteClausesModel", "latestOf", "(IIII)I"⟩, 14) := ⟨⟨by decide +kernel, by decide +kernel⟩, List.mem_of_getElem? (i := 560) (by decide +kernel), List.mem_of_getElem? (i := 690) (by decide +kernel), List.mem_of_getElem? (i := 691) (by decide +kernel)⟩
theorem lw_p21 : lw_okq (⟨"StatuteClausesModel", "isInForce", "(II)Z"⟩, 14) := ⟨⟨by decide +kernel, by decide +kernel⟩, List.mem_of_getElem? (i := 560) (by decide +kernel), List.mem_of_getElem? (i := 694) (by decide +kernel), List.mem_of_getElem? (i := 695) (by decide +kernel)⟩
theorem lw_p22 : lw_okq (⟨"StatuteClausesModel", "meets", "(II)Z"⟩, 14) := ⟨⟨by decide +kernel, by decide +kernel⟩, List.mem_of_getElem? (i := 560) (by decide +kernel), List.mem_of_getElem? (i := 698) (by decide +kernel), List.mem_of_getElem? (i := 699) (by decide +kernel)⟩
theorem lw_p23 : lw_okq (⟨"StatuteClausesModel", "reaches", "(II)Z"⟩, 14) := ⟨⟨by decide +kernel, by decide +kernel⟩, List.mem_of_getElem? (i := 560) (by decide +kernel), List.mem_of_getElem? (i := 702) (by decide +kernel), List.mem_of_getElem? (i := 703) (by decide +kernel)⟩
theorem lw_p24 : lw_okq (⟨"StatuteClausesModel", "isExcepted", "(II)Z"⟩, 14) := ⟨⟨by decide +kernel, by decide +kernel⟩, List.mem_of_getElem? (i := 560) (by decide +kernel), List.mem_of_getElem? (i := 706) (by decide +kernel), List.mem_of_getElem? (i := 707) (by decide +kernel)⟩
theorem lw_p25 : lw_okq (⟨"StatuteClausesModel", "changed", "()I"⟩, 14) := ⟨⟨by decide +kernel, by decide +kernel⟩, List.mem_of_getElem? (i := 560) (by decide +kernel), List.mem_of_getElem? (i := 710) (by decide +kernel), List.mem_of_getElem? (i := 711) (by decide +kernel)⟩
theorem lw_p26 : lw_okq (⟨"StatuteClausesModel", "reads", "(Z)I"⟩, 14) := ⟨⟨by decide +kernel, by decide +kernel⟩, List.mem_of_getElem? (i := 560) (by decide +kernel), List.mem_of_getElem? (i := 726) (by decide +kernel), List.mem_of_getElem? (i := 727) (by decide +kernel)⟩
theorem lw_p27 : lw_okq (⟨"StatuteClausesModel", "readClause", "(Z)V"⟩, 14) := ⟨⟨by decide +kernel, by decide +kernel⟩, List.mem_of_getElem? (i := 560) (by decide +kernel), List.mem_of_getElem? (i := 730) (by decide +kernel), List.mem_of_getElem? (i := 731) (by decide +kernel)⟩
theorem lw_p28 : lw_okq (⟨"StatuteClausesModel", "takes", "(II)I"⟩, 14) := ⟨⟨by decide +kernel, by decide +kernel⟩, List.mem_of_getElem? (i := 560) (by decide +kernel), List.mem_of_getElem? (i := 734) (by decide +kernel), List.mem_of_getElem? (i := 735) (by decide +kernel)⟩
theorem lw_p29 : lw_okq (⟨"StatuteClausesModel", "isNext", "(II)Z"⟩, 14) := ⟨⟨by decide +kernel, by decide +kernel⟩, List.mem_of_getElem? (i := 560) (by decide +kernel), List.mem_of_getElem? (i := 738) (by decide +kernel), List.mem_of_getElem? (i := 739) (by decide +kernel)⟩
theorem lw_p30 : lw_okq (⟨"StatuteClausesModel", "number", "(I)I"⟩, 14) := ⟨⟨by decide +kernel, by decide +kernel⟩, List.mem_of_getElem? (i := 560) (by decide +kernel), List.mem_of_getElem? (i := 742) (by decide +kernel), List.mem_of_getElem? (i := 743) (by decide +kernel)⟩
theorem lw_p31 : lw_okq (⟨"StatuteClausesModel", "readSpan", "()V"⟩, 14) := ⟨⟨by decide +kernel, by decide +kernel⟩, List.mem_of_getElem? (i := 560) (by decide +kernel), List.mem_of_getElem? (i := 746) (by decide +kernel), List.mem_of_getElem? (i := 747) (by decide +kernel)⟩
def lw_privs_2 : List (MethodName × Nat) := [(⟨"StatuteClausesModel", "putAside", "()V"⟩, 14), (⟨"StatuteClausesModel", "worksOut", "(I)V"⟩, 14), (⟨"StatuteClausesModel", "rules", "(III)I"⟩, 14), (⟨"StatuteClausesModel", "speaksIn", "(IIII)I"⟩, 14), (⟨"StatuteClausesModel", "latestOf", "(IIII)I"⟩, 14), (⟨"StatuteClausesModel", "isInForce", "(II)Z"⟩, 14), (⟨"StatuteClausesModel", "meets", "(II)Z"⟩, 14), (⟨"StatuteClausesModel", "reaches", "(II)Z"⟩, 14), (⟨"StatuteClausesModel", "isExcepted", "(II)Z"⟩, 14), (⟨"StatuteClausesModel", "changed", "()I"⟩, 14), (⟨"StatuteClausesModel", "reads", "(Z)I"⟩, 14), (⟨"StatuteClausesModel", "readClause", "(Z)V"⟩, 14), (⟨"StatuteClausesModel", "takes", "(II)I"⟩, 14), (⟨"StatuteClausesModel", "isNext", "(II)Z"⟩, 14), (⟨"StatuteClausesModel", "number", "(I)I"⟩, 14), (⟨"StatuteClausesModel", "readSpan", "()V"⟩, 14)]
theorem lw_r2 : ∀ q ∈ lw_privs_2, lw_okq q := List.forall_mem_cons.mpr ⟨lw_p16, List.forall_mem_cons.mpr ⟨lw_p17, List.forall_mem_cons.mpr ⟨lw_p18, List.forall_mem_cons.mpr ⟨lw_p19, List.forall_mem_cons.mpr ⟨lw_p20, List.forall_mem_cons.mpr ⟨lw_p21, List.forall_mem_cons.mpr ⟨lw_p22, List.forall_mem_cons.mpr ⟨lw_p23, List.forall_mem_cons.mpr ⟨lw_p24, List.forall_mem_cons.mpr ⟨lw_p25, List.forall_mem_cons.mpr ⟨lw_p26, List.forall_mem_cons.mpr ⟨lw_p27, List.forall_mem_cons.mpr ⟨lw_p28, List.forall_mem_cons.mpr ⟨lw_p29, List.forall_mem_cons.mpr ⟨lw_p30, List.forall_mem_cons.mpr ⟨lw_p31, fun _ h => absurd h List.not_mem_nil⟩⟩⟩⟩⟩⟩⟩⟩⟩⟩⟩⟩⟩⟩⟩⟩
theorem lw_p32 : lw_okq (⟨"StatuteClausesModel", "clausesOf", "(IZ)I"⟩, 14) := ⟨⟨by decide +kernel, by decide +kernel⟩, List.mem_of_getElem? (i := 560) (by decide +kernel), List.mem_of_getElem? (i := 766) (by decide +kernel), List.mem_of_getElem? (i := 767) (by decide +kernel)⟩
theorem lw_p33 : lw_okq (⟨"StatuteClausesModel", "ruledIn", "(I)I"⟩, 14) := ⟨⟨by decide +kernel, by decide +kernel⟩, List.mem_of_getElem? (i := 560) (by decide +kernel), List.mem_of_getElem? (i := 770) (by decide +kernel), List.mem_of_getElem? (i := 771) (by decide +kernel)⟩
theorem lw_p34 : lw_okq (⟨"StatuteClausesModel", "ruledBy", "(I)I"⟩, 14) := ⟨⟨by decide +kernel, by decide +kernel⟩, List.mem_of_getElem? (i := 560) (by decide +kernel), List.mem_of_getElem? (i := 778) (by decide +kernel), List.mem_of_getElem? (i := 779) (by decide +kernel)⟩
theorem lw_p35 : lw_okq (⟨"StatuteClausesModel", "spokenBy", "(I)I"⟩, 14) := ⟨⟨by decide +kernel, by decide +kernel⟩, List.mem_of_getElem? (i := 560) (by decide +kernel), List.mem_of_getElem? (i := 782) (by decide +kernel), List.mem_of_getElem? (i := 783) (by decide +kernel)⟩
theorem lw_p36 : lw_okq (⟨"StatuteClausesModel", "areThere", "(III)Z"⟩, 14) := ⟨⟨by decide +kernel, by decide +kernel⟩, List.mem_of_getElem? (i := 560) (by decide +kernel), List.mem_of_getElem? (i := 798) (by decide +kernel), List.mem_of_getElem? (i := 799) (by decide +kernel)⟩
theorem lw_p37 : lw_okq (⟨"StatuteClausesModel", "silencer", "(III)I"⟩, 14) := ⟨⟨by decide +kernel, by decide +kernel⟩, List.mem_of_getElem? (i := 560) (by decide +kernel), List.mem_of_getElem? (i := 802) (by decide +kernel), List.mem_of_getElem? (i := 803) (by decide +kernel)⟩
theorem lw_p38 : lw_okq (⟨"StatuteClausesModel", "ruleOn", "(I)I"⟩, 14) := ⟨⟨by decide +kernel, by decide +kernel⟩, List.mem_of_getElem? (i := 560) (by decide +kernel), List.mem_of_getElem? (i := 822) (by decide +kernel), List.mem_of_getElem? (i := 823) (by decide +kernel)⟩
theorem lw_p39 : lw_okq (⟨"StatuteClausesModel", "ruled", "()I"⟩, 14) := ⟨⟨by decide +kernel, by decide +kernel⟩, List.mem_of_getElem? (i := 560) (by decide +kernel), List.mem_of_getElem? (i := 838) (by decide +kernel), List.mem_of_getElem? (i := 839) (by decide +kernel)⟩
theorem lw_p40 : lw_okq (⟨"StatuteClausesModel", "spoken", "()I"⟩, 14) := ⟨⟨by decide +kernel, by decide +kernel⟩, List.mem_of_getElem? (i := 560) (by decide +kernel), List.mem_of_getElem? (i := 842) (by decide +kernel), List.mem_of_getElem? (i := 843) (by decide +kernel)⟩
theorem lw_p41 : lw_okq (⟨"StatuteClausesModel", "allOf", "(Z)I"⟩, 14) := ⟨⟨by decide +kernel, by decide +kernel⟩, List.mem_of_getElem? (i := 560) (by decide +kernel), List.mem_of_getElem? (i := 846) (by decide +kernel), List.mem_of_getElem? (i := 847) (by decide +kernel)⟩
def lw_privs_3 : List (MethodName × Nat) := [(⟨"StatuteClausesModel", "clausesOf", "(IZ)I"⟩, 14), (⟨"StatuteClausesModel", "ruledIn", "(I)I"⟩, 14), (⟨"StatuteClausesModel", "ruledBy", "(I)I"⟩, 14), (⟨"StatuteClausesModel", "spokenBy", "(I)I"⟩, 14), (⟨"StatuteClausesModel", "areThere", "(III)Z"⟩, 14), (⟨"StatuteClausesModel", "silencer", "(III)I"⟩, 14), (⟨"StatuteClausesModel", "ruleOn", "(I)I"⟩, 14), (⟨"StatuteClausesModel", "ruled", "()I"⟩, 14), (⟨"StatuteClausesModel", "spoken", "()I"⟩, 14), (⟨"StatuteClausesModel", "allOf", "(Z)I"⟩, 14)]
theorem lw_r3 : ∀ q ∈ lw_privs_3, lw_okq q := List.forall_mem_cons.mpr ⟨lw_p32, List.forall_mem_cons.mpr ⟨lw_p33, List.forall_mem_cons.mpr ⟨lw_p34, List.forall_mem_cons.mpr ⟨lw_p35, List.forall_mem_cons.mpr ⟨lw_p36, List.forall_mem_cons.mpr ⟨lw_p37, List.forall_mem_cons.mpr ⟨lw_p38, List.forall_mem_cons.mpr ⟨lw_p39, List.forall_mem_cons.mpr ⟨lw_p40, List.forall_mem_cons.mpr ⟨lw_p41, fun _ h => absurd h List.not_mem_nil⟩⟩⟩⟩⟩⟩⟩⟩⟩⟩
def lw_privs : List (MethodName × Nat) := lw_privs_1 ++ (lw_privs_2 ++ (lw_privs_3))
def lw_tbl : List Cond := k2_sels lw_privs ++ tables_1
theorem lw_privs_ok : ∀ q ∈ lw_privs, lw_okq q := by
  show ∀ q ∈ lw_privs_1 ++ (lw_privs_2 ++ (lw_privs_3)), lw_okq q
  exact List.forall_mem_append.mpr ⟨lw_r1, List.forall_mem_append.mpr ⟨lw_r2, lw_r3⟩⟩

def RX0 : String := "StatuteClauses$Book"
def TX0 : u_T := fun k => match k with
  | 0 => ("StatuteClauses$Book", "today", "I", false)
  | 1 => ("StatuteClauses$Book", "reachFirst", "[I", true)
  | 2 => ("StatuteClauses$Book", "reachLast", "[I", true)
  | 3 => ("StatuteClauses$Book", "rankOf", "[I", true)
  | _ => ("StatuteClauses$Book", "clauses", "LStatuteClauses$Clauses;", true)
def tyX0 : Nat → FieldType := fun k => match k with
  | 0 => .int
  | 1 => .array .int
  | 2 => .array .int
  | 3 => .array .int
  | _ => .object "StatuteClauses$Clauses"
abbrev wsX00 : List Cond := u_ws RX0 TX0 5
theorem nmX0 : ∀ a, a < 5 → ∀ b, b < 5 → a ≠ b → (TX0 a).2.1 ≠ (TX0 b).2.1 := by decide +kernel
theorem tyX0_ok : ∀ k, k < 5 → parseFieldDescriptor (TX0 k).2.2.1 = some (tyX0 k) := by decide +kernel
abbrev cX0_init : ByteArray := prog_2_method_1_code
def yX0_init : MethodName := ⟨RX0, "<init>", "()V"⟩
abbrev cX0_copyFrom : ByteArray := prog_2_method_2_code
def yX0_copyFrom : MethodName := ⟨RX0, "copyFrom", "(LStatuteClauses$Book;)V"⟩
abbrev cX0_reaches : ByteArray := prog_2_method_3_code
def yX0_reaches : MethodName := ⟨RX0, "reaches", "(II)Z"⟩
abbrev cX0_meets : ByteArray := prog_2_method_4_code
def yX0_meets : MethodName := ⟨RX0, "meets", "(II)Z"⟩
def RX1 : String := "StatuteClauses$Clauses"
def TX1 : u_T := fun k => match k with
  | 0 => ("StatuteClauses$Clauses", "size", "I", false)
  | 1 => ("StatuteClauses$Clauses", "chapterOf", "[I", true)
  | 2 => ("StatuteClauses$Clauses", "date", "[I", true)
  | 3 => ("StatuteClauses$Clauses", "endDay", "[I", true)
  | 4 => ("StatuteClauses$Clauses", "first", "[I", true)
  | 5 => ("StatuteClauses$Clauses", "last", "[I", true)
  | 6 => ("StatuteClauses$Clauses", "verdict", "[I", true)
  | 7 => ("StatuteClauses$Clauses", "exceptions", "[I", true)
  | 8 => ("StatuteClauses$Clauses", "exceptFirst", "[I", true)
  | _ => ("StatuteClauses$Clauses", "exceptLast", "[I", true)
def tyX1 : Nat → FieldType := fun k => match k with
  | 0 => .int
  | 1 => .array .int
  | 2 => .array .int
  | 3 => .array .int
  | 4 => .array .int
  | 5 => .array .int
  | 6 => .array .int
  | 7 => .array .int
  | 8 => .array .int
  | _ => .array .int
abbrev wsX10 : List Cond := u_ws RX1 TX1 10
theorem nmX1 : ∀ a, a < 10 → ∀ b, b < 10 → a ≠ b → (TX1 a).2.1 ≠ (TX1 b).2.1 := by decide +kernel
theorem tyX1_ok : ∀ k, k < 10 → parseFieldDescriptor (TX1 k).2.2.1 = some (tyX1 k) := by decide +kernel
abbrev cX1_init : ByteArray := prog_3_method_1_code
def yX1_init : MethodName := ⟨RX1, "<init>", "()V"⟩
abbrev cX1_has : ByteArray := prog_3_method_2_code
def yX1_has : MethodName := ⟨RX1, "has", "(I)Z"⟩
abbrev cX1_add : ByteArray := prog_3_method_3_code
def yX1_add : MethodName := ⟨RX1, "add", "(IIIII)I"⟩
abbrev cX1_addException : ByteArray := prog_3_method_4_code
def yX1_addException : MethodName := ⟨RX1, "addException", "(III)V"⟩
abbrev cX1_addAll : ByteArray := prog_3_method_5_code
def yX1_addAll : MethodName := ⟨RX1, "addAll", "(LStatuteClauses$Clauses;)V"⟩
abbrev cX1_copyFrom : ByteArray := prog_3_method_6_code
def yX1_copyFrom : MethodName := ⟨RX1, "copyFrom", "(LStatuteClauses$Clauses;)V"⟩
abbrev cX1_isInForce : ByteArray := prog_3_method_7_code
def yX1_isInForce : MethodName := ⟨RX1, "isInForce", "(II)Z"⟩
abbrev cX1_isInSpan : ByteArray := prog_3_method_8_code
def yX1_isInSpan : MethodName := ⟨RX1, "isInSpan", "(II)Z"⟩
abbrev cX1_isExcepted : ByteArray := prog_3_method_9_code
def yX1_isExcepted : MethodName := ⟨RX1, "isExcepted", "(II)Z"⟩
abbrev cX1_speaksAtAll : ByteArray := prog_3_method_10_code
def yX1_speaksAtAll : MethodName := ⟨RX1, "speaksAtAll", "(I)Z"⟩
abbrev cX1_hasReversedSpan : ByteArray := prog_3_method_11_code
def yX1_hasReversedSpan : MethodName := ⟨RX1, "hasReversedSpan", "()Z"⟩
abbrev cX1_nextTurn : ByteArray := prog_3_method_12_code
def yX1_nextTurn : MethodName := ⟨RX1, "nextTurn", "(I)I"⟩
abbrev cX1_countOfChapter : ByteArray := prog_3_method_13_code
def yX1_countOfChapter : MethodName := ⟨RX1, "countOfChapter", "(I)I"⟩
abbrev cX1_countInForceOfChapter : ByteArray := prog_3_method_14_code
def yX1_countInForceOfChapter : MethodName := ⟨RX1, "countInForceOfChapter", "(II)I"⟩
abbrev cX1_countInForce : ByteArray := prog_3_method_15_code
def yX1_countInForce : MethodName := ⟨RX1, "countInForce", "(I)I"⟩
abbrev cX1_countExceptions : ByteArray := prog_3_method_16_code
def yX1_countExceptions : MethodName := ⟨RX1, "countExceptions", "()I"⟩
abbrev cX1_countSilent : ByteArray := prog_3_method_17_code
def yX1_countSilent : MethodName := ⟨RX1, "countSilent", "()I"⟩
def RX2 : String := "StatuteClauses$Judge"
def TX2 : u_T := fun k => match k with
  | 0 => ("StatuteClauses$Judge", "book", "LStatuteClauses$Book;", true)
  | 1 => ("StatuteClauses$Judge", "clauses", "LStatuteClauses$Clauses;", true)
  | 2 => ("StatuteClauses$Judge", "tops", "[I", true)
  | _ => ("StatuteClauses$Judge", "tally", "[I", true)
def tyX2 : Nat → FieldType := fun k => match k with
  | 0 => .object "StatuteClauses$Book"
  | 1 => .object "StatuteClauses$Clauses"
  | 2 => .array .int
  | _ => .array .int
abbrev wsX20 : List Cond := u_ws RX2 TX2 4
theorem nmX2 : ∀ a, a < 4 → ∀ b, b < 4 → a ≠ b → (TX2 a).2.1 ≠ (TX2 b).2.1 := by decide +kernel
theorem tyX2_ok : ∀ k, k < 4 → parseFieldDescriptor (TX2 k).2.2.1 = some (tyX2 k) := by decide +kernel
abbrev cX2_init : ByteArray := prog_4_method_1_code
def yX2_init : MethodName := ⟨RX2, "<init>", "()V"⟩
abbrev cX2_findTops : ByteArray := prog_4_method_2_code
def yX2_findTops : MethodName := ⟨RX2, "findTops", "(III)V"⟩
abbrev cX2_topSpeaks : ByteArray := prog_4_method_3_code
def yX2_topSpeaks : MethodName := ⟨RX2, "topSpeaks", "(I)Z"⟩
abbrev cX2_rulerOfTops : ByteArray := prog_4_method_4_code
def yX2_rulerOfTops : MethodName := ⟨RX2, "rulerOfTops", "()I"⟩
abbrev cX2_ruler : ByteArray := prog_4_method_5_code
def yX2_ruler : MethodName := ⟨RX2, "ruler", "(II)I"⟩
abbrev cX2_rulerWithout : ByteArray := prog_4_method_6_code
def yX2_rulerWithout : MethodName := ⟨RX2, "rulerWithout", "(III)I"⟩
abbrev cX2_silencer : ByteArray := prog_4_method_7_code
def yX2_silencer : MethodName := ⟨RX2, "silencer", "(III)I"⟩
abbrev cX2_whyNotRuling : ByteArray := prog_4_method_8_code
def yX2_whyNotRuling : MethodName := ⟨RX2, "whyNotRuling", "(III)I"⟩
abbrev cX2_nextChange : ByteArray := prog_4_method_9_code
def yX2_nextChange : MethodName := ⟨RX2, "nextChange", "(II)I"⟩
abbrev cX2_busyClauses : ByteArray := prog_4_method_10_code
def yX2_busyClauses : MethodName := ⟨RX2, "busyClauses", "()I"⟩
abbrev cX2_casesChangedBetween : ByteArray := prog_4_method_11_code
def yX2_casesChangedBetween : MethodName := ⟨RX2, "casesChangedBetween", "(II)I"⟩
abbrev cX2_casesChangedWithout : ByteArray := prog_4_method_12_code
def yX2_casesChangedWithout : MethodName := ⟨RX2, "casesChangedWithout", "(I)I"⟩
abbrev cX2_tallyToday : ByteArray := prog_4_method_13_code
def yX2_tallyToday : MethodName := ⟨RX2, "tallyToday", "()V"⟩
abbrev cX2_casesRuled : ByteArray := prog_4_method_14_code
def yX2_casesRuled : MethodName := ⟨RX2, "casesRuled", "()I"⟩
abbrev cX2_casesRuledByClause : ByteArray := prog_4_method_15_code
def yX2_casesRuledByClause : MethodName := ⟨RX2, "casesRuledByClause", "(I)I"⟩
abbrev cX2_casesRuledByChapter : ByteArray := prog_4_method_16_code
def yX2_casesRuledByChapter : MethodName := ⟨RX2, "casesRuledByChapter", "(I)I"⟩
abbrev cX2_rulerOfMost : ByteArray := prog_4_method_17_code
def yX2_rulerOfMost : MethodName := ⟨RX2, "rulerOfMost", "()I"⟩
abbrev cX2_casesSpokenOf : ByteArray := prog_4_method_18_code
def yX2_casesSpokenOf : MethodName := ⟨RX2, "casesSpokenOf", "(I)I"⟩
abbrev cX2_timesSpoken : ByteArray := prog_4_method_19_code
def yX2_timesSpoken : MethodName := ⟨RX2, "timesSpoken", "()I"⟩
abbrev cX2_casesOfUnlikeVerdicts : ByteArray := prog_4_method_20_code
def yX2_casesOfUnlikeVerdicts : MethodName := ⟨RX2, "casesOfUnlikeVerdicts", "(II)I"⟩
def RX3 : String := "StatuteClauses$Painter"
def TX3 : u_T := fun k => match k with
  | 0 => ("StatuteClauses$Painter", "canvas", "[I", true)
  | 1 => ("StatuteClauses$Painter", "coat", "[I", true)
  | _ => ("StatuteClauses$Painter", "order", "[I", true)
def tyX3 : Nat → FieldType := fun k => match k with
  | 0 => .array .int
  | 1 => .array .int
  | _ => .array .int
abbrev wsX30 : List Cond := u_ws RX3 TX3 3
theorem nmX3 : ∀ a, a < 3 → ∀ b, b < 3 → a ≠ b → (TX3 a).2.1 ≠ (TX3 b).2.1 := by decide +kernel
theorem tyX3_ok : ∀ k, k < 3 → parseFieldDescriptor (TX3 k).2.2.1 = some (tyX3 k) := by decide +kernel
abbrev cX3_init : ByteArray := prog_5_method_1_code
def yX3_init : MethodName := ⟨RX3, "<init>", "()V"⟩
abbrev cX3_paint : ByteArray := prog_5_method_2_code
def yX3_paint : MethodName := ⟨RX3, "paint", "(LStatuteClauses$Book;I)V"⟩
abbrev cX3_sortByDates : ByteArray := prog_5_method_3_code
def yX3_sortByDates : MethodName := ⟨RX3, "sortByDates", "(LStatuteClauses$Clauses;)V"⟩
abbrev cX3_paintCoat : ByteArray := prog_5_method_4_code
def yX3_paintCoat : MethodName := ⟨RX3, "paintCoat", "(LStatuteClauses$Book;II)V"⟩
abbrev cX3_paintClause : ByteArray := prog_5_method_5_code
def yX3_paintClause : MethodName := ⟨RX3, "paintClause", "(LStatuteClauses$Clauses;III)V"⟩
abbrev cX3_layCoat : ByteArray := prog_5_method_6_code
def yX3_layCoat : MethodName := ⟨RX3, "layCoat", "(LStatuteClauses$Clauses;)V"⟩
def RX4 : String := "StatuteClauses$Text"
def TX4 : u_T := fun k => match k with
  | 0 => ("StatuteClauses$Text", "signs", "[C", true)
  | 1 => ("StatuteClauses$Text", "length", "I", false)
  | 2 => ("StatuteClauses$Text", "at", "I", false)
  | 3 => ("StatuteClauses$Text", "value", "I", false)
  | 4 => ("StatuteClauses$Text", "first", "I", false)
  | _ => ("StatuteClauses$Text", "last", "I", false)
def tyX4 : Nat → FieldType := fun k => match k with
  | 0 => .array .char
  | 1 => .int
  | 2 => .int
  | 3 => .int
  | 4 => .int
  | _ => .int
abbrev wsX40 : List Cond := u_ws RX4 TX4 6
theorem nmX4 : ∀ a, a < 6 → ∀ b, b < 6 → a ≠ b → (TX4 a).2.1 ≠ (TX4 b).2.1 := by decide +kernel
theorem tyX4_ok : ∀ k, k < 6 → parseFieldDescriptor (TX4 k).2.2.1 = some (tyX4 k) := by decide +kernel
abbrev cX4_init : ByteArray := prog_6_method_1_code
def yX4_init : MethodName := ⟨RX4, "<init>", "()V"⟩
abbrev cX4_add : ByteArray := prog_6_method_2_code
def yX4_add : MethodName := ⟨RX4, "add", "(C)V"⟩
abbrev cX4_readClauses : ByteArray := prog_6_method_3_code
def yX4_readClauses : MethodName := ⟨RX4, "readClauses", "(LStatuteClauses$Clauses;)Z"⟩
abbrev cX4_readClause : ByteArray := prog_6_method_4_code
def yX4_readClause : MethodName := ⟨RX4, "readClause", "(LStatuteClauses$Clauses;)Z"⟩
abbrev cX4_readExceptions : ByteArray := prog_6_method_5_code
def yX4_readExceptions : MethodName := ⟨RX4, "readExceptions", "(LStatuteClauses$Clauses;I)Z"⟩
abbrev cX4_readSpan : ByteArray := prog_6_method_6_code
def yX4_readSpan : MethodName := ⟨RX4, "readSpan", "()Z"⟩
abbrev cX4_readSign : ByteArray := prog_6_method_7_code
def yX4_readSign : MethodName := ⟨RX4, "readSign", "(C)Z"⟩
abbrev cX4_readNumber : ByteArray := prog_6_method_8_code
def yX4_readNumber : MethodName := ⟨RX4, "readNumber", "(I)Z"⟩
abbrev cX4_digitHere : ByteArray := prog_6_method_9_code
def yX4_digitHere : MethodName := ⟨RX4, "digitHere", "()I"⟩
def RX5 : String := "StatuteClauses"
def TX5 : u_T := fun k => match k with
  | 0 => ("StatuteClauses", "judge", "LStatuteClauses$Judge;", true)
  | 1 => ("StatuteClauses", "now", "LStatuteClauses$Book;", true)
  | 2 => ("StatuteClauses", "snapshot", "LStatuteClauses$Book;", true)
  | 3 => ("StatuteClauses", "hasSnapshot", "Z", false)
  | 4 => ("StatuteClauses", "past", "[LStatuteClauses$Book;", true)
  | 5 => ("StatuteClauses", "pastSize", "I", false)
  | 6 => ("StatuteClauses", "text", "LStatuteClauses$Text;", true)
  | 7 => ("StatuteClauses", "draft", "LStatuteClauses$Clauses;", true)
  | _ => ("StatuteClauses", "painter", "LStatuteClauses$Painter;", true)
def tyX5 : Nat → FieldType := fun k => match k with
  | 0 => .object "StatuteClauses$Judge"
  | 1 => .object "StatuteClauses$Book"
  | 2 => .object "StatuteClauses$Book"
  | 3 => .boolean
  | 4 => .array (.object "StatuteClauses$Book")
  | 5 => .int
  | 6 => .object "StatuteClauses$Text"
  | 7 => .object "StatuteClauses$Clauses"
  | _ => .object "StatuteClauses$Painter"
abbrev wsX50 : List Cond := u_ws RX5 TX5 9
theorem nmX5 : ∀ a, a < 9 → ∀ b, b < 9 → a ≠ b → (TX5 a).2.1 ≠ (TX5 b).2.1 := by decide +kernel
theorem tyX5_ok : ∀ k, k < 9 → parseFieldDescriptor (TX5 k).2.2.1 = some (tyX5 k) := by decide +kernel
abbrev cX5_init : ByteArray := prog_1_method_1_code
def yX5_init : MethodName := ⟨RX5, "<init>", "()V"⟩
abbrev cX5_setReach : ByteArray := prog_1_method_2_code
def yX5_setReach : MethodName := ⟨RX5, "setReach", "(III)I"⟩
abbrev cX5_exchange : ByteArray := prog_1_method_3_code
def yX5_exchange : MethodName := ⟨RX5, "exchange", "(II)I"⟩
abbrev cX5_write : ByteArray := prog_1_method_4_code
def yX5_write : MethodName := ⟨RX5, "write", "(IIIII)I"⟩
abbrev cX5_except : ByteArray := prog_1_method_5_code
def yX5_except : MethodName := ⟨RX5, "except", "(III)I"⟩
abbrev cX5_end : ByteArray := prog_1_method_6_code
def yX5_end : MethodName := ⟨RX5, "end", "(II)I"⟩
abbrev cX5_setDay : ByteArray := prog_1_method_7_code
def yX5_setDay : MethodName := ⟨RX5, "setDay", "(I)I"⟩
abbrev cX5_type : ByteArray := prog_1_method_8_code
def yX5_type : MethodName := ⟨RX5, "type", "(C)I"⟩
abbrev cX5_clearText : ByteArray := prog_1_method_9_code
def yX5_clearText : MethodName := ⟨RX5, "clearText", "()I"⟩
abbrev cX5_writeAll : ByteArray := prog_1_method_10_code
def yX5_writeAll : MethodName := ⟨RX5, "writeAll", "()I"⟩
abbrev cX5_undo : ByteArray := prog_1_method_11_code
def yX5_undo : MethodName := ⟨RX5, "undo", "()I"⟩
abbrev cX5_keep : ByteArray := prog_1_method_12_code
def yX5_keep : MethodName := ⟨RX5, "keep", "()I"⟩
abbrev cX5_restore : ByteArray := prog_1_method_13_code
def yX5_restore : MethodName := ⟨RX5, "restore", "()I"⟩
abbrev cX5_chapter : ByteArray := prog_1_method_14_code
def yX5_chapter : MethodName := ⟨RX5, "chapter", "(II)I"⟩
abbrev cX5_clause : ByteArray := prog_1_method_15_code
def yX5_clause : MethodName := ⟨RX5, "clause", "(II)I"⟩
abbrev cX5_ruling : ByteArray := prog_1_method_16_code
def yX5_ruling : MethodName := ⟨RX5, "ruling", "(III)I"⟩
abbrev cX5_painted : ByteArray := prog_1_method_17_code
def yX5_painted : MethodName := ⟨RX5, "painted", "(II)I"⟩
abbrev cX5_silencedBy : ByteArray := prog_1_method_18_code
def yX5_silencedBy : MethodName := ⟨RX5, "silencedBy", "(III)I"⟩
abbrev cX5_reason : ByteArray := prog_1_method_19_code
def yX5_reason : MethodName := ⟨RX5, "reason", "(III)I"⟩
abbrev cX5_changesOn : ByteArray := prog_1_method_20_code
def yX5_changesOn : MethodName := ⟨RX5, "changesOn", "(II)I"⟩
abbrev cX5_unlike : ByteArray := prog_1_method_21_code
def yX5_unlike : MethodName := ⟨RX5, "unlike", "(II)I"⟩
abbrev cX5_idle : ByteArray := prog_1_method_22_code
def yX5_idle : MethodName := ⟨RX5, "idle", "()I"⟩
abbrev cX5_ifGone : ByteArray := prog_1_method_23_code
def yX5_ifGone : MethodName := ⟨RX5, "ifGone", "(I)I"⟩
abbrev cX5_weightiest : ByteArray := prog_1_method_24_code
def yX5_weightiest : MethodName := ⟨RX5, "weightiest", "()I"⟩
abbrev cX5_count : ByteArray := prog_1_method_25_code
def yX5_count : MethodName := ⟨RX5, "count", "(I)I"⟩
abbrev cX5_isBelow : ByteArray := prog_1_method_26_code
def yX5_isBelow : MethodName := ⟨RX5, "isBelow", "(II)Z"⟩
abbrev cX5_isChapter : ByteArray := prog_1_method_27_code
def yX5_isChapter : MethodName := ⟨RX5, "isChapter", "(I)Z"⟩
abbrev cX5_isCase : ByteArray := prog_1_method_28_code
def yX5_isCase : MethodName := ⟨RX5, "isCase", "(I)Z"⟩
abbrev cX5_isDay : ByteArray := prog_1_method_29_code
def yX5_isDay : MethodName := ⟨RX5, "isDay", "(I)Z"⟩
abbrev cX5_isSpan : ByteArray := prog_1_method_30_code
def yX5_isSpan : MethodName := ⟨RX5, "isSpan", "(II)Z"⟩
abbrev cX5_record : ByteArray := prog_1_method_31_code
def yX5_record : MethodName := ⟨RX5, "record", "()V"⟩
def RX6 : String := "StatuteClausesModel"
def TX6 : u_T := fun k => match k with
  | 0 => ("StatuteClausesModel", "s", "[I", true)
  | 1 => ("StatuteClausesModel", "history", "[I", true)
  | 2 => ("StatuteClausesModel", "known", "I", false)
  | 3 => ("StatuteClausesModel", "snapshot", "[I", true)
  | 4 => ("StatuteClausesModel", "isKept", "Z", false)
  | 5 => ("StatuteClausesModel", "text", "[I", true)
  | 6 => ("StatuteClausesModel", "length", "I", false)
  | 7 => ("StatuteClausesModel", "rulings", "[I", true)
  | 8 => ("StatuteClausesModel", "were", "[I", true)
  | 9 => ("StatuteClausesModel", "spot", "I", false)
  | 10 => ("StatuteClausesModel", "isWrong", "Z", false)
  | 11 => ("StatuteClausesModel", "isBad", "Z", false)
  | 12 => ("StatuteClausesModel", "first", "I", false)
  | _ => ("StatuteClausesModel", "last", "I", false)
def tyX6 : Nat → FieldType := fun k => match k with
  | 0 => .array .int
  | 1 => .array .int
  | 2 => .int
  | 3 => .array .int
  | 4 => .boolean
  | 5 => .array .int
  | 6 => .int
  | 7 => .array .int
  | 8 => .array .int
  | 9 => .int
  | 10 => .boolean
  | 11 => .boolean
  | 12 => .int
  | _ => .int
abbrev wsX60 : List Cond := u_ws RX6 TX6 14
theorem nmX6 : ∀ a, a < 14 → ∀ b, b < 14 → a ≠ b → (TX6 a).2.1 ≠ (TX6 b).2.1 := by decide +kernel
theorem tyX6_ok : ∀ k, k < 14 → parseFieldDescriptor (TX6 k).2.2.1 = some (tyX6 k) := by decide +kernel
abbrev cX6_init : ByteArray := prog_8_method_1_code
def yX6_init : MethodName := ⟨RX6, "<init>", "()V"⟩
abbrev cX6_in : ByteArray := prog_8_method_2_code
def yX6_in : MethodName := ⟨RX6, "in", "(III)Z"⟩
abbrev cX6_isChapter : ByteArray := prog_8_method_3_code
def yX6_isChapter : MethodName := ⟨RX6, "isChapter", "(I)Z"⟩
abbrev cX6_isCase : ByteArray := prog_8_method_4_code
def yX6_isCase : MethodName := ⟨RX6, "isCase", "(I)Z"⟩
abbrev cX6_isDay : ByteArray := prog_8_method_5_code
def yX6_isDay : MethodName := ⟨RX6, "isDay", "(I)Z"⟩
abbrev cX6_isSpan : ByteArray := prog_8_method_6_code
def yX6_isSpan : MethodName := ⟨RX6, "isSpan", "(II)Z"⟩
abbrev cX6_isClause : ByteArray := prog_8_method_7_code
def yX6_isClause : MethodName := ⟨RX6, "isClause", "(I)Z"⟩
abbrev cX6_ofChapter : ByteArray := prog_8_method_8_code
def yX6_ofChapter : MethodName := ⟨RX6, "ofChapter", "(II)I"⟩
abbrev cX6_of : ByteArray := prog_8_method_9_code
def yX6_of : MethodName := ⟨RX6, "of", "(II)I"⟩
abbrev cX6_get : ByteArray := prog_8_method_10_code
def yX6_get : MethodName := ⟨RX6, "get", "(II)I"⟩
abbrev cX6_record : ByteArray := prog_8_method_11_code
def yX6_record : MethodName := ⟨RX6, "record", "()V"⟩
abbrev cX6_isInForce : ByteArray := prog_8_method_12_code
def yX6_isInForce : MethodName := ⟨RX6, "isInForce", "(II)Z"⟩
abbrev cX6_reaches : ByteArray := prog_8_method_13_code
def yX6_reaches : MethodName := ⟨RX6, "reaches", "(II)Z"⟩
abbrev cX6_isExcepted : ByteArray := prog_8_method_14_code
def yX6_isExcepted : MethodName := ⟨RX6, "isExcepted", "(II)Z"⟩
abbrev cX6_meets : ByteArray := prog_8_method_15_code
def yX6_meets : MethodName := ⟨RX6, "meets", "(II)Z"⟩
abbrev cX6_latestOf : ByteArray := prog_8_method_16_code
def yX6_latestOf : MethodName := ⟨RX6, "latestOf", "(IIII)I"⟩
abbrev cX6_speaksIn : ByteArray := prog_8_method_17_code
def yX6_speaksIn : MethodName := ⟨RX6, "speaksIn", "(IIII)I"⟩
abbrev cX6_rules : ByteArray := prog_8_method_18_code
def yX6_rules : MethodName := ⟨RX6, "rules", "(III)I"⟩
abbrev cX6_worksOut : ByteArray := prog_8_method_19_code
def yX6_worksOut : MethodName := ⟨RX6, "worksOut", "(I)V"⟩
abbrev cX6_putAside : ByteArray := prog_8_method_20_code
def yX6_putAside : MethodName := ⟨RX6, "putAside", "()V"⟩
abbrev cX6_changed : ByteArray := prog_8_method_21_code
def yX6_changed : MethodName := ⟨RX6, "changed", "()I"⟩
abbrev cX6_setReach : ByteArray := prog_8_method_22_code
def yX6_setReach : MethodName := ⟨RX6, "setReach", "(III)I"⟩
abbrev cX6_exchange : ByteArray := prog_8_method_23_code
def yX6_exchange : MethodName := ⟨RX6, "exchange", "(II)I"⟩
abbrev cX6_writes : ByteArray := prog_8_method_24_code
def yX6_writes : MethodName := ⟨RX6, "writes", "(IIIII)V"⟩
abbrev cX6_excepts : ByteArray := prog_8_method_25_code
def yX6_excepts : MethodName := ⟨RX6, "excepts", "(III)I"⟩
abbrev cX6_write : ByteArray := prog_8_method_26_code
def yX6_write : MethodName := ⟨RX6, "write", "(IIIII)I"⟩
abbrev cX6_except : ByteArray := prog_8_method_27_code
def yX6_except : MethodName := ⟨RX6, "except", "(III)I"⟩
abbrev cX6_end : ByteArray := prog_8_method_28_code
def yX6_end : MethodName := ⟨RX6, "end", "(II)I"⟩
abbrev cX6_setDay : ByteArray := prog_8_method_29_code
def yX6_setDay : MethodName := ⟨RX6, "setDay", "(I)I"⟩
abbrev cX6_type : ByteArray := prog_8_method_30_code
def yX6_type : MethodName := ⟨RX6, "type", "(C)I"⟩
abbrev cX6_clearText : ByteArray := prog_8_method_31_code
def yX6_clearText : MethodName := ⟨RX6, "clearText", "()I"⟩
abbrev cX6_isNext : ByteArray := prog_8_method_32_code
def yX6_isNext : MethodName := ⟨RX6, "isNext", "(II)Z"⟩
abbrev cX6_takes : ByteArray := prog_8_method_33_code
def yX6_takes : MethodName := ⟨RX6, "takes", "(II)I"⟩
abbrev cX6_number : ByteArray := prog_8_method_34_code
def yX6_number : MethodName := ⟨RX6, "number", "(I)I"⟩
abbrev cX6_readSpan : ByteArray := prog_8_method_35_code
def yX6_readSpan : MethodName := ⟨RX6, "readSpan", "()V"⟩
abbrev cX6_readClause : ByteArray := prog_8_method_36_code
def yX6_readClause : MethodName := ⟨RX6, "readClause", "(Z)V"⟩
abbrev cX6_reads : ByteArray := prog_8_method_37_code
def yX6_reads : MethodName := ⟨RX6, "reads", "(Z)I"⟩
abbrev cX6_writeAll : ByteArray := prog_8_method_38_code
def yX6_writeAll : MethodName := ⟨RX6, "writeAll", "()I"⟩
abbrev cX6_undo : ByteArray := prog_8_method_39_code
def yX6_undo : MethodName := ⟨RX6, "undo", "()I"⟩
abbrev cX6_keep : ByteArray := prog_8_method_40_code
def yX6_keep : MethodName := ⟨RX6, "keep", "()I"⟩
abbrev cX6_restore : ByteArray := prog_8_method_41_code
def yX6_restore : MethodName := ⟨RX6, "restore", "()I"⟩
abbrev cX6_clausesOf : ByteArray := prog_8_method_42_code
def yX6_clausesOf : MethodName := ⟨RX6, "clausesOf", "(IZ)I"⟩
abbrev cX6_ruledIn : ByteArray := prog_8_method_43_code
def yX6_ruledIn : MethodName := ⟨RX6, "ruledIn", "(I)I"⟩
abbrev cX6_chapter : ByteArray := prog_8_method_44_code
def yX6_chapter : MethodName := ⟨RX6, "chapter", "(II)I"⟩
abbrev cX6_spokenBy : ByteArray := prog_8_method_45_code
def yX6_spokenBy : MethodName := ⟨RX6, "spokenBy", "(I)I"⟩
abbrev cX6_ruledBy : ByteArray := prog_8_method_46_code
def yX6_ruledBy : MethodName := ⟨RX6, "ruledBy", "(I)I"⟩
abbrev cX6_clause : ByteArray := prog_8_method_47_code
def yX6_clause : MethodName := ⟨RX6, "clause", "(II)I"⟩
abbrev cX6_ruling : ByteArray := prog_8_method_48_code
def yX6_ruling : MethodName := ⟨RX6, "ruling", "(III)I"⟩
abbrev cX6_painted : ByteArray := prog_8_method_49_code
def yX6_painted : MethodName := ⟨RX6, "painted", "(II)I"⟩
abbrev cX6_areThere : ByteArray := prog_8_method_50_code
def yX6_areThere : MethodName := ⟨RX6, "areThere", "(III)Z"⟩
abbrev cX6_silencer : ByteArray := prog_8_method_51_code
def yX6_silencer : MethodName := ⟨RX6, "silencer", "(III)I"⟩
abbrev cX6_silencedBy : ByteArray := prog_8_method_52_code
def yX6_silencedBy : MethodName := ⟨RX6, "silencedBy", "(III)I"⟩
abbrev cX6_reason : ByteArray := prog_8_method_53_code
def yX6_reason : MethodName := ⟨RX6, "reason", "(III)I"⟩
abbrev cX6_changesOn : ByteArray := prog_8_method_54_code
def yX6_changesOn : MethodName := ⟨RX6, "changesOn", "(II)I"⟩
abbrev cX6_unlike : ByteArray := prog_8_method_55_code
def yX6_unlike : MethodName := ⟨RX6, "unlike", "(II)I"⟩
abbrev cX6_ruleOn : ByteArray := prog_8_method_56_code
def yX6_ruleOn : MethodName := ⟨RX6, "ruleOn", "(I)I"⟩
abbrev cX6_idle : ByteArray := prog_8_method_57_code
def yX6_idle : MethodName := ⟨RX6, "idle", "()I"⟩
abbrev cX6_ifGone : ByteArray := prog_8_method_58_code
def yX6_ifGone : MethodName := ⟨RX6, "ifGone", "(I)I"⟩
abbrev cX6_weightiest : ByteArray := prog_8_method_59_code
def yX6_weightiest : MethodName := ⟨RX6, "weightiest", "()I"⟩
abbrev cX6_ruled : ByteArray := prog_8_method_60_code
def yX6_ruled : MethodName := ⟨RX6, "ruled", "()I"⟩
abbrev cX6_spoken : ByteArray := prog_8_method_61_code
def yX6_spoken : MethodName := ⟨RX6, "spoken", "()I"⟩
abbrev cX6_allOf : ByteArray := prog_8_method_62_code
def yX6_allOf : MethodName := ⟨RX6, "allOf", "(Z)I"⟩
abbrev cX6_count : ByteArray := prog_8_method_63_code
def yX6_count : MethodName := ⟨RX6, "count", "(I)I"⟩
def RJ9 : String := "java/lang/Math"
def TJ9 : u_T := fun k => match k with
  | _ => ("", "", "", false)
def tyJ9 : Nat → FieldType := fun k => match k with
  | _ => .int
abbrev cJ9_max_7cf53 : ByteArray := prog_9_method_65_code
def yJ9_max_7cf53 : MethodName := ⟨RJ9, "max", "(II)I"⟩
abbrev cJ9_min_7cf53 : ByteArray := prog_9_method_69_code
def yJ9_min_7cf53 : MethodName := ⟨RJ9, "min", "(II)I"⟩
def RJ10 : String := "java/lang/System"
def TJ10 : u_T := fun k => match k with
  | _ => ("", "", "", false)
def tyJ10 : Nat → FieldType := fun k => match k with
  | _ => .int
def RJ7 : String := "java/util/Arrays"
def TJ7 : u_T := fun k => match k with
  | _ => ("", "", "", false)
def tyJ7 : Nat → FieldType := fun k => match k with
  | _ => .int
abbrev cJ7_fill_53178 : ByteArray := prog_11_method_103_code
def yJ7_fill_53178 : MethodName := ⟨RJ7, "fill", "([II)V"⟩
def RL : String := "StatuteClausesLaw"
abbrev cL_law : ByteArray := code
def yL_law : MethodName := ⟨RL, "law", "([I)Z"⟩
abbrev vwCl : List vw_C := [(RX0, TX0, 5), (RX1, TX1, 10), (RX2, TX2, 4), (RX3, TX3, 3), (RX4, TX4, 6), (RX5, TX5, 9), (RX6, TX6, 14)]
end
section
theorem dX0_init_0 : decode cX0_init 0 = .ok (.aload_n 0, 1) := by decide +kernel
theorem dX0_init_1 : decode cX0_init 1 = .ok (.invokespecial 3, 3) := by decide +kernel
theorem dX0_init_4 : decode cX0_init 4 = .ok (.aload_n 0, 1) := by decide +kernel
theorem dX0_init_5 : decode cX0_init 5 = .ok (.iconst 0, 1) := by decide +kernel
theorem dX0_init_6 : decode cX0_init 6 = .ok (.putfield 9, 3) := by decide +kernel
theorem dX0_init_9 : decode cX0_init 9 = .ok (.aload_n 0, 1) := by decide +kernel
theorem dX0_init_10 : decode cX0_init 10 = .ok (.bipush 6, 2) := by decide +kernel
theorem dX0_init_12 : decode cX0_init 12 = .ok (.newarray .int, 2) := by decide +kernel
theorem dX0_init_14 : decode cX0_init 14 = .ok (.putfield 15, 3) := by decide +kernel
theorem dX0_init_17 : decode cX0_init 17 = .ok (.aload_n 0, 1) := by decide +kernel
theorem dX0_init_18 : decode cX0_init 18 = .ok (.bipush 6, 2) := by decide +kernel
theorem dX0_init_20 : decode cX0_init 20 = .ok (.newarray .int, 2) := by decide +kernel
theorem dX0_init_22 : decode cX0_init 22 = .ok (.putfield 19, 3) := by decide +kernel
theorem dX0_init_25 : decode cX0_init 25 = .ok (.aload_n 0, 1) := by decide +kernel
theorem dX0_init_26 : decode cX0_init 26 = .ok (.bipush 6, 2) := by decide +kernel
theorem dX0_init_28 : decode cX0_init 28 = .ok (.newarray .int, 2) := by decide +kernel
theorem dX0_init_30 : decode cX0_init 30 = .ok (.putfield 22, 3) := by decide +kernel
theorem dX0_init_33 : decode cX0_init 33 = .ok (.aload_n 0, 1) := by decide +kernel
theorem dX0_init_34 : decode cX0_init 34 = .ok (.new 25, 3) := by decide +kernel
theorem dX0_init_37 : decode cX0_init 37 = .ok (.dup, 1) := by decide +kernel
theorem dX0_init_38 : decode cX0_init 38 = .ok (.invokespecial 27, 3) := by decide +kernel
theorem dX0_init_41 : decode cX0_init 41 = .ok (.putfield 28, 3) := by decide +kernel
theorem dX0_init_44 : decode cX0_init 44 = .ok (.iconst 0, 1) := by decide +kernel
theorem dX0_init_45 : decode cX0_init 45 = .ok (.istore_n 1, 1) := by decide +kernel
theorem dX0_init_46 : decode cX0_init 46 = .ok (.iload_n 1, 1) := by decide +kernel
theorem dX0_init_47 : decode cX0_init 47 = .ok (.bipush 6, 2) := by decide +kernel
theorem dX0_init_49 : decode cX0_init 49 = .ok (.if_icmp .ge 24, 3) := by decide +kernel
theorem dX0_init_52 : decode cX0_init 52 = .ok (.aload_n 0, 1) := by decide +kernel
theorem dX0_init_53 : decode cX0_init 53 = .ok (.getfield 19, 3) := by decide +kernel
theorem dX0_init_56 : decode cX0_init 56 = .ok (.iload_n 1, 1) := by decide +kernel
theorem dX0_init_57 : decode cX0_init 57 = .ok (.bipush 99, 2) := by decide +kernel
theorem dX0_init_59 : decode cX0_init 59 = .ok (.iastore, 1) := by decide +kernel
theorem dX0_init_60 : decode cX0_init 60 = .ok (.aload_n 0, 1) := by decide +kernel
theorem dX0_init_61 : decode cX0_init 61 = .ok (.getfield 22, 3) := by decide +kernel
theorem dX0_init_64 : decode cX0_init 64 = .ok (.iload_n 1, 1) := by decide +kernel
theorem dX0_init_65 : decode cX0_init 65 = .ok (.iload_n 1, 1) := by decide +kernel
theorem dX0_init_66 : decode cX0_init 66 = .ok (.iastore, 1) := by decide +kernel
theorem dX0_init_67 : decode cX0_init 67 = .ok (.iinc 1 1, 3) := by decide +kernel
theorem dX0_init_70 : decode cX0_init 70 = .ok (.goto (-24), 3) := by decide +kernel
theorem dX0_init_73 : decode cX0_init 73 = .ok (.return_, 1) := by decide +kernel
theorem dX0_copyFrom_0 : decode cX0_copyFrom 0 = .ok (.aload_n 0, 1) := by decide +kernel
theorem dX0_copyFrom_1 : decode cX0_copyFrom 1 = .ok (.aload_n 1, 1) := by decide +kernel
theorem dX0_copyFrom_2 : decode cX0_copyFrom 2 = .ok (.getfield 9, 3) := by decide +kernel
theorem dX0_copyFrom_5 : decode cX0_copyFrom 5 = .ok (.putfield 9, 3) := by decide +kernel
theorem dX0_copyFrom_8 : decode cX0_copyFrom 8 = .ok (.aload_n 1, 1) := by decide +kernel
theorem dX0_copyFrom_9 : decode cX0_copyFrom 9 = .ok (.getfield 15, 3) := by decide +kernel
theorem dX0_copyFrom_12 : decode cX0_copyFrom 12 = .ok (.iconst 0, 1) := by decide +kernel
theorem dX0_copyFrom_13 : decode cX0_copyFrom 13 = .ok (.aload_n 0, 1) := by decide +kernel
theorem dX0_copyFrom_14 : decode cX0_copyFrom 14 = .ok (.getfield 15, 3) := by decide +kernel
theorem dX0_copyFrom_17 : decode cX0_copyFrom 17 = .ok (.iconst 0, 1) := by decide +kernel
theorem dX0_copyFrom_18 : decode cX0_copyFrom 18 = .ok (.bipush 6, 2) := by decide +kernel
theorem dX0_copyFrom_20 : decode cX0_copyFrom 20 = .ok (.invokestatic 32, 3) := by decide +kernel
theorem dX0_copyFrom_23 : decode cX0_copyFrom 23 = .ok (.aload_n 1, 1) := by decide +kernel
theorem dX0_copyFrom_24 : decode cX0_copyFrom 24 = .ok (.getfield 19, 3) := by decide +kernel
theorem dX0_copyFrom_27 : decode cX0_copyFrom 27 = .ok (.iconst 0, 1) := by decide +kernel
theorem dX0_copyFrom_28 : decode cX0_copyFrom 28 = .ok (.aload_n 0, 1) := by decide +kernel
theorem dX0_copyFrom_29 : decode cX0_copyFrom 29 = .ok (.getfield 19, 3) := by decide +kernel
theorem dX0_copyFrom_32 : decode cX0_copyFrom 32 = .ok (.iconst 0, 1) := by decide +kernel
theorem dX0_copyFrom_33 : decode cX0_copyFrom 33 = .ok (.bipush 6, 2) := by decide +kernel
theorem dX0_copyFrom_35 : decode cX0_copyFrom 35 = .ok (.invokestatic 32, 3) := by decide +kernel
theorem dX0_copyFrom_38 : decode cX0_copyFrom 38 = .ok (.aload_n 1, 1) := by decide +kernel
theorem dX0_copyFrom_39 : decode cX0_copyFrom 39 = .ok (.getfield 22, 3) := by decide +kernel
theorem dX0_copyFrom_42 : decode cX0_copyFrom 42 = .ok (.iconst 0, 1) := by decide +kernel
theorem dX0_copyFrom_43 : decode cX0_copyFrom 43 = .ok (.aload_n 0, 1) := by decide +kernel
theorem dX0_copyFrom_44 : decode cX0_copyFrom 44 = .ok (.getfield 22, 3) := by decide +kernel
theorem dX0_copyFrom_47 : decode cX0_copyFrom 47 = .ok (.iconst 0, 1) := by decide +kernel
theorem dX0_copyFrom_48 : decode cX0_copyFrom 48 = .ok (.bipush 6, 2) := by decide +kernel
theorem dX0_copyFrom_50 : decode cX0_copyFrom 50 = .ok (.invokestatic 32, 3) := by decide +kernel
theorem dX0_copyFrom_53 : decode cX0_copyFrom 53 = .ok (.aload_n 0, 1) := by decide +kernel
theorem dX0_copyFrom_54 : decode cX0_copyFrom 54 = .ok (.getfield 28, 3) := by decide +kernel
theorem dX0_copyFrom_57 : decode cX0_copyFrom 57 = .ok (.aload_n 1, 1) := by decide +kernel
theorem dX0_copyFrom_58 : decode cX0_copyFrom 58 = .ok (.getfield 28, 3) := by decide +kernel
theorem dX0_copyFrom_61 : decode cX0_copyFrom 61 = .ok (.invokevirtual 38, 3) := by decide +kernel
theorem dX0_copyFrom_64 : decode cX0_copyFrom 64 = .ok (.return_, 1) := by decide +kernel
theorem dX0_reaches_0 : decode cX0_reaches 0 = .ok (.aload_n 0, 1) := by decide +kernel
theorem dX0_reaches_1 : decode cX0_reaches 1 = .ok (.getfield 15, 3) := by decide +kernel
theorem dX0_reaches_4 : decode cX0_reaches 4 = .ok (.iload_n 1, 1) := by decide +kernel
theorem dX0_reaches_5 : decode cX0_reaches 5 = .ok (.iaload, 1) := by decide +kernel
theorem dX0_reaches_6 : decode cX0_reaches 6 = .ok (.iload_n 2, 1) := by decide +kernel
theorem dX0_reaches_7 : decode cX0_reaches 7 = .ok (.if_icmp .gt 17, 3) := by decide +kernel
theorem dX0_reaches_10 : decode cX0_reaches 10 = .ok (.iload_n 2, 1) := by decide +kernel
theorem dX0_reaches_11 : decode cX0_reaches 11 = .ok (.aload_n 0, 1) := by decide +kernel
theorem dX0_reaches_12 : decode cX0_reaches 12 = .ok (.getfield 19, 3) := by decide +kernel
theorem dX0_reaches_15 : decode cX0_reaches 15 = .ok (.iload_n 1, 1) := by decide +kernel
theorem dX0_reaches_16 : decode cX0_reaches 16 = .ok (.iaload, 1) := by decide +kernel
theorem dX0_reaches_17 : decode cX0_reaches 17 = .ok (.if_icmp .gt 7, 3) := by decide +kernel
theorem dX0_reaches_20 : decode cX0_reaches 20 = .ok (.iconst 1, 1) := by decide +kernel
theorem dX0_reaches_21 : decode cX0_reaches 21 = .ok (.goto 4, 3) := by decide +kernel
theorem dX0_reaches_24 : decode cX0_reaches 24 = .ok (.iconst 0, 1) := by decide +kernel
theorem dX0_reaches_25 : decode cX0_reaches 25 = .ok (.ireturn, 1) := by decide +kernel
theorem dX0_meets_0 : decode cX0_meets 0 = .ok (.aload_n 0, 1) := by decide +kernel
theorem dX0_meets_1 : decode cX0_meets 1 = .ok (.getfield 28, 3) := by decide +kernel
theorem dX0_meets_4 : decode cX0_meets 4 = .ok (.iload_n 1, 1) := by decide +kernel
theorem dX0_meets_5 : decode cX0_meets 5 = .ok (.iload_n 2, 1) := by decide +kernel
theorem dX0_meets_6 : decode cX0_meets 6 = .ok (.invokevirtual 42, 3) := by decide +kernel
theorem dX0_meets_9 : decode cX0_meets 9 = .ok (.ifCond .eq 36, 3) := by decide +kernel
theorem dX0_meets_12 : decode cX0_meets 12 = .ok (.aload_n 0, 1) := by decide +kernel
theorem dX0_meets_13 : decode cX0_meets 13 = .ok (.aload_n 0, 1) := by decide +kernel
theorem dX0_meets_14 : decode cX0_meets 14 = .ok (.getfield 28, 3) := by decide +kernel
theorem dX0_meets_17 : decode cX0_meets 17 = .ok (.getfield 46, 3) := by decide +kernel
theorem dX0_meets_20 : decode cX0_meets 20 = .ok (.iload_n 1, 1) := by decide +kernel
theorem dX0_meets_21 : decode cX0_meets 21 = .ok (.iaload, 1) := by decide +kernel
theorem dX0_meets_22 : decode cX0_meets 22 = .ok (.iload_n 2, 1) := by decide +kernel
theorem dX0_meets_23 : decode cX0_meets 23 = .ok (.invokevirtual 49, 3) := by decide +kernel
theorem dX0_meets_26 : decode cX0_meets 26 = .ok (.ifCond .eq 19, 3) := by decide +kernel
theorem dX0_meets_29 : decode cX0_meets 29 = .ok (.aload_n 0, 1) := by decide +kernel
theorem dX0_meets_30 : decode cX0_meets 30 = .ok (.getfield 28, 3) := by decide +kernel
theorem dX0_meets_33 : decode cX0_meets 33 = .ok (.iload_n 1, 1) := by decide +kernel
theorem dX0_meets_34 : decode cX0_meets 34 = .ok (.iload_n 2, 1) := by decide +kernel
theorem dX0_meets_35 : decode cX0_meets 35 = .ok (.invokevirtual 52, 3) := by decide +kernel
theorem dX0_meets_38 : decode cX0_meets 38 = .ok (.ifCond .ne 7, 3) := by decide +kernel
theorem dX0_meets_41 : decode cX0_meets 41 = .ok (.iconst 1, 1) := by decide +kernel
theorem dX0_meets_42 : decode cX0_meets 42 = .ok (.goto 4, 3) := by decide +kernel
theorem dX0_meets_45 : decode cX0_meets 45 = .ok (.iconst 0, 1) := by decide +kernel
theorem dX0_meets_46 : decode cX0_meets 46 = .ok (.ireturn, 1) := by decide +kernel
theorem dX1_init_0 : decode cX1_init 0 = .ok (.aload_n 0, 1) := by decide +kernel
theorem dX1_init_1 : decode cX1_init 1 = .ok (.invokespecial 3, 3) := by decide +kernel
theorem dX1_init_4 : decode cX1_init 4 = .ok (.aload_n 0, 1) := by decide +kernel
theorem dX1_init_5 : decode cX1_init 5 = .ok (.iconst 0, 1) := by decide +kernel
theorem dX1_init_6 : decode cX1_init 6 = .ok (.putfield 9, 3) := by decide +kernel
theorem dX1_init_9 : decode cX1_init 9 = .ok (.aload_n 0, 1) := by decide +kernel
theorem dX1_init_10 : decode cX1_init 10 = .ok (.bipush 30, 2) := by decide +kernel
theorem dX1_init_12 : decode cX1_init 12 = .ok (.newarray .int, 2) := by decide +kernel
theorem dX1_init_14 : decode cX1_init 14 = .ok (.putfield 15, 3) := by decide +kernel
theorem dX1_init_17 : decode cX1_init 17 = .ok (.aload_n 0, 1) := by decide +kernel
theorem dX1_init_18 : decode cX1_init 18 = .ok (.bipush 30, 2) := by decide +kernel
theorem dX1_init_20 : decode cX1_init 20 = .ok (.newarray .int, 2) := by decide +kernel
theorem dX1_init_22 : decode cX1_init 22 = .ok (.putfield 19, 3) := by decide +kernel
theorem dX1_init_25 : decode cX1_init 25 = .ok (.aload_n 0, 1) := by decide +kernel
theorem dX1_init_26 : decode cX1_init 26 = .ok (.bipush 30, 2) := by decide +kernel
theorem dX1_init_28 : decode cX1_init 28 = .ok (.newarray .int, 2) := by decide +kernel
theorem dX1_init_30 : decode cX1_init 30 = .ok (.putfield 22, 3) := by decide +kernel
theorem dX1_init_33 : decode cX1_init 33 = .ok (.aload_n 0, 1) := by decide +kernel
theorem dX1_init_34 : decode cX1_init 34 = .ok (.bipush 30, 2) := by decide +kernel
theorem dX1_init_36 : decode cX1_init 36 = .ok (.newarray .int, 2) := by decide +kernel
theorem dX1_init_38 : decode cX1_init 38 = .ok (.putfield 25, 3) := by decide +kernel
theorem dX1_init_41 : decode cX1_init 41 = .ok (.aload_n 0, 1) := by decide +kernel
theorem dX1_init_42 : decode cX1_init 42 = .ok (.bipush 30, 2) := by decide +kernel
theorem dX1_init_44 : decode cX1_init 44 = .ok (.newarray .int, 2) := by decide +kernel
theorem dX1_init_46 : decode cX1_init 46 = .ok (.putfield 28, 3) := by decide +kernel
theorem dX1_init_49 : decode cX1_init 49 = .ok (.aload_n 0, 1) := by decide +kernel
theorem dX1_init_50 : decode cX1_init 50 = .ok (.bipush 30, 2) := by decide +kernel
theorem dX1_init_52 : decode cX1_init 52 = .ok (.newarray .int, 2) := by decide +kernel
theorem dX1_init_54 : decode cX1_init 54 = .ok (.putfield 31, 3) := by decide +kernel
theorem dX1_init_57 : decode cX1_init 57 = .ok (.aload_n 0, 1) := by decide +kernel
theorem dX1_init_58 : decode cX1_init 58 = .ok (.bipush 30, 2) := by decide +kernel
theorem dX1_init_60 : decode cX1_init 60 = .ok (.newarray .int, 2) := by decide +kernel
theorem dX1_init_62 : decode cX1_init 62 = .ok (.putfield 34, 3) := by decide +kernel
theorem dX1_init_65 : decode cX1_init 65 = .ok (.aload_n 0, 1) := by decide +kernel
theorem dX1_init_66 : decode cX1_init 66 = .ok (.bipush 90, 2) := by decide +kernel
theorem dX1_init_68 : decode cX1_init 68 = .ok (.newarray .int, 2) := by decide +kernel
theorem dX1_init_70 : decode cX1_init 70 = .ok (.putfield 37, 3) := by decide +kernel
theorem dX1_init_73 : decode cX1_init 73 = .ok (.aload_n 0, 1) := by decide +kernel
theorem dX1_init_74 : decode cX1_init 74 = .ok (.bipush 90, 2) := by decide +kernel
theorem dX1_init_76 : decode cX1_init 76 = .ok (.newarray .int, 2) := by decide +kernel
theorem dX1_init_78 : decode cX1_init 78 = .ok (.putfield 40, 3) := by decide +kernel
theorem dX1_init_81 : decode cX1_init 81 = .ok (.return_, 1) := by decide +kernel
theorem dX1_has_0 : decode cX1_has 0 = .ok (.iload_n 1, 1) := by decide +kernel
theorem dX1_has_1 : decode cX1_has 1 = .ok (.aload_n 0, 1) := by decide +kernel
theorem dX1_has_2 : decode cX1_has 2 = .ok (.getfield 9, 3) := by decide +kernel
theorem dX1_has_5 : decode cX1_has 5 = .ok (.invokestatic 43, 3) := by decide +kernel
theorem dX1_has_8 : decode cX1_has 8 = .ok (.ireturn, 1) := by decide +kernel
theorem dX1_add_0 : decode cX1_add 0 = .ok (.aload_n 0, 1) := by decide +kernel
theorem dX1_add_1 : decode cX1_add 1 = .ok (.getfield 9, 3) := by decide +kernel
theorem dX1_add_4 : decode cX1_add 4 = .ok (.bipush 30, 2) := by decide +kernel
theorem dX1_add_6 : decode cX1_add 6 = .ok (.if_icmp .lt 5, 3) := by decide +kernel
theorem dX1_add_9 : decode cX1_add 9 = .ok (.iconst (-1), 1) := by decide +kernel
theorem dX1_add_10 : decode cX1_add 10 = .ok (.ireturn, 1) := by decide +kernel
theorem dX1_add_11 : decode cX1_add 11 = .ok (.aload_n 0, 1) := by decide +kernel
theorem dX1_add_12 : decode cX1_add 12 = .ok (.getfield 9, 3) := by decide +kernel
theorem dX1_add_15 : decode cX1_add 15 = .ok (.istore 6, 2) := by decide +kernel
theorem dX1_add_17 : decode cX1_add 17 = .ok (.aload_n 0, 1) := by decide +kernel
theorem dX1_add_18 : decode cX1_add 18 = .ok (.dup, 1) := by decide +kernel
theorem dX1_add_19 : decode cX1_add 19 = .ok (.getfield 9, 3) := by decide +kernel
theorem dX1_add_22 : decode cX1_add 22 = .ok (.iconst 1, 1) := by decide +kernel
theorem dX1_add_23 : decode cX1_add 23 = .ok (.iadd, 1) := by decide +kernel
theorem dX1_add_24 : decode cX1_add 24 = .ok (.putfield 9, 3) := by decide +kernel
theorem dX1_add_27 : decode cX1_add 27 = .ok (.aload_n 0, 1) := by decide +kernel
theorem dX1_add_28 : decode cX1_add 28 = .ok (.getfield 15, 3) := by decide +kernel
theorem dX1_add_31 : decode cX1_add 31 = .ok (.iload 6, 2) := by decide +kernel
theorem dX1_add_33 : decode cX1_add 33 = .ok (.iload_n 1, 1) := by decide +kernel
theorem dX1_add_34 : decode cX1_add 34 = .ok (.iastore, 1) := by decide +kernel
theorem dX1_add_35 : decode cX1_add 35 = .ok (.aload_n 0, 1) := by decide +kernel
theorem dX1_add_36 : decode cX1_add 36 = .ok (.getfield 19, 3) := by decide +kernel
theorem dX1_add_39 : decode cX1_add 39 = .ok (.iload 6, 2) := by decide +kernel
theorem dX1_add_41 : decode cX1_add 41 = .ok (.iload_n 2, 1) := by decide +kernel
theorem dX1_add_42 : decode cX1_add 42 = .ok (.iastore, 1) := by decide +kernel
theorem dX1_add_43 : decode cX1_add 43 = .ok (.aload_n 0, 1) := by decide +kernel
theorem dX1_add_44 : decode cX1_add 44 = .ok (.getfield 22, 3) := by decide +kernel
theorem dX1_add_47 : decode cX1_add 47 = .ok (.iload 6, 2) := by decide +kernel
theorem dX1_add_49 : decode cX1_add 49 = .ok (.sipush 1000, 3) := by decide +kernel
theorem dX1_add_52 : decode cX1_add 52 = .ok (.iastore, 1) := by decide +kernel
theorem dX1_add_53 : decode cX1_add 53 = .ok (.aload_n 0, 1) := by decide +kernel
theorem dX1_add_54 : decode cX1_add 54 = .ok (.getfield 25, 3) := by decide +kernel
theorem dX1_add_57 : decode cX1_add 57 = .ok (.iload 6, 2) := by decide +kernel
theorem dX1_add_59 : decode cX1_add 59 = .ok (.iload_n 3, 1) := by decide +kernel
theorem dX1_add_60 : decode cX1_add 60 = .ok (.iastore, 1) := by decide +kernel
theorem dX1_add_61 : decode cX1_add 61 = .ok (.aload_n 0, 1) := by decide +kernel
theorem dX1_add_62 : decode cX1_add 62 = .ok (.getfield 28, 3) := by decide +kernel
theorem dX1_add_65 : decode cX1_add 65 = .ok (.iload 6, 2) := by decide +kernel
theorem dX1_add_67 : decode cX1_add 67 = .ok (.iload 4, 2) := by decide +kernel
theorem dX1_add_69 : decode cX1_add 69 = .ok (.iastore, 1) := by decide +kernel
theorem dX1_add_70 : decode cX1_add 70 = .ok (.aload_n 0, 1) := by decide +kernel
theorem dX1_add_71 : decode cX1_add 71 = .ok (.getfield 31, 3) := by decide +kernel
theorem dX1_add_74 : decode cX1_add 74 = .ok (.iload 6, 2) := by decide +kernel
theorem dX1_add_76 : decode cX1_add 76 = .ok (.iload 5, 2) := by decide +kernel
theorem dX1_add_78 : decode cX1_add 78 = .ok (.iastore, 1) := by decide +kernel
theorem dX1_add_79 : decode cX1_add 79 = .ok (.aload_n 0, 1) := by decide +kernel
theorem dX1_add_80 : decode cX1_add 80 = .ok (.getfield 34, 3) := by decide +kernel
theorem dX1_add_83 : decode cX1_add 83 = .ok (.iload 6, 2) := by decide +kernel
theorem dX1_add_85 : decode cX1_add 85 = .ok (.iconst 0, 1) := by decide +kernel
theorem dX1_add_86 : decode cX1_add 86 = .ok (.iastore, 1) := by decide +kernel
theorem dX1_add_87 : decode cX1_add 87 = .ok (.iload 6, 2) := by decide +kernel
theorem dX1_add_89 : decode cX1_add 89 = .ok (.ireturn, 1) := by decide +kernel
theorem dX1_addException_0 : decode cX1_addException 0 = .ok (.aload_n 0, 1) := by decide +kernel
theorem dX1_addException_1 : decode cX1_addException 1 = .ok (.iload_n 1, 1) := by decide +kernel
theorem dX1_addException_2 : decode cX1_addException 2 = .ok (.invokevirtual 47, 3) := by decide +kernel
theorem dX1_addException_5 : decode cX1_addException 5 = .ok (.ifCond .eq 13, 3) := by decide +kernel
theorem dX1_addException_8 : decode cX1_addException 8 = .ok (.aload_n 0, 1) := by decide +kernel
theorem dX1_addException_9 : decode cX1_addException 9 = .ok (.getfield 34, 3) := by decide +kernel
theorem dX1_addException_12 : decode cX1_addException 12 = .ok (.iload_n 1, 1) := by decide +kernel
theorem dX1_addException_13 : decode cX1_addException 13 = .ok (.iaload, 1) := by decide +kernel
theorem dX1_addException_14 : decode cX1_addException 14 = .ok (.iconst 3, 1) := by decide +kernel
theorem dX1_addException_15 : decode cX1_addException 15 = .ok (.if_icmp .lt 4, 3) := by decide +kernel
theorem dX1_addException_18 : decode cX1_addException 18 = .ok (.return_, 1) := by decide +kernel
theorem dX1_addException_19 : decode cX1_addException 19 = .ok (.iload_n 1, 1) := by decide +kernel
theorem dX1_addException_20 : decode cX1_addException 20 = .ok (.iconst 3, 1) := by decide +kernel
theorem dX1_addException_21 : decode cX1_addException 21 = .ok (.imul, 1) := by decide +kernel
theorem dX1_addException_22 : decode cX1_addException 22 = .ok (.aload_n 0, 1) := by decide +kernel
theorem dX1_addException_23 : decode cX1_addException 23 = .ok (.getfield 34, 3) := by decide +kernel
theorem dX1_addException_26 : decode cX1_addException 26 = .ok (.iload_n 1, 1) := by decide +kernel
theorem dX1_addException_27 : decode cX1_addException 27 = .ok (.iaload, 1) := by decide +kernel
theorem dX1_addException_28 : decode cX1_addException 28 = .ok (.iadd, 1) := by decide +kernel
theorem dX1_addException_29 : decode cX1_addException 29 = .ok (.istore 4, 2) := by decide +kernel
theorem dX1_addException_31 : decode cX1_addException 31 = .ok (.aload_n 0, 1) := by decide +kernel
theorem dX1_addException_32 : decode cX1_addException 32 = .ok (.getfield 37, 3) := by decide +kernel
theorem dX1_addException_35 : decode cX1_addException 35 = .ok (.iload 4, 2) := by decide +kernel
theorem dX1_addException_37 : decode cX1_addException 37 = .ok (.iload_n 2, 1) := by decide +kernel
theorem dX1_addException_38 : decode cX1_addException 38 = .ok (.iastore, 1) := by decide +kernel
theorem dX1_addException_39 : decode cX1_addException 39 = .ok (.aload_n 0, 1) := by decide +kernel
theorem dX1_addException_40 : decode cX1_addException 40 = .ok (.getfield 40, 3) := by decide +kernel
theorem dX1_addException_43 : decode cX1_addException 43 = .ok (.iload 4, 2) := by decide +kernel
theorem dX1_addException_45 : decode cX1_addException 45 = .ok (.iload_n 3, 1) := by decide +kernel
theorem dX1_addException_46 : decode cX1_addException 46 = .ok (.iastore, 1) := by decide +kernel
theorem dX1_addException_47 : decode cX1_addException 47 = .ok (.aload_n 0, 1) := by decide +kernel
theorem dX1_addException_48 : decode cX1_addException 48 = .ok (.getfield 34, 3) := by decide +kernel
theorem dX1_addException_51 : decode cX1_addException 51 = .ok (.iload_n 1, 1) := by decide +kernel
theorem dX1_addException_52 : decode cX1_addException 52 = .ok (.dup2, 1) := by decide +kernel
theorem dX1_addException_53 : decode cX1_addException 53 = .ok (.iaload, 1) := by decide +kernel
theorem dX1_addException_54 : decode cX1_addException 54 = .ok (.iconst 1, 1) := by decide +kernel
theorem dX1_addException_55 : decode cX1_addException 55 = .ok (.iadd, 1) := by decide +kernel
theorem dX1_addException_56 : decode cX1_addException 56 = .ok (.iastore, 1) := by decide +kernel
theorem dX1_addException_57 : decode cX1_addException 57 = .ok (.return_, 1) := by decide +kernel
theorem dX1_addAll_0 : decode cX1_addAll 0 = .ok (.iconst 0, 1) := by decide +kernel
theorem dX1_addAll_1 : decode cX1_addAll 1 = .ok (.istore_n 2, 1) := by decide +kernel
theorem dX1_addAll_2 : decode cX1_addAll 2 = .ok (.iload_n 2, 1) := by decide +kernel
theorem dX1_addAll_3 : decode cX1_addAll 3 = .ok (.aload_n 1, 1) := by decide +kernel
theorem dX1_addAll_4 : decode cX1_addAll 4 = .ok (.getfield 9, 3) := by decide +kernel
theorem dX1_addAll_7 : decode cX1_addAll 7 = .ok (.if_icmp .ge 91, 3) := by decide +kernel
theorem dX1_addAll_10 : decode cX1_addAll 10 = .ok (.aload_n 0, 1) := by decide +kernel
theorem dX1_addAll_11 : decode cX1_addAll 11 = .ok (.aload_n 1, 1) := by decide +kernel
theorem dX1_addAll_12 : decode cX1_addAll 12 = .ok (.getfield 15, 3) := by decide +kernel
theorem dX1_addAll_15 : decode cX1_addAll 15 = .ok (.iload_n 2, 1) := by decide +kernel
theorem dX1_addAll_16 : decode cX1_addAll 16 = .ok (.iaload, 1) := by decide +kernel
theorem dX1_addAll_17 : decode cX1_addAll 17 = .ok (.aload_n 1, 1) := by decide +kernel
theorem dX1_addAll_18 : decode cX1_addAll 18 = .ok (.getfield 19, 3) := by decide +kernel
theorem dX1_addAll_21 : decode cX1_addAll 21 = .ok (.iload_n 2, 1) := by decide +kernel
theorem dX1_addAll_22 : decode cX1_addAll 22 = .ok (.iaload, 1) := by decide +kernel
theorem dX1_addAll_23 : decode cX1_addAll 23 = .ok (.aload_n 1, 1) := by decide +kernel
theorem dX1_addAll_24 : decode cX1_addAll 24 = .ok (.getfield 25, 3) := by decide +kernel
theorem dX1_addAll_27 : decode cX1_addAll 27 = .ok (.iload_n 2, 1) := by decide +kernel
theorem dX1_addAll_28 : decode cX1_addAll 28 = .ok (.iaload, 1) := by decide +kernel
theorem dX1_addAll_29 : decode cX1_addAll 29 = .ok (.aload_n 1, 1) := by decide +kernel
theorem dX1_addAll_30 : decode cX1_addAll 30 = .ok (.getfield 28, 3) := by decide +kernel
theorem dX1_addAll_33 : decode cX1_addAll 33 = .ok (.iload_n 2, 1) := by decide +kernel
theorem dX1_addAll_34 : decode cX1_addAll 34 = .ok (.iaload, 1) := by decide +kernel
theorem dX1_addAll_35 : decode cX1_addAll 35 = .ok (.aload_n 1, 1) := by decide +kernel
theorem dX1_addAll_36 : decode cX1_addAll 36 = .ok (.getfield 31, 3) := by decide +kernel
theorem dX1_addAll_39 : decode cX1_addAll 39 = .ok (.iload_n 2, 1) := by decide +kernel
theorem dX1_addAll_40 : decode cX1_addAll 40 = .ok (.iaload, 1) := by decide +kernel
theorem dX1_addAll_41 : decode cX1_addAll 41 = .ok (.invokevirtual 51, 3) := by decide +kernel
theorem dX1_addAll_44 : decode cX1_addAll 44 = .ok (.istore_n 3, 1) := by decide +kernel
theorem dX1_addAll_45 : decode cX1_addAll 45 = .ok (.iconst 0, 1) := by decide +kernel
theorem dX1_addAll_46 : decode cX1_addAll 46 = .ok (.istore 4, 2) := by decide +kernel
theorem dX1_addAll_48 : decode cX1_addAll 48 = .ok (.iload 4, 2) := by decide +kernel
theorem dX1_addAll_50 : decode cX1_addAll 50 = .ok (.aload_n 1, 1) := by decide +kernel
theorem dX1_addAll_51 : decode cX1_addAll 51 = .ok (.getfield 34, 3) := by decide +kernel
theorem dX1_addAll_54 : decode cX1_addAll 54 = .ok (.iload_n 2, 1) := by decide +kernel
theorem dX1_addAll_55 : decode cX1_addAll 55 = .ok (.iaload, 1) := by decide +kernel
theorem dX1_addAll_56 : decode cX1_addAll 56 = .ok (.if_icmp .ge 36, 3) := by decide +kernel
theorem dX1_addAll_59 : decode cX1_addAll 59 = .ok (.iload_n 2, 1) := by decide +kernel
theorem dX1_addAll_60 : decode cX1_addAll 60 = .ok (.iconst 3, 1) := by decide +kernel
theorem dX1_addAll_61 : decode cX1_addAll 61 = .ok (.imul, 1) := by decide +kernel
theorem dX1_addAll_62 : decode cX1_addAll 62 = .ok (.iload 4, 2) := by decide +kernel
theorem dX1_addAll_64 : decode cX1_addAll 64 = .ok (.iadd, 1) := by decide +kernel
theorem dX1_addAll_65 : decode cX1_addAll 65 = .ok (.istore 5, 2) := by decide +kernel
theorem dX1_addAll_67 : decode cX1_addAll 67 = .ok (.aload_n 0, 1) := by decide +kernel
theorem dX1_addAll_68 : decode cX1_addAll 68 = .ok (.iload_n 3, 1) := by decide +kernel
theorem dX1_addAll_69 : decode cX1_addAll 69 = .ok (.aload_n 1, 1) := by decide +kernel
theorem dX1_addAll_70 : decode cX1_addAll 70 = .ok (.getfield 37, 3) := by decide +kernel
theorem dX1_addAll_73 : decode cX1_addAll 73 = .ok (.iload 5, 2) := by decide +kernel
theorem dX1_addAll_75 : decode cX1_addAll 75 = .ok (.iaload, 1) := by decide +kernel
theorem dX1_addAll_76 : decode cX1_addAll 76 = .ok (.aload_n 1, 1) := by decide +kernel
theorem dX1_addAll_77 : decode cX1_addAll 77 = .ok (.getfield 40, 3) := by decide +kernel
theorem dX1_addAll_80 : decode cX1_addAll 80 = .ok (.iload 5, 2) := by decide +kernel
theorem dX1_addAll_82 : decode cX1_addAll 82 = .ok (.iaload, 1) := by decide +kernel
theorem dX1_addAll_83 : decode cX1_addAll 83 = .ok (.invokevirtual 55, 3) := by decide +kernel
theorem dX1_addAll_86 : decode cX1_addAll 86 = .ok (.iinc 4 1, 3) := by decide +kernel
theorem dX1_addAll_89 : decode cX1_addAll 89 = .ok (.goto (-41), 3) := by decide +kernel
theorem dX1_addAll_92 : decode cX1_addAll 92 = .ok (.iinc 2 1, 3) := by decide +kernel
theorem dX1_addAll_95 : decode cX1_addAll 95 = .ok (.goto (-93), 3) := by decide +kernel
theorem dX1_addAll_98 : decode cX1_addAll 98 = .ok (.return_, 1) := by decide +kernel
theorem dX1_copyFrom_0 : decode cX1_copyFrom 0 = .ok (.aload_n 0, 1) := by decide +kernel
theorem dX1_copyFrom_1 : decode cX1_copyFrom 1 = .ok (.aload_n 1, 1) := by decide +kernel
theorem dX1_copyFrom_2 : decode cX1_copyFrom 2 = .ok (.getfield 9, 3) := by decide +kernel
theorem dX1_copyFrom_5 : decode cX1_copyFrom 5 = .ok (.putfield 9, 3) := by decide +kernel
theorem dX1_copyFrom_8 : decode cX1_copyFrom 8 = .ok (.aload_n 1, 1) := by decide +kernel
theorem dX1_copyFrom_9 : decode cX1_copyFrom 9 = .ok (.getfield 15, 3) := by decide +kernel
theorem dX1_copyFrom_12 : decode cX1_copyFrom 12 = .ok (.iconst 0, 1) := by decide +kernel
theorem dX1_copyFrom_13 : decode cX1_copyFrom 13 = .ok (.aload_n 0, 1) := by decide +kernel
theorem dX1_copyFrom_14 : decode cX1_copyFrom 14 = .ok (.getfield 15, 3) := by decide +kernel
theorem dX1_copyFrom_17 : decode cX1_copyFrom 17 = .ok (.iconst 0, 1) := by decide +kernel
theorem dX1_copyFrom_18 : decode cX1_copyFrom 18 = .ok (.aload_n 0, 1) := by decide +kernel
theorem dX1_copyFrom_19 : decode cX1_copyFrom 19 = .ok (.getfield 9, 3) := by decide +kernel
theorem dX1_copyFrom_22 : decode cX1_copyFrom 22 = .ok (.invokestatic 59, 3) := by decide +kernel
theorem dX1_copyFrom_25 : decode cX1_copyFrom 25 = .ok (.aload_n 1, 1) := by decide +kernel
theorem dX1_copyFrom_26 : decode cX1_copyFrom 26 = .ok (.getfield 19, 3) := by decide +kernel
theorem dX1_copyFrom_29 : decode cX1_copyFrom 29 = .ok (.iconst 0, 1) := by decide +kernel
theorem dX1_copyFrom_30 : decode cX1_copyFrom 30 = .ok (.aload_n 0, 1) := by decide +kernel
theorem dX1_copyFrom_31 : decode cX1_copyFrom 31 = .ok (.getfield 19, 3) := by decide +kernel
theorem dX1_copyFrom_34 : decode cX1_copyFrom 34 = .ok (.iconst 0, 1) := by decide +kernel
theorem dX1_copyFrom_35 : decode cX1_copyFrom 35 = .ok (.aload_n 0, 1) := by decide +kernel
theorem dX1_copyFrom_36 : decode cX1_copyFrom 36 = .ok (.getfield 9, 3) := by decide +kernel
theorem dX1_copyFrom_39 : decode cX1_copyFrom 39 = .ok (.invokestatic 59, 3) := by decide +kernel
theorem dX1_copyFrom_42 : decode cX1_copyFrom 42 = .ok (.aload_n 1, 1) := by decide +kernel
theorem dX1_copyFrom_43 : decode cX1_copyFrom 43 = .ok (.getfield 22, 3) := by decide +kernel
theorem dX1_copyFrom_46 : decode cX1_copyFrom 46 = .ok (.iconst 0, 1) := by decide +kernel
theorem dX1_copyFrom_47 : decode cX1_copyFrom 47 = .ok (.aload_n 0, 1) := by decide +kernel
theorem dX1_copyFrom_48 : decode cX1_copyFrom 48 = .ok (.getfield 22, 3) := by decide +kernel
theorem dX1_copyFrom_51 : decode cX1_copyFrom 51 = .ok (.iconst 0, 1) := by decide +kernel
theorem dX1_copyFrom_52 : decode cX1_copyFrom 52 = .ok (.aload_n 0, 1) := by decide +kernel
theorem dX1_copyFrom_53 : decode cX1_copyFrom 53 = .ok (.getfield 9, 3) := by decide +kernel
theorem dX1_copyFrom_56 : decode cX1_copyFrom 56 = .ok (.invokestatic 59, 3) := by decide +kernel
theorem dX1_copyFrom_59 : decode cX1_copyFrom 59 = .ok (.aload_n 1, 1) := by decide +kernel
theorem dX1_copyFrom_60 : decode cX1_copyFrom 60 = .ok (.getfield 25, 3) := by decide +kernel
theorem dX1_copyFrom_63 : decode cX1_copyFrom 63 = .ok (.iconst 0, 1) := by decide +kernel
theorem dX1_copyFrom_64 : decode cX1_copyFrom 64 = .ok (.aload_n 0, 1) := by decide +kernel
theorem dX1_copyFrom_65 : decode cX1_copyFrom 65 = .ok (.getfield 25, 3) := by decide +kernel
theorem dX1_copyFrom_68 : decode cX1_copyFrom 68 = .ok (.iconst 0, 1) := by decide +kernel
theorem dX1_copyFrom_69 : decode cX1_copyFrom 69 = .ok (.aload_n 0, 1) := by decide +kernel
theorem dX1_copyFrom_70 : decode cX1_copyFrom 70 = .ok (.getfield 9, 3) := by decide +kernel
theorem dX1_copyFrom_73 : decode cX1_copyFrom 73 = .ok (.invokestatic 59, 3) := by decide +kernel
theorem dX1_copyFrom_76 : decode cX1_copyFrom 76 = .ok (.aload_n 1, 1) := by decide +kernel
theorem dX1_copyFrom_77 : decode cX1_copyFrom 77 = .ok (.getfield 28, 3) := by decide +kernel
theorem dX1_copyFrom_80 : decode cX1_copyFrom 80 = .ok (.iconst 0, 1) := by decide +kernel
theorem dX1_copyFrom_81 : decode cX1_copyFrom 81 = .ok (.aload_n 0, 1) := by decide +kernel
theorem dX1_copyFrom_82 : decode cX1_copyFrom 82 = .ok (.getfield 28, 3) := by decide +kernel
theorem dX1_copyFrom_85 : decode cX1_copyFrom 85 = .ok (.iconst 0, 1) := by decide +kernel
theorem dX1_copyFrom_86 : decode cX1_copyFrom 86 = .ok (.aload_n 0, 1) := by decide +kernel
theorem dX1_copyFrom_87 : decode cX1_copyFrom 87 = .ok (.getfield 9, 3) := by decide +kernel
theorem dX1_copyFrom_90 : decode cX1_copyFrom 90 = .ok (.invokestatic 59, 3) := by decide +kernel
theorem dX1_copyFrom_93 : decode cX1_copyFrom 93 = .ok (.aload_n 1, 1) := by decide +kernel
theorem dX1_copyFrom_94 : decode cX1_copyFrom 94 = .ok (.getfield 31, 3) := by decide +kernel
theorem dX1_copyFrom_97 : decode cX1_copyFrom 97 = .ok (.iconst 0, 1) := by decide +kernel
theorem dX1_copyFrom_98 : decode cX1_copyFrom 98 = .ok (.aload_n 0, 1) := by decide +kernel
theorem dX1_copyFrom_99 : decode cX1_copyFrom 99 = .ok (.getfield 31, 3) := by decide +kernel
theorem dX1_copyFrom_102 : decode cX1_copyFrom 102 = .ok (.iconst 0, 1) := by decide +kernel
theorem dX1_copyFrom_103 : decode cX1_copyFrom 103 = .ok (.aload_n 0, 1) := by decide +kernel
theorem dX1_copyFrom_104 : decode cX1_copyFrom 104 = .ok (.getfield 9, 3) := by decide +kernel
theorem dX1_copyFrom_107 : decode cX1_copyFrom 107 = .ok (.invokestatic 59, 3) := by decide +kernel
theorem dX1_copyFrom_110 : decode cX1_copyFrom 110 = .ok (.aload_n 1, 1) := by decide +kernel
theorem dX1_copyFrom_111 : decode cX1_copyFrom 111 = .ok (.getfield 34, 3) := by decide +kernel
theorem dX1_copyFrom_114 : decode cX1_copyFrom 114 = .ok (.iconst 0, 1) := by decide +kernel
theorem dX1_copyFrom_115 : decode cX1_copyFrom 115 = .ok (.aload_n 0, 1) := by decide +kernel
theorem dX1_copyFrom_116 : decode cX1_copyFrom 116 = .ok (.getfield 34, 3) := by decide +kernel
theorem dX1_copyFrom_119 : decode cX1_copyFrom 119 = .ok (.iconst 0, 1) := by decide +kernel
theorem dX1_copyFrom_120 : decode cX1_copyFrom 120 = .ok (.aload_n 0, 1) := by decide +kernel
theorem dX1_copyFrom_121 : decode cX1_copyFrom 121 = .ok (.getfield 9, 3) := by decide +kernel
theorem dX1_copyFrom_124 : decode cX1_copyFrom 124 = .ok (.invokestatic 59, 3) := by decide +kernel
theorem dX1_copyFrom_127 : decode cX1_copyFrom 127 = .ok (.aload_n 1, 1) := by decide +kernel
theorem dX1_copyFrom_128 : decode cX1_copyFrom 128 = .ok (.getfield 37, 3) := by decide +kernel
theorem dX1_copyFrom_131 : decode cX1_copyFrom 131 = .ok (.iconst 0, 1) := by decide +kernel
theorem dX1_copyFrom_132 : decode cX1_copyFrom 132 = .ok (.aload_n 0, 1) := by decide +kernel
theorem dX1_copyFrom_133 : decode cX1_copyFrom 133 = .ok (.getfield 37, 3) := by decide +kernel
theorem dX1_copyFrom_136 : decode cX1_copyFrom 136 = .ok (.iconst 0, 1) := by decide +kernel
theorem dX1_copyFrom_137 : decode cX1_copyFrom 137 = .ok (.aload_n 0, 1) := by decide +kernel
theorem dX1_copyFrom_138 : decode cX1_copyFrom 138 = .ok (.getfield 9, 3) := by decide +kernel
theorem dX1_copyFrom_141 : decode cX1_copyFrom 141 = .ok (.iconst 3, 1) := by decide +kernel
theorem dX1_copyFrom_142 : decode cX1_copyFrom 142 = .ok (.imul, 1) := by decide +kernel
theorem dX1_copyFrom_143 : decode cX1_copyFrom 143 = .ok (.invokestatic 59, 3) := by decide +kernel
theorem dX1_copyFrom_146 : decode cX1_copyFrom 146 = .ok (.aload_n 1, 1) := by decide +kernel
theorem dX1_copyFrom_147 : decode cX1_copyFrom 147 = .ok (.getfield 40, 3) := by decide +kernel
theorem dX1_copyFrom_150 : decode cX1_copyFrom 150 = .ok (.iconst 0, 1) := by decide +kernel
theorem dX1_copyFrom_151 : decode cX1_copyFrom 151 = .ok (.aload_n 0, 1) := by decide +kernel
theorem dX1_copyFrom_152 : decode cX1_copyFrom 152 = .ok (.getfield 40, 3) := by decide +kernel
theorem dX1_copyFrom_155 : decode cX1_copyFrom 155 = .ok (.iconst 0, 1) := by decide +kernel
theorem dX1_copyFrom_156 : decode cX1_copyFrom 156 = .ok (.aload_n 0, 1) := by decide +kernel
theorem dX1_copyFrom_157 : decode cX1_copyFrom 157 = .ok (.getfield 9, 3) := by decide +kernel
theorem dX1_copyFrom_160 : decode cX1_copyFrom 160 = .ok (.iconst 3, 1) := by decide +kernel
theorem dX1_copyFrom_161 : decode cX1_copyFrom 161 = .ok (.imul, 1) := by decide +kernel
theorem dX1_copyFrom_162 : decode cX1_copyFrom 162 = .ok (.invokestatic 59, 3) := by decide +kernel
theorem dX1_copyFrom_165 : decode cX1_copyFrom 165 = .ok (.return_, 1) := by decide +kernel
theorem dX1_isInForce_0 : decode cX1_isInForce 0 = .ok (.aload_n 0, 1) := by decide +kernel
theorem dX1_isInForce_1 : decode cX1_isInForce 1 = .ok (.getfield 19, 3) := by decide +kernel
theorem dX1_isInForce_4 : decode cX1_isInForce 4 = .ok (.iload_n 1, 1) := by decide +kernel
theorem dX1_isInForce_5 : decode cX1_isInForce 5 = .ok (.iaload, 1) := by decide +kernel
theorem dX1_isInForce_6 : decode cX1_isInForce 6 = .ok (.iload_n 2, 1) := by decide +kernel
theorem dX1_isInForce_7 : decode cX1_isInForce 7 = .ok (.if_icmp .gt 17, 3) := by decide +kernel
theorem dX1_isInForce_10 : decode cX1_isInForce 10 = .ok (.aload_n 0, 1) := by decide +kernel
theorem dX1_isInForce_11 : decode cX1_isInForce 11 = .ok (.getfield 22, 3) := by decide +kernel
theorem dX1_isInForce_14 : decode cX1_isInForce 14 = .ok (.iload_n 1, 1) := by decide +kernel
theorem dX1_isInForce_15 : decode cX1_isInForce 15 = .ok (.iaload, 1) := by decide +kernel
theorem dX1_isInForce_16 : decode cX1_isInForce 16 = .ok (.iload_n 2, 1) := by decide +kernel
theorem dX1_isInForce_17 : decode cX1_isInForce 17 = .ok (.if_icmp .le 7, 3) := by decide +kernel
theorem dX1_isInForce_20 : decode cX1_isInForce 20 = .ok (.iconst 1, 1) := by decide +kernel
theorem dX1_isInForce_21 : decode cX1_isInForce 21 = .ok (.goto 4, 3) := by decide +kernel
theorem dX1_isInForce_24 : decode cX1_isInForce 24 = .ok (.iconst 0, 1) := by decide +kernel
theorem dX1_isInForce_25 : decode cX1_isInForce 25 = .ok (.ireturn, 1) := by decide +kernel
theorem dX1_isInSpan_0 : decode cX1_isInSpan 0 = .ok (.aload_n 0, 1) := by decide +kernel
theorem dX1_isInSpan_1 : decode cX1_isInSpan 1 = .ok (.getfield 25, 3) := by decide +kernel
theorem dX1_isInSpan_4 : decode cX1_isInSpan 4 = .ok (.iload_n 1, 1) := by decide +kernel
theorem dX1_isInSpan_5 : decode cX1_isInSpan 5 = .ok (.iaload, 1) := by decide +kernel
theorem dX1_isInSpan_6 : decode cX1_isInSpan 6 = .ok (.iload_n 2, 1) := by decide +kernel
theorem dX1_isInSpan_7 : decode cX1_isInSpan 7 = .ok (.if_icmp .gt 17, 3) := by decide +kernel
theorem dX1_isInSpan_10 : decode cX1_isInSpan 10 = .ok (.iload_n 2, 1) := by decide +kernel
theorem dX1_isInSpan_11 : decode cX1_isInSpan 11 = .ok (.aload_n 0, 1) := by decide +kernel
theorem dX1_isInSpan_12 : decode cX1_isInSpan 12 = .ok (.getfield 28, 3) := by decide +kernel
theorem dX1_isInSpan_15 : decode cX1_isInSpan 15 = .ok (.iload_n 1, 1) := by decide +kernel
theorem dX1_isInSpan_16 : decode cX1_isInSpan 16 = .ok (.iaload, 1) := by decide +kernel
theorem dX1_isInSpan_17 : decode cX1_isInSpan 17 = .ok (.if_icmp .gt 7, 3) := by decide +kernel
theorem dX1_isInSpan_20 : decode cX1_isInSpan 20 = .ok (.iconst 1, 1) := by decide +kernel
theorem dX1_isInSpan_21 : decode cX1_isInSpan 21 = .ok (.goto 4, 3) := by decide +kernel
theorem dX1_isInSpan_24 : decode cX1_isInSpan 24 = .ok (.iconst 0, 1) := by decide +kernel
theorem dX1_isInSpan_25 : decode cX1_isInSpan 25 = .ok (.ireturn, 1) := by decide +kernel
theorem dX1_isExcepted_0 : decode cX1_isExcepted 0 = .ok (.iload_n 1, 1) := by decide +kernel
theorem dX1_isExcepted_1 : decode cX1_isExcepted 1 = .ok (.iconst 3, 1) := by decide +kernel
theorem dX1_isExcepted_2 : decode cX1_isExcepted 2 = .ok (.imul, 1) := by decide +kernel
theorem dX1_isExcepted_3 : decode cX1_isExcepted 3 = .ok (.istore_n 3, 1) := by decide +kernel
theorem dX1_isExcepted_4 : decode cX1_isExcepted 4 = .ok (.iconst 0, 1) := by decide +kernel
theorem dX1_isExcepted_5 : decode cX1_isExcepted 5 = .ok (.istore 4, 2) := by decide +kernel
theorem dX1_isExcepted_7 : decode cX1_isExcepted 7 = .ok (.iload 4, 2) := by decide +kernel
theorem dX1_isExcepted_9 : decode cX1_isExcepted 9 = .ok (.aload_n 0, 1) := by decide +kernel
theorem dX1_isExcepted_10 : decode cX1_isExcepted 10 = .ok (.getfield 34, 3) := by decide +kernel
theorem dX1_isExcepted_13 : decode cX1_isExcepted 13 = .ok (.iload_n 1, 1) := by decide +kernel
theorem dX1_isExcepted_14 : decode cX1_isExcepted 14 = .ok (.iaload, 1) := by decide +kernel
theorem dX1_isExcepted_15 : decode cX1_isExcepted 15 = .ok (.if_icmp .ge 37, 3) := by decide +kernel
theorem dX1_isExcepted_18 : decode cX1_isExcepted 18 = .ok (.aload_n 0, 1) := by decide +kernel
theorem dX1_isExcepted_19 : decode cX1_isExcepted 19 = .ok (.getfield 37, 3) := by decide +kernel
theorem dX1_isExcepted_22 : decode cX1_isExcepted 22 = .ok (.iload_n 3, 1) := by decide +kernel
theorem dX1_isExcepted_23 : decode cX1_isExcepted 23 = .ok (.iload 4, 2) := by decide +kernel
theorem dX1_isExcepted_25 : decode cX1_isExcepted 25 = .ok (.iadd, 1) := by decide +kernel
theorem dX1_isExcepted_26 : decode cX1_isExcepted 26 = .ok (.iaload, 1) := by decide +kernel
theorem dX1_isExcepted_27 : decode cX1_isExcepted 27 = .ok (.iload_n 2, 1) := by decide +kernel
theorem dX1_isExcepted_28 : decode cX1_isExcepted 28 = .ok (.if_icmp .gt 18, 3) := by decide +kernel
theorem dX1_isExcepted_31 : decode cX1_isExcepted 31 = .ok (.iload_n 2, 1) := by decide +kernel
theorem dX1_isExcepted_32 : decode cX1_isExcepted 32 = .ok (.aload_n 0, 1) := by decide +kernel
theorem dX1_isExcepted_33 : decode cX1_isExcepted 33 = .ok (.getfield 40, 3) := by decide +kernel
theorem dX1_isExcepted_36 : decode cX1_isExcepted 36 = .ok (.iload_n 3, 1) := by decide +kernel
theorem dX1_isExcepted_37 : decode cX1_isExcepted 37 = .ok (.iload 4, 2) := by decide +kernel
theorem dX1_isExcepted_39 : decode cX1_isExcepted 39 = .ok (.iadd, 1) := by decide +kernel
theorem dX1_isExcepted_40 : decode cX1_isExcepted 40 = .ok (.iaload, 1) := by decide +kernel
theorem dX1_isExcepted_41 : decode cX1_isExcepted 41 = .ok (.if_icmp .gt 5, 3) := by decide +kernel
theorem dX1_isExcepted_44 : decode cX1_isExcepted 44 = .ok (.iconst 1, 1) := by decide +kernel
theorem dX1_isExcepted_45 : decode cX1_isExcepted 45 = .ok (.ireturn, 1) := by decide +kernel
theorem dX1_isExcepted_46 : decode cX1_isExcepted 46 = .ok (.iinc 4 1, 3) := by decide +kernel
theorem dX1_isExcepted_49 : decode cX1_isExcepted 49 = .ok (.goto (-42), 3) := by decide +kernel
theorem dX1_isExcepted_52 : decode cX1_isExcepted 52 = .ok (.iconst 0, 1) := by decide +kernel
theorem dX1_isExcepted_53 : decode cX1_isExcepted 53 = .ok (.ireturn, 1) := by decide +kernel
theorem dX1_speaksAtAll_0 : decode cX1_speaksAtAll 0 = .ok (.aload_n 0, 1) := by decide +kernel
theorem dX1_speaksAtAll_1 : decode cX1_speaksAtAll 1 = .ok (.getfield 31, 3) := by decide +kernel
theorem dX1_speaksAtAll_4 : decode cX1_speaksAtAll 4 = .ok (.iload_n 1, 1) := by decide +kernel
theorem dX1_speaksAtAll_5 : decode cX1_speaksAtAll 5 = .ok (.iaload, 1) := by decide +kernel
theorem dX1_speaksAtAll_6 : decode cX1_speaksAtAll 6 = .ok (.ifCond .eq 7, 3) := by decide +kernel
theorem dX1_speaksAtAll_9 : decode cX1_speaksAtAll 9 = .ok (.iconst 1, 1) := by decide +kernel
theorem dX1_speaksAtAll_10 : decode cX1_speaksAtAll 10 = .ok (.goto 4, 3) := by decide +kernel
theorem dX1_speaksAtAll_13 : decode cX1_speaksAtAll 13 = .ok (.iconst 0, 1) := by decide +kernel
theorem dX1_speaksAtAll_14 : decode cX1_speaksAtAll 14 = .ok (.ireturn, 1) := by decide +kernel
theorem dX1_hasReversedSpan_0 : decode cX1_hasReversedSpan 0 = .ok (.iconst 0, 1) := by decide +kernel
theorem dX1_hasReversedSpan_1 : decode cX1_hasReversedSpan 1 = .ok (.istore_n 1, 1) := by decide +kernel
theorem dX1_hasReversedSpan_2 : decode cX1_hasReversedSpan 2 = .ok (.iload_n 1, 1) := by decide +kernel
theorem dX1_hasReversedSpan_3 : decode cX1_hasReversedSpan 3 = .ok (.aload_n 0, 1) := by decide +kernel
theorem dX1_hasReversedSpan_4 : decode cX1_hasReversedSpan 4 = .ok (.getfield 9, 3) := by decide +kernel
theorem dX1_hasReversedSpan_7 : decode cX1_hasReversedSpan 7 = .ok (.if_icmp .ge 69, 3) := by decide +kernel
theorem dX1_hasReversedSpan_10 : decode cX1_hasReversedSpan 10 = .ok (.aload_n 0, 1) := by decide +kernel
theorem dX1_hasReversedSpan_11 : decode cX1_hasReversedSpan 11 = .ok (.getfield 28, 3) := by decide +kernel
theorem dX1_hasReversedSpan_14 : decode cX1_hasReversedSpan 14 = .ok (.iload_n 1, 1) := by decide +kernel
theorem dX1_hasReversedSpan_15 : decode cX1_hasReversedSpan 15 = .ok (.iaload, 1) := by decide +kernel
theorem dX1_hasReversedSpan_16 : decode cX1_hasReversedSpan 16 = .ok (.aload_n 0, 1) := by decide +kernel
theorem dX1_hasReversedSpan_17 : decode cX1_hasReversedSpan 17 = .ok (.getfield 25, 3) := by decide +kernel
theorem dX1_hasReversedSpan_20 : decode cX1_hasReversedSpan 20 = .ok (.iload_n 1, 1) := by decide +kernel
theorem dX1_hasReversedSpan_21 : decode cX1_hasReversedSpan 21 = .ok (.iaload, 1) := by decide +kernel
theorem dX1_hasReversedSpan_22 : decode cX1_hasReversedSpan 22 = .ok (.if_icmp .ge 5, 3) := by decide +kernel
theorem dX1_hasReversedSpan_25 : decode cX1_hasReversedSpan 25 = .ok (.iconst 1, 1) := by decide +kernel
theorem dX1_hasReversedSpan_26 : decode cX1_hasReversedSpan 26 = .ok (.ireturn, 1) := by decide +kernel
theorem dX1_hasReversedSpan_27 : decode cX1_hasReversedSpan 27 = .ok (.iload_n 1, 1) := by decide +kernel
theorem dX1_hasReversedSpan_28 : decode cX1_hasReversedSpan 28 = .ok (.iconst 3, 1) := by decide +kernel
theorem dX1_hasReversedSpan_29 : decode cX1_hasReversedSpan 29 = .ok (.imul, 1) := by decide +kernel
theorem dX1_hasReversedSpan_30 : decode cX1_hasReversedSpan 30 = .ok (.istore_n 2, 1) := by decide +kernel
theorem dX1_hasReversedSpan_31 : decode cX1_hasReversedSpan 31 = .ok (.iconst 0, 1) := by decide +kernel
theorem dX1_hasReversedSpan_32 : decode cX1_hasReversedSpan 32 = .ok (.istore_n 3, 1) := by decide +kernel
theorem dX1_hasReversedSpan_33 : decode cX1_hasReversedSpan 33 = .ok (.iload_n 3, 1) := by decide +kernel
theorem dX1_hasReversedSpan_34 : decode cX1_hasReversedSpan 34 = .ok (.aload_n 0, 1) := by decide +kernel
theorem dX1_hasReversedSpan_35 : decode cX1_hasReversedSpan 35 = .ok (.getfield 34, 3) := by decide +kernel
theorem dX1_hasReversedSpan_38 : decode cX1_hasReversedSpan 38 = .ok (.iload_n 1, 1) := by decide +kernel
theorem dX1_hasReversedSpan_39 : decode cX1_hasReversedSpan 39 = .ok (.iaload, 1) := by decide +kernel
theorem dX1_hasReversedSpan_40 : decode cX1_hasReversedSpan 40 = .ok (.if_icmp .ge 30, 3) := by decide +kernel
theorem dX1_hasReversedSpan_43 : decode cX1_hasReversedSpan 43 = .ok (.aload_n 0, 1) := by decide +kernel
theorem dX1_hasReversedSpan_44 : decode cX1_hasReversedSpan 44 = .ok (.getfield 40, 3) := by decide +kernel
theorem dX1_hasReversedSpan_47 : decode cX1_hasReversedSpan 47 = .ok (.iload_n 2, 1) := by decide +kernel
theorem dX1_hasReversedSpan_48 : decode cX1_hasReversedSpan 48 = .ok (.iload_n 3, 1) := by decide +kernel
theorem dX1_hasReversedSpan_49 : decode cX1_hasReversedSpan 49 = .ok (.iadd, 1) := by decide +kernel
theorem dX1_hasReversedSpan_50 : decode cX1_hasReversedSpan 50 = .ok (.iaload, 1) := by decide +kernel
theorem dX1_hasReversedSpan_51 : decode cX1_hasReversedSpan 51 = .ok (.aload_n 0, 1) := by decide +kernel
theorem dX1_hasReversedSpan_52 : decode cX1_hasReversedSpan 52 = .ok (.getfield 37, 3) := by decide +kernel
theorem dX1_hasReversedSpan_55 : decode cX1_hasReversedSpan 55 = .ok (.iload_n 2, 1) := by decide +kernel
theorem dX1_hasReversedSpan_56 : decode cX1_hasReversedSpan 56 = .ok (.iload_n 3, 1) := by decide +kernel
theorem dX1_hasReversedSpan_57 : decode cX1_hasReversedSpan 57 = .ok (.iadd, 1) := by decide +kernel
theorem dX1_hasReversedSpan_58 : decode cX1_hasReversedSpan 58 = .ok (.iaload, 1) := by decide +kernel
theorem dX1_hasReversedSpan_59 : decode cX1_hasReversedSpan 59 = .ok (.if_icmp .ge 5, 3) := by decide +kernel
theorem dX1_hasReversedSpan_62 : decode cX1_hasReversedSpan 62 = .ok (.iconst 1, 1) := by decide +kernel
theorem dX1_hasReversedSpan_63 : decode cX1_hasReversedSpan 63 = .ok (.ireturn, 1) := by decide +kernel
theorem dX1_hasReversedSpan_64 : decode cX1_hasReversedSpan 64 = .ok (.iinc 3 1, 3) := by decide +kernel
theorem dX1_hasReversedSpan_67 : decode cX1_hasReversedSpan 67 = .ok (.goto (-34), 3) := by decide +kernel
theorem dX1_hasReversedSpan_70 : decode cX1_hasReversedSpan 70 = .ok (.iinc 1 1, 3) := by decide +kernel
theorem dX1_hasReversedSpan_73 : decode cX1_hasReversedSpan 73 = .ok (.goto (-71), 3) := by decide +kernel
theorem dX1_hasReversedSpan_76 : decode cX1_hasReversedSpan 76 = .ok (.iconst 0, 1) := by decide +kernel
theorem dX1_hasReversedSpan_77 : decode cX1_hasReversedSpan 77 = .ok (.ireturn, 1) := by decide +kernel
theorem dX1_nextTurn_0 : decode cX1_nextTurn 0 = .ok (.sipush 1000, 3) := by decide +kernel
theorem dX1_nextTurn_3 : decode cX1_nextTurn 3 = .ok (.istore_n 2, 1) := by decide +kernel
theorem dX1_nextTurn_4 : decode cX1_nextTurn 4 = .ok (.iconst 0, 1) := by decide +kernel
theorem dX1_nextTurn_5 : decode cX1_nextTurn 5 = .ok (.istore_n 3, 1) := by decide +kernel
theorem dX1_nextTurn_6 : decode cX1_nextTurn 6 = .ok (.iload_n 3, 1) := by decide +kernel
theorem dX1_nextTurn_7 : decode cX1_nextTurn 7 = .ok (.aload_n 0, 1) := by decide +kernel
theorem dX1_nextTurn_8 : decode cX1_nextTurn 8 = .ok (.getfield 9, 3) := by decide +kernel
theorem dX1_nextTurn_11 : decode cX1_nextTurn 11 = .ok (.if_icmp .ge 51, 3) := by decide +kernel
theorem dX1_nextTurn_14 : decode cX1_nextTurn 14 = .ok (.aload_n 0, 1) := by decide +kernel
theorem dX1_nextTurn_15 : decode cX1_nextTurn 15 = .ok (.getfield 19, 3) := by decide +kernel
theorem dX1_nextTurn_18 : decode cX1_nextTurn 18 = .ok (.iload_n 3, 1) := by decide +kernel
theorem dX1_nextTurn_19 : decode cX1_nextTurn 19 = .ok (.iaload, 1) := by decide +kernel
theorem dX1_nextTurn_20 : decode cX1_nextTurn 20 = .ok (.iload_n 1, 1) := by decide +kernel
theorem dX1_nextTurn_21 : decode cX1_nextTurn 21 = .ok (.if_icmp .le 14, 3) := by decide +kernel
theorem dX1_nextTurn_24 : decode cX1_nextTurn 24 = .ok (.iload_n 2, 1) := by decide +kernel
theorem dX1_nextTurn_25 : decode cX1_nextTurn 25 = .ok (.aload_n 0, 1) := by decide +kernel
theorem dX1_nextTurn_26 : decode cX1_nextTurn 26 = .ok (.getfield 19, 3) := by decide +kernel
theorem dX1_nextTurn_29 : decode cX1_nextTurn 29 = .ok (.iload_n 3, 1) := by decide +kernel
theorem dX1_nextTurn_30 : decode cX1_nextTurn 30 = .ok (.iaload, 1) := by decide +kernel
theorem dX1_nextTurn_31 : decode cX1_nextTurn 31 = .ok (.invokestatic 65, 3) := by decide +kernel
theorem dX1_nextTurn_34 : decode cX1_nextTurn 34 = .ok (.istore_n 2, 1) := by decide +kernel
theorem dX1_nextTurn_35 : decode cX1_nextTurn 35 = .ok (.aload_n 0, 1) := by decide +kernel
theorem dX1_nextTurn_36 : decode cX1_nextTurn 36 = .ok (.getfield 22, 3) := by decide +kernel
theorem dX1_nextTurn_39 : decode cX1_nextTurn 39 = .ok (.iload_n 3, 1) := by decide +kernel
theorem dX1_nextTurn_40 : decode cX1_nextTurn 40 = .ok (.iaload, 1) := by decide +kernel
theorem dX1_nextTurn_41 : decode cX1_nextTurn 41 = .ok (.iload_n 1, 1) := by decide +kernel
theorem dX1_nextTurn_42 : decode cX1_nextTurn 42 = .ok (.if_icmp .le 14, 3) := by decide +kernel
theorem dX1_nextTurn_45 : decode cX1_nextTurn 45 = .ok (.iload_n 2, 1) := by decide +kernel
theorem dX1_nextTurn_46 : decode cX1_nextTurn 46 = .ok (.aload_n 0, 1) := by decide +kernel
theorem dX1_nextTurn_47 : decode cX1_nextTurn 47 = .ok (.getfield 22, 3) := by decide +kernel
theorem dX1_nextTurn_50 : decode cX1_nextTurn 50 = .ok (.iload_n 3, 1) := by decide +kernel
theorem dX1_nextTurn_51 : decode cX1_nextTurn 51 = .ok (.iaload, 1) := by decide +kernel
theorem dX1_nextTurn_52 : decode cX1_nextTurn 52 = .ok (.invokestatic 65, 3) := by decide +kernel
theorem dX1_nextTurn_55 : decode cX1_nextTurn 55 = .ok (.istore_n 2, 1) := by decide +kernel
theorem dX1_nextTurn_56 : decode cX1_nextTurn 56 = .ok (.iinc 3 1, 3) := by decide +kernel
theorem dX1_nextTurn_59 : decode cX1_nextTurn 59 = .ok (.goto (-53), 3) := by decide +kernel
theorem dX1_nextTurn_62 : decode cX1_nextTurn 62 = .ok (.iload_n 2, 1) := by decide +kernel
theorem dX1_nextTurn_63 : decode cX1_nextTurn 63 = .ok (.ireturn, 1) := by decide +kernel
theorem dX1_countOfChapter_0 : decode cX1_countOfChapter 0 = .ok (.iconst 0, 1) := by decide +kernel
theorem dX1_countOfChapter_1 : decode cX1_countOfChapter 1 = .ok (.istore_n 2, 1) := by decide +kernel
theorem dX1_countOfChapter_2 : decode cX1_countOfChapter 2 = .ok (.iconst 0, 1) := by decide +kernel
theorem dX1_countOfChapter_3 : decode cX1_countOfChapter 3 = .ok (.istore_n 3, 1) := by decide +kernel
theorem dX1_countOfChapter_4 : decode cX1_countOfChapter 4 = .ok (.iload_n 3, 1) := by decide +kernel
theorem dX1_countOfChapter_5 : decode cX1_countOfChapter 5 = .ok (.aload_n 0, 1) := by decide +kernel
theorem dX1_countOfChapter_6 : decode cX1_countOfChapter 6 = .ok (.getfield 9, 3) := by decide +kernel
theorem dX1_countOfChapter_9 : decode cX1_countOfChapter 9 = .ok (.if_icmp .ge 22, 3) := by decide +kernel
theorem dX1_countOfChapter_12 : decode cX1_countOfChapter 12 = .ok (.aload_n 0, 1) := by decide +kernel
theorem dX1_countOfChapter_13 : decode cX1_countOfChapter 13 = .ok (.getfield 15, 3) := by decide +kernel
theorem dX1_countOfChapter_16 : decode cX1_countOfChapter 16 = .ok (.iload_n 3, 1) := by decide +kernel
theorem dX1_countOfChapter_17 : decode cX1_countOfChapter 17 = .ok (.iaload, 1) := by decide +kernel
theorem dX1_countOfChapter_18 : decode cX1_countOfChapter 18 = .ok (.iload_n 1, 1) := by decide +kernel
theorem dX1_countOfChapter_19 : decode cX1_countOfChapter 19 = .ok (.if_icmp .ne 6, 3) := by decide +kernel
theorem dX1_countOfChapter_22 : decode cX1_countOfChapter 22 = .ok (.iinc 2 1, 3) := by decide +kernel
theorem dX1_countOfChapter_25 : decode cX1_countOfChapter 25 = .ok (.iinc 3 1, 3) := by decide +kernel
theorem dX1_countOfChapter_28 : decode cX1_countOfChapter 28 = .ok (.goto (-24), 3) := by decide +kernel
theorem dX1_countOfChapter_31 : decode cX1_countOfChapter 31 = .ok (.iload_n 2, 1) := by decide +kernel
theorem dX1_countOfChapter_32 : decode cX1_countOfChapter 32 = .ok (.ireturn, 1) := by decide +kernel
theorem dX1_countInForceOfChapter_0 : decode cX1_countInForceOfChapter 0 = .ok (.iconst 0, 1) := by decide +kernel
theorem dX1_countInForceOfChapter_1 : decode cX1_countInForceOfChapter 1 = .ok (.istore_n 3, 1) := by decide +kernel
theorem dX1_countInForceOfChapter_2 : decode cX1_countInForceOfChapter 2 = .ok (.iconst 0, 1) := by decide +kernel
theorem dX1_countInForceOfChapter_3 : decode cX1_countInForceOfChapter 3 = .ok (.istore 4, 2) := by decide +kernel
theorem dX1_countInForceOfChapter_5 : decode cX1_countInForceOfChapter 5 = .ok (.iload 4, 2) := by decide +kernel
theorem dX1_countInForceOfChapter_7 : decode cX1_countInForceOfChapter 7 = .ok (.aload_n 0, 1) := by decide +kernel
theorem dX1_countInForceOfChapter_8 : decode cX1_countInForceOfChapter 8 = .ok (.getfield 9, 3) := by decide +kernel
theorem dX1_countInForceOfChapter_11 : decode cX1_countInForceOfChapter 11 = .ok (.if_icmp .ge 33, 3) := by decide +kernel
theorem dX1_countInForceOfChapter_14 : decode cX1_countInForceOfChapter 14 = .ok (.aload_n 0, 1) := by decide +kernel
theorem dX1_countInForceOfChapter_15 : decode cX1_countInForceOfChapter 15 = .ok (.getfield 15, 3) := by decide +kernel
theorem dX1_countInForceOfChapter_18 : decode cX1_countInForceOfChapter 18 = .ok (.iload 4, 2) := by decide +kernel
theorem dX1_countInForceOfChapter_20 : decode cX1_countInForceOfChapter 20 = .ok (.iaload, 1) := by decide +kernel
theorem dX1_countInForceOfChapter_21 : decode cX1_countInForceOfChapter 21 = .ok (.iload_n 1, 1) := by decide +kernel
theorem dX1_countInForceOfChapter_22 : decode cX1_countInForceOfChapter 22 = .ok (.if_icmp .ne 16, 3) := by decide +kernel
theorem dX1_countInForceOfChapter_25 : decode cX1_countInForceOfChapter 25 = .ok (.aload_n 0, 1) := by decide +kernel
theorem dX1_countInForceOfChapter_26 : decode cX1_countInForceOfChapter 26 = .ok (.iload 4, 2) := by decide +kernel
theorem dX1_countInForceOfChapter_28 : decode cX1_countInForceOfChapter 28 = .ok (.iload_n 2, 1) := by decide +kernel
theorem dX1_countInForceOfChapter_29 : decode cX1_countInForceOfChapter 29 = .ok (.invokevirtual 71, 3) := by decide +kernel
theorem dX1_countInForceOfChapter_32 : decode cX1_countInForceOfChapter 32 = .ok (.ifCond .eq 6, 3) := by decide +kernel
theorem dX1_countInForceOfChapter_35 : decode cX1_countInForceOfChapter 35 = .ok (.iinc 3 1, 3) := by decide +kernel
theorem dX1_countInForceOfChapter_38 : decode cX1_countInForceOfChapter 38 = .ok (.iinc 4 1, 3) := by decide +kernel
theorem dX1_countInForceOfChapter_41 : decode cX1_countInForceOfChapter 41 = .ok (.goto (-36), 3) := by decide +kernel
theorem dX1_countInForceOfChapter_44 : decode cX1_countInForceOfChapter 44 = .ok (.iload_n 3, 1) := by decide +kernel
theorem dX1_countInForceOfChapter_45 : decode cX1_countInForceOfChapter 45 = .ok (.ireturn, 1) := by decide +kernel
theorem dX1_countInForce_0 : decode cX1_countInForce 0 = .ok (.iconst 0, 1) := by decide +kernel
theorem dX1_countInForce_1 : decode cX1_countInForce 1 = .ok (.istore_n 2, 1) := by decide +kernel
theorem dX1_countInForce_2 : decode cX1_countInForce 2 = .ok (.iconst 0, 1) := by decide +kernel
theorem dX1_countInForce_3 : decode cX1_countInForce 3 = .ok (.istore_n 3, 1) := by decide +kernel
theorem dX1_countInForce_4 : decode cX1_countInForce 4 = .ok (.iload_n 3, 1) := by decide +kernel
theorem dX1_countInForce_5 : decode cX1_countInForce 5 = .ok (.aload_n 0, 1) := by decide +kernel
theorem dX1_countInForce_6 : decode cX1_countInForce 6 = .ok (.getfield 9, 3) := by decide +kernel
theorem dX1_countInForce_9 : decode cX1_countInForce 9 = .ok (.if_icmp .ge 21, 3) := by decide +kernel
theorem dX1_countInForce_12 : decode cX1_countInForce 12 = .ok (.aload_n 0, 1) := by decide +kernel
theorem dX1_countInForce_13 : decode cX1_countInForce 13 = .ok (.iload_n 3, 1) := by decide +kernel
theorem dX1_countInForce_14 : decode cX1_countInForce 14 = .ok (.iload_n 1, 1) := by decide +kernel
theorem dX1_countInForce_15 : decode cX1_countInForce 15 = .ok (.invokevirtual 71, 3) := by decide +kernel
theorem dX1_countInForce_18 : decode cX1_countInForce 18 = .ok (.ifCond .eq 6, 3) := by decide +kernel
theorem dX1_countInForce_21 : decode cX1_countInForce 21 = .ok (.iinc 2 1, 3) := by decide +kernel
theorem dX1_countInForce_24 : decode cX1_countInForce 24 = .ok (.iinc 3 1, 3) := by decide +kernel
theorem dX1_countInForce_27 : decode cX1_countInForce 27 = .ok (.goto (-23), 3) := by decide +kernel
theorem dX1_countInForce_30 : decode cX1_countInForce 30 = .ok (.iload_n 2, 1) := by decide +kernel
theorem dX1_countInForce_31 : decode cX1_countInForce 31 = .ok (.ireturn, 1) := by decide +kernel
theorem dX1_countExceptions_0 : decode cX1_countExceptions 0 = .ok (.iconst 0, 1) := by decide +kernel
theorem dX1_countExceptions_1 : decode cX1_countExceptions 1 = .ok (.istore_n 1, 1) := by decide +kernel
theorem dX1_countExceptions_2 : decode cX1_countExceptions 2 = .ok (.iconst 0, 1) := by decide +kernel
theorem dX1_countExceptions_3 : decode cX1_countExceptions 3 = .ok (.istore_n 2, 1) := by decide +kernel
theorem dX1_countExceptions_4 : decode cX1_countExceptions 4 = .ok (.iload_n 2, 1) := by decide +kernel
theorem dX1_countExceptions_5 : decode cX1_countExceptions 5 = .ok (.aload_n 0, 1) := by decide +kernel
theorem dX1_countExceptions_6 : decode cX1_countExceptions 6 = .ok (.getfield 9, 3) := by decide +kernel
theorem dX1_countExceptions_9 : decode cX1_countExceptions 9 = .ok (.if_icmp .ge 18, 3) := by decide +kernel
theorem dX1_countExceptions_12 : decode cX1_countExceptions 12 = .ok (.iload_n 1, 1) := by decide +kernel
theorem dX1_countExceptions_13 : decode cX1_countExceptions 13 = .ok (.aload_n 0, 1) := by decide +kernel
theorem dX1_countExceptions_14 : decode cX1_countExceptions 14 = .ok (.getfield 34, 3) := by decide +kernel
theorem dX1_countExceptions_17 : decode cX1_countExceptions 17 = .ok (.iload_n 2, 1) := by decide +kernel
theorem dX1_countExceptions_18 : decode cX1_countExceptions 18 = .ok (.iaload, 1) := by decide +kernel
theorem dX1_countExceptions_19 : decode cX1_countExceptions 19 = .ok (.iadd, 1) := by decide +kernel
theorem dX1_countExceptions_20 : decode cX1_countExceptions 20 = .ok (.istore_n 1, 1) := by decide +kernel
theorem dX1_countExceptions_21 : decode cX1_countExceptions 21 = .ok (.iinc 2 1, 3) := by decide +kernel
theorem dX1_countExceptions_24 : decode cX1_countExceptions 24 = .ok (.goto (-20), 3) := by decide +kernel
theorem dX1_countExceptions_27 : decode cX1_countExceptions 27 = .ok (.iload_n 1, 1) := by decide +kernel
theorem dX1_countExceptions_28 : decode cX1_countExceptions 28 = .ok (.ireturn, 1) := by decide +kernel
theorem dX1_countSilent_0 : decode cX1_countSilent 0 = .ok (.iconst 0, 1) := by decide +kernel
theorem dX1_countSilent_1 : decode cX1_countSilent 1 = .ok (.istore_n 1, 1) := by decide +kernel
theorem dX1_countSilent_2 : decode cX1_countSilent 2 = .ok (.iconst 0, 1) := by decide +kernel
theorem dX1_countSilent_3 : decode cX1_countSilent 3 = .ok (.istore_n 2, 1) := by decide +kernel
theorem dX1_countSilent_4 : decode cX1_countSilent 4 = .ok (.iload_n 2, 1) := by decide +kernel
theorem dX1_countSilent_5 : decode cX1_countSilent 5 = .ok (.aload_n 0, 1) := by decide +kernel
theorem dX1_countSilent_6 : decode cX1_countSilent 6 = .ok (.getfield 9, 3) := by decide +kernel
theorem dX1_countSilent_9 : decode cX1_countSilent 9 = .ok (.if_icmp .ge 20, 3) := by decide +kernel
theorem dX1_countSilent_12 : decode cX1_countSilent 12 = .ok (.aload_n 0, 1) := by decide +kernel
theorem dX1_countSilent_13 : decode cX1_countSilent 13 = .ok (.iload_n 2, 1) := by decide +kernel
theorem dX1_countSilent_14 : decode cX1_countSilent 14 = .ok (.invokevirtual 74, 3) := by decide +kernel
theorem dX1_countSilent_17 : decode cX1_countSilent 17 = .ok (.ifCond .ne 6, 3) := by decide +kernel
theorem dX1_countSilent_20 : decode cX1_countSilent 20 = .ok (.iinc 1 1, 3) := by decide +kernel
theorem dX1_countSilent_23 : decode cX1_countSilent 23 = .ok (.iinc 2 1, 3) := by decide +kernel
theorem dX1_countSilent_26 : decode cX1_countSilent 26 = .ok (.goto (-22), 3) := by decide +kernel
theorem dX1_countSilent_29 : decode cX1_countSilent 29 = .ok (.iload_n 1, 1) := by decide +kernel
theorem dX1_countSilent_30 : decode cX1_countSilent 30 = .ok (.ireturn, 1) := by decide +kernel
theorem dX2_init_0 : decode cX2_init 0 = .ok (.aload_n 0, 1) := by decide +kernel
theorem dX2_init_1 : decode cX2_init 1 = .ok (.invokespecial 3, 3) := by decide +kernel
theorem dX2_init_4 : decode cX2_init 4 = .ok (.aload_n 0, 1) := by decide +kernel
theorem dX2_init_5 : decode cX2_init 5 = .ok (.new 9, 3) := by decide +kernel
theorem dX2_init_8 : decode cX2_init 8 = .ok (.dup, 1) := by decide +kernel
theorem dX2_init_9 : decode cX2_init 9 = .ok (.invokespecial 11, 3) := by decide +kernel
theorem dX2_init_12 : decode cX2_init 12 = .ok (.putfield 12, 3) := by decide +kernel
theorem dX2_init_15 : decode cX2_init 15 = .ok (.aload_n 0, 1) := by decide +kernel
theorem dX2_init_16 : decode cX2_init 16 = .ok (.aload_n 0, 1) := by decide +kernel
theorem dX2_init_17 : decode cX2_init 17 = .ok (.getfield 12, 3) := by decide +kernel
theorem dX2_init_20 : decode cX2_init 20 = .ok (.getfield 18, 3) := by decide +kernel
theorem dX2_init_23 : decode cX2_init 23 = .ok (.putfield 22, 3) := by decide +kernel
theorem dX2_init_26 : decode cX2_init 26 = .ok (.aload_n 0, 1) := by decide +kernel
theorem dX2_init_27 : decode cX2_init 27 = .ok (.bipush 6, 2) := by decide +kernel
theorem dX2_init_29 : decode cX2_init 29 = .ok (.newarray .int, 2) := by decide +kernel
theorem dX2_init_31 : decode cX2_init 31 = .ok (.putfield 23, 3) := by decide +kernel
theorem dX2_init_34 : decode cX2_init 34 = .ok (.aload_n 0, 1) := by decide +kernel
theorem dX2_init_35 : decode cX2_init 35 = .ok (.bipush 30, 2) := by decide +kernel
theorem dX2_init_37 : decode cX2_init 37 = .ok (.newarray .int, 2) := by decide +kernel
theorem dX2_init_39 : decode cX2_init 39 = .ok (.putfield 27, 3) := by decide +kernel
theorem dX2_init_42 : decode cX2_init 42 = .ok (.return_, 1) := by decide +kernel
theorem dX2_findTops_0 : decode cX2_findTops 0 = .ok (.aload_n 0, 1) := by decide +kernel
theorem dX2_findTops_1 : decode cX2_findTops 1 = .ok (.getfield 23, 3) := by decide +kernel
theorem dX2_findTops_4 : decode cX2_findTops 4 = .ok (.iconst (-1), 1) := by decide +kernel
theorem dX2_findTops_5 : decode cX2_findTops 5 = .ok (.invokestatic 30, 3) := by decide +kernel
theorem dX2_findTops_8 : decode cX2_findTops 8 = .ok (.iconst 0, 1) := by decide +kernel
theorem dX2_findTops_9 : decode cX2_findTops 9 = .ok (.istore 4, 2) := by decide +kernel
theorem dX2_findTops_11 : decode cX2_findTops 11 = .ok (.iload 4, 2) := by decide +kernel
theorem dX2_findTops_13 : decode cX2_findTops 13 = .ok (.aload_n 0, 1) := by decide +kernel
theorem dX2_findTops_14 : decode cX2_findTops 14 = .ok (.getfield 22, 3) := by decide +kernel
theorem dX2_findTops_17 : decode cX2_findTops 17 = .ok (.getfield 36, 3) := by decide +kernel
theorem dX2_findTops_20 : decode cX2_findTops 20 = .ok (.if_icmp .ge 100, 3) := by decide +kernel
theorem dX2_findTops_23 : decode cX2_findTops 23 = .ok (.iload 4, 2) := by decide +kernel
theorem dX2_findTops_25 : decode cX2_findTops 25 = .ok (.iload_n 3, 1) := by decide +kernel
theorem dX2_findTops_26 : decode cX2_findTops 26 = .ok (.if_icmp .eq 88, 3) := by decide +kernel
theorem dX2_findTops_29 : decode cX2_findTops 29 = .ok (.aload_n 0, 1) := by decide +kernel
theorem dX2_findTops_30 : decode cX2_findTops 30 = .ok (.getfield 22, 3) := by decide +kernel
theorem dX2_findTops_33 : decode cX2_findTops 33 = .ok (.iload 4, 2) := by decide +kernel
theorem dX2_findTops_35 : decode cX2_findTops 35 = .ok (.iload_n 2, 1) := by decide +kernel
theorem dX2_findTops_36 : decode cX2_findTops 36 = .ok (.invokevirtual 42, 3) := by decide +kernel
theorem dX2_findTops_39 : decode cX2_findTops 39 = .ok (.ifCond .eq 75, 3) := by decide +kernel
theorem dX2_findTops_42 : decode cX2_findTops 42 = .ok (.aload_n 0, 1) := by decide +kernel
theorem dX2_findTops_43 : decode cX2_findTops 43 = .ok (.getfield 12, 3) := by decide +kernel
theorem dX2_findTops_46 : decode cX2_findTops 46 = .ok (.iload 4, 2) := by decide +kernel
theorem dX2_findTops_48 : decode cX2_findTops 48 = .ok (.iload_n 1, 1) := by decide +kernel
theorem dX2_findTops_49 : decode cX2_findTops 49 = .ok (.invokevirtual 46, 3) := by decide +kernel
theorem dX2_findTops_52 : decode cX2_findTops 52 = .ok (.ifCond .eq 62, 3) := by decide +kernel
theorem dX2_findTops_55 : decode cX2_findTops 55 = .ok (.aload_n 0, 1) := by decide +kernel
theorem dX2_findTops_56 : decode cX2_findTops 56 = .ok (.getfield 22, 3) := by decide +kernel
theorem dX2_findTops_59 : decode cX2_findTops 59 = .ok (.getfield 49, 3) := by decide +kernel
theorem dX2_findTops_62 : decode cX2_findTops 62 = .ok (.iload 4, 2) := by decide +kernel
theorem dX2_findTops_64 : decode cX2_findTops 64 = .ok (.iaload, 1) := by decide +kernel
theorem dX2_findTops_65 : decode cX2_findTops 65 = .ok (.istore 5, 2) := by decide +kernel
theorem dX2_findTops_67 : decode cX2_findTops 67 = .ok (.aload_n 0, 1) := by decide +kernel
theorem dX2_findTops_68 : decode cX2_findTops 68 = .ok (.getfield 23, 3) := by decide +kernel
theorem dX2_findTops_71 : decode cX2_findTops 71 = .ok (.iload 5, 2) := by decide +kernel
theorem dX2_findTops_73 : decode cX2_findTops 73 = .ok (.iaload, 1) := by decide +kernel
theorem dX2_findTops_74 : decode cX2_findTops 74 = .ok (.istore 6, 2) := by decide +kernel
theorem dX2_findTops_76 : decode cX2_findTops 76 = .ok (.iload 6, 2) := by decide +kernel
theorem dX2_findTops_78 : decode cX2_findTops 78 = .ok (.iconst (-1), 1) := by decide +kernel
theorem dX2_findTops_79 : decode cX2_findTops 79 = .ok (.if_icmp .eq 26, 3) := by decide +kernel
theorem dX2_findTops_82 : decode cX2_findTops 82 = .ok (.aload_n 0, 1) := by decide +kernel
theorem dX2_findTops_83 : decode cX2_findTops 83 = .ok (.getfield 22, 3) := by decide +kernel
theorem dX2_findTops_86 : decode cX2_findTops 86 = .ok (.getfield 52, 3) := by decide +kernel
theorem dX2_findTops_89 : decode cX2_findTops 89 = .ok (.iload 4, 2) := by decide +kernel
theorem dX2_findTops_91 : decode cX2_findTops 91 = .ok (.iaload, 1) := by decide +kernel
theorem dX2_findTops_92 : decode cX2_findTops 92 = .ok (.aload_n 0, 1) := by decide +kernel
theorem dX2_findTops_93 : decode cX2_findTops 93 = .ok (.getfield 22, 3) := by decide +kernel
theorem dX2_findTops_96 : decode cX2_findTops 96 = .ok (.getfield 52, 3) := by decide +kernel
theorem dX2_findTops_99 : decode cX2_findTops 99 = .ok (.iload 6, 2) := by decide +kernel
theorem dX2_findTops_101 : decode cX2_findTops 101 = .ok (.iaload, 1) := by decide +kernel
theorem dX2_findTops_102 : decode cX2_findTops 102 = .ok (.if_icmp .lt 12, 3) := by decide +kernel
theorem dX2_findTops_105 : decode cX2_findTops 105 = .ok (.aload_n 0, 1) := by decide +kernel
theorem dX2_findTops_106 : decode cX2_findTops 106 = .ok (.getfield 23, 3) := by decide +kernel
theorem dX2_findTops_109 : decode cX2_findTops 109 = .ok (.iload 5, 2) := by decide +kernel
theorem dX2_findTops_111 : decode cX2_findTops 111 = .ok (.iload 4, 2) := by decide +kernel
theorem dX2_findTops_113 : decode cX2_findTops 113 = .ok (.iastore, 1) := by decide +kernel
theorem dX2_findTops_114 : decode cX2_findTops 114 = .ok (.iinc 4 1, 3) := by decide +kernel
theorem dX2_findTops_117 : decode cX2_findTops 117 = .ok (.goto (-106), 3) := by decide +kernel
theorem dX2_findTops_120 : decode cX2_findTops 120 = .ok (.return_, 1) := by decide +kernel
theorem dX2_topSpeaks_0 : decode cX2_topSpeaks 0 = .ok (.aload_n 0, 1) := by decide +kernel
theorem dX2_topSpeaks_1 : decode cX2_topSpeaks 1 = .ok (.getfield 23, 3) := by decide +kernel
theorem dX2_topSpeaks_4 : decode cX2_topSpeaks 4 = .ok (.iload_n 1, 1) := by decide +kernel
theorem dX2_topSpeaks_5 : decode cX2_topSpeaks 5 = .ok (.iaload, 1) := by decide +kernel
theorem dX2_topSpeaks_6 : decode cX2_topSpeaks 6 = .ok (.istore_n 2, 1) := by decide +kernel
theorem dX2_topSpeaks_7 : decode cX2_topSpeaks 7 = .ok (.iload_n 2, 1) := by decide +kernel
theorem dX2_topSpeaks_8 : decode cX2_topSpeaks 8 = .ok (.iconst (-1), 1) := by decide +kernel
theorem dX2_topSpeaks_9 : decode cX2_topSpeaks 9 = .ok (.if_icmp .eq 18, 3) := by decide +kernel
theorem dX2_topSpeaks_12 : decode cX2_topSpeaks 12 = .ok (.aload_n 0, 1) := by decide +kernel
theorem dX2_topSpeaks_13 : decode cX2_topSpeaks 13 = .ok (.getfield 22, 3) := by decide +kernel
theorem dX2_topSpeaks_16 : decode cX2_topSpeaks 16 = .ok (.iload_n 2, 1) := by decide +kernel
theorem dX2_topSpeaks_17 : decode cX2_topSpeaks 17 = .ok (.invokevirtual 55, 3) := by decide +kernel
theorem dX2_topSpeaks_20 : decode cX2_topSpeaks 20 = .ok (.ifCond .eq 7, 3) := by decide +kernel
theorem dX2_topSpeaks_23 : decode cX2_topSpeaks 23 = .ok (.iconst 1, 1) := by decide +kernel
theorem dX2_topSpeaks_24 : decode cX2_topSpeaks 24 = .ok (.goto 4, 3) := by decide +kernel
theorem dX2_topSpeaks_27 : decode cX2_topSpeaks 27 = .ok (.iconst 0, 1) := by decide +kernel
theorem dX2_topSpeaks_28 : decode cX2_topSpeaks 28 = .ok (.ireturn, 1) := by decide +kernel
theorem dX2_rulerOfTops_0 : decode cX2_rulerOfTops 0 = .ok (.iconst (-1), 1) := by decide +kernel
theorem dX2_rulerOfTops_1 : decode cX2_rulerOfTops 1 = .ok (.istore_n 1, 1) := by decide +kernel
theorem dX2_rulerOfTops_2 : decode cX2_rulerOfTops 2 = .ok (.iconst (-1), 1) := by decide +kernel
theorem dX2_rulerOfTops_3 : decode cX2_rulerOfTops 3 = .ok (.istore_n 2, 1) := by decide +kernel
theorem dX2_rulerOfTops_4 : decode cX2_rulerOfTops 4 = .ok (.iconst 0, 1) := by decide +kernel
theorem dX2_rulerOfTops_5 : decode cX2_rulerOfTops 5 = .ok (.istore_n 3, 1) := by decide +kernel
theorem dX2_rulerOfTops_6 : decode cX2_rulerOfTops 6 = .ok (.iload_n 3, 1) := by decide +kernel
theorem dX2_rulerOfTops_7 : decode cX2_rulerOfTops 7 = .ok (.bipush 6, 2) := by decide +kernel
theorem dX2_rulerOfTops_9 : decode cX2_rulerOfTops 9 = .ok (.if_icmp .ge 47, 3) := by decide +kernel
theorem dX2_rulerOfTops_12 : decode cX2_rulerOfTops 12 = .ok (.aload_n 0, 1) := by decide +kernel
theorem dX2_rulerOfTops_13 : decode cX2_rulerOfTops 13 = .ok (.iload_n 3, 1) := by decide +kernel
theorem dX2_rulerOfTops_14 : decode cX2_rulerOfTops 14 = .ok (.invokevirtual 59, 3) := by decide +kernel
theorem dX2_rulerOfTops_17 : decode cX2_rulerOfTops 17 = .ok (.ifCond .eq 33, 3) := by decide +kernel
theorem dX2_rulerOfTops_20 : decode cX2_rulerOfTops 20 = .ok (.aload_n 0, 1) := by decide +kernel
theorem dX2_rulerOfTops_21 : decode cX2_rulerOfTops 21 = .ok (.getfield 12, 3) := by decide +kernel
theorem dX2_rulerOfTops_24 : decode cX2_rulerOfTops 24 = .ok (.getfield 62, 3) := by decide +kernel
theorem dX2_rulerOfTops_27 : decode cX2_rulerOfTops 27 = .ok (.iload_n 3, 1) := by decide +kernel
theorem dX2_rulerOfTops_28 : decode cX2_rulerOfTops 28 = .ok (.iaload, 1) := by decide +kernel
theorem dX2_rulerOfTops_29 : decode cX2_rulerOfTops 29 = .ok (.iload_n 2, 1) := by decide +kernel
theorem dX2_rulerOfTops_30 : decode cX2_rulerOfTops 30 = .ok (.if_icmp .le 20, 3) := by decide +kernel
theorem dX2_rulerOfTops_33 : decode cX2_rulerOfTops 33 = .ok (.aload_n 0, 1) := by decide +kernel
theorem dX2_rulerOfTops_34 : decode cX2_rulerOfTops 34 = .ok (.getfield 23, 3) := by decide +kernel
theorem dX2_rulerOfTops_37 : decode cX2_rulerOfTops 37 = .ok (.iload_n 3, 1) := by decide +kernel
theorem dX2_rulerOfTops_38 : decode cX2_rulerOfTops 38 = .ok (.iaload, 1) := by decide +kernel
theorem dX2_rulerOfTops_39 : decode cX2_rulerOfTops 39 = .ok (.istore_n 1, 1) := by decide +kernel
theorem dX2_rulerOfTops_40 : decode cX2_rulerOfTops 40 = .ok (.aload_n 0, 1) := by decide +kernel
theorem dX2_rulerOfTops_41 : decode cX2_rulerOfTops 41 = .ok (.getfield 12, 3) := by decide +kernel
theorem dX2_rulerOfTops_44 : decode cX2_rulerOfTops 44 = .ok (.getfield 62, 3) := by decide +kernel
theorem dX2_rulerOfTops_47 : decode cX2_rulerOfTops 47 = .ok (.iload_n 3, 1) := by decide +kernel
theorem dX2_rulerOfTops_48 : decode cX2_rulerOfTops 48 = .ok (.iaload, 1) := by decide +kernel
theorem dX2_rulerOfTops_49 : decode cX2_rulerOfTops 49 = .ok (.istore_n 2, 1) := by decide +kernel
theorem dX2_rulerOfTops_50 : decode cX2_rulerOfTops 50 = .ok (.iinc 3 1, 3) := by decide +kernel
theorem dX2_rulerOfTops_53 : decode cX2_rulerOfTops 53 = .ok (.goto (-47), 3) := by decide +kernel
theorem dX2_rulerOfTops_56 : decode cX2_rulerOfTops 56 = .ok (.iload_n 1, 1) := by decide +kernel
theorem dX2_rulerOfTops_57 : decode cX2_rulerOfTops 57 = .ok (.ireturn, 1) := by decide +kernel
theorem dX2_ruler_0 : decode cX2_ruler 0 = .ok (.aload_n 0, 1) := by decide +kernel
theorem dX2_ruler_1 : decode cX2_ruler 1 = .ok (.iconst (-1), 1) := by decide +kernel
theorem dX2_ruler_2 : decode cX2_ruler 2 = .ok (.iload_n 1, 1) := by decide +kernel
theorem dX2_ruler_3 : decode cX2_ruler 3 = .ok (.iload_n 2, 1) := by decide +kernel
theorem dX2_ruler_4 : decode cX2_ruler 4 = .ok (.invokevirtual 65, 3) := by decide +kernel
theorem dX2_ruler_7 : decode cX2_ruler 7 = .ok (.ireturn, 1) := by decide +kernel
theorem dX2_rulerWithout_0 : decode cX2_rulerWithout 0 = .ok (.aload_n 0, 1) := by decide +kernel
theorem dX2_rulerWithout_1 : decode cX2_rulerWithout 1 = .ok (.iload_n 2, 1) := by decide +kernel
theorem dX2_rulerWithout_2 : decode cX2_rulerWithout 2 = .ok (.iload_n 3, 1) := by decide +kernel
theorem dX2_rulerWithout_3 : decode cX2_rulerWithout 3 = .ok (.iload_n 1, 1) := by decide +kernel
theorem dX2_rulerWithout_4 : decode cX2_rulerWithout 4 = .ok (.invokevirtual 69, 3) := by decide +kernel
theorem dX2_rulerWithout_7 : decode cX2_rulerWithout 7 = .ok (.aload_n 0, 1) := by decide +kernel
theorem dX2_rulerWithout_8 : decode cX2_rulerWithout 8 = .ok (.invokevirtual 73, 3) := by decide +kernel
theorem dX2_rulerWithout_11 : decode cX2_rulerWithout 11 = .ok (.ireturn, 1) := by decide +kernel
theorem dX2_silencer_0 : decode cX2_silencer 0 = .ok (.aload_n 0, 1) := by decide +kernel
theorem dX2_silencer_1 : decode cX2_silencer 1 = .ok (.getfield 22, 3) := by decide +kernel
theorem dX2_silencer_4 : decode cX2_silencer 4 = .ok (.iload_n 1, 1) := by decide +kernel
theorem dX2_silencer_5 : decode cX2_silencer 5 = .ok (.iload_n 3, 1) := by decide +kernel
theorem dX2_silencer_6 : decode cX2_silencer 6 = .ok (.invokevirtual 42, 3) := by decide +kernel
theorem dX2_silencer_9 : decode cX2_silencer 9 = .ok (.ifCond .eq 15, 3) := by decide +kernel
theorem dX2_silencer_12 : decode cX2_silencer 12 = .ok (.aload_n 0, 1) := by decide +kernel
theorem dX2_silencer_13 : decode cX2_silencer 13 = .ok (.getfield 12, 3) := by decide +kernel
theorem dX2_silencer_16 : decode cX2_silencer 16 = .ok (.iload_n 1, 1) := by decide +kernel
theorem dX2_silencer_17 : decode cX2_silencer 17 = .ok (.iload_n 2, 1) := by decide +kernel
theorem dX2_silencer_18 : decode cX2_silencer 18 = .ok (.invokevirtual 46, 3) := by decide +kernel
theorem dX2_silencer_21 : decode cX2_silencer 21 = .ok (.ifCond .ne 5, 3) := by decide +kernel
theorem dX2_silencer_24 : decode cX2_silencer 24 = .ok (.iconst (-1), 1) := by decide +kernel
theorem dX2_silencer_25 : decode cX2_silencer 25 = .ok (.ireturn, 1) := by decide +kernel
theorem dX2_silencer_26 : decode cX2_silencer 26 = .ok (.aload_n 0, 1) := by decide +kernel
theorem dX2_silencer_27 : decode cX2_silencer 27 = .ok (.iload_n 2, 1) := by decide +kernel
theorem dX2_silencer_28 : decode cX2_silencer 28 = .ok (.iload_n 3, 1) := by decide +kernel
theorem dX2_silencer_29 : decode cX2_silencer 29 = .ok (.iconst (-1), 1) := by decide +kernel
theorem dX2_silencer_30 : decode cX2_silencer 30 = .ok (.invokevirtual 69, 3) := by decide +kernel
theorem dX2_silencer_33 : decode cX2_silencer 33 = .ok (.aload_n 0, 1) := by decide +kernel
theorem dX2_silencer_34 : decode cX2_silencer 34 = .ok (.getfield 23, 3) := by decide +kernel
theorem dX2_silencer_37 : decode cX2_silencer 37 = .ok (.aload_n 0, 1) := by decide +kernel
theorem dX2_silencer_38 : decode cX2_silencer 38 = .ok (.getfield 22, 3) := by decide +kernel
theorem dX2_silencer_41 : decode cX2_silencer 41 = .ok (.getfield 49, 3) := by decide +kernel
theorem dX2_silencer_44 : decode cX2_silencer 44 = .ok (.iload_n 1, 1) := by decide +kernel
theorem dX2_silencer_45 : decode cX2_silencer 45 = .ok (.iaload, 1) := by decide +kernel
theorem dX2_silencer_46 : decode cX2_silencer 46 = .ok (.iaload, 1) := by decide +kernel
theorem dX2_silencer_47 : decode cX2_silencer 47 = .ok (.istore 4, 2) := by decide +kernel
theorem dX2_silencer_49 : decode cX2_silencer 49 = .ok (.iload 4, 2) := by decide +kernel
theorem dX2_silencer_51 : decode cX2_silencer 51 = .ok (.iload_n 1, 1) := by decide +kernel
theorem dX2_silencer_52 : decode cX2_silencer 52 = .ok (.if_icmp .ne 7, 3) := by decide +kernel
theorem dX2_silencer_55 : decode cX2_silencer 55 = .ok (.iconst (-1), 1) := by decide +kernel
theorem dX2_silencer_56 : decode cX2_silencer 56 = .ok (.goto 5, 3) := by decide +kernel
theorem dX2_silencer_59 : decode cX2_silencer 59 = .ok (.iload 4, 2) := by decide +kernel
theorem dX2_silencer_61 : decode cX2_silencer 61 = .ok (.ireturn, 1) := by decide +kernel
theorem dX2_whyNotRuling_0 : decode cX2_whyNotRuling 0 = .ok (.aload_n 0, 1) := by decide +kernel
theorem dX2_whyNotRuling_1 : decode cX2_whyNotRuling 1 = .ok (.getfield 22, 3) := by decide +kernel
theorem dX2_whyNotRuling_4 : decode cX2_whyNotRuling 4 = .ok (.getfield 49, 3) := by decide +kernel
theorem dX2_whyNotRuling_7 : decode cX2_whyNotRuling 7 = .ok (.iload_n 1, 1) := by decide +kernel
theorem dX2_whyNotRuling_8 : decode cX2_whyNotRuling 8 = .ok (.iaload, 1) := by decide +kernel
theorem dX2_whyNotRuling_9 : decode cX2_whyNotRuling 9 = .ok (.istore 4, 2) := by decide +kernel
theorem dX2_whyNotRuling_11 : decode cX2_whyNotRuling 11 = .ok (.aload_n 0, 1) := by decide +kernel
theorem dX2_whyNotRuling_12 : decode cX2_whyNotRuling 12 = .ok (.getfield 22, 3) := by decide +kernel
theorem dX2_whyNotRuling_15 : decode cX2_whyNotRuling 15 = .ok (.getfield 52, 3) := by decide +kernel
theorem dX2_whyNotRuling_18 : decode cX2_whyNotRuling 18 = .ok (.iload_n 1, 1) := by decide +kernel
theorem dX2_whyNotRuling_19 : decode cX2_whyNotRuling 19 = .ok (.iaload, 1) := by decide +kernel
theorem dX2_whyNotRuling_20 : decode cX2_whyNotRuling 20 = .ok (.iload_n 3, 1) := by decide +kernel
theorem dX2_whyNotRuling_21 : decode cX2_whyNotRuling 21 = .ok (.if_icmp .le 5, 3) := by decide +kernel
theorem dX2_whyNotRuling_24 : decode cX2_whyNotRuling 24 = .ok (.iconst 1, 1) := by decide +kernel
theorem dX2_whyNotRuling_25 : decode cX2_whyNotRuling 25 = .ok (.ireturn, 1) := by decide +kernel
theorem dX2_whyNotRuling_26 : decode cX2_whyNotRuling 26 = .ok (.aload_n 0, 1) := by decide +kernel
theorem dX2_whyNotRuling_27 : decode cX2_whyNotRuling 27 = .ok (.getfield 22, 3) := by decide +kernel
theorem dX2_whyNotRuling_30 : decode cX2_whyNotRuling 30 = .ok (.getfield 77, 3) := by decide +kernel
theorem dX2_whyNotRuling_33 : decode cX2_whyNotRuling 33 = .ok (.iload_n 1, 1) := by decide +kernel
theorem dX2_whyNotRuling_34 : decode cX2_whyNotRuling 34 = .ok (.iaload, 1) := by decide +kernel
theorem dX2_whyNotRuling_35 : decode cX2_whyNotRuling 35 = .ok (.iload_n 3, 1) := by decide +kernel
theorem dX2_whyNotRuling_36 : decode cX2_whyNotRuling 36 = .ok (.if_icmp .gt 5, 3) := by decide +kernel
theorem dX2_whyNotRuling_39 : decode cX2_whyNotRuling 39 = .ok (.iconst 2, 1) := by decide +kernel
theorem dX2_whyNotRuling_40 : decode cX2_whyNotRuling 40 = .ok (.ireturn, 1) := by decide +kernel
theorem dX2_whyNotRuling_41 : decode cX2_whyNotRuling 41 = .ok (.aload_n 0, 1) := by decide +kernel
theorem dX2_whyNotRuling_42 : decode cX2_whyNotRuling 42 = .ok (.getfield 12, 3) := by decide +kernel
theorem dX2_whyNotRuling_45 : decode cX2_whyNotRuling 45 = .ok (.iload 4, 2) := by decide +kernel
theorem dX2_whyNotRuling_47 : decode cX2_whyNotRuling 47 = .ok (.iload_n 2, 1) := by decide +kernel
theorem dX2_whyNotRuling_48 : decode cX2_whyNotRuling 48 = .ok (.invokevirtual 80, 3) := by decide +kernel
theorem dX2_whyNotRuling_51 : decode cX2_whyNotRuling 51 = .ok (.ifCond .ne 5, 3) := by decide +kernel
theorem dX2_whyNotRuling_54 : decode cX2_whyNotRuling 54 = .ok (.iconst 3, 1) := by decide +kernel
theorem dX2_whyNotRuling_55 : decode cX2_whyNotRuling 55 = .ok (.ireturn, 1) := by decide +kernel
theorem dX2_whyNotRuling_56 : decode cX2_whyNotRuling 56 = .ok (.aload_n 0, 1) := by decide +kernel
theorem dX2_whyNotRuling_57 : decode cX2_whyNotRuling 57 = .ok (.getfield 22, 3) := by decide +kernel
theorem dX2_whyNotRuling_60 : decode cX2_whyNotRuling 60 = .ok (.iload_n 1, 1) := by decide +kernel
theorem dX2_whyNotRuling_61 : decode cX2_whyNotRuling 61 = .ok (.iload_n 2, 1) := by decide +kernel
theorem dX2_whyNotRuling_62 : decode cX2_whyNotRuling 62 = .ok (.invokevirtual 83, 3) := by decide +kernel
theorem dX2_whyNotRuling_65 : decode cX2_whyNotRuling 65 = .ok (.ifCond .ne 5, 3) := by decide +kernel
theorem dX2_whyNotRuling_68 : decode cX2_whyNotRuling 68 = .ok (.iconst 4, 1) := by decide +kernel
theorem dX2_whyNotRuling_69 : decode cX2_whyNotRuling 69 = .ok (.ireturn, 1) := by decide +kernel
theorem dX2_whyNotRuling_70 : decode cX2_whyNotRuling 70 = .ok (.aload_n 0, 1) := by decide +kernel
theorem dX2_whyNotRuling_71 : decode cX2_whyNotRuling 71 = .ok (.getfield 22, 3) := by decide +kernel
theorem dX2_whyNotRuling_74 : decode cX2_whyNotRuling 74 = .ok (.iload_n 1, 1) := by decide +kernel
theorem dX2_whyNotRuling_75 : decode cX2_whyNotRuling 75 = .ok (.iload_n 2, 1) := by decide +kernel
theorem dX2_whyNotRuling_76 : decode cX2_whyNotRuling 76 = .ok (.invokevirtual 86, 3) := by decide +kernel
theorem dX2_whyNotRuling_79 : decode cX2_whyNotRuling 79 = .ok (.ifCond .eq 5, 3) := by decide +kernel
theorem dX2_whyNotRuling_82 : decode cX2_whyNotRuling 82 = .ok (.iconst 5, 1) := by decide +kernel
theorem dX2_whyNotRuling_83 : decode cX2_whyNotRuling 83 = .ok (.ireturn, 1) := by decide +kernel
theorem dX2_whyNotRuling_84 : decode cX2_whyNotRuling 84 = .ok (.aload_n 0, 1) := by decide +kernel
theorem dX2_whyNotRuling_85 : decode cX2_whyNotRuling 85 = .ok (.iload_n 2, 1) := by decide +kernel
theorem dX2_whyNotRuling_86 : decode cX2_whyNotRuling 86 = .ok (.iload_n 3, 1) := by decide +kernel
theorem dX2_whyNotRuling_87 : decode cX2_whyNotRuling 87 = .ok (.iconst (-1), 1) := by decide +kernel
theorem dX2_whyNotRuling_88 : decode cX2_whyNotRuling 88 = .ok (.invokevirtual 69, 3) := by decide +kernel
theorem dX2_whyNotRuling_91 : decode cX2_whyNotRuling 91 = .ok (.aload_n 0, 1) := by decide +kernel
theorem dX2_whyNotRuling_92 : decode cX2_whyNotRuling 92 = .ok (.getfield 23, 3) := by decide +kernel
theorem dX2_whyNotRuling_95 : decode cX2_whyNotRuling 95 = .ok (.iload 4, 2) := by decide +kernel
theorem dX2_whyNotRuling_97 : decode cX2_whyNotRuling 97 = .ok (.iaload, 1) := by decide +kernel
theorem dX2_whyNotRuling_98 : decode cX2_whyNotRuling 98 = .ok (.iload_n 1, 1) := by decide +kernel
theorem dX2_whyNotRuling_99 : decode cX2_whyNotRuling 99 = .ok (.if_icmp .eq 6, 3) := by decide +kernel
theorem dX2_whyNotRuling_102 : decode cX2_whyNotRuling 102 = .ok (.bipush 6, 2) := by decide +kernel
theorem dX2_whyNotRuling_104 : decode cX2_whyNotRuling 104 = .ok (.ireturn, 1) := by decide +kernel
theorem dX2_whyNotRuling_105 : decode cX2_whyNotRuling 105 = .ok (.aload_n 0, 1) := by decide +kernel
theorem dX2_whyNotRuling_106 : decode cX2_whyNotRuling 106 = .ok (.getfield 22, 3) := by decide +kernel
theorem dX2_whyNotRuling_109 : decode cX2_whyNotRuling 109 = .ok (.iload_n 1, 1) := by decide +kernel
theorem dX2_whyNotRuling_110 : decode cX2_whyNotRuling 110 = .ok (.invokevirtual 55, 3) := by decide +kernel
theorem dX2_whyNotRuling_113 : decode cX2_whyNotRuling 113 = .ok (.ifCond .ne 6, 3) := by decide +kernel
theorem dX2_whyNotRuling_116 : decode cX2_whyNotRuling 116 = .ok (.bipush 7, 2) := by decide +kernel
theorem dX2_whyNotRuling_118 : decode cX2_whyNotRuling 118 = .ok (.ireturn, 1) := by decide +kernel
theorem dX2_whyNotRuling_119 : decode cX2_whyNotRuling 119 = .ok (.aload_n 0, 1) := by decide +kernel
theorem dX2_whyNotRuling_120 : decode cX2_whyNotRuling 120 = .ok (.invokevirtual 73, 3) := by decide +kernel
theorem dX2_whyNotRuling_123 : decode cX2_whyNotRuling 123 = .ok (.iload_n 1, 1) := by decide +kernel
theorem dX2_whyNotRuling_124 : decode cX2_whyNotRuling 124 = .ok (.if_icmp .ne 7, 3) := by decide +kernel
theorem dX2_whyNotRuling_127 : decode cX2_whyNotRuling 127 = .ok (.iconst 0, 1) := by decide +kernel
theorem dX2_whyNotRuling_128 : decode cX2_whyNotRuling 128 = .ok (.goto 5, 3) := by decide +kernel
theorem dX2_whyNotRuling_131 : decode cX2_whyNotRuling 131 = .ok (.bipush 8, 2) := by decide +kernel
theorem dX2_whyNotRuling_133 : decode cX2_whyNotRuling 133 = .ok (.ireturn, 1) := by decide +kernel
theorem dX2_nextChange_0 : decode cX2_nextChange 0 = .ok (.aload_n 0, 1) := by decide +kernel
theorem dX2_nextChange_1 : decode cX2_nextChange 1 = .ok (.iload_n 1, 1) := by decide +kernel
theorem dX2_nextChange_2 : decode cX2_nextChange 2 = .ok (.iload_n 2, 1) := by decide +kernel
theorem dX2_nextChange_3 : decode cX2_nextChange 3 = .ok (.invokevirtual 89, 3) := by decide +kernel
theorem dX2_nextChange_6 : decode cX2_nextChange 6 = .ok (.istore_n 3, 1) := by decide +kernel
theorem dX2_nextChange_7 : decode cX2_nextChange 7 = .ok (.aload_n 0, 1) := by decide +kernel
theorem dX2_nextChange_8 : decode cX2_nextChange 8 = .ok (.getfield 22, 3) := by decide +kernel
theorem dX2_nextChange_11 : decode cX2_nextChange 11 = .ok (.iload_n 2, 1) := by decide +kernel
theorem dX2_nextChange_12 : decode cX2_nextChange 12 = .ok (.invokevirtual 93, 3) := by decide +kernel
theorem dX2_nextChange_15 : decode cX2_nextChange 15 = .ok (.istore 4, 2) := by decide +kernel
theorem dX2_nextChange_17 : decode cX2_nextChange 17 = .ok (.iconst 0, 1) := by decide +kernel
theorem dX2_nextChange_18 : decode cX2_nextChange 18 = .ok (.istore 5, 2) := by decide +kernel
theorem dX2_nextChange_20 : decode cX2_nextChange 20 = .ok (.iload 5, 2) := by decide +kernel
theorem dX2_nextChange_22 : decode cX2_nextChange 22 = .ok (.sipush 1000, 3) := by decide +kernel
theorem dX2_nextChange_25 : decode cX2_nextChange 25 = .ok (.if_icmp .ge 42, 3) := by decide +kernel
theorem dX2_nextChange_28 : decode cX2_nextChange 28 = .ok (.iload 4, 2) := by decide +kernel
theorem dX2_nextChange_30 : decode cX2_nextChange 30 = .ok (.sipush 1000, 3) := by decide +kernel
theorem dX2_nextChange_33 : decode cX2_nextChange 33 = .ok (.if_icmp .ge 34, 3) := by decide +kernel
theorem dX2_nextChange_36 : decode cX2_nextChange 36 = .ok (.aload_n 0, 1) := by decide +kernel
theorem dX2_nextChange_37 : decode cX2_nextChange 37 = .ok (.iload_n 1, 1) := by decide +kernel
theorem dX2_nextChange_38 : decode cX2_nextChange 38 = .ok (.iload 4, 2) := by decide +kernel
theorem dX2_nextChange_40 : decode cX2_nextChange 40 = .ok (.invokevirtual 89, 3) := by decide +kernel
theorem dX2_nextChange_43 : decode cX2_nextChange 43 = .ok (.iload_n 3, 1) := by decide +kernel
theorem dX2_nextChange_44 : decode cX2_nextChange 44 = .ok (.if_icmp .eq 6, 3) := by decide +kernel
theorem dX2_nextChange_47 : decode cX2_nextChange 47 = .ok (.iload 4, 2) := by decide +kernel
theorem dX2_nextChange_49 : decode cX2_nextChange 49 = .ok (.ireturn, 1) := by decide +kernel
theorem dX2_nextChange_50 : decode cX2_nextChange 50 = .ok (.aload_n 0, 1) := by decide +kernel
theorem dX2_nextChange_51 : decode cX2_nextChange 51 = .ok (.getfield 22, 3) := by decide +kernel
theorem dX2_nextChange_54 : decode cX2_nextChange 54 = .ok (.iload 4, 2) := by decide +kernel
theorem dX2_nextChange_56 : decode cX2_nextChange 56 = .ok (.invokevirtual 93, 3) := by decide +kernel
theorem dX2_nextChange_59 : decode cX2_nextChange 59 = .ok (.istore 4, 2) := by decide +kernel
theorem dX2_nextChange_61 : decode cX2_nextChange 61 = .ok (.iinc 5 1, 3) := by decide +kernel
theorem dX2_nextChange_64 : decode cX2_nextChange 64 = .ok (.goto (-44), 3) := by decide +kernel
theorem dX2_nextChange_67 : decode cX2_nextChange 67 = .ok (.bipush (-5), 2) := by decide +kernel
theorem dX2_nextChange_69 : decode cX2_nextChange 69 = .ok (.ireturn, 1) := by decide +kernel
theorem dX2_busyClauses_0 : decode cX2_busyClauses 0 = .ok (.iconst 0, 1) := by decide +kernel
theorem dX2_busyClauses_1 : decode cX2_busyClauses 1 = .ok (.istore_n 1, 1) := by decide +kernel
theorem dX2_busyClauses_2 : decode cX2_busyClauses 2 = .ok (.aload_n 0, 1) := by decide +kernel
theorem dX2_busyClauses_3 : decode cX2_busyClauses 3 = .ok (.getfield 22, 3) := by decide +kernel
theorem dX2_busyClauses_6 : decode cX2_busyClauses 6 = .ok (.iconst (-1), 1) := by decide +kernel
theorem dX2_busyClauses_7 : decode cX2_busyClauses 7 = .ok (.invokevirtual 93, 3) := by decide +kernel
theorem dX2_busyClauses_10 : decode cX2_busyClauses 10 = .ok (.istore_n 2, 1) := by decide +kernel
theorem dX2_busyClauses_11 : decode cX2_busyClauses 11 = .ok (.iconst 0, 1) := by decide +kernel
theorem dX2_busyClauses_12 : decode cX2_busyClauses 12 = .ok (.istore_n 3, 1) := by decide +kernel
theorem dX2_busyClauses_13 : decode cX2_busyClauses 13 = .ok (.iload_n 3, 1) := by decide +kernel
theorem dX2_busyClauses_14 : decode cX2_busyClauses 14 = .ok (.sipush 1000, 3) := by decide +kernel
theorem dX2_busyClauses_17 : decode cX2_busyClauses 17 = .ok (.if_icmp .ge 63, 3) := by decide +kernel
theorem dX2_busyClauses_20 : decode cX2_busyClauses 20 = .ok (.iload_n 2, 1) := by decide +kernel
theorem dX2_busyClauses_21 : decode cX2_busyClauses 21 = .ok (.sipush 1000, 3) := by decide +kernel
theorem dX2_busyClauses_24 : decode cX2_busyClauses 24 = .ok (.if_icmp .ge 56, 3) := by decide +kernel
theorem dX2_busyClauses_27 : decode cX2_busyClauses 27 = .ok (.iconst 0, 1) := by decide +kernel
theorem dX2_busyClauses_28 : decode cX2_busyClauses 28 = .ok (.istore 4, 2) := by decide +kernel
theorem dX2_busyClauses_30 : decode cX2_busyClauses 30 = .ok (.iload 4, 2) := by decide +kernel
theorem dX2_busyClauses_32 : decode cX2_busyClauses 32 = .ok (.bipush 100, 2) := by decide +kernel
theorem dX2_busyClauses_34 : decode cX2_busyClauses 34 = .ok (.if_icmp .ge 31, 3) := by decide +kernel
theorem dX2_busyClauses_37 : decode cX2_busyClauses 37 = .ok (.aload_n 0, 1) := by decide +kernel
theorem dX2_busyClauses_38 : decode cX2_busyClauses 38 = .ok (.iload 4, 2) := by decide +kernel
theorem dX2_busyClauses_40 : decode cX2_busyClauses 40 = .ok (.iload_n 2, 1) := by decide +kernel
theorem dX2_busyClauses_41 : decode cX2_busyClauses 41 = .ok (.invokevirtual 89, 3) := by decide +kernel
theorem dX2_busyClauses_44 : decode cX2_busyClauses 44 = .ok (.istore 5, 2) := by decide +kernel
theorem dX2_busyClauses_46 : decode cX2_busyClauses 46 = .ok (.iload 5, 2) := by decide +kernel
theorem dX2_busyClauses_48 : decode cX2_busyClauses 48 = .ok (.iconst (-1), 1) := by decide +kernel
theorem dX2_busyClauses_49 : decode cX2_busyClauses 49 = .ok (.if_icmp .eq 10, 3) := by decide +kernel
theorem dX2_busyClauses_52 : decode cX2_busyClauses 52 = .ok (.iload_n 1, 1) := by decide +kernel
theorem dX2_busyClauses_53 : decode cX2_busyClauses 53 = .ok (.iconst 1, 1) := by decide +kernel
theorem dX2_busyClauses_54 : decode cX2_busyClauses 54 = .ok (.iload 5, 2) := by decide +kernel
theorem dX2_busyClauses_56 : decode cX2_busyClauses 56 = .ok (.ishl, 1) := by decide +kernel
theorem dX2_busyClauses_57 : decode cX2_busyClauses 57 = .ok (.ior, 1) := by decide +kernel
theorem dX2_busyClauses_58 : decode cX2_busyClauses 58 = .ok (.istore_n 1, 1) := by decide +kernel
theorem dX2_busyClauses_59 : decode cX2_busyClauses 59 = .ok (.iinc 4 1, 3) := by decide +kernel
theorem dX2_busyClauses_62 : decode cX2_busyClauses 62 = .ok (.goto (-32), 3) := by decide +kernel
theorem dX2_busyClauses_65 : decode cX2_busyClauses 65 = .ok (.aload_n 0, 1) := by decide +kernel
theorem dX2_busyClauses_66 : decode cX2_busyClauses 66 = .ok (.getfield 22, 3) := by decide +kernel
theorem dX2_busyClauses_69 : decode cX2_busyClauses 69 = .ok (.iload_n 2, 1) := by decide +kernel
theorem dX2_busyClauses_70 : decode cX2_busyClauses 70 = .ok (.invokevirtual 93, 3) := by decide +kernel
theorem dX2_busyClauses_73 : decode cX2_busyClauses 73 = .ok (.istore_n 2, 1) := by decide +kernel
theorem dX2_busyClauses_74 : decode cX2_busyClauses 74 = .ok (.iinc 3 1, 3) := by decide +kernel
theorem dX2_busyClauses_77 : decode cX2_busyClauses 77 = .ok (.goto (-64), 3) := by decide +kernel
theorem dX2_busyClauses_80 : decode cX2_busyClauses 80 = .ok (.iload_n 1, 1) := by decide +kernel
theorem dX2_busyClauses_81 : decode cX2_busyClauses 81 = .ok (.ireturn, 1) := by decide +kernel
theorem dX2_casesChangedBetween_0 : decode cX2_casesChangedBetween 0 = .ok (.iconst 0, 1) := by decide +kernel
theorem dX2_casesChangedBetween_1 : decode cX2_casesChangedBetween 1 = .ok (.istore_n 3, 1) := by decide +kernel
theorem dX2_casesChangedBetween_2 : decode cX2_casesChangedBetween 2 = .ok (.iconst 0, 1) := by decide +kernel
theorem dX2_casesChangedBetween_3 : decode cX2_casesChangedBetween 3 = .ok (.istore 4, 2) := by decide +kernel
theorem dX2_casesChangedBetween_5 : decode cX2_casesChangedBetween 5 = .ok (.iload 4, 2) := by decide +kernel
theorem dX2_casesChangedBetween_7 : decode cX2_casesChangedBetween 7 = .ok (.bipush 100, 2) := by decide +kernel
theorem dX2_casesChangedBetween_9 : decode cX2_casesChangedBetween 9 = .ok (.if_icmp .ge 29, 3) := by decide +kernel
theorem dX2_casesChangedBetween_12 : decode cX2_casesChangedBetween 12 = .ok (.aload_n 0, 1) := by decide +kernel
theorem dX2_casesChangedBetween_13 : decode cX2_casesChangedBetween 13 = .ok (.iload 4, 2) := by decide +kernel
theorem dX2_casesChangedBetween_15 : decode cX2_casesChangedBetween 15 = .ok (.iload_n 1, 1) := by decide +kernel
theorem dX2_casesChangedBetween_16 : decode cX2_casesChangedBetween 16 = .ok (.invokevirtual 89, 3) := by decide +kernel
theorem dX2_casesChangedBetween_19 : decode cX2_casesChangedBetween 19 = .ok (.aload_n 0, 1) := by decide +kernel
theorem dX2_casesChangedBetween_20 : decode cX2_casesChangedBetween 20 = .ok (.iload 4, 2) := by decide +kernel
theorem dX2_casesChangedBetween_22 : decode cX2_casesChangedBetween 22 = .ok (.iload_n 2, 1) := by decide +kernel
theorem dX2_casesChangedBetween_23 : decode cX2_casesChangedBetween 23 = .ok (.invokevirtual 89, 3) := by decide +kernel
theorem dX2_casesChangedBetween_26 : decode cX2_casesChangedBetween 26 = .ok (.if_icmp .eq 6, 3) := by decide +kernel
theorem dX2_casesChangedBetween_29 : decode cX2_casesChangedBetween 29 = .ok (.iinc 3 1, 3) := by decide +kernel
theorem dX2_casesChangedBetween_32 : decode cX2_casesChangedBetween 32 = .ok (.iinc 4 1, 3) := by decide +kernel
theorem dX2_casesChangedBetween_35 : decode cX2_casesChangedBetween 35 = .ok (.goto (-30), 3) := by decide +kernel
theorem dX2_casesChangedBetween_38 : decode cX2_casesChangedBetween 38 = .ok (.iload_n 3, 1) := by decide +kernel
theorem dX2_casesChangedBetween_39 : decode cX2_casesChangedBetween 39 = .ok (.ireturn, 1) := by decide +kernel
theorem dX2_casesChangedWithout_0 : decode cX2_casesChangedWithout 0 = .ok (.iconst 0, 1) := by decide +kernel
theorem dX2_casesChangedWithout_1 : decode cX2_casesChangedWithout 1 = .ok (.istore_n 2, 1) := by decide +kernel
theorem dX2_casesChangedWithout_2 : decode cX2_casesChangedWithout 2 = .ok (.iconst 0, 1) := by decide +kernel
theorem dX2_casesChangedWithout_3 : decode cX2_casesChangedWithout 3 = .ok (.istore_n 3, 1) := by decide +kernel
theorem dX2_casesChangedWithout_4 : decode cX2_casesChangedWithout 4 = .ok (.iload_n 3, 1) := by decide +kernel
theorem dX2_casesChangedWithout_5 : decode cX2_casesChangedWithout 5 = .ok (.bipush 100, 2) := by decide +kernel
theorem dX2_casesChangedWithout_7 : decode cX2_casesChangedWithout 7 = .ok (.if_icmp .ge 40, 3) := by decide +kernel
theorem dX2_casesChangedWithout_10 : decode cX2_casesChangedWithout 10 = .ok (.aload_n 0, 1) := by decide +kernel
theorem dX2_casesChangedWithout_11 : decode cX2_casesChangedWithout 11 = .ok (.iload_n 3, 1) := by decide +kernel
theorem dX2_casesChangedWithout_12 : decode cX2_casesChangedWithout 12 = .ok (.aload_n 0, 1) := by decide +kernel
theorem dX2_casesChangedWithout_13 : decode cX2_casesChangedWithout 13 = .ok (.getfield 12, 3) := by decide +kernel
theorem dX2_casesChangedWithout_16 : decode cX2_casesChangedWithout 16 = .ok (.getfield 97, 3) := by decide +kernel
theorem dX2_casesChangedWithout_19 : decode cX2_casesChangedWithout 19 = .ok (.invokevirtual 89, 3) := by decide +kernel
theorem dX2_casesChangedWithout_22 : decode cX2_casesChangedWithout 22 = .ok (.aload_n 0, 1) := by decide +kernel
theorem dX2_casesChangedWithout_23 : decode cX2_casesChangedWithout 23 = .ok (.iload_n 1, 1) := by decide +kernel
theorem dX2_casesChangedWithout_24 : decode cX2_casesChangedWithout 24 = .ok (.iload_n 3, 1) := by decide +kernel
theorem dX2_casesChangedWithout_25 : decode cX2_casesChangedWithout 25 = .ok (.aload_n 0, 1) := by decide +kernel
theorem dX2_casesChangedWithout_26 : decode cX2_casesChangedWithout 26 = .ok (.getfield 12, 3) := by decide +kernel
theorem dX2_casesChangedWithout_29 : decode cX2_casesChangedWithout 29 = .ok (.getfield 97, 3) := by decide +kernel
theorem dX2_casesChangedWithout_32 : decode cX2_casesChangedWithout 32 = .ok (.invokevirtual 65, 3) := by decide +kernel
theorem dX2_casesChangedWithout_35 : decode cX2_casesChangedWithout 35 = .ok (.if_icmp .eq 6, 3) := by decide +kernel
theorem dX2_casesChangedWithout_38 : decode cX2_casesChangedWithout 38 = .ok (.iinc 2 1, 3) := by decide +kernel
theorem dX2_casesChangedWithout_41 : decode cX2_casesChangedWithout 41 = .ok (.iinc 3 1, 3) := by decide +kernel
theorem dX2_casesChangedWithout_44 : decode cX2_casesChangedWithout 44 = .ok (.goto (-40), 3) := by decide +kernel
theorem dX2_casesChangedWithout_47 : decode cX2_casesChangedWithout 47 = .ok (.iload_n 2, 1) := by decide +kernel
theorem dX2_casesChangedWithout_48 : decode cX2_casesChangedWithout 48 = .ok (.ireturn, 1) := by decide +kernel
theorem dX2_tallyToday_0 : decode cX2_tallyToday 0 = .ok (.aload_n 0, 1) := by decide +kernel
theorem dX2_tallyToday_1 : decode cX2_tallyToday 1 = .ok (.getfield 27, 3) := by decide +kernel
theorem dX2_tallyToday_4 : decode cX2_tallyToday 4 = .ok (.iconst 0, 1) := by decide +kernel
theorem dX2_tallyToday_5 : decode cX2_tallyToday 5 = .ok (.invokestatic 30, 3) := by decide +kernel
theorem dX2_tallyToday_8 : decode cX2_tallyToday 8 = .ok (.iconst 0, 1) := by decide +kernel
theorem dX2_tallyToday_9 : decode cX2_tallyToday 9 = .ok (.istore_n 1, 1) := by decide +kernel
theorem dX2_tallyToday_10 : decode cX2_tallyToday 10 = .ok (.iload_n 1, 1) := by decide +kernel
theorem dX2_tallyToday_11 : decode cX2_tallyToday 11 = .ok (.bipush 100, 2) := by decide +kernel
theorem dX2_tallyToday_13 : decode cX2_tallyToday 13 = .ok (.if_icmp .ge 37, 3) := by decide +kernel
theorem dX2_tallyToday_16 : decode cX2_tallyToday 16 = .ok (.aload_n 0, 1) := by decide +kernel
theorem dX2_tallyToday_17 : decode cX2_tallyToday 17 = .ok (.iload_n 1, 1) := by decide +kernel
theorem dX2_tallyToday_18 : decode cX2_tallyToday 18 = .ok (.aload_n 0, 1) := by decide +kernel
theorem dX2_tallyToday_19 : decode cX2_tallyToday 19 = .ok (.getfield 12, 3) := by decide +kernel
theorem dX2_tallyToday_22 : decode cX2_tallyToday 22 = .ok (.getfield 97, 3) := by decide +kernel
theorem dX2_tallyToday_25 : decode cX2_tallyToday 25 = .ok (.invokevirtual 89, 3) := by decide +kernel
theorem dX2_tallyToday_28 : decode cX2_tallyToday 28 = .ok (.istore_n 2, 1) := by decide +kernel
theorem dX2_tallyToday_29 : decode cX2_tallyToday 29 = .ok (.iload_n 2, 1) := by decide +kernel
theorem dX2_tallyToday_30 : decode cX2_tallyToday 30 = .ok (.iconst (-1), 1) := by decide +kernel
theorem dX2_tallyToday_31 : decode cX2_tallyToday 31 = .ok (.if_icmp .eq 13, 3) := by decide +kernel
theorem dX2_tallyToday_34 : decode cX2_tallyToday 34 = .ok (.aload_n 0, 1) := by decide +kernel
theorem dX2_tallyToday_35 : decode cX2_tallyToday 35 = .ok (.getfield 27, 3) := by decide +kernel
theorem dX2_tallyToday_38 : decode cX2_tallyToday 38 = .ok (.iload_n 2, 1) := by decide +kernel
theorem dX2_tallyToday_39 : decode cX2_tallyToday 39 = .ok (.dup2, 1) := by decide +kernel
theorem dX2_tallyToday_40 : decode cX2_tallyToday 40 = .ok (.iaload, 1) := by decide +kernel
theorem dX2_tallyToday_41 : decode cX2_tallyToday 41 = .ok (.iconst 1, 1) := by decide +kernel
theorem dX2_tallyToday_42 : decode cX2_tallyToday 42 = .ok (.iadd, 1) := by decide +kernel
theorem dX2_tallyToday_43 : decode cX2_tallyToday 43 = .ok (.iastore, 1) := by decide +kernel
theorem dX2_tallyToday_44 : decode cX2_tallyToday 44 = .ok (.iinc 1 1, 3) := by decide +kernel
theorem dX2_tallyToday_47 : decode cX2_tallyToday 47 = .ok (.goto (-37), 3) := by decide +kernel
theorem dX2_tallyToday_50 : decode cX2_tallyToday 50 = .ok (.return_, 1) := by decide +kernel
theorem dX2_casesRuled_0 : decode cX2_casesRuled 0 = .ok (.aload_n 0, 1) := by decide +kernel
theorem dX2_casesRuled_1 : decode cX2_casesRuled 1 = .ok (.invokevirtual 100, 3) := by decide +kernel
theorem dX2_casesRuled_4 : decode cX2_casesRuled 4 = .ok (.iconst 0, 1) := by decide +kernel
theorem dX2_casesRuled_5 : decode cX2_casesRuled 5 = .ok (.istore_n 1, 1) := by decide +kernel
theorem dX2_casesRuled_6 : decode cX2_casesRuled 6 = .ok (.iconst 0, 1) := by decide +kernel
theorem dX2_casesRuled_7 : decode cX2_casesRuled 7 = .ok (.istore_n 2, 1) := by decide +kernel
theorem dX2_casesRuled_8 : decode cX2_casesRuled 8 = .ok (.iload_n 2, 1) := by decide +kernel
theorem dX2_casesRuled_9 : decode cX2_casesRuled 9 = .ok (.aload_n 0, 1) := by decide +kernel
theorem dX2_casesRuled_10 : decode cX2_casesRuled 10 = .ok (.getfield 22, 3) := by decide +kernel
theorem dX2_casesRuled_13 : decode cX2_casesRuled 13 = .ok (.getfield 36, 3) := by decide +kernel
theorem dX2_casesRuled_16 : decode cX2_casesRuled 16 = .ok (.if_icmp .ge 18, 3) := by decide +kernel
theorem dX2_casesRuled_19 : decode cX2_casesRuled 19 = .ok (.iload_n 1, 1) := by decide +kernel
theorem dX2_casesRuled_20 : decode cX2_casesRuled 20 = .ok (.aload_n 0, 1) := by decide +kernel
theorem dX2_casesRuled_21 : decode cX2_casesRuled 21 = .ok (.getfield 27, 3) := by decide +kernel
theorem dX2_casesRuled_24 : decode cX2_casesRuled 24 = .ok (.iload_n 2, 1) := by decide +kernel
theorem dX2_casesRuled_25 : decode cX2_casesRuled 25 = .ok (.iaload, 1) := by decide +kernel
theorem dX2_casesRuled_26 : decode cX2_casesRuled 26 = .ok (.iadd, 1) := by decide +kernel
theorem dX2_casesRuled_27 : decode cX2_casesRuled 27 = .ok (.istore_n 1, 1) := by decide +kernel
theorem dX2_casesRuled_28 : decode cX2_casesRuled 28 = .ok (.iinc 2 1, 3) := by decide +kernel
theorem dX2_casesRuled_31 : decode cX2_casesRuled 31 = .ok (.goto (-23), 3) := by decide +kernel
theorem dX2_casesRuled_34 : decode cX2_casesRuled 34 = .ok (.iload_n 1, 1) := by decide +kernel
theorem dX2_casesRuled_35 : decode cX2_casesRuled 35 = .ok (.ireturn, 1) := by decide +kernel
theorem dX2_casesRuledByClause_0 : decode cX2_casesRuledByClause 0 = .ok (.aload_n 0, 1) := by decide +kernel
theorem dX2_casesRuledByClause_1 : decode cX2_casesRuledByClause 1 = .ok (.invokevirtual 100, 3) := by decide +kernel
theorem dX2_casesRuledByClause_4 : decode cX2_casesRuledByClause 4 = .ok (.aload_n 0, 1) := by decide +kernel
theorem dX2_casesRuledByClause_5 : decode cX2_casesRuledByClause 5 = .ok (.getfield 27, 3) := by decide +kernel
theorem dX2_casesRuledByClause_8 : decode cX2_casesRuledByClause 8 = .ok (.iload_n 1, 1) := by decide +kernel
theorem dX2_casesRuledByClause_9 : decode cX2_casesRuledByClause 9 = .ok (.iaload, 1) := by decide +kernel
theorem dX2_casesRuledByClause_10 : decode cX2_casesRuledByClause 10 = .ok (.ireturn, 1) := by decide +kernel
theorem dX2_casesRuledByChapter_0 : decode cX2_casesRuledByChapter 0 = .ok (.aload_n 0, 1) := by decide +kernel
theorem dX2_casesRuledByChapter_1 : decode cX2_casesRuledByChapter 1 = .ok (.invokevirtual 100, 3) := by decide +kernel
theorem dX2_casesRuledByChapter_4 : decode cX2_casesRuledByChapter 4 = .ok (.iconst 0, 1) := by decide +kernel
theorem dX2_casesRuledByChapter_5 : decode cX2_casesRuledByChapter 5 = .ok (.istore_n 2, 1) := by decide +kernel
theorem dX2_casesRuledByChapter_6 : decode cX2_casesRuledByChapter 6 = .ok (.iconst 0, 1) := by decide +kernel
theorem dX2_casesRuledByChapter_7 : decode cX2_casesRuledByChapter 7 = .ok (.istore_n 3, 1) := by decide +kernel
theorem dX2_casesRuledByChapter_8 : decode cX2_casesRuledByChapter 8 = .ok (.iload_n 3, 1) := by decide +kernel
theorem dX2_casesRuledByChapter_9 : decode cX2_casesRuledByChapter 9 = .ok (.aload_n 0, 1) := by decide +kernel
theorem dX2_casesRuledByChapter_10 : decode cX2_casesRuledByChapter 10 = .ok (.getfield 22, 3) := by decide +kernel
theorem dX2_casesRuledByChapter_13 : decode cX2_casesRuledByChapter 13 = .ok (.getfield 36, 3) := by decide +kernel
theorem dX2_casesRuledByChapter_16 : decode cX2_casesRuledByChapter 16 = .ok (.if_icmp .ge 31, 3) := by decide +kernel
theorem dX2_casesRuledByChapter_19 : decode cX2_casesRuledByChapter 19 = .ok (.aload_n 0, 1) := by decide +kernel
theorem dX2_casesRuledByChapter_20 : decode cX2_casesRuledByChapter 20 = .ok (.getfield 22, 3) := by decide +kernel
theorem dX2_casesRuledByChapter_23 : decode cX2_casesRuledByChapter 23 = .ok (.getfield 49, 3) := by decide +kernel
theorem dX2_casesRuledByChapter_26 : decode cX2_casesRuledByChapter 26 = .ok (.iload_n 3, 1) := by decide +kernel
theorem dX2_casesRuledByChapter_27 : decode cX2_casesRuledByChapter 27 = .ok (.iaload, 1) := by decide +kernel
theorem dX2_casesRuledByChapter_28 : decode cX2_casesRuledByChapter 28 = .ok (.iload_n 1, 1) := by decide +kernel
theorem dX2_casesRuledByChapter_29 : decode cX2_casesRuledByChapter 29 = .ok (.if_icmp .ne 12, 3) := by decide +kernel
theorem dX2_casesRuledByChapter_32 : decode cX2_casesRuledByChapter 32 = .ok (.iload_n 2, 1) := by decide +kernel
theorem dX2_casesRuledByChapter_33 : decode cX2_casesRuledByChapter 33 = .ok (.aload_n 0, 1) := by decide +kernel
theorem dX2_casesRuledByChapter_34 : decode cX2_casesRuledByChapter 34 = .ok (.getfield 27, 3) := by decide +kernel
theorem dX2_casesRuledByChapter_37 : decode cX2_casesRuledByChapter 37 = .ok (.iload_n 3, 1) := by decide +kernel
theorem dX2_casesRuledByChapter_38 : decode cX2_casesRuledByChapter 38 = .ok (.iaload, 1) := by decide +kernel
theorem dX2_casesRuledByChapter_39 : decode cX2_casesRuledByChapter 39 = .ok (.iadd, 1) := by decide +kernel
theorem dX2_casesRuledByChapter_40 : decode cX2_casesRuledByChapter 40 = .ok (.istore_n 2, 1) := by decide +kernel
theorem dX2_casesRuledByChapter_41 : decode cX2_casesRuledByChapter 41 = .ok (.iinc 3 1, 3) := by decide +kernel
theorem dX2_casesRuledByChapter_44 : decode cX2_casesRuledByChapter 44 = .ok (.goto (-36), 3) := by decide +kernel
theorem dX2_casesRuledByChapter_47 : decode cX2_casesRuledByChapter 47 = .ok (.iload_n 2, 1) := by decide +kernel
theorem dX2_casesRuledByChapter_48 : decode cX2_casesRuledByChapter 48 = .ok (.ireturn, 1) := by decide +kernel
theorem dX2_rulerOfMost_0 : decode cX2_rulerOfMost 0 = .ok (.aload_n 0, 1) := by decide +kernel
theorem dX2_rulerOfMost_1 : decode cX2_rulerOfMost 1 = .ok (.invokevirtual 100, 3) := by decide +kernel
theorem dX2_rulerOfMost_4 : decode cX2_rulerOfMost 4 = .ok (.iconst (-1), 1) := by decide +kernel
theorem dX2_rulerOfMost_5 : decode cX2_rulerOfMost 5 = .ok (.istore_n 1, 1) := by decide +kernel
theorem dX2_rulerOfMost_6 : decode cX2_rulerOfMost 6 = .ok (.iconst 0, 1) := by decide +kernel
theorem dX2_rulerOfMost_7 : decode cX2_rulerOfMost 7 = .ok (.istore_n 2, 1) := by decide +kernel
theorem dX2_rulerOfMost_8 : decode cX2_rulerOfMost 8 = .ok (.iconst 0, 1) := by decide +kernel
theorem dX2_rulerOfMost_9 : decode cX2_rulerOfMost 9 = .ok (.istore_n 3, 1) := by decide +kernel
theorem dX2_rulerOfMost_10 : decode cX2_rulerOfMost 10 = .ok (.iload_n 3, 1) := by decide +kernel
theorem dX2_rulerOfMost_11 : decode cX2_rulerOfMost 11 = .ok (.aload_n 0, 1) := by decide +kernel
theorem dX2_rulerOfMost_12 : decode cX2_rulerOfMost 12 = .ok (.getfield 22, 3) := by decide +kernel
theorem dX2_rulerOfMost_15 : decode cX2_rulerOfMost 15 = .ok (.getfield 36, 3) := by decide +kernel
theorem dX2_rulerOfMost_18 : decode cX2_rulerOfMost 18 = .ok (.if_icmp .ge 28, 3) := by decide +kernel
theorem dX2_rulerOfMost_21 : decode cX2_rulerOfMost 21 = .ok (.aload_n 0, 1) := by decide +kernel
theorem dX2_rulerOfMost_22 : decode cX2_rulerOfMost 22 = .ok (.getfield 27, 3) := by decide +kernel
theorem dX2_rulerOfMost_25 : decode cX2_rulerOfMost 25 = .ok (.iload_n 3, 1) := by decide +kernel
theorem dX2_rulerOfMost_26 : decode cX2_rulerOfMost 26 = .ok (.iaload, 1) := by decide +kernel
theorem dX2_rulerOfMost_27 : decode cX2_rulerOfMost 27 = .ok (.iload_n 2, 1) := by decide +kernel
theorem dX2_rulerOfMost_28 : decode cX2_rulerOfMost 28 = .ok (.if_icmp .le 12, 3) := by decide +kernel
theorem dX2_rulerOfMost_31 : decode cX2_rulerOfMost 31 = .ok (.iload_n 3, 1) := by decide +kernel
theorem dX2_rulerOfMost_32 : decode cX2_rulerOfMost 32 = .ok (.istore_n 1, 1) := by decide +kernel
theorem dX2_rulerOfMost_33 : decode cX2_rulerOfMost 33 = .ok (.aload_n 0, 1) := by decide +kernel
theorem dX2_rulerOfMost_34 : decode cX2_rulerOfMost 34 = .ok (.getfield 27, 3) := by decide +kernel
theorem dX2_rulerOfMost_37 : decode cX2_rulerOfMost 37 = .ok (.iload_n 3, 1) := by decide +kernel
theorem dX2_rulerOfMost_38 : decode cX2_rulerOfMost 38 = .ok (.iaload, 1) := by decide +kernel
theorem dX2_rulerOfMost_39 : decode cX2_rulerOfMost 39 = .ok (.istore_n 2, 1) := by decide +kernel
theorem dX2_rulerOfMost_40 : decode cX2_rulerOfMost 40 = .ok (.iinc 3 1, 3) := by decide +kernel
theorem dX2_rulerOfMost_43 : decode cX2_rulerOfMost 43 = .ok (.goto (-33), 3) := by decide +kernel
theorem dX2_rulerOfMost_46 : decode cX2_rulerOfMost 46 = .ok (.iload_n 1, 1) := by decide +kernel
theorem dX2_rulerOfMost_47 : decode cX2_rulerOfMost 47 = .ok (.ireturn, 1) := by decide +kernel
theorem dX2_casesSpokenOf_0 : decode cX2_casesSpokenOf 0 = .ok (.aload_n 0, 1) := by decide +kernel
theorem dX2_casesSpokenOf_1 : decode cX2_casesSpokenOf 1 = .ok (.getfield 22, 3) := by decide +kernel
theorem dX2_casesSpokenOf_4 : decode cX2_casesSpokenOf 4 = .ok (.getfield 49, 3) := by decide +kernel
theorem dX2_casesSpokenOf_7 : decode cX2_casesSpokenOf 7 = .ok (.iload_n 1, 1) := by decide +kernel
theorem dX2_casesSpokenOf_8 : decode cX2_casesSpokenOf 8 = .ok (.iaload, 1) := by decide +kernel
theorem dX2_casesSpokenOf_9 : decode cX2_casesSpokenOf 9 = .ok (.istore_n 2, 1) := by decide +kernel
theorem dX2_casesSpokenOf_10 : decode cX2_casesSpokenOf 10 = .ok (.iconst 0, 1) := by decide +kernel
theorem dX2_casesSpokenOf_11 : decode cX2_casesSpokenOf 11 = .ok (.istore_n 3, 1) := by decide +kernel
theorem dX2_casesSpokenOf_12 : decode cX2_casesSpokenOf 12 = .ok (.iconst 0, 1) := by decide +kernel
theorem dX2_casesSpokenOf_13 : decode cX2_casesSpokenOf 13 = .ok (.istore 4, 2) := by decide +kernel
theorem dX2_casesSpokenOf_15 : decode cX2_casesSpokenOf 15 = .ok (.iload 4, 2) := by decide +kernel
theorem dX2_casesSpokenOf_17 : decode cX2_casesSpokenOf 17 = .ok (.bipush 100, 2) := by decide +kernel
theorem dX2_casesSpokenOf_19 : decode cX2_casesSpokenOf 19 = .ok (.if_icmp .ge 44, 3) := by decide +kernel
theorem dX2_casesSpokenOf_22 : decode cX2_casesSpokenOf 22 = .ok (.aload_n 0, 1) := by decide +kernel
theorem dX2_casesSpokenOf_23 : decode cX2_casesSpokenOf 23 = .ok (.iload 4, 2) := by decide +kernel
theorem dX2_casesSpokenOf_25 : decode cX2_casesSpokenOf 25 = .ok (.aload_n 0, 1) := by decide +kernel
theorem dX2_casesSpokenOf_26 : decode cX2_casesSpokenOf 26 = .ok (.getfield 12, 3) := by decide +kernel
theorem dX2_casesSpokenOf_29 : decode cX2_casesSpokenOf 29 = .ok (.getfield 97, 3) := by decide +kernel
theorem dX2_casesSpokenOf_32 : decode cX2_casesSpokenOf 32 = .ok (.iconst (-1), 1) := by decide +kernel
theorem dX2_casesSpokenOf_33 : decode cX2_casesSpokenOf 33 = .ok (.invokevirtual 69, 3) := by decide +kernel
theorem dX2_casesSpokenOf_36 : decode cX2_casesSpokenOf 36 = .ok (.aload_n 0, 1) := by decide +kernel
theorem dX2_casesSpokenOf_37 : decode cX2_casesSpokenOf 37 = .ok (.getfield 23, 3) := by decide +kernel
theorem dX2_casesSpokenOf_40 : decode cX2_casesSpokenOf 40 = .ok (.iload_n 2, 1) := by decide +kernel
theorem dX2_casesSpokenOf_41 : decode cX2_casesSpokenOf 41 = .ok (.iaload, 1) := by decide +kernel
theorem dX2_casesSpokenOf_42 : decode cX2_casesSpokenOf 42 = .ok (.iload_n 1, 1) := by decide +kernel
theorem dX2_casesSpokenOf_43 : decode cX2_casesSpokenOf 43 = .ok (.if_icmp .ne 14, 3) := by decide +kernel
theorem dX2_casesSpokenOf_46 : decode cX2_casesSpokenOf 46 = .ok (.aload_n 0, 1) := by decide +kernel
theorem dX2_casesSpokenOf_47 : decode cX2_casesSpokenOf 47 = .ok (.iload_n 2, 1) := by decide +kernel
theorem dX2_casesSpokenOf_48 : decode cX2_casesSpokenOf 48 = .ok (.invokevirtual 59, 3) := by decide +kernel
theorem dX2_casesSpokenOf_51 : decode cX2_casesSpokenOf 51 = .ok (.ifCond .eq 6, 3) := by decide +kernel
theorem dX2_casesSpokenOf_54 : decode cX2_casesSpokenOf 54 = .ok (.iinc 3 1, 3) := by decide +kernel
theorem dX2_casesSpokenOf_57 : decode cX2_casesSpokenOf 57 = .ok (.iinc 4 1, 3) := by decide +kernel
theorem dX2_casesSpokenOf_60 : decode cX2_casesSpokenOf 60 = .ok (.goto (-45), 3) := by decide +kernel
theorem dX2_casesSpokenOf_63 : decode cX2_casesSpokenOf 63 = .ok (.iload_n 3, 1) := by decide +kernel
theorem dX2_casesSpokenOf_64 : decode cX2_casesSpokenOf 64 = .ok (.ireturn, 1) := by decide +kernel
theorem dX2_timesSpoken_0 : decode cX2_timesSpoken 0 = .ok (.iconst 0, 1) := by decide +kernel
theorem dX2_timesSpoken_1 : decode cX2_timesSpoken 1 = .ok (.istore_n 1, 1) := by decide +kernel
theorem dX2_timesSpoken_2 : decode cX2_timesSpoken 2 = .ok (.iconst 0, 1) := by decide +kernel
theorem dX2_timesSpoken_3 : decode cX2_timesSpoken 3 = .ok (.istore_n 2, 1) := by decide +kernel
theorem dX2_timesSpoken_4 : decode cX2_timesSpoken 4 = .ok (.iload_n 2, 1) := by decide +kernel
theorem dX2_timesSpoken_5 : decode cX2_timesSpoken 5 = .ok (.bipush 100, 2) := by decide +kernel
theorem dX2_timesSpoken_7 : decode cX2_timesSpoken 7 = .ok (.if_icmp .ge 47, 3) := by decide +kernel
theorem dX2_timesSpoken_10 : decode cX2_timesSpoken 10 = .ok (.aload_n 0, 1) := by decide +kernel
theorem dX2_timesSpoken_11 : decode cX2_timesSpoken 11 = .ok (.iload_n 2, 1) := by decide +kernel
theorem dX2_timesSpoken_12 : decode cX2_timesSpoken 12 = .ok (.aload_n 0, 1) := by decide +kernel
theorem dX2_timesSpoken_13 : decode cX2_timesSpoken 13 = .ok (.getfield 12, 3) := by decide +kernel
theorem dX2_timesSpoken_16 : decode cX2_timesSpoken 16 = .ok (.getfield 97, 3) := by decide +kernel
theorem dX2_timesSpoken_19 : decode cX2_timesSpoken 19 = .ok (.iconst (-1), 1) := by decide +kernel
theorem dX2_timesSpoken_20 : decode cX2_timesSpoken 20 = .ok (.invokevirtual 69, 3) := by decide +kernel
theorem dX2_timesSpoken_23 : decode cX2_timesSpoken 23 = .ok (.iconst 0, 1) := by decide +kernel
theorem dX2_timesSpoken_24 : decode cX2_timesSpoken 24 = .ok (.istore_n 3, 1) := by decide +kernel
theorem dX2_timesSpoken_25 : decode cX2_timesSpoken 25 = .ok (.iload_n 3, 1) := by decide +kernel
theorem dX2_timesSpoken_26 : decode cX2_timesSpoken 26 = .ok (.bipush 6, 2) := by decide +kernel
theorem dX2_timesSpoken_28 : decode cX2_timesSpoken 28 = .ok (.if_icmp .ge 20, 3) := by decide +kernel
theorem dX2_timesSpoken_31 : decode cX2_timesSpoken 31 = .ok (.aload_n 0, 1) := by decide +kernel
theorem dX2_timesSpoken_32 : decode cX2_timesSpoken 32 = .ok (.iload_n 3, 1) := by decide +kernel
theorem dX2_timesSpoken_33 : decode cX2_timesSpoken 33 = .ok (.invokevirtual 59, 3) := by decide +kernel
theorem dX2_timesSpoken_36 : decode cX2_timesSpoken 36 = .ok (.ifCond .eq 6, 3) := by decide +kernel
theorem dX2_timesSpoken_39 : decode cX2_timesSpoken 39 = .ok (.iinc 1 1, 3) := by decide +kernel
theorem dX2_timesSpoken_42 : decode cX2_timesSpoken 42 = .ok (.iinc 3 1, 3) := by decide +kernel
theorem dX2_timesSpoken_45 : decode cX2_timesSpoken 45 = .ok (.goto (-20), 3) := by decide +kernel
theorem dX2_timesSpoken_48 : decode cX2_timesSpoken 48 = .ok (.iinc 2 1, 3) := by decide +kernel
theorem dX2_timesSpoken_51 : decode cX2_timesSpoken 51 = .ok (.goto (-47), 3) := by decide +kernel
theorem dX2_timesSpoken_54 : decode cX2_timesSpoken 54 = .ok (.iload_n 1, 1) := by decide +kernel
theorem dX2_timesSpoken_55 : decode cX2_timesSpoken 55 = .ok (.ireturn, 1) := by decide +kernel
theorem dX2_casesOfUnlikeVerdicts_0 : decode cX2_casesOfUnlikeVerdicts 0 = .ok (.iconst 0, 1) := by decide +kernel
theorem dX2_casesOfUnlikeVerdicts_1 : decode cX2_casesOfUnlikeVerdicts 1 = .ok (.istore_n 3, 1) := by decide +kernel
theorem dX2_casesOfUnlikeVerdicts_2 : decode cX2_casesOfUnlikeVerdicts 2 = .ok (.iconst 0, 1) := by decide +kernel
theorem dX2_casesOfUnlikeVerdicts_3 : decode cX2_casesOfUnlikeVerdicts 3 = .ok (.istore 4, 2) := by decide +kernel
theorem dX2_casesOfUnlikeVerdicts_5 : decode cX2_casesOfUnlikeVerdicts 5 = .ok (.iload 4, 2) := by decide +kernel
theorem dX2_casesOfUnlikeVerdicts_7 : decode cX2_casesOfUnlikeVerdicts 7 = .ok (.bipush 100, 2) := by decide +kernel
theorem dX2_casesOfUnlikeVerdicts_9 : decode cX2_casesOfUnlikeVerdicts 9 = .ok (.if_icmp .ge 73, 3) := by decide +kernel
theorem dX2_casesOfUnlikeVerdicts_12 : decode cX2_casesOfUnlikeVerdicts 12 = .ok (.aload_n 0, 1) := by decide +kernel
theorem dX2_casesOfUnlikeVerdicts_13 : decode cX2_casesOfUnlikeVerdicts 13 = .ok (.iload 4, 2) := by decide +kernel
theorem dX2_casesOfUnlikeVerdicts_15 : decode cX2_casesOfUnlikeVerdicts 15 = .ok (.aload_n 0, 1) := by decide +kernel
theorem dX2_casesOfUnlikeVerdicts_16 : decode cX2_casesOfUnlikeVerdicts 16 = .ok (.getfield 12, 3) := by decide +kernel
theorem dX2_casesOfUnlikeVerdicts_19 : decode cX2_casesOfUnlikeVerdicts 19 = .ok (.getfield 97, 3) := by decide +kernel
theorem dX2_casesOfUnlikeVerdicts_22 : decode cX2_casesOfUnlikeVerdicts 22 = .ok (.iconst (-1), 1) := by decide +kernel
theorem dX2_casesOfUnlikeVerdicts_23 : decode cX2_casesOfUnlikeVerdicts 23 = .ok (.invokevirtual 69, 3) := by decide +kernel
theorem dX2_casesOfUnlikeVerdicts_26 : decode cX2_casesOfUnlikeVerdicts 26 = .ok (.aload_n 0, 1) := by decide +kernel
theorem dX2_casesOfUnlikeVerdicts_27 : decode cX2_casesOfUnlikeVerdicts 27 = .ok (.iload_n 1, 1) := by decide +kernel
theorem dX2_casesOfUnlikeVerdicts_28 : decode cX2_casesOfUnlikeVerdicts 28 = .ok (.invokevirtual 59, 3) := by decide +kernel
theorem dX2_casesOfUnlikeVerdicts_31 : decode cX2_casesOfUnlikeVerdicts 31 = .ok (.ifCond .eq 45, 3) := by decide +kernel
theorem dX2_casesOfUnlikeVerdicts_34 : decode cX2_casesOfUnlikeVerdicts 34 = .ok (.aload_n 0, 1) := by decide +kernel
theorem dX2_casesOfUnlikeVerdicts_35 : decode cX2_casesOfUnlikeVerdicts 35 = .ok (.iload_n 2, 1) := by decide +kernel
theorem dX2_casesOfUnlikeVerdicts_36 : decode cX2_casesOfUnlikeVerdicts 36 = .ok (.invokevirtual 59, 3) := by decide +kernel
theorem dX2_casesOfUnlikeVerdicts_39 : decode cX2_casesOfUnlikeVerdicts 39 = .ok (.ifCond .eq 37, 3) := by decide +kernel
theorem dX2_casesOfUnlikeVerdicts_42 : decode cX2_casesOfUnlikeVerdicts 42 = .ok (.aload_n 0, 1) := by decide +kernel
theorem dX2_casesOfUnlikeVerdicts_43 : decode cX2_casesOfUnlikeVerdicts 43 = .ok (.getfield 22, 3) := by decide +kernel
theorem dX2_casesOfUnlikeVerdicts_46 : decode cX2_casesOfUnlikeVerdicts 46 = .ok (.getfield 103, 3) := by decide +kernel
theorem dX2_casesOfUnlikeVerdicts_49 : decode cX2_casesOfUnlikeVerdicts 49 = .ok (.aload_n 0, 1) := by decide +kernel
theorem dX2_casesOfUnlikeVerdicts_50 : decode cX2_casesOfUnlikeVerdicts 50 = .ok (.getfield 23, 3) := by decide +kernel
theorem dX2_casesOfUnlikeVerdicts_53 : decode cX2_casesOfUnlikeVerdicts 53 = .ok (.iload_n 1, 1) := by decide +kernel
theorem dX2_casesOfUnlikeVerdicts_54 : decode cX2_casesOfUnlikeVerdicts 54 = .ok (.iaload, 1) := by decide +kernel
theorem dX2_casesOfUnlikeVerdicts_55 : decode cX2_casesOfUnlikeVerdicts 55 = .ok (.iaload, 1) := by decide +kernel
theorem dX2_casesOfUnlikeVerdicts_56 : decode cX2_casesOfUnlikeVerdicts 56 = .ok (.aload_n 0, 1) := by decide +kernel
theorem dX2_casesOfUnlikeVerdicts_57 : decode cX2_casesOfUnlikeVerdicts 57 = .ok (.getfield 22, 3) := by decide +kernel
theorem dX2_casesOfUnlikeVerdicts_60 : decode cX2_casesOfUnlikeVerdicts 60 = .ok (.getfield 103, 3) := by decide +kernel
theorem dX2_casesOfUnlikeVerdicts_63 : decode cX2_casesOfUnlikeVerdicts 63 = .ok (.aload_n 0, 1) := by decide +kernel
theorem dX2_casesOfUnlikeVerdicts_64 : decode cX2_casesOfUnlikeVerdicts 64 = .ok (.getfield 23, 3) := by decide +kernel
theorem dX2_casesOfUnlikeVerdicts_67 : decode cX2_casesOfUnlikeVerdicts 67 = .ok (.iload_n 2, 1) := by decide +kernel
theorem dX2_casesOfUnlikeVerdicts_68 : decode cX2_casesOfUnlikeVerdicts 68 = .ok (.iaload, 1) := by decide +kernel
theorem dX2_casesOfUnlikeVerdicts_69 : decode cX2_casesOfUnlikeVerdicts 69 = .ok (.iaload, 1) := by decide +kernel
theorem dX2_casesOfUnlikeVerdicts_70 : decode cX2_casesOfUnlikeVerdicts 70 = .ok (.if_icmp .eq 6, 3) := by decide +kernel
theorem dX2_casesOfUnlikeVerdicts_73 : decode cX2_casesOfUnlikeVerdicts 73 = .ok (.iinc 3 1, 3) := by decide +kernel
theorem dX2_casesOfUnlikeVerdicts_76 : decode cX2_casesOfUnlikeVerdicts 76 = .ok (.iinc 4 1, 3) := by decide +kernel
theorem dX2_casesOfUnlikeVerdicts_79 : decode cX2_casesOfUnlikeVerdicts 79 = .ok (.goto (-74), 3) := by decide +kernel
theorem dX2_casesOfUnlikeVerdicts_82 : decode cX2_casesOfUnlikeVerdicts 82 = .ok (.iload_n 3, 1) := by decide +kernel
theorem dX2_casesOfUnlikeVerdicts_83 : decode cX2_casesOfUnlikeVerdicts 83 = .ok (.ireturn, 1) := by decide +kernel
theorem dX3_init_0 : decode cX3_init 0 = .ok (.aload_n 0, 1) := by decide +kernel
theorem dX3_init_1 : decode cX3_init 1 = .ok (.invokespecial 3, 3) := by decide +kernel
theorem dX3_init_4 : decode cX3_init 4 = .ok (.aload_n 0, 1) := by decide +kernel
theorem dX3_init_5 : decode cX3_init 5 = .ok (.bipush 100, 2) := by decide +kernel
theorem dX3_init_7 : decode cX3_init 7 = .ok (.newarray .int, 2) := by decide +kernel
theorem dX3_init_9 : decode cX3_init 9 = .ok (.putfield 9, 3) := by decide +kernel
theorem dX3_init_12 : decode cX3_init 12 = .ok (.aload_n 0, 1) := by decide +kernel
theorem dX3_init_13 : decode cX3_init 13 = .ok (.bipush 100, 2) := by decide +kernel
theorem dX3_init_15 : decode cX3_init 15 = .ok (.newarray .int, 2) := by decide +kernel
theorem dX3_init_17 : decode cX3_init 17 = .ok (.putfield 15, 3) := by decide +kernel
theorem dX3_init_20 : decode cX3_init 20 = .ok (.aload_n 0, 1) := by decide +kernel
theorem dX3_init_21 : decode cX3_init 21 = .ok (.bipush 30, 2) := by decide +kernel
theorem dX3_init_23 : decode cX3_init 23 = .ok (.newarray .int, 2) := by decide +kernel
theorem dX3_init_25 : decode cX3_init 25 = .ok (.putfield 18, 3) := by decide +kernel
theorem dX3_init_28 : decode cX3_init 28 = .ok (.return_, 1) := by decide +kernel
theorem dX3_paint_0 : decode cX3_paint 0 = .ok (.aload_n 0, 1) := by decide +kernel
theorem dX3_paint_1 : decode cX3_paint 1 = .ok (.aload_n 1, 1) := by decide +kernel
theorem dX3_paint_2 : decode cX3_paint 2 = .ok (.getfield 21, 3) := by decide +kernel
theorem dX3_paint_5 : decode cX3_paint 5 = .ok (.invokevirtual 27, 3) := by decide +kernel
theorem dX3_paint_8 : decode cX3_paint 8 = .ok (.aload_n 0, 1) := by decide +kernel
theorem dX3_paint_9 : decode cX3_paint 9 = .ok (.getfield 9, 3) := by decide +kernel
theorem dX3_paint_12 : decode cX3_paint 12 = .ok (.iconst (-1), 1) := by decide +kernel
theorem dX3_paint_13 : decode cX3_paint 13 = .ok (.invokestatic 31, 3) := by decide +kernel
theorem dX3_paint_16 : decode cX3_paint 16 = .ok (.iconst 0, 1) := by decide +kernel
theorem dX3_paint_17 : decode cX3_paint 17 = .ok (.istore_n 3, 1) := by decide +kernel
theorem dX3_paint_18 : decode cX3_paint 18 = .ok (.iload_n 3, 1) := by decide +kernel
theorem dX3_paint_19 : decode cX3_paint 19 = .ok (.bipush 6, 2) := by decide +kernel
theorem dX3_paint_21 : decode cX3_paint 21 = .ok (.if_icmp .ge 52, 3) := by decide +kernel
theorem dX3_paint_24 : decode cX3_paint 24 = .ok (.iconst 0, 1) := by decide +kernel
theorem dX3_paint_25 : decode cX3_paint 25 = .ok (.istore 4, 2) := by decide +kernel
theorem dX3_paint_27 : decode cX3_paint 27 = .ok (.iload 4, 2) := by decide +kernel
theorem dX3_paint_29 : decode cX3_paint 29 = .ok (.bipush 6, 2) := by decide +kernel
theorem dX3_paint_31 : decode cX3_paint 31 = .ok (.if_icmp .ge 36, 3) := by decide +kernel
theorem dX3_paint_34 : decode cX3_paint 34 = .ok (.aload_n 1, 1) := by decide +kernel
theorem dX3_paint_35 : decode cX3_paint 35 = .ok (.getfield 37, 3) := by decide +kernel
theorem dX3_paint_38 : decode cX3_paint 38 = .ok (.iload 4, 2) := by decide +kernel
theorem dX3_paint_40 : decode cX3_paint 40 = .ok (.iaload, 1) := by decide +kernel
theorem dX3_paint_41 : decode cX3_paint 41 = .ok (.iload_n 3, 1) := by decide +kernel
theorem dX3_paint_42 : decode cX3_paint 42 = .ok (.if_icmp .ne 19, 3) := by decide +kernel
theorem dX3_paint_45 : decode cX3_paint 45 = .ok (.aload_n 0, 1) := by decide +kernel
theorem dX3_paint_46 : decode cX3_paint 46 = .ok (.aload_n 1, 1) := by decide +kernel
theorem dX3_paint_47 : decode cX3_paint 47 = .ok (.iload 4, 2) := by decide +kernel
theorem dX3_paint_49 : decode cX3_paint 49 = .ok (.iload_n 2, 1) := by decide +kernel
theorem dX3_paint_50 : decode cX3_paint 50 = .ok (.invokevirtual 40, 3) := by decide +kernel
theorem dX3_paint_53 : decode cX3_paint 53 = .ok (.aload_n 0, 1) := by decide +kernel
theorem dX3_paint_54 : decode cX3_paint 54 = .ok (.aload_n 1, 1) := by decide +kernel
theorem dX3_paint_55 : decode cX3_paint 55 = .ok (.getfield 21, 3) := by decide +kernel
theorem dX3_paint_58 : decode cX3_paint 58 = .ok (.invokevirtual 44, 3) := by decide +kernel
theorem dX3_paint_61 : decode cX3_paint 61 = .ok (.iinc 4 1, 3) := by decide +kernel
theorem dX3_paint_64 : decode cX3_paint 64 = .ok (.goto (-37), 3) := by decide +kernel
theorem dX3_paint_67 : decode cX3_paint 67 = .ok (.iinc 3 1, 3) := by decide +kernel
theorem dX3_paint_70 : decode cX3_paint 70 = .ok (.goto (-52), 3) := by decide +kernel
theorem dX3_paint_73 : decode cX3_paint 73 = .ok (.return_, 1) := by decide +kernel
theorem dX3_sortByDates_0 : decode cX3_sortByDates 0 = .ok (.iconst 0, 1) := by decide +kernel
theorem dX3_sortByDates_1 : decode cX3_sortByDates 1 = .ok (.istore_n 2, 1) := by decide +kernel
theorem dX3_sortByDates_2 : decode cX3_sortByDates 2 = .ok (.iload_n 2, 1) := by decide +kernel
theorem dX3_sortByDates_3 : decode cX3_sortByDates 3 = .ok (.aload_n 1, 1) := by decide +kernel
theorem dX3_sortByDates_4 : decode cX3_sortByDates 4 = .ok (.getfield 47, 3) := by decide +kernel
theorem dX3_sortByDates_7 : decode cX3_sortByDates 7 = .ok (.if_icmp .ge 64, 3) := by decide +kernel
theorem dX3_sortByDates_10 : decode cX3_sortByDates 10 = .ok (.iload_n 2, 1) := by decide +kernel
theorem dX3_sortByDates_11 : decode cX3_sortByDates 11 = .ok (.istore_n 3, 1) := by decide +kernel
theorem dX3_sortByDates_12 : decode cX3_sortByDates 12 = .ok (.iload_n 3, 1) := by decide +kernel
theorem dX3_sortByDates_13 : decode cX3_sortByDates 13 = .ok (.ifCond .le 45, 3) := by decide +kernel
theorem dX3_sortByDates_16 : decode cX3_sortByDates 16 = .ok (.aload_n 1, 1) := by decide +kernel
theorem dX3_sortByDates_17 : decode cX3_sortByDates 17 = .ok (.getfield 53, 3) := by decide +kernel
theorem dX3_sortByDates_20 : decode cX3_sortByDates 20 = .ok (.aload_n 0, 1) := by decide +kernel
theorem dX3_sortByDates_21 : decode cX3_sortByDates 21 = .ok (.getfield 18, 3) := by decide +kernel
theorem dX3_sortByDates_24 : decode cX3_sortByDates 24 = .ok (.iload_n 3, 1) := by decide +kernel
theorem dX3_sortByDates_25 : decode cX3_sortByDates 25 = .ok (.iconst 1, 1) := by decide +kernel
theorem dX3_sortByDates_26 : decode cX3_sortByDates 26 = .ok (.isub, 1) := by decide +kernel
theorem dX3_sortByDates_27 : decode cX3_sortByDates 27 = .ok (.iaload, 1) := by decide +kernel
theorem dX3_sortByDates_28 : decode cX3_sortByDates 28 = .ok (.iaload, 1) := by decide +kernel
theorem dX3_sortByDates_29 : decode cX3_sortByDates 29 = .ok (.aload_n 1, 1) := by decide +kernel
theorem dX3_sortByDates_30 : decode cX3_sortByDates 30 = .ok (.getfield 53, 3) := by decide +kernel
theorem dX3_sortByDates_33 : decode cX3_sortByDates 33 = .ok (.iload_n 2, 1) := by decide +kernel
theorem dX3_sortByDates_34 : decode cX3_sortByDates 34 = .ok (.iaload, 1) := by decide +kernel
theorem dX3_sortByDates_35 : decode cX3_sortByDates 35 = .ok (.if_icmp .le 23, 3) := by decide +kernel
theorem dX3_sortByDates_38 : decode cX3_sortByDates 38 = .ok (.aload_n 0, 1) := by decide +kernel
theorem dX3_sortByDates_39 : decode cX3_sortByDates 39 = .ok (.getfield 18, 3) := by decide +kernel
theorem dX3_sortByDates_42 : decode cX3_sortByDates 42 = .ok (.iload_n 3, 1) := by decide +kernel
theorem dX3_sortByDates_43 : decode cX3_sortByDates 43 = .ok (.aload_n 0, 1) := by decide +kernel
theorem dX3_sortByDates_44 : decode cX3_sortByDates 44 = .ok (.getfield 18, 3) := by decide +kernel
theorem dX3_sortByDates_47 : decode cX3_sortByDates 47 = .ok (.iload_n 3, 1) := by decide +kernel
theorem dX3_sortByDates_48 : decode cX3_sortByDates 48 = .ok (.iconst 1, 1) := by decide +kernel
theorem dX3_sortByDates_49 : decode cX3_sortByDates 49 = .ok (.isub, 1) := by decide +kernel
theorem dX3_sortByDates_50 : decode cX3_sortByDates 50 = .ok (.iaload, 1) := by decide +kernel
theorem dX3_sortByDates_51 : decode cX3_sortByDates 51 = .ok (.iastore, 1) := by decide +kernel
theorem dX3_sortByDates_52 : decode cX3_sortByDates 52 = .ok (.iinc 3 (-1), 3) := by decide +kernel
theorem dX3_sortByDates_55 : decode cX3_sortByDates 55 = .ok (.goto (-43), 3) := by decide +kernel
theorem dX3_sortByDates_58 : decode cX3_sortByDates 58 = .ok (.aload_n 0, 1) := by decide +kernel
theorem dX3_sortByDates_59 : decode cX3_sortByDates 59 = .ok (.getfield 18, 3) := by decide +kernel
theorem dX3_sortByDates_62 : decode cX3_sortByDates 62 = .ok (.iload_n 3, 1) := by decide +kernel
theorem dX3_sortByDates_63 : decode cX3_sortByDates 63 = .ok (.iload_n 2, 1) := by decide +kernel
theorem dX3_sortByDates_64 : decode cX3_sortByDates 64 = .ok (.iastore, 1) := by decide +kernel
theorem dX3_sortByDates_65 : decode cX3_sortByDates 65 = .ok (.iinc 2 1, 3) := by decide +kernel
theorem dX3_sortByDates_68 : decode cX3_sortByDates 68 = .ok (.goto (-66), 3) := by decide +kernel
theorem dX3_sortByDates_71 : decode cX3_sortByDates 71 = .ok (.return_, 1) := by decide +kernel
theorem dX3_paintCoat_0 : decode cX3_paintCoat 0 = .ok (.aload_n 0, 1) := by decide +kernel
theorem dX3_paintCoat_1 : decode cX3_paintCoat 1 = .ok (.getfield 15, 3) := by decide +kernel
theorem dX3_paintCoat_4 : decode cX3_paintCoat 4 = .ok (.iconst (-1), 1) := by decide +kernel
theorem dX3_paintCoat_5 : decode cX3_paintCoat 5 = .ok (.invokestatic 31, 3) := by decide +kernel
theorem dX3_paintCoat_8 : decode cX3_paintCoat 8 = .ok (.aload_n 1, 1) := by decide +kernel
theorem dX3_paintCoat_9 : decode cX3_paintCoat 9 = .ok (.getfield 21, 3) := by decide +kernel
theorem dX3_paintCoat_12 : decode cX3_paintCoat 12 = .ok (.astore 4, 2) := by decide +kernel
theorem dX3_paintCoat_14 : decode cX3_paintCoat 14 = .ok (.iconst 0, 1) := by decide +kernel
theorem dX3_paintCoat_15 : decode cX3_paintCoat 15 = .ok (.istore 5, 2) := by decide +kernel
theorem dX3_paintCoat_17 : decode cX3_paintCoat 17 = .ok (.iload 5, 2) := by decide +kernel
theorem dX3_paintCoat_19 : decode cX3_paintCoat 19 = .ok (.aload 4, 2) := by decide +kernel
theorem dX3_paintCoat_21 : decode cX3_paintCoat 21 = .ok (.getfield 47, 3) := by decide +kernel
theorem dX3_paintCoat_24 : decode cX3_paintCoat 24 = .ok (.if_icmp .ge 91, 3) := by decide +kernel
theorem dX3_paintCoat_27 : decode cX3_paintCoat 27 = .ok (.aload_n 0, 1) := by decide +kernel
theorem dX3_paintCoat_28 : decode cX3_paintCoat 28 = .ok (.getfield 18, 3) := by decide +kernel
theorem dX3_paintCoat_31 : decode cX3_paintCoat 31 = .ok (.iload 5, 2) := by decide +kernel
theorem dX3_paintCoat_33 : decode cX3_paintCoat 33 = .ok (.iaload, 1) := by decide +kernel
theorem dX3_paintCoat_34 : decode cX3_paintCoat 34 = .ok (.istore 6, 2) := by decide +kernel
theorem dX3_paintCoat_36 : decode cX3_paintCoat 36 = .ok (.aload 4, 2) := by decide +kernel
theorem dX3_paintCoat_38 : decode cX3_paintCoat 38 = .ok (.getfield 56, 3) := by decide +kernel
theorem dX3_paintCoat_41 : decode cX3_paintCoat 41 = .ok (.iload 6, 2) := by decide +kernel
theorem dX3_paintCoat_43 : decode cX3_paintCoat 43 = .ok (.iaload, 1) := by decide +kernel
theorem dX3_paintCoat_44 : decode cX3_paintCoat 44 = .ok (.iload_n 2, 1) := by decide +kernel
theorem dX3_paintCoat_45 : decode cX3_paintCoat 45 = .ok (.if_icmp .ne 64, 3) := by decide +kernel
theorem dX3_paintCoat_48 : decode cX3_paintCoat 48 = .ok (.aload 4, 2) := by decide +kernel
theorem dX3_paintCoat_50 : decode cX3_paintCoat 50 = .ok (.iload 6, 2) := by decide +kernel
theorem dX3_paintCoat_52 : decode cX3_paintCoat 52 = .ok (.iload_n 3, 1) := by decide +kernel
theorem dX3_paintCoat_53 : decode cX3_paintCoat 53 = .ok (.invokevirtual 59, 3) := by decide +kernel
theorem dX3_paintCoat_56 : decode cX3_paintCoat 56 = .ok (.ifCond .eq 53, 3) := by decide +kernel
theorem dX3_paintCoat_59 : decode cX3_paintCoat 59 = .ok (.aload 4, 2) := by decide +kernel
theorem dX3_paintCoat_61 : decode cX3_paintCoat 61 = .ok (.getfield 63, 3) := by decide +kernel
theorem dX3_paintCoat_64 : decode cX3_paintCoat 64 = .ok (.iload 6, 2) := by decide +kernel
theorem dX3_paintCoat_66 : decode cX3_paintCoat 66 = .ok (.iaload, 1) := by decide +kernel
theorem dX3_paintCoat_67 : decode cX3_paintCoat 67 = .ok (.aload_n 1, 1) := by decide +kernel
theorem dX3_paintCoat_68 : decode cX3_paintCoat 68 = .ok (.getfield 66, 3) := by decide +kernel
theorem dX3_paintCoat_71 : decode cX3_paintCoat 71 = .ok (.iload_n 2, 1) := by decide +kernel
theorem dX3_paintCoat_72 : decode cX3_paintCoat 72 = .ok (.iaload, 1) := by decide +kernel
theorem dX3_paintCoat_73 : decode cX3_paintCoat 73 = .ok (.invokestatic 69, 3) := by decide +kernel
theorem dX3_paintCoat_76 : decode cX3_paintCoat 76 = .ok (.istore 7, 2) := by decide +kernel
theorem dX3_paintCoat_78 : decode cX3_paintCoat 78 = .ok (.aload 4, 2) := by decide +kernel
theorem dX3_paintCoat_80 : decode cX3_paintCoat 80 = .ok (.getfield 75, 3) := by decide +kernel
theorem dX3_paintCoat_83 : decode cX3_paintCoat 83 = .ok (.iload 6, 2) := by decide +kernel
theorem dX3_paintCoat_85 : decode cX3_paintCoat 85 = .ok (.iaload, 1) := by decide +kernel
theorem dX3_paintCoat_86 : decode cX3_paintCoat 86 = .ok (.aload_n 1, 1) := by decide +kernel
theorem dX3_paintCoat_87 : decode cX3_paintCoat 87 = .ok (.getfield 78, 3) := by decide +kernel
theorem dX3_paintCoat_90 : decode cX3_paintCoat 90 = .ok (.iload_n 2, 1) := by decide +kernel
theorem dX3_paintCoat_91 : decode cX3_paintCoat 91 = .ok (.iaload, 1) := by decide +kernel
theorem dX3_paintCoat_92 : decode cX3_paintCoat 92 = .ok (.invokestatic 81, 3) := by decide +kernel
theorem dX3_paintCoat_95 : decode cX3_paintCoat 95 = .ok (.istore 8, 2) := by decide +kernel
theorem dX3_paintCoat_97 : decode cX3_paintCoat 97 = .ok (.aload_n 0, 1) := by decide +kernel
theorem dX3_paintCoat_98 : decode cX3_paintCoat 98 = .ok (.aload 4, 2) := by decide +kernel
theorem dX3_paintCoat_100 : decode cX3_paintCoat 100 = .ok (.iload 6, 2) := by decide +kernel
theorem dX3_paintCoat_102 : decode cX3_paintCoat 102 = .ok (.iload 7, 2) := by decide +kernel
theorem dX3_paintCoat_104 : decode cX3_paintCoat 104 = .ok (.iload 8, 2) := by decide +kernel
theorem dX3_paintCoat_106 : decode cX3_paintCoat 106 = .ok (.invokevirtual 84, 3) := by decide +kernel
theorem dX3_paintCoat_109 : decode cX3_paintCoat 109 = .ok (.iinc 5 1, 3) := by decide +kernel
theorem dX3_paintCoat_112 : decode cX3_paintCoat 112 = .ok (.goto (-95), 3) := by decide +kernel
theorem dX3_paintCoat_115 : decode cX3_paintCoat 115 = .ok (.return_, 1) := by decide +kernel
theorem dX3_paintClause_0 : decode cX3_paintClause 0 = .ok (.iload_n 3, 1) := by decide +kernel
theorem dX3_paintClause_1 : decode cX3_paintClause 1 = .ok (.istore 5, 2) := by decide +kernel
theorem dX3_paintClause_3 : decode cX3_paintClause 3 = .ok (.iload 5, 2) := by decide +kernel
theorem dX3_paintClause_5 : decode cX3_paintClause 5 = .ok (.iload 4, 2) := by decide +kernel
theorem dX3_paintClause_7 : decode cX3_paintClause 7 = .ok (.if_icmp .gt 27, 3) := by decide +kernel
theorem dX3_paintClause_10 : decode cX3_paintClause 10 = .ok (.aload_n 1, 1) := by decide +kernel
theorem dX3_paintClause_11 : decode cX3_paintClause 11 = .ok (.iload_n 2, 1) := by decide +kernel
theorem dX3_paintClause_12 : decode cX3_paintClause 12 = .ok (.iload 5, 2) := by decide +kernel
theorem dX3_paintClause_14 : decode cX3_paintClause 14 = .ok (.invokevirtual 88, 3) := by decide +kernel
theorem dX3_paintClause_17 : decode cX3_paintClause 17 = .ok (.ifCond .ne 11, 3) := by decide +kernel
theorem dX3_paintClause_20 : decode cX3_paintClause 20 = .ok (.aload_n 0, 1) := by decide +kernel
theorem dX3_paintClause_21 : decode cX3_paintClause 21 = .ok (.getfield 15, 3) := by decide +kernel
theorem dX3_paintClause_24 : decode cX3_paintClause 24 = .ok (.iload 5, 2) := by decide +kernel
theorem dX3_paintClause_26 : decode cX3_paintClause 26 = .ok (.iload_n 2, 1) := by decide +kernel
theorem dX3_paintClause_27 : decode cX3_paintClause 27 = .ok (.iastore, 1) := by decide +kernel
theorem dX3_paintClause_28 : decode cX3_paintClause 28 = .ok (.iinc 5 1, 3) := by decide +kernel
theorem dX3_paintClause_31 : decode cX3_paintClause 31 = .ok (.goto (-28), 3) := by decide +kernel
theorem dX3_paintClause_34 : decode cX3_paintClause 34 = .ok (.return_, 1) := by decide +kernel
theorem dX3_layCoat_0 : decode cX3_layCoat 0 = .ok (.iconst 0, 1) := by decide +kernel
theorem dX3_layCoat_1 : decode cX3_layCoat 1 = .ok (.istore_n 2, 1) := by decide +kernel
theorem dX3_layCoat_2 : decode cX3_layCoat 2 = .ok (.iload_n 2, 1) := by decide +kernel
theorem dX3_layCoat_3 : decode cX3_layCoat 3 = .ok (.bipush 100, 2) := by decide +kernel
theorem dX3_layCoat_5 : decode cX3_layCoat 5 = .ok (.if_icmp .ge 36, 3) := by decide +kernel
theorem dX3_layCoat_8 : decode cX3_layCoat 8 = .ok (.aload_n 0, 1) := by decide +kernel
theorem dX3_layCoat_9 : decode cX3_layCoat 9 = .ok (.getfield 15, 3) := by decide +kernel
theorem dX3_layCoat_12 : decode cX3_layCoat 12 = .ok (.iload_n 2, 1) := by decide +kernel
theorem dX3_layCoat_13 : decode cX3_layCoat 13 = .ok (.iaload, 1) := by decide +kernel
theorem dX3_layCoat_14 : decode cX3_layCoat 14 = .ok (.istore_n 3, 1) := by decide +kernel
theorem dX3_layCoat_15 : decode cX3_layCoat 15 = .ok (.iload_n 3, 1) := by decide +kernel
theorem dX3_layCoat_16 : decode cX3_layCoat 16 = .ok (.iconst (-1), 1) := by decide +kernel
theorem dX3_layCoat_17 : decode cX3_layCoat 17 = .ok (.if_icmp .eq 18, 3) := by decide +kernel
theorem dX3_layCoat_20 : decode cX3_layCoat 20 = .ok (.aload_n 1, 1) := by decide +kernel
theorem dX3_layCoat_21 : decode cX3_layCoat 21 = .ok (.iload_n 3, 1) := by decide +kernel
theorem dX3_layCoat_22 : decode cX3_layCoat 22 = .ok (.invokevirtual 91, 3) := by decide +kernel
theorem dX3_layCoat_25 : decode cX3_layCoat 25 = .ok (.ifCond .eq 10, 3) := by decide +kernel
theorem dX3_layCoat_28 : decode cX3_layCoat 28 = .ok (.aload_n 0, 1) := by decide +kernel
theorem dX3_layCoat_29 : decode cX3_layCoat 29 = .ok (.getfield 9, 3) := by decide +kernel
theorem dX3_layCoat_32 : decode cX3_layCoat 32 = .ok (.iload_n 2, 1) := by decide +kernel
theorem dX3_layCoat_33 : decode cX3_layCoat 33 = .ok (.iload_n 3, 1) := by decide +kernel
theorem dX3_layCoat_34 : decode cX3_layCoat 34 = .ok (.iastore, 1) := by decide +kernel
theorem dX3_layCoat_35 : decode cX3_layCoat 35 = .ok (.iinc 2 1, 3) := by decide +kernel
theorem dX3_layCoat_38 : decode cX3_layCoat 38 = .ok (.goto (-36), 3) := by decide +kernel
theorem dX3_layCoat_41 : decode cX3_layCoat 41 = .ok (.return_, 1) := by decide +kernel
theorem dX4_init_0 : decode cX4_init 0 = .ok (.aload_n 0, 1) := by decide +kernel
theorem dX4_init_1 : decode cX4_init 1 = .ok (.invokespecial 3, 3) := by decide +kernel
theorem dX4_init_4 : decode cX4_init 4 = .ok (.aload_n 0, 1) := by decide +kernel
theorem dX4_init_5 : decode cX4_init 5 = .ok (.bipush 80, 2) := by decide +kernel
theorem dX4_init_7 : decode cX4_init 7 = .ok (.newarray .char, 2) := by decide +kernel
theorem dX4_init_9 : decode cX4_init 9 = .ok (.putfield 9, 3) := by decide +kernel
theorem dX4_init_12 : decode cX4_init 12 = .ok (.aload_n 0, 1) := by decide +kernel
theorem dX4_init_13 : decode cX4_init 13 = .ok (.iconst 0, 1) := by decide +kernel
theorem dX4_init_14 : decode cX4_init 14 = .ok (.putfield 15, 3) := by decide +kernel
theorem dX4_init_17 : decode cX4_init 17 = .ok (.aload_n 0, 1) := by decide +kernel
theorem dX4_init_18 : decode cX4_init 18 = .ok (.iconst 0, 1) := by decide +kernel
theorem dX4_init_19 : decode cX4_init 19 = .ok (.putfield 19, 3) := by decide +kernel
theorem dX4_init_22 : decode cX4_init 22 = .ok (.aload_n 0, 1) := by decide +kernel
theorem dX4_init_23 : decode cX4_init 23 = .ok (.iconst 0, 1) := by decide +kernel
theorem dX4_init_24 : decode cX4_init 24 = .ok (.putfield 22, 3) := by decide +kernel
theorem dX4_init_27 : decode cX4_init 27 = .ok (.aload_n 0, 1) := by decide +kernel
theorem dX4_init_28 : decode cX4_init 28 = .ok (.iconst 0, 1) := by decide +kernel
theorem dX4_init_29 : decode cX4_init 29 = .ok (.putfield 25, 3) := by decide +kernel
theorem dX4_init_32 : decode cX4_init 32 = .ok (.aload_n 0, 1) := by decide +kernel
theorem dX4_init_33 : decode cX4_init 33 = .ok (.iconst 0, 1) := by decide +kernel
theorem dX4_init_34 : decode cX4_init 34 = .ok (.putfield 28, 3) := by decide +kernel
theorem dX4_init_37 : decode cX4_init 37 = .ok (.return_, 1) := by decide +kernel
theorem dX4_add_0 : decode cX4_add 0 = .ok (.aload_n 0, 1) := by decide +kernel
theorem dX4_add_1 : decode cX4_add 1 = .ok (.getfield 15, 3) := by decide +kernel
theorem dX4_add_4 : decode cX4_add 4 = .ok (.bipush 80, 2) := by decide +kernel
theorem dX4_add_6 : decode cX4_add 6 = .ok (.if_icmp .ge 23, 3) := by decide +kernel
theorem dX4_add_9 : decode cX4_add 9 = .ok (.aload_n 0, 1) := by decide +kernel
theorem dX4_add_10 : decode cX4_add 10 = .ok (.getfield 9, 3) := by decide +kernel
theorem dX4_add_13 : decode cX4_add 13 = .ok (.aload_n 0, 1) := by decide +kernel
theorem dX4_add_14 : decode cX4_add 14 = .ok (.getfield 15, 3) := by decide +kernel
theorem dX4_add_17 : decode cX4_add 17 = .ok (.iload_n 1, 1) := by decide +kernel
theorem dX4_add_18 : decode cX4_add 18 = .ok (.castore, 1) := by decide +kernel
theorem dX4_add_19 : decode cX4_add 19 = .ok (.aload_n 0, 1) := by decide +kernel
theorem dX4_add_20 : decode cX4_add 20 = .ok (.dup, 1) := by decide +kernel
theorem dX4_add_21 : decode cX4_add 21 = .ok (.getfield 15, 3) := by decide +kernel
theorem dX4_add_24 : decode cX4_add 24 = .ok (.iconst 1, 1) := by decide +kernel
theorem dX4_add_25 : decode cX4_add 25 = .ok (.iadd, 1) := by decide +kernel
theorem dX4_add_26 : decode cX4_add 26 = .ok (.putfield 15, 3) := by decide +kernel
theorem dX4_add_29 : decode cX4_add 29 = .ok (.return_, 1) := by decide +kernel
theorem dX4_readClauses_0 : decode cX4_readClauses 0 = .ok (.aload_n 0, 1) := by decide +kernel
theorem dX4_readClauses_1 : decode cX4_readClauses 1 = .ok (.iconst 0, 1) := by decide +kernel
theorem dX4_readClauses_2 : decode cX4_readClauses 2 = .ok (.putfield 19, 3) := by decide +kernel
theorem dX4_readClauses_5 : decode cX4_readClauses 5 = .ok (.aload_n 1, 1) := by decide +kernel
theorem dX4_readClauses_6 : decode cX4_readClauses 6 = .ok (.iconst 0, 1) := by decide +kernel
theorem dX4_readClauses_7 : decode cX4_readClauses 7 = .ok (.putfield 31, 3) := by decide +kernel
theorem dX4_readClauses_10 : decode cX4_readClauses 10 = .ok (.iconst 0, 1) := by decide +kernel
theorem dX4_readClauses_11 : decode cX4_readClauses 11 = .ok (.istore_n 2, 1) := by decide +kernel
theorem dX4_readClauses_12 : decode cX4_readClauses 12 = .ok (.iload_n 2, 1) := by decide +kernel
theorem dX4_readClauses_13 : decode cX4_readClauses 13 = .ok (.bipush 80, 2) := by decide +kernel
theorem dX4_readClauses_15 : decode cX4_readClauses 15 = .ok (.if_icmp .gt 43, 3) := by decide +kernel
theorem dX4_readClauses_18 : decode cX4_readClauses 18 = .ok (.aload_n 0, 1) := by decide +kernel
theorem dX4_readClauses_19 : decode cX4_readClauses 19 = .ok (.aload_n 1, 1) := by decide +kernel
theorem dX4_readClauses_20 : decode cX4_readClauses 20 = .ok (.invokevirtual 36, 3) := by decide +kernel
theorem dX4_readClauses_23 : decode cX4_readClauses 23 = .ok (.ifCond .ne 5, 3) := by decide +kernel
theorem dX4_readClauses_26 : decode cX4_readClauses 26 = .ok (.iconst 0, 1) := by decide +kernel
theorem dX4_readClauses_27 : decode cX4_readClauses 27 = .ok (.ireturn, 1) := by decide +kernel
theorem dX4_readClauses_28 : decode cX4_readClauses 28 = .ok (.aload_n 0, 1) := by decide +kernel
theorem dX4_readClauses_29 : decode cX4_readClauses 29 = .ok (.getfield 19, 3) := by decide +kernel
theorem dX4_readClauses_32 : decode cX4_readClauses 32 = .ok (.aload_n 0, 1) := by decide +kernel
theorem dX4_readClauses_33 : decode cX4_readClauses 33 = .ok (.getfield 15, 3) := by decide +kernel
theorem dX4_readClauses_36 : decode cX4_readClauses 36 = .ok (.if_icmp .ne 5, 3) := by decide +kernel
theorem dX4_readClauses_39 : decode cX4_readClauses 39 = .ok (.iconst 1, 1) := by decide +kernel
theorem dX4_readClauses_40 : decode cX4_readClauses 40 = .ok (.ireturn, 1) := by decide +kernel
theorem dX4_readClauses_41 : decode cX4_readClauses 41 = .ok (.aload_n 0, 1) := by decide +kernel
theorem dX4_readClauses_42 : decode cX4_readClauses 42 = .ok (.bipush 59, 2) := by decide +kernel
theorem dX4_readClauses_44 : decode cX4_readClauses 44 = .ok (.invokevirtual 40, 3) := by decide +kernel
theorem dX4_readClauses_47 : decode cX4_readClauses 47 = .ok (.ifCond .ne 5, 3) := by decide +kernel
theorem dX4_readClauses_50 : decode cX4_readClauses 50 = .ok (.iconst 0, 1) := by decide +kernel
theorem dX4_readClauses_51 : decode cX4_readClauses 51 = .ok (.ireturn, 1) := by decide +kernel
theorem dX4_readClauses_52 : decode cX4_readClauses 52 = .ok (.iinc 2 1, 3) := by decide +kernel
theorem dX4_readClauses_55 : decode cX4_readClauses 55 = .ok (.goto (-43), 3) := by decide +kernel
theorem dX4_readClauses_58 : decode cX4_readClauses 58 = .ok (.iconst 0, 1) := by decide +kernel
theorem dX4_readClauses_59 : decode cX4_readClauses 59 = .ok (.ireturn, 1) := by decide +kernel
theorem dX4_readClause_0 : decode cX4_readClause 0 = .ok (.aload_n 0, 1) := by decide +kernel
theorem dX4_readClause_1 : decode cX4_readClause 1 = .ok (.iconst 5, 1) := by decide +kernel
theorem dX4_readClause_2 : decode cX4_readClause 2 = .ok (.invokevirtual 44, 3) := by decide +kernel
theorem dX4_readClause_5 : decode cX4_readClause 5 = .ok (.ifCond .ne 5, 3) := by decide +kernel
theorem dX4_readClause_8 : decode cX4_readClause 8 = .ok (.iconst 0, 1) := by decide +kernel
theorem dX4_readClause_9 : decode cX4_readClause 9 = .ok (.ireturn, 1) := by decide +kernel
theorem dX4_readClause_10 : decode cX4_readClause 10 = .ok (.aload_n 0, 1) := by decide +kernel
theorem dX4_readClause_11 : decode cX4_readClause 11 = .ok (.getfield 22, 3) := by decide +kernel
theorem dX4_readClause_14 : decode cX4_readClause 14 = .ok (.istore_n 2, 1) := by decide +kernel
theorem dX4_readClause_15 : decode cX4_readClause 15 = .ok (.aload_n 0, 1) := by decide +kernel
theorem dX4_readClause_16 : decode cX4_readClause 16 = .ok (.bipush 64, 2) := by decide +kernel
theorem dX4_readClause_18 : decode cX4_readClause 18 = .ok (.invokevirtual 40, 3) := by decide +kernel
theorem dX4_readClause_21 : decode cX4_readClause 21 = .ok (.ifCond .eq 13, 3) := by decide +kernel
theorem dX4_readClause_24 : decode cX4_readClause 24 = .ok (.aload_n 0, 1) := by decide +kernel
theorem dX4_readClause_25 : decode cX4_readClause 25 = .ok (.sipush 999, 3) := by decide +kernel
theorem dX4_readClause_28 : decode cX4_readClause 28 = .ok (.invokevirtual 44, 3) := by decide +kernel
theorem dX4_readClause_31 : decode cX4_readClause 31 = .ok (.ifCond .ne 5, 3) := by decide +kernel
theorem dX4_readClause_34 : decode cX4_readClause 34 = .ok (.iconst 0, 1) := by decide +kernel
theorem dX4_readClause_35 : decode cX4_readClause 35 = .ok (.ireturn, 1) := by decide +kernel
theorem dX4_readClause_36 : decode cX4_readClause 36 = .ok (.aload_n 0, 1) := by decide +kernel
theorem dX4_readClause_37 : decode cX4_readClause 37 = .ok (.getfield 22, 3) := by decide +kernel
theorem dX4_readClause_40 : decode cX4_readClause 40 = .ok (.istore_n 3, 1) := by decide +kernel
theorem dX4_readClause_41 : decode cX4_readClause 41 = .ok (.aload_n 0, 1) := by decide +kernel
theorem dX4_readClause_42 : decode cX4_readClause 42 = .ok (.bipush 58, 2) := by decide +kernel
theorem dX4_readClause_44 : decode cX4_readClause 44 = .ok (.invokevirtual 40, 3) := by decide +kernel
theorem dX4_readClause_47 : decode cX4_readClause 47 = .ok (.ifCond .eq 28, 3) := by decide +kernel
theorem dX4_readClause_50 : decode cX4_readClause 50 = .ok (.aload_n 0, 1) := by decide +kernel
theorem dX4_readClause_51 : decode cX4_readClause 51 = .ok (.invokevirtual 48, 3) := by decide +kernel
theorem dX4_readClause_54 : decode cX4_readClause 54 = .ok (.ifCond .eq 21, 3) := by decide +kernel
theorem dX4_readClause_57 : decode cX4_readClause 57 = .ok (.aload_n 0, 1) := by decide +kernel
theorem dX4_readClause_58 : decode cX4_readClause 58 = .ok (.bipush 61, 2) := by decide +kernel
theorem dX4_readClause_60 : decode cX4_readClause 60 = .ok (.invokevirtual 40, 3) := by decide +kernel
theorem dX4_readClause_63 : decode cX4_readClause 63 = .ok (.ifCond .eq 12, 3) := by decide +kernel
theorem dX4_readClause_66 : decode cX4_readClause 66 = .ok (.aload_n 0, 1) := by decide +kernel
theorem dX4_readClause_67 : decode cX4_readClause 67 = .ok (.bipush 9, 2) := by decide +kernel
theorem dX4_readClause_69 : decode cX4_readClause 69 = .ok (.invokevirtual 44, 3) := by decide +kernel
theorem dX4_readClause_72 : decode cX4_readClause 72 = .ok (.ifCond .ne 5, 3) := by decide +kernel
theorem dX4_readClause_75 : decode cX4_readClause 75 = .ok (.iconst 0, 1) := by decide +kernel
theorem dX4_readClause_76 : decode cX4_readClause 76 = .ok (.ireturn, 1) := by decide +kernel
theorem dX4_readClause_77 : decode cX4_readClause 77 = .ok (.aload_n 1, 1) := by decide +kernel
theorem dX4_readClause_78 : decode cX4_readClause 78 = .ok (.iload_n 2, 1) := by decide +kernel
theorem dX4_readClause_79 : decode cX4_readClause 79 = .ok (.iload_n 3, 1) := by decide +kernel
theorem dX4_readClause_80 : decode cX4_readClause 80 = .ok (.aload_n 0, 1) := by decide +kernel
theorem dX4_readClause_81 : decode cX4_readClause 81 = .ok (.getfield 25, 3) := by decide +kernel
theorem dX4_readClause_84 : decode cX4_readClause 84 = .ok (.aload_n 0, 1) := by decide +kernel
theorem dX4_readClause_85 : decode cX4_readClause 85 = .ok (.getfield 28, 3) := by decide +kernel
theorem dX4_readClause_88 : decode cX4_readClause 88 = .ok (.aload_n 0, 1) := by decide +kernel
theorem dX4_readClause_89 : decode cX4_readClause 89 = .ok (.getfield 22, 3) := by decide +kernel
theorem dX4_readClause_92 : decode cX4_readClause 92 = .ok (.invokevirtual 52, 3) := by decide +kernel
theorem dX4_readClause_95 : decode cX4_readClause 95 = .ok (.istore 4, 2) := by decide +kernel
theorem dX4_readClause_97 : decode cX4_readClause 97 = .ok (.aload_n 0, 1) := by decide +kernel
theorem dX4_readClause_98 : decode cX4_readClause 98 = .ok (.bipush 33, 2) := by decide +kernel
theorem dX4_readClause_100 : decode cX4_readClause 100 = .ok (.invokevirtual 40, 3) := by decide +kernel
theorem dX4_readClause_103 : decode cX4_readClause 103 = .ok (.ifCond .eq 13, 3) := by decide +kernel
theorem dX4_readClause_106 : decode cX4_readClause 106 = .ok (.aload_n 0, 1) := by decide +kernel
theorem dX4_readClause_107 : decode cX4_readClause 107 = .ok (.aload_n 1, 1) := by decide +kernel
theorem dX4_readClause_108 : decode cX4_readClause 108 = .ok (.iload 4, 2) := by decide +kernel
theorem dX4_readClause_110 : decode cX4_readClause 110 = .ok (.invokevirtual 56, 3) := by decide +kernel
theorem dX4_readClause_113 : decode cX4_readClause 113 = .ok (.ifCond .eq 7, 3) := by decide +kernel
theorem dX4_readClause_116 : decode cX4_readClause 116 = .ok (.iconst 1, 1) := by decide +kernel
theorem dX4_readClause_117 : decode cX4_readClause 117 = .ok (.goto 4, 3) := by decide +kernel
theorem dX4_readClause_120 : decode cX4_readClause 120 = .ok (.iconst 0, 1) := by decide +kernel
theorem dX4_readClause_121 : decode cX4_readClause 121 = .ok (.ireturn, 1) := by decide +kernel
theorem dX4_readExceptions_0 : decode cX4_readExceptions 0 = .ok (.iconst 0, 1) := by decide +kernel
theorem dX4_readExceptions_1 : decode cX4_readExceptions 1 = .ok (.istore_n 3, 1) := by decide +kernel
theorem dX4_readExceptions_2 : decode cX4_readExceptions 2 = .ok (.iload_n 3, 1) := by decide +kernel
theorem dX4_readExceptions_3 : decode cX4_readExceptions 3 = .ok (.iconst 3, 1) := by decide +kernel
theorem dX4_readExceptions_4 : decode cX4_readExceptions 4 = .ok (.if_icmp .ge 46, 3) := by decide +kernel
theorem dX4_readExceptions_7 : decode cX4_readExceptions 7 = .ok (.iload_n 3, 1) := by decide +kernel
theorem dX4_readExceptions_8 : decode cX4_readExceptions 8 = .ok (.ifCond .le 14, 3) := by decide +kernel
theorem dX4_readExceptions_11 : decode cX4_readExceptions 11 = .ok (.aload_n 0, 1) := by decide +kernel
theorem dX4_readExceptions_12 : decode cX4_readExceptions 12 = .ok (.bipush 44, 2) := by decide +kernel
theorem dX4_readExceptions_14 : decode cX4_readExceptions 14 = .ok (.invokevirtual 40, 3) := by decide +kernel
theorem dX4_readExceptions_17 : decode cX4_readExceptions 17 = .ok (.ifCond .ne 5, 3) := by decide +kernel
theorem dX4_readExceptions_20 : decode cX4_readExceptions 20 = .ok (.iconst 1, 1) := by decide +kernel
theorem dX4_readExceptions_21 : decode cX4_readExceptions 21 = .ok (.ireturn, 1) := by decide +kernel
theorem dX4_readExceptions_22 : decode cX4_readExceptions 22 = .ok (.aload_n 0, 1) := by decide +kernel
theorem dX4_readExceptions_23 : decode cX4_readExceptions 23 = .ok (.invokevirtual 48, 3) := by decide +kernel
theorem dX4_readExceptions_26 : decode cX4_readExceptions 26 = .ok (.ifCond .ne 5, 3) := by decide +kernel
theorem dX4_readExceptions_29 : decode cX4_readExceptions 29 = .ok (.iconst 0, 1) := by decide +kernel
theorem dX4_readExceptions_30 : decode cX4_readExceptions 30 = .ok (.ireturn, 1) := by decide +kernel
theorem dX4_readExceptions_31 : decode cX4_readExceptions 31 = .ok (.aload_n 1, 1) := by decide +kernel
theorem dX4_readExceptions_32 : decode cX4_readExceptions 32 = .ok (.iload_n 2, 1) := by decide +kernel
theorem dX4_readExceptions_33 : decode cX4_readExceptions 33 = .ok (.aload_n 0, 1) := by decide +kernel
theorem dX4_readExceptions_34 : decode cX4_readExceptions 34 = .ok (.getfield 25, 3) := by decide +kernel
theorem dX4_readExceptions_37 : decode cX4_readExceptions 37 = .ok (.aload_n 0, 1) := by decide +kernel
theorem dX4_readExceptions_38 : decode cX4_readExceptions 38 = .ok (.getfield 28, 3) := by decide +kernel
theorem dX4_readExceptions_41 : decode cX4_readExceptions 41 = .ok (.invokevirtual 60, 3) := by decide +kernel
theorem dX4_readExceptions_44 : decode cX4_readExceptions 44 = .ok (.iinc 3 1, 3) := by decide +kernel
theorem dX4_readExceptions_47 : decode cX4_readExceptions 47 = .ok (.goto (-45), 3) := by decide +kernel
theorem dX4_readExceptions_50 : decode cX4_readExceptions 50 = .ok (.iconst 1, 1) := by decide +kernel
theorem dX4_readExceptions_51 : decode cX4_readExceptions 51 = .ok (.ireturn, 1) := by decide +kernel
theorem dX4_readSpan_0 : decode cX4_readSpan 0 = .ok (.aload_n 0, 1) := by decide +kernel
theorem dX4_readSpan_1 : decode cX4_readSpan 1 = .ok (.bipush 99, 2) := by decide +kernel
theorem dX4_readSpan_3 : decode cX4_readSpan 3 = .ok (.invokevirtual 44, 3) := by decide +kernel
theorem dX4_readSpan_6 : decode cX4_readSpan 6 = .ok (.ifCond .ne 5, 3) := by decide +kernel
theorem dX4_readSpan_9 : decode cX4_readSpan 9 = .ok (.iconst 0, 1) := by decide +kernel
theorem dX4_readSpan_10 : decode cX4_readSpan 10 = .ok (.ireturn, 1) := by decide +kernel
theorem dX4_readSpan_11 : decode cX4_readSpan 11 = .ok (.aload_n 0, 1) := by decide +kernel
theorem dX4_readSpan_12 : decode cX4_readSpan 12 = .ok (.aload_n 0, 1) := by decide +kernel
theorem dX4_readSpan_13 : decode cX4_readSpan 13 = .ok (.getfield 22, 3) := by decide +kernel
theorem dX4_readSpan_16 : decode cX4_readSpan 16 = .ok (.putfield 25, 3) := by decide +kernel
theorem dX4_readSpan_19 : decode cX4_readSpan 19 = .ok (.aload_n 0, 1) := by decide +kernel
theorem dX4_readSpan_20 : decode cX4_readSpan 20 = .ok (.bipush 45, 2) := by decide +kernel
theorem dX4_readSpan_22 : decode cX4_readSpan 22 = .ok (.invokevirtual 40, 3) := by decide +kernel
theorem dX4_readSpan_25 : decode cX4_readSpan 25 = .ok (.ifCond .eq 12, 3) := by decide +kernel
theorem dX4_readSpan_28 : decode cX4_readSpan 28 = .ok (.aload_n 0, 1) := by decide +kernel
theorem dX4_readSpan_29 : decode cX4_readSpan 29 = .ok (.bipush 99, 2) := by decide +kernel
theorem dX4_readSpan_31 : decode cX4_readSpan 31 = .ok (.invokevirtual 44, 3) := by decide +kernel
theorem dX4_readSpan_34 : decode cX4_readSpan 34 = .ok (.ifCond .ne 5, 3) := by decide +kernel
theorem dX4_readSpan_37 : decode cX4_readSpan 37 = .ok (.iconst 0, 1) := by decide +kernel
theorem dX4_readSpan_38 : decode cX4_readSpan 38 = .ok (.ireturn, 1) := by decide +kernel
theorem dX4_readSpan_39 : decode cX4_readSpan 39 = .ok (.aload_n 0, 1) := by decide +kernel
theorem dX4_readSpan_40 : decode cX4_readSpan 40 = .ok (.aload_n 0, 1) := by decide +kernel
theorem dX4_readSpan_41 : decode cX4_readSpan 41 = .ok (.getfield 22, 3) := by decide +kernel
theorem dX4_readSpan_44 : decode cX4_readSpan 44 = .ok (.putfield 28, 3) := by decide +kernel
theorem dX4_readSpan_47 : decode cX4_readSpan 47 = .ok (.iconst 1, 1) := by decide +kernel
theorem dX4_readSpan_48 : decode cX4_readSpan 48 = .ok (.ireturn, 1) := by decide +kernel
theorem dX4_readSign_0 : decode cX4_readSign 0 = .ok (.aload_n 0, 1) := by decide +kernel
theorem dX4_readSign_1 : decode cX4_readSign 1 = .ok (.getfield 19, 3) := by decide +kernel
theorem dX4_readSign_4 : decode cX4_readSign 4 = .ok (.aload_n 0, 1) := by decide +kernel
theorem dX4_readSign_5 : decode cX4_readSign 5 = .ok (.getfield 15, 3) := by decide +kernel
theorem dX4_readSign_8 : decode cX4_readSign 8 = .ok (.if_icmp .ge 16, 3) := by decide +kernel
theorem dX4_readSign_11 : decode cX4_readSign 11 = .ok (.aload_n 0, 1) := by decide +kernel
theorem dX4_readSign_12 : decode cX4_readSign 12 = .ok (.getfield 9, 3) := by decide +kernel
theorem dX4_readSign_15 : decode cX4_readSign 15 = .ok (.aload_n 0, 1) := by decide +kernel
theorem dX4_readSign_16 : decode cX4_readSign 16 = .ok (.getfield 19, 3) := by decide +kernel
theorem dX4_readSign_19 : decode cX4_readSign 19 = .ok (.caload, 1) := by decide +kernel
theorem dX4_readSign_20 : decode cX4_readSign 20 = .ok (.iload_n 1, 1) := by decide +kernel
theorem dX4_readSign_21 : decode cX4_readSign 21 = .ok (.if_icmp .eq 5, 3) := by decide +kernel
theorem dX4_readSign_24 : decode cX4_readSign 24 = .ok (.iconst 0, 1) := by decide +kernel
theorem dX4_readSign_25 : decode cX4_readSign 25 = .ok (.ireturn, 1) := by decide +kernel
theorem dX4_readSign_26 : decode cX4_readSign 26 = .ok (.aload_n 0, 1) := by decide +kernel
theorem dX4_readSign_27 : decode cX4_readSign 27 = .ok (.dup, 1) := by decide +kernel
theorem dX4_readSign_28 : decode cX4_readSign 28 = .ok (.getfield 19, 3) := by decide +kernel
theorem dX4_readSign_31 : decode cX4_readSign 31 = .ok (.iconst 1, 1) := by decide +kernel
theorem dX4_readSign_32 : decode cX4_readSign 32 = .ok (.iadd, 1) := by decide +kernel
theorem dX4_readSign_33 : decode cX4_readSign 33 = .ok (.putfield 19, 3) := by decide +kernel
theorem dX4_readSign_36 : decode cX4_readSign 36 = .ok (.iconst 1, 1) := by decide +kernel
theorem dX4_readSign_37 : decode cX4_readSign 37 = .ok (.ireturn, 1) := by decide +kernel
theorem dX4_readNumber_0 : decode cX4_readNumber 0 = .ok (.aload_n 0, 1) := by decide +kernel
theorem dX4_readNumber_1 : decode cX4_readNumber 1 = .ok (.invokevirtual 64, 3) := by decide +kernel
theorem dX4_readNumber_4 : decode cX4_readNumber 4 = .ok (.istore_n 2, 1) := by decide +kernel
theorem dX4_readNumber_5 : decode cX4_readNumber 5 = .ok (.iload_n 2, 1) := by decide +kernel
theorem dX4_readNumber_6 : decode cX4_readNumber 6 = .ok (.ifCond .lt 8, 3) := by decide +kernel
theorem dX4_readNumber_9 : decode cX4_readNumber 9 = .ok (.iload_n 2, 1) := by decide +kernel
theorem dX4_readNumber_10 : decode cX4_readNumber 10 = .ok (.iload_n 1, 1) := by decide +kernel
theorem dX4_readNumber_11 : decode cX4_readNumber 11 = .ok (.if_icmp .le 5, 3) := by decide +kernel
theorem dX4_readNumber_14 : decode cX4_readNumber 14 = .ok (.iconst 0, 1) := by decide +kernel
theorem dX4_readNumber_15 : decode cX4_readNumber 15 = .ok (.ireturn, 1) := by decide +kernel
theorem dX4_readNumber_16 : decode cX4_readNumber 16 = .ok (.aload_n 0, 1) := by decide +kernel
theorem dX4_readNumber_17 : decode cX4_readNumber 17 = .ok (.iload_n 2, 1) := by decide +kernel
theorem dX4_readNumber_18 : decode cX4_readNumber 18 = .ok (.putfield 22, 3) := by decide +kernel
theorem dX4_readNumber_21 : decode cX4_readNumber 21 = .ok (.aload_n 0, 1) := by decide +kernel
theorem dX4_readNumber_22 : decode cX4_readNumber 22 = .ok (.dup, 1) := by decide +kernel
theorem dX4_readNumber_23 : decode cX4_readNumber 23 = .ok (.getfield 19, 3) := by decide +kernel
theorem dX4_readNumber_26 : decode cX4_readNumber 26 = .ok (.iconst 1, 1) := by decide +kernel
theorem dX4_readNumber_27 : decode cX4_readNumber 27 = .ok (.iadd, 1) := by decide +kernel
theorem dX4_readNumber_28 : decode cX4_readNumber 28 = .ok (.putfield 19, 3) := by decide +kernel
theorem dX4_readNumber_31 : decode cX4_readNumber 31 = .ok (.aload_n 0, 1) := by decide +kernel
theorem dX4_readNumber_32 : decode cX4_readNumber 32 = .ok (.getfield 19, 3) := by decide +kernel
theorem dX4_readNumber_35 : decode cX4_readNumber 35 = .ok (.aload_n 0, 1) := by decide +kernel
theorem dX4_readNumber_36 : decode cX4_readNumber 36 = .ok (.getfield 15, 3) := by decide +kernel
theorem dX4_readNumber_39 : decode cX4_readNumber 39 = .ok (.if_icmp .ge 60, 3) := by decide +kernel
theorem dX4_readNumber_42 : decode cX4_readNumber 42 = .ok (.aload_n 0, 1) := by decide +kernel
theorem dX4_readNumber_43 : decode cX4_readNumber 43 = .ok (.getfield 22, 3) := by decide +kernel
theorem dX4_readNumber_46 : decode cX4_readNumber 46 = .ok (.ifCond .le 53, 3) := by decide +kernel
theorem dX4_readNumber_49 : decode cX4_readNumber 49 = .ok (.aload_n 0, 1) := by decide +kernel
theorem dX4_readNumber_50 : decode cX4_readNumber 50 = .ok (.invokevirtual 64, 3) := by decide +kernel
theorem dX4_readNumber_53 : decode cX4_readNumber 53 = .ok (.istore_n 2, 1) := by decide +kernel
theorem dX4_readNumber_54 : decode cX4_readNumber 54 = .ok (.iload_n 2, 1) := by decide +kernel
theorem dX4_readNumber_55 : decode cX4_readNumber 55 = .ok (.ifCond .lt 16, 3) := by decide +kernel
theorem dX4_readNumber_58 : decode cX4_readNumber 58 = .ok (.aload_n 0, 1) := by decide +kernel
theorem dX4_readNumber_59 : decode cX4_readNumber 59 = .ok (.getfield 22, 3) := by decide +kernel
theorem dX4_readNumber_62 : decode cX4_readNumber 62 = .ok (.bipush 10, 2) := by decide +kernel
theorem dX4_readNumber_64 : decode cX4_readNumber 64 = .ok (.imul, 1) := by decide +kernel
theorem dX4_readNumber_65 : decode cX4_readNumber 65 = .ok (.iload_n 2, 1) := by decide +kernel
theorem dX4_readNumber_66 : decode cX4_readNumber 66 = .ok (.iadd, 1) := by decide +kernel
theorem dX4_readNumber_67 : decode cX4_readNumber 67 = .ok (.iload_n 1, 1) := by decide +kernel
theorem dX4_readNumber_68 : decode cX4_readNumber 68 = .ok (.if_icmp .le 5, 3) := by decide +kernel
theorem dX4_readNumber_71 : decode cX4_readNumber 71 = .ok (.iconst 1, 1) := by decide +kernel
theorem dX4_readNumber_72 : decode cX4_readNumber 72 = .ok (.ireturn, 1) := by decide +kernel
theorem dX4_readNumber_73 : decode cX4_readNumber 73 = .ok (.aload_n 0, 1) := by decide +kernel
theorem dX4_readNumber_74 : decode cX4_readNumber 74 = .ok (.aload_n 0, 1) := by decide +kernel
theorem dX4_readNumber_75 : decode cX4_readNumber 75 = .ok (.getfield 22, 3) := by decide +kernel
theorem dX4_readNumber_78 : decode cX4_readNumber 78 = .ok (.bipush 10, 2) := by decide +kernel
theorem dX4_readNumber_80 : decode cX4_readNumber 80 = .ok (.imul, 1) := by decide +kernel
theorem dX4_readNumber_81 : decode cX4_readNumber 81 = .ok (.iload_n 2, 1) := by decide +kernel
theorem dX4_readNumber_82 : decode cX4_readNumber 82 = .ok (.iadd, 1) := by decide +kernel
theorem dX4_readNumber_83 : decode cX4_readNumber 83 = .ok (.putfield 22, 3) := by decide +kernel
theorem dX4_readNumber_86 : decode cX4_readNumber 86 = .ok (.aload_n 0, 1) := by decide +kernel
theorem dX4_readNumber_87 : decode cX4_readNumber 87 = .ok (.dup, 1) := by decide +kernel
theorem dX4_readNumber_88 : decode cX4_readNumber 88 = .ok (.getfield 19, 3) := by decide +kernel
theorem dX4_readNumber_91 : decode cX4_readNumber 91 = .ok (.iconst 1, 1) := by decide +kernel
theorem dX4_readNumber_92 : decode cX4_readNumber 92 = .ok (.iadd, 1) := by decide +kernel
theorem dX4_readNumber_93 : decode cX4_readNumber 93 = .ok (.putfield 19, 3) := by decide +kernel
theorem dX4_readNumber_96 : decode cX4_readNumber 96 = .ok (.goto (-65), 3) := by decide +kernel
theorem dX4_readNumber_99 : decode cX4_readNumber 99 = .ok (.iconst 1, 1) := by decide +kernel
theorem dX4_readNumber_100 : decode cX4_readNumber 100 = .ok (.ireturn, 1) := by decide +kernel
theorem dX4_digitHere_0 : decode cX4_digitHere 0 = .ok (.aload_n 0, 1) := by decide +kernel
theorem dX4_digitHere_1 : decode cX4_digitHere 1 = .ok (.getfield 19, 3) := by decide +kernel
theorem dX4_digitHere_4 : decode cX4_digitHere 4 = .ok (.aload_n 0, 1) := by decide +kernel
theorem dX4_digitHere_5 : decode cX4_digitHere 5 = .ok (.getfield 15, 3) := by decide +kernel
theorem dX4_digitHere_8 : decode cX4_digitHere 8 = .ok (.if_icmp .lt 5, 3) := by decide +kernel
theorem dX4_digitHere_11 : decode cX4_digitHere 11 = .ok (.iconst (-1), 1) := by decide +kernel
theorem dX4_digitHere_12 : decode cX4_digitHere 12 = .ok (.ireturn, 1) := by decide +kernel
theorem dX4_digitHere_13 : decode cX4_digitHere 13 = .ok (.aload_n 0, 1) := by decide +kernel
theorem dX4_digitHere_14 : decode cX4_digitHere 14 = .ok (.getfield 9, 3) := by decide +kernel
theorem dX4_digitHere_17 : decode cX4_digitHere 17 = .ok (.aload_n 0, 1) := by decide +kernel
theorem dX4_digitHere_18 : decode cX4_digitHere 18 = .ok (.getfield 19, 3) := by decide +kernel
theorem dX4_digitHere_21 : decode cX4_digitHere 21 = .ok (.caload, 1) := by decide +kernel
theorem dX4_digitHere_22 : decode cX4_digitHere 22 = .ok (.istore_n 1, 1) := by decide +kernel
theorem dX4_digitHere_23 : decode cX4_digitHere 23 = .ok (.iload_n 1, 1) := by decide +kernel
theorem dX4_digitHere_24 : decode cX4_digitHere 24 = .ok (.bipush 48, 2) := by decide +kernel
theorem dX4_digitHere_26 : decode cX4_digitHere 26 = .ok (.if_icmp .lt 16, 3) := by decide +kernel
theorem dX4_digitHere_29 : decode cX4_digitHere 29 = .ok (.iload_n 1, 1) := by decide +kernel
theorem dX4_digitHere_30 : decode cX4_digitHere 30 = .ok (.bipush 57, 2) := by decide +kernel
theorem dX4_digitHere_32 : decode cX4_digitHere 32 = .ok (.if_icmp .gt 10, 3) := by decide +kernel
theorem dX4_digitHere_35 : decode cX4_digitHere 35 = .ok (.iload_n 1, 1) := by decide +kernel
theorem dX4_digitHere_36 : decode cX4_digitHere 36 = .ok (.bipush 48, 2) := by decide +kernel
theorem dX4_digitHere_38 : decode cX4_digitHere 38 = .ok (.isub, 1) := by decide +kernel
theorem dX4_digitHere_39 : decode cX4_digitHere 39 = .ok (.goto 4, 3) := by decide +kernel
theorem dX4_digitHere_42 : decode cX4_digitHere 42 = .ok (.iconst (-1), 1) := by decide +kernel
theorem dX4_digitHere_43 : decode cX4_digitHere 43 = .ok (.ireturn, 1) := by decide +kernel
theorem dX5_init_0 : decode cX5_init 0 = .ok (.aload_n 0, 1) := by decide +kernel
theorem dX5_init_1 : decode cX5_init 1 = .ok (.invokespecial 1, 3) := by decide +kernel
theorem dX5_init_4 : decode cX5_init 4 = .ok (.aload_n 0, 1) := by decide +kernel
theorem dX5_init_5 : decode cX5_init 5 = .ok (.new 7, 3) := by decide +kernel
theorem dX5_init_8 : decode cX5_init 8 = .ok (.dup, 1) := by decide +kernel
theorem dX5_init_9 : decode cX5_init 9 = .ok (.invokespecial 9, 3) := by decide +kernel
theorem dX5_init_12 : decode cX5_init 12 = .ok (.putfield 10, 3) := by decide +kernel
theorem dX5_init_15 : decode cX5_init 15 = .ok (.aload_n 0, 1) := by decide +kernel
theorem dX5_init_16 : decode cX5_init 16 = .ok (.aload_n 0, 1) := by decide +kernel
theorem dX5_init_17 : decode cX5_init 17 = .ok (.getfield 10, 3) := by decide +kernel
theorem dX5_init_20 : decode cX5_init 20 = .ok (.getfield 16, 3) := by decide +kernel
theorem dX5_init_23 : decode cX5_init 23 = .ok (.putfield 20, 3) := by decide +kernel
theorem dX5_init_26 : decode cX5_init 26 = .ok (.aload_n 0, 1) := by decide +kernel
theorem dX5_init_27 : decode cX5_init 27 = .ok (.new 23, 3) := by decide +kernel
theorem dX5_init_30 : decode cX5_init 30 = .ok (.dup, 1) := by decide +kernel
theorem dX5_init_31 : decode cX5_init 31 = .ok (.invokespecial 25, 3) := by decide +kernel
theorem dX5_init_34 : decode cX5_init 34 = .ok (.putfield 26, 3) := by decide +kernel
theorem dX5_init_37 : decode cX5_init 37 = .ok (.aload_n 0, 1) := by decide +kernel
theorem dX5_init_38 : decode cX5_init 38 = .ok (.iconst 0, 1) := by decide +kernel
theorem dX5_init_39 : decode cX5_init 39 = .ok (.putfield 29, 3) := by decide +kernel
theorem dX5_init_42 : decode cX5_init 42 = .ok (.aload_n 0, 1) := by decide +kernel
theorem dX5_init_43 : decode cX5_init 43 = .ok (.iconst 4, 1) := by decide +kernel
theorem dX5_init_44 : decode cX5_init 44 = .ok (.anewarray 23, 3) := by decide +kernel
theorem dX5_init_47 : decode cX5_init 47 = .ok (.putfield 33, 3) := by decide +kernel
theorem dX5_init_50 : decode cX5_init 50 = .ok (.aload_n 0, 1) := by decide +kernel
theorem dX5_init_51 : decode cX5_init 51 = .ok (.iconst 0, 1) := by decide +kernel
theorem dX5_init_52 : decode cX5_init 52 = .ok (.putfield 37, 3) := by decide +kernel
theorem dX5_init_55 : decode cX5_init 55 = .ok (.aload_n 0, 1) := by decide +kernel
theorem dX5_init_56 : decode cX5_init 56 = .ok (.new 41, 3) := by decide +kernel
theorem dX5_init_59 : decode cX5_init 59 = .ok (.dup, 1) := by decide +kernel
theorem dX5_init_60 : decode cX5_init 60 = .ok (.invokespecial 43, 3) := by decide +kernel
theorem dX5_init_63 : decode cX5_init 63 = .ok (.putfield 44, 3) := by decide +kernel
theorem dX5_init_66 : decode cX5_init 66 = .ok (.aload_n 0, 1) := by decide +kernel
theorem dX5_init_67 : decode cX5_init 67 = .ok (.new 48, 3) := by decide +kernel
theorem dX5_init_70 : decode cX5_init 70 = .ok (.dup, 1) := by decide +kernel
theorem dX5_init_71 : decode cX5_init 71 = .ok (.invokespecial 50, 3) := by decide +kernel
theorem dX5_init_74 : decode cX5_init 74 = .ok (.putfield 51, 3) := by decide +kernel
theorem dX5_init_77 : decode cX5_init 77 = .ok (.aload_n 0, 1) := by decide +kernel
theorem dX5_init_78 : decode cX5_init 78 = .ok (.new 55, 3) := by decide +kernel
theorem dX5_init_81 : decode cX5_init 81 = .ok (.dup, 1) := by decide +kernel
theorem dX5_init_82 : decode cX5_init 82 = .ok (.invokespecial 57, 3) := by decide +kernel
theorem dX5_init_85 : decode cX5_init 85 = .ok (.putfield 58, 3) := by decide +kernel
theorem dX5_init_88 : decode cX5_init 88 = .ok (.iconst 0, 1) := by decide +kernel
theorem dX5_init_89 : decode cX5_init 89 = .ok (.istore_n 1, 1) := by decide +kernel
theorem dX5_init_90 : decode cX5_init 90 = .ok (.iload_n 1, 1) := by decide +kernel
theorem dX5_init_91 : decode cX5_init 91 = .ok (.iconst 4, 1) := by decide +kernel
theorem dX5_init_92 : decode cX5_init 92 = .ok (.if_icmp .ge 22, 3) := by decide +kernel
theorem dX5_init_95 : decode cX5_init 95 = .ok (.aload_n 0, 1) := by decide +kernel
theorem dX5_init_96 : decode cX5_init 96 = .ok (.getfield 33, 3) := by decide +kernel
theorem dX5_init_99 : decode cX5_init 99 = .ok (.iload_n 1, 1) := by decide +kernel
theorem dX5_init_100 : decode cX5_init 100 = .ok (.new 23, 3) := by decide +kernel
theorem dX5_init_103 : decode cX5_init 103 = .ok (.dup, 1) := by decide +kernel
theorem dX5_init_104 : decode cX5_init 104 = .ok (.invokespecial 25, 3) := by decide +kernel
theorem dX5_init_107 : decode cX5_init 107 = .ok (.aastore, 1) := by decide +kernel
theorem dX5_init_108 : decode cX5_init 108 = .ok (.iinc 1 1, 3) := by decide +kernel
theorem dX5_init_111 : decode cX5_init 111 = .ok (.goto (-21), 3) := by decide +kernel
theorem dX5_init_114 : decode cX5_init 114 = .ok (.return_, 1) := by decide +kernel
theorem dX5_setReach_0 : decode cX5_setReach 0 = .ok (.iload_n 1, 1) := by decide +kernel
theorem dX5_setReach_1 : decode cX5_setReach 1 = .ok (.invokestatic 62, 3) := by decide +kernel
theorem dX5_setReach_4 : decode cX5_setReach 4 = .ok (.ifCond .ne 5, 3) := by decide +kernel
theorem dX5_setReach_7 : decode cX5_setReach 7 = .ok (.iconst (-1), 1) := by decide +kernel
theorem dX5_setReach_8 : decode cX5_setReach 8 = .ok (.ireturn, 1) := by decide +kernel
theorem dX5_setReach_9 : decode cX5_setReach 9 = .ok (.iload_n 2, 1) := by decide +kernel
theorem dX5_setReach_10 : decode cX5_setReach 10 = .ok (.iload_n 3, 1) := by decide +kernel
theorem dX5_setReach_11 : decode cX5_setReach 11 = .ok (.invokestatic 66, 3) := by decide +kernel
theorem dX5_setReach_14 : decode cX5_setReach 14 = .ok (.ifCond .ne 6, 3) := by decide +kernel
theorem dX5_setReach_17 : decode cX5_setReach 17 = .ok (.bipush (-2), 2) := by decide +kernel
theorem dX5_setReach_19 : decode cX5_setReach 19 = .ok (.ireturn, 1) := by decide +kernel
theorem dX5_setReach_20 : decode cX5_setReach 20 = .ok (.aload_n 0, 1) := by decide +kernel
theorem dX5_setReach_21 : decode cX5_setReach 21 = .ok (.getfield 20, 3) := by decide +kernel
theorem dX5_setReach_24 : decode cX5_setReach 24 = .ok (.getfield 70, 3) := by decide +kernel
theorem dX5_setReach_27 : decode cX5_setReach 27 = .ok (.iload_n 1, 1) := by decide +kernel
theorem dX5_setReach_28 : decode cX5_setReach 28 = .ok (.iaload, 1) := by decide +kernel
theorem dX5_setReach_29 : decode cX5_setReach 29 = .ok (.istore 4, 2) := by decide +kernel
theorem dX5_setReach_31 : decode cX5_setReach 31 = .ok (.aload_n 0, 1) := by decide +kernel
theorem dX5_setReach_32 : decode cX5_setReach 32 = .ok (.getfield 20, 3) := by decide +kernel
theorem dX5_setReach_35 : decode cX5_setReach 35 = .ok (.getfield 74, 3) := by decide +kernel
theorem dX5_setReach_38 : decode cX5_setReach 38 = .ok (.iload_n 1, 1) := by decide +kernel
theorem dX5_setReach_39 : decode cX5_setReach 39 = .ok (.iaload, 1) := by decide +kernel
theorem dX5_setReach_40 : decode cX5_setReach 40 = .ok (.istore 5, 2) := by decide +kernel
theorem dX5_setReach_42 : decode cX5_setReach 42 = .ok (.iload 4, 2) := by decide +kernel
theorem dX5_setReach_44 : decode cX5_setReach 44 = .ok (.iload_n 2, 1) := by decide +kernel
theorem dX5_setReach_45 : decode cX5_setReach 45 = .ok (.if_icmp .ne 12, 3) := by decide +kernel
theorem dX5_setReach_48 : decode cX5_setReach 48 = .ok (.iload 5, 2) := by decide +kernel
theorem dX5_setReach_50 : decode cX5_setReach 50 = .ok (.iload_n 3, 1) := by decide +kernel
theorem dX5_setReach_51 : decode cX5_setReach 51 = .ok (.if_icmp .ne 6, 3) := by decide +kernel
theorem dX5_setReach_54 : decode cX5_setReach 54 = .ok (.bipush (-5), 2) := by decide +kernel
theorem dX5_setReach_56 : decode cX5_setReach 56 = .ok (.ireturn, 1) := by decide +kernel
theorem dX5_setReach_57 : decode cX5_setReach 57 = .ok (.aload_n 0, 1) := by decide +kernel
theorem dX5_setReach_58 : decode cX5_setReach 58 = .ok (.invokevirtual 77, 3) := by decide +kernel
theorem dX5_setReach_61 : decode cX5_setReach 61 = .ok (.aload_n 0, 1) := by decide +kernel
theorem dX5_setReach_62 : decode cX5_setReach 62 = .ok (.getfield 20, 3) := by decide +kernel
theorem dX5_setReach_65 : decode cX5_setReach 65 = .ok (.getfield 70, 3) := by decide +kernel
theorem dX5_setReach_68 : decode cX5_setReach 68 = .ok (.iload_n 1, 1) := by decide +kernel
theorem dX5_setReach_69 : decode cX5_setReach 69 = .ok (.iload_n 2, 1) := by decide +kernel
theorem dX5_setReach_70 : decode cX5_setReach 70 = .ok (.iastore, 1) := by decide +kernel
theorem dX5_setReach_71 : decode cX5_setReach 71 = .ok (.aload_n 0, 1) := by decide +kernel
theorem dX5_setReach_72 : decode cX5_setReach 72 = .ok (.getfield 20, 3) := by decide +kernel
theorem dX5_setReach_75 : decode cX5_setReach 75 = .ok (.getfield 74, 3) := by decide +kernel
theorem dX5_setReach_78 : decode cX5_setReach 78 = .ok (.iload_n 1, 1) := by decide +kernel
theorem dX5_setReach_79 : decode cX5_setReach 79 = .ok (.iload_n 3, 1) := by decide +kernel
theorem dX5_setReach_80 : decode cX5_setReach 80 = .ok (.iastore, 1) := by decide +kernel
theorem dX5_setReach_81 : decode cX5_setReach 81 = .ok (.bipush 100, 2) := by decide +kernel
theorem dX5_setReach_83 : decode cX5_setReach 83 = .ok (.iload 4, 2) := by decide +kernel
theorem dX5_setReach_85 : decode cX5_setReach 85 = .ok (.imul, 1) := by decide +kernel
theorem dX5_setReach_86 : decode cX5_setReach 86 = .ok (.iload 5, 2) := by decide +kernel
theorem dX5_setReach_88 : decode cX5_setReach 88 = .ok (.iadd, 1) := by decide +kernel
theorem dX5_setReach_89 : decode cX5_setReach 89 = .ok (.ireturn, 1) := by decide +kernel
theorem dX5_exchange_0 : decode cX5_exchange 0 = .ok (.iload_n 1, 1) := by decide +kernel
theorem dX5_exchange_1 : decode cX5_exchange 1 = .ok (.invokestatic 62, 3) := by decide +kernel
theorem dX5_exchange_4 : decode cX5_exchange 4 = .ok (.ifCond .eq 10, 3) := by decide +kernel
theorem dX5_exchange_7 : decode cX5_exchange 7 = .ok (.iload_n 2, 1) := by decide +kernel
theorem dX5_exchange_8 : decode cX5_exchange 8 = .ok (.invokestatic 62, 3) := by decide +kernel
theorem dX5_exchange_11 : decode cX5_exchange 11 = .ok (.ifCond .ne 5, 3) := by decide +kernel
theorem dX5_exchange_14 : decode cX5_exchange 14 = .ok (.iconst (-1), 1) := by decide +kernel
theorem dX5_exchange_15 : decode cX5_exchange 15 = .ok (.ireturn, 1) := by decide +kernel
theorem dX5_exchange_16 : decode cX5_exchange 16 = .ok (.iload_n 1, 1) := by decide +kernel
theorem dX5_exchange_17 : decode cX5_exchange 17 = .ok (.iload_n 2, 1) := by decide +kernel
theorem dX5_exchange_18 : decode cX5_exchange 18 = .ok (.if_icmp .ne 6, 3) := by decide +kernel
theorem dX5_exchange_21 : decode cX5_exchange 21 = .ok (.bipush (-5), 2) := by decide +kernel
theorem dX5_exchange_23 : decode cX5_exchange 23 = .ok (.ireturn, 1) := by decide +kernel
theorem dX5_exchange_24 : decode cX5_exchange 24 = .ok (.aload_n 0, 1) := by decide +kernel
theorem dX5_exchange_25 : decode cX5_exchange 25 = .ok (.invokevirtual 77, 3) := by decide +kernel
theorem dX5_exchange_28 : decode cX5_exchange 28 = .ok (.aload_n 0, 1) := by decide +kernel
theorem dX5_exchange_29 : decode cX5_exchange 29 = .ok (.getfield 20, 3) := by decide +kernel
theorem dX5_exchange_32 : decode cX5_exchange 32 = .ok (.getfield 80, 3) := by decide +kernel
theorem dX5_exchange_35 : decode cX5_exchange 35 = .ok (.iload_n 1, 1) := by decide +kernel
theorem dX5_exchange_36 : decode cX5_exchange 36 = .ok (.iaload, 1) := by decide +kernel
theorem dX5_exchange_37 : decode cX5_exchange 37 = .ok (.istore_n 3, 1) := by decide +kernel
theorem dX5_exchange_38 : decode cX5_exchange 38 = .ok (.aload_n 0, 1) := by decide +kernel
theorem dX5_exchange_39 : decode cX5_exchange 39 = .ok (.getfield 20, 3) := by decide +kernel
theorem dX5_exchange_42 : decode cX5_exchange 42 = .ok (.getfield 80, 3) := by decide +kernel
theorem dX5_exchange_45 : decode cX5_exchange 45 = .ok (.iload_n 1, 1) := by decide +kernel
theorem dX5_exchange_46 : decode cX5_exchange 46 = .ok (.aload_n 0, 1) := by decide +kernel
theorem dX5_exchange_47 : decode cX5_exchange 47 = .ok (.getfield 20, 3) := by decide +kernel
theorem dX5_exchange_50 : decode cX5_exchange 50 = .ok (.getfield 80, 3) := by decide +kernel
theorem dX5_exchange_53 : decode cX5_exchange 53 = .ok (.iload_n 2, 1) := by decide +kernel
theorem dX5_exchange_54 : decode cX5_exchange 54 = .ok (.iaload, 1) := by decide +kernel
theorem dX5_exchange_55 : decode cX5_exchange 55 = .ok (.iastore, 1) := by decide +kernel
theorem dX5_exchange_56 : decode cX5_exchange 56 = .ok (.aload_n 0, 1) := by decide +kernel
theorem dX5_exchange_57 : decode cX5_exchange 57 = .ok (.getfield 20, 3) := by decide +kernel
theorem dX5_exchange_60 : decode cX5_exchange 60 = .ok (.getfield 80, 3) := by decide +kernel
theorem dX5_exchange_63 : decode cX5_exchange 63 = .ok (.iload_n 2, 1) := by decide +kernel
theorem dX5_exchange_64 : decode cX5_exchange 64 = .ok (.iload_n 3, 1) := by decide +kernel
theorem dX5_exchange_65 : decode cX5_exchange 65 = .ok (.iastore, 1) := by decide +kernel
theorem dX5_exchange_66 : decode cX5_exchange 66 = .ok (.aload_n 0, 1) := by decide +kernel
theorem dX5_exchange_67 : decode cX5_exchange 67 = .ok (.getfield 20, 3) := by decide +kernel
theorem dX5_exchange_70 : decode cX5_exchange 70 = .ok (.getfield 80, 3) := by decide +kernel
theorem dX5_exchange_73 : decode cX5_exchange 73 = .ok (.iload_n 1, 1) := by decide +kernel
theorem dX5_exchange_74 : decode cX5_exchange 74 = .ok (.iaload, 1) := by decide +kernel
theorem dX5_exchange_75 : decode cX5_exchange 75 = .ok (.ireturn, 1) := by decide +kernel
theorem dX5_write_0 : decode cX5_write 0 = .ok (.iload_n 1, 1) := by decide +kernel
theorem dX5_write_1 : decode cX5_write 1 = .ok (.invokestatic 62, 3) := by decide +kernel
theorem dX5_write_4 : decode cX5_write 4 = .ok (.ifCond .ne 5, 3) := by decide +kernel
theorem dX5_write_7 : decode cX5_write 7 = .ok (.iconst (-1), 1) := by decide +kernel
theorem dX5_write_8 : decode cX5_write 8 = .ok (.ireturn, 1) := by decide +kernel
theorem dX5_write_9 : decode cX5_write 9 = .ok (.iload_n 2, 1) := by decide +kernel
theorem dX5_write_10 : decode cX5_write 10 = .ok (.invokestatic 83, 3) := by decide +kernel
theorem dX5_write_13 : decode cX5_write 13 = .ok (.ifCond .eq 22, 3) := by decide +kernel
theorem dX5_write_16 : decode cX5_write 16 = .ok (.iload_n 3, 1) := by decide +kernel
theorem dX5_write_17 : decode cX5_write 17 = .ok (.iload 4, 2) := by decide +kernel
theorem dX5_write_19 : decode cX5_write 19 = .ok (.invokestatic 66, 3) := by decide +kernel
theorem dX5_write_22 : decode cX5_write 22 = .ok (.ifCond .eq 13, 3) := by decide +kernel
theorem dX5_write_25 : decode cX5_write 25 = .ok (.iload 5, 2) := by decide +kernel
theorem dX5_write_27 : decode cX5_write 27 = .ok (.bipush 10, 2) := by decide +kernel
theorem dX5_write_29 : decode cX5_write 29 = .ok (.invokestatic 86, 3) := by decide +kernel
theorem dX5_write_32 : decode cX5_write 32 = .ok (.ifCond .ne 6, 3) := by decide +kernel
theorem dX5_write_35 : decode cX5_write 35 = .ok (.bipush (-2), 2) := by decide +kernel
theorem dX5_write_37 : decode cX5_write 37 = .ok (.ireturn, 1) := by decide +kernel
theorem dX5_write_38 : decode cX5_write 38 = .ok (.aload_n 0, 1) := by decide +kernel
theorem dX5_write_39 : decode cX5_write 39 = .ok (.getfield 20, 3) := by decide +kernel
theorem dX5_write_42 : decode cX5_write 42 = .ok (.getfield 89, 3) := by decide +kernel
theorem dX5_write_45 : decode cX5_write 45 = .ok (.getfield 92, 3) := by decide +kernel
theorem dX5_write_48 : decode cX5_write 48 = .ok (.bipush 30, 2) := by decide +kernel
theorem dX5_write_50 : decode cX5_write 50 = .ok (.if_icmp .lt 6, 3) := by decide +kernel
theorem dX5_write_53 : decode cX5_write 53 = .ok (.bipush (-3), 2) := by decide +kernel
theorem dX5_write_55 : decode cX5_write 55 = .ok (.ireturn, 1) := by decide +kernel
theorem dX5_write_56 : decode cX5_write 56 = .ok (.aload_n 0, 1) := by decide +kernel
theorem dX5_write_57 : decode cX5_write 57 = .ok (.invokevirtual 77, 3) := by decide +kernel
theorem dX5_write_60 : decode cX5_write 60 = .ok (.aload_n 0, 1) := by decide +kernel
theorem dX5_write_61 : decode cX5_write 61 = .ok (.getfield 20, 3) := by decide +kernel
theorem dX5_write_64 : decode cX5_write 64 = .ok (.getfield 89, 3) := by decide +kernel
theorem dX5_write_67 : decode cX5_write 67 = .ok (.iload_n 1, 1) := by decide +kernel
theorem dX5_write_68 : decode cX5_write 68 = .ok (.iload_n 2, 1) := by decide +kernel
theorem dX5_write_69 : decode cX5_write 69 = .ok (.iload_n 3, 1) := by decide +kernel
theorem dX5_write_70 : decode cX5_write 70 = .ok (.iload 4, 2) := by decide +kernel
theorem dX5_write_72 : decode cX5_write 72 = .ok (.iload 5, 2) := by decide +kernel
theorem dX5_write_74 : decode cX5_write 74 = .ok (.invokevirtual 95, 3) := by decide +kernel
theorem dX5_write_77 : decode cX5_write 77 = .ok (.ireturn, 1) := by decide +kernel
theorem dX5_except_0 : decode cX5_except 0 = .ok (.aload_n 0, 1) := by decide +kernel
theorem dX5_except_1 : decode cX5_except 1 = .ok (.getfield 20, 3) := by decide +kernel
theorem dX5_except_4 : decode cX5_except 4 = .ok (.getfield 89, 3) := by decide +kernel
theorem dX5_except_7 : decode cX5_except 7 = .ok (.iload_n 1, 1) := by decide +kernel
theorem dX5_except_8 : decode cX5_except 8 = .ok (.invokevirtual 99, 3) := by decide +kernel
theorem dX5_except_11 : decode cX5_except 11 = .ok (.ifCond .ne 5, 3) := by decide +kernel
theorem dX5_except_14 : decode cX5_except 14 = .ok (.iconst (-1), 1) := by decide +kernel
theorem dX5_except_15 : decode cX5_except 15 = .ok (.ireturn, 1) := by decide +kernel
theorem dX5_except_16 : decode cX5_except 16 = .ok (.iload_n 2, 1) := by decide +kernel
theorem dX5_except_17 : decode cX5_except 17 = .ok (.iload_n 3, 1) := by decide +kernel
theorem dX5_except_18 : decode cX5_except 18 = .ok (.invokestatic 66, 3) := by decide +kernel
theorem dX5_except_21 : decode cX5_except 21 = .ok (.ifCond .ne 6, 3) := by decide +kernel
theorem dX5_except_24 : decode cX5_except 24 = .ok (.bipush (-2), 2) := by decide +kernel
theorem dX5_except_26 : decode cX5_except 26 = .ok (.ireturn, 1) := by decide +kernel
theorem dX5_except_27 : decode cX5_except 27 = .ok (.aload_n 0, 1) := by decide +kernel
theorem dX5_except_28 : decode cX5_except 28 = .ok (.getfield 20, 3) := by decide +kernel
theorem dX5_except_31 : decode cX5_except 31 = .ok (.getfield 89, 3) := by decide +kernel
theorem dX5_except_34 : decode cX5_except 34 = .ok (.getfield 102, 3) := by decide +kernel
theorem dX5_except_37 : decode cX5_except 37 = .ok (.iload_n 1, 1) := by decide +kernel
theorem dX5_except_38 : decode cX5_except 38 = .ok (.iaload, 1) := by decide +kernel
theorem dX5_except_39 : decode cX5_except 39 = .ok (.iconst 3, 1) := by decide +kernel
theorem dX5_except_40 : decode cX5_except 40 = .ok (.if_icmp .lt 6, 3) := by decide +kernel
theorem dX5_except_43 : decode cX5_except 43 = .ok (.bipush (-3), 2) := by decide +kernel
theorem dX5_except_45 : decode cX5_except 45 = .ok (.ireturn, 1) := by decide +kernel
theorem dX5_except_46 : decode cX5_except 46 = .ok (.aload_n 0, 1) := by decide +kernel
theorem dX5_except_47 : decode cX5_except 47 = .ok (.invokevirtual 77, 3) := by decide +kernel
theorem dX5_except_50 : decode cX5_except 50 = .ok (.aload_n 0, 1) := by decide +kernel
theorem dX5_except_51 : decode cX5_except 51 = .ok (.getfield 20, 3) := by decide +kernel
theorem dX5_except_54 : decode cX5_except 54 = .ok (.getfield 89, 3) := by decide +kernel
theorem dX5_except_57 : decode cX5_except 57 = .ok (.iload_n 1, 1) := by decide +kernel
theorem dX5_except_58 : decode cX5_except 58 = .ok (.iload_n 2, 1) := by decide +kernel
theorem dX5_except_59 : decode cX5_except 59 = .ok (.iload_n 3, 1) := by decide +kernel
theorem dX5_except_60 : decode cX5_except 60 = .ok (.invokevirtual 105, 3) := by decide +kernel
theorem dX5_except_63 : decode cX5_except 63 = .ok (.aload_n 0, 1) := by decide +kernel
theorem dX5_except_64 : decode cX5_except 64 = .ok (.getfield 20, 3) := by decide +kernel
theorem dX5_except_67 : decode cX5_except 67 = .ok (.getfield 89, 3) := by decide +kernel
theorem dX5_except_70 : decode cX5_except 70 = .ok (.getfield 102, 3) := by decide +kernel
theorem dX5_except_73 : decode cX5_except 73 = .ok (.iload_n 1, 1) := by decide +kernel
theorem dX5_except_74 : decode cX5_except 74 = .ok (.iaload, 1) := by decide +kernel
theorem dX5_except_75 : decode cX5_except 75 = .ok (.ireturn, 1) := by decide +kernel
theorem dX5_end_0 : decode cX5_end 0 = .ok (.aload_n 0, 1) := by decide +kernel
theorem dX5_end_1 : decode cX5_end 1 = .ok (.getfield 20, 3) := by decide +kernel
theorem dX5_end_4 : decode cX5_end 4 = .ok (.getfield 89, 3) := by decide +kernel
theorem dX5_end_7 : decode cX5_end 7 = .ok (.iload_n 1, 1) := by decide +kernel
theorem dX5_end_8 : decode cX5_end 8 = .ok (.invokevirtual 99, 3) := by decide +kernel
theorem dX5_end_11 : decode cX5_end 11 = .ok (.ifCond .ne 5, 3) := by decide +kernel
theorem dX5_end_14 : decode cX5_end 14 = .ok (.iconst (-1), 1) := by decide +kernel
theorem dX5_end_15 : decode cX5_end 15 = .ok (.ireturn, 1) := by decide +kernel
theorem dX5_end_16 : decode cX5_end 16 = .ok (.iload_n 2, 1) := by decide +kernel
theorem dX5_end_17 : decode cX5_end 17 = .ok (.iconst 1, 1) := by decide +kernel
theorem dX5_end_18 : decode cX5_end 18 = .ok (.if_icmp .lt 10, 3) := by decide +kernel
theorem dX5_end_21 : decode cX5_end 21 = .ok (.iload_n 2, 1) := by decide +kernel
theorem dX5_end_22 : decode cX5_end 22 = .ok (.sipush 1000, 3) := by decide +kernel
theorem dX5_end_25 : decode cX5_end 25 = .ok (.if_icmp .le 6, 3) := by decide +kernel
theorem dX5_end_28 : decode cX5_end 28 = .ok (.bipush (-2), 2) := by decide +kernel
theorem dX5_end_30 : decode cX5_end 30 = .ok (.ireturn, 1) := by decide +kernel
theorem dX5_end_31 : decode cX5_end 31 = .ok (.iload_n 2, 1) := by decide +kernel
theorem dX5_end_32 : decode cX5_end 32 = .ok (.aload_n 0, 1) := by decide +kernel
theorem dX5_end_33 : decode cX5_end 33 = .ok (.getfield 20, 3) := by decide +kernel
theorem dX5_end_36 : decode cX5_end 36 = .ok (.getfield 89, 3) := by decide +kernel
theorem dX5_end_39 : decode cX5_end 39 = .ok (.getfield 109, 3) := by decide +kernel
theorem dX5_end_42 : decode cX5_end 42 = .ok (.iload_n 1, 1) := by decide +kernel
theorem dX5_end_43 : decode cX5_end 43 = .ok (.iaload, 1) := by decide +kernel
theorem dX5_end_44 : decode cX5_end 44 = .ok (.if_icmp .gt 6, 3) := by decide +kernel
theorem dX5_end_47 : decode cX5_end 47 = .ok (.bipush (-4), 2) := by decide +kernel
theorem dX5_end_49 : decode cX5_end 49 = .ok (.ireturn, 1) := by decide +kernel
theorem dX5_end_50 : decode cX5_end 50 = .ok (.aload_n 0, 1) := by decide +kernel
theorem dX5_end_51 : decode cX5_end 51 = .ok (.getfield 20, 3) := by decide +kernel
theorem dX5_end_54 : decode cX5_end 54 = .ok (.getfield 89, 3) := by decide +kernel
theorem dX5_end_57 : decode cX5_end 57 = .ok (.getfield 112, 3) := by decide +kernel
theorem dX5_end_60 : decode cX5_end 60 = .ok (.iload_n 1, 1) := by decide +kernel
theorem dX5_end_61 : decode cX5_end 61 = .ok (.iaload, 1) := by decide +kernel
theorem dX5_end_62 : decode cX5_end 62 = .ok (.istore_n 3, 1) := by decide +kernel
theorem dX5_end_63 : decode cX5_end 63 = .ok (.iload_n 3, 1) := by decide +kernel
theorem dX5_end_64 : decode cX5_end 64 = .ok (.iload_n 2, 1) := by decide +kernel
theorem dX5_end_65 : decode cX5_end 65 = .ok (.if_icmp .ne 6, 3) := by decide +kernel
theorem dX5_end_68 : decode cX5_end 68 = .ok (.bipush (-5), 2) := by decide +kernel
theorem dX5_end_70 : decode cX5_end 70 = .ok (.ireturn, 1) := by decide +kernel
theorem dX5_end_71 : decode cX5_end 71 = .ok (.aload_n 0, 1) := by decide +kernel
theorem dX5_end_72 : decode cX5_end 72 = .ok (.invokevirtual 77, 3) := by decide +kernel
theorem dX5_end_75 : decode cX5_end 75 = .ok (.aload_n 0, 1) := by decide +kernel
theorem dX5_end_76 : decode cX5_end 76 = .ok (.getfield 20, 3) := by decide +kernel
theorem dX5_end_79 : decode cX5_end 79 = .ok (.getfield 89, 3) := by decide +kernel
theorem dX5_end_82 : decode cX5_end 82 = .ok (.getfield 112, 3) := by decide +kernel
theorem dX5_end_85 : decode cX5_end 85 = .ok (.iload_n 1, 1) := by decide +kernel
theorem dX5_end_86 : decode cX5_end 86 = .ok (.iload_n 2, 1) := by decide +kernel
theorem dX5_end_87 : decode cX5_end 87 = .ok (.iastore, 1) := by decide +kernel
theorem dX5_end_88 : decode cX5_end 88 = .ok (.iload_n 3, 1) := by decide +kernel
theorem dX5_end_89 : decode cX5_end 89 = .ok (.ireturn, 1) := by decide +kernel
theorem dX5_setDay_0 : decode cX5_setDay 0 = .ok (.iload_n 1, 1) := by decide +kernel
theorem dX5_setDay_1 : decode cX5_setDay 1 = .ok (.invokestatic 83, 3) := by decide +kernel
theorem dX5_setDay_4 : decode cX5_setDay 4 = .ok (.ifCond .ne 6, 3) := by decide +kernel
theorem dX5_setDay_7 : decode cX5_setDay 7 = .ok (.bipush (-2), 2) := by decide +kernel
theorem dX5_setDay_9 : decode cX5_setDay 9 = .ok (.ireturn, 1) := by decide +kernel
theorem dX5_setDay_10 : decode cX5_setDay 10 = .ok (.aload_n 0, 1) := by decide +kernel
theorem dX5_setDay_11 : decode cX5_setDay 11 = .ok (.getfield 20, 3) := by decide +kernel
theorem dX5_setDay_14 : decode cX5_setDay 14 = .ok (.getfield 115, 3) := by decide +kernel
theorem dX5_setDay_17 : decode cX5_setDay 17 = .ok (.istore_n 2, 1) := by decide +kernel
theorem dX5_setDay_18 : decode cX5_setDay 18 = .ok (.iload_n 2, 1) := by decide +kernel
theorem dX5_setDay_19 : decode cX5_setDay 19 = .ok (.iload_n 1, 1) := by decide +kernel
theorem dX5_setDay_20 : decode cX5_setDay 20 = .ok (.if_icmp .ne 6, 3) := by decide +kernel
theorem dX5_setDay_23 : decode cX5_setDay 23 = .ok (.bipush (-5), 2) := by decide +kernel
theorem dX5_setDay_25 : decode cX5_setDay 25 = .ok (.ireturn, 1) := by decide +kernel
theorem dX5_setDay_26 : decode cX5_setDay 26 = .ok (.aload_n 0, 1) := by decide +kernel
theorem dX5_setDay_27 : decode cX5_setDay 27 = .ok (.invokevirtual 77, 3) := by decide +kernel
theorem dX5_setDay_30 : decode cX5_setDay 30 = .ok (.aload_n 0, 1) := by decide +kernel
theorem dX5_setDay_31 : decode cX5_setDay 31 = .ok (.getfield 20, 3) := by decide +kernel
theorem dX5_setDay_34 : decode cX5_setDay 34 = .ok (.iload_n 1, 1) := by decide +kernel
theorem dX5_setDay_35 : decode cX5_setDay 35 = .ok (.putfield 115, 3) := by decide +kernel
theorem dX5_setDay_38 : decode cX5_setDay 38 = .ok (.aload_n 0, 1) := by decide +kernel
theorem dX5_setDay_39 : decode cX5_setDay 39 = .ok (.getfield 10, 3) := by decide +kernel
theorem dX5_setDay_42 : decode cX5_setDay 42 = .ok (.iload_n 2, 1) := by decide +kernel
theorem dX5_setDay_43 : decode cX5_setDay 43 = .ok (.iload_n 1, 1) := by decide +kernel
theorem dX5_setDay_44 : decode cX5_setDay 44 = .ok (.invokevirtual 118, 3) := by decide +kernel
theorem dX5_setDay_47 : decode cX5_setDay 47 = .ok (.ireturn, 1) := by decide +kernel
theorem dX5_type_0 : decode cX5_type 0 = .ok (.aload_n 0, 1) := by decide +kernel
theorem dX5_type_1 : decode cX5_type 1 = .ok (.getfield 44, 3) := by decide +kernel
theorem dX5_type_4 : decode cX5_type 4 = .ok (.getfield 122, 3) := by decide +kernel
theorem dX5_type_7 : decode cX5_type 7 = .ok (.bipush 80, 2) := by decide +kernel
theorem dX5_type_9 : decode cX5_type 9 = .ok (.if_icmp .lt 6, 3) := by decide +kernel
theorem dX5_type_12 : decode cX5_type 12 = .ok (.bipush (-3), 2) := by decide +kernel
theorem dX5_type_14 : decode cX5_type 14 = .ok (.ireturn, 1) := by decide +kernel
theorem dX5_type_15 : decode cX5_type 15 = .ok (.aload_n 0, 1) := by decide +kernel
theorem dX5_type_16 : decode cX5_type 16 = .ok (.getfield 44, 3) := by decide +kernel
theorem dX5_type_19 : decode cX5_type 19 = .ok (.iload_n 1, 1) := by decide +kernel
theorem dX5_type_20 : decode cX5_type 20 = .ok (.invokevirtual 125, 3) := by decide +kernel
theorem dX5_type_23 : decode cX5_type 23 = .ok (.aload_n 0, 1) := by decide +kernel
theorem dX5_type_24 : decode cX5_type 24 = .ok (.getfield 44, 3) := by decide +kernel
theorem dX5_type_27 : decode cX5_type 27 = .ok (.getfield 122, 3) := by decide +kernel
theorem dX5_type_30 : decode cX5_type 30 = .ok (.ireturn, 1) := by decide +kernel
theorem dX5_clearText_0 : decode cX5_clearText 0 = .ok (.aload_n 0, 1) := by decide +kernel
theorem dX5_clearText_1 : decode cX5_clearText 1 = .ok (.getfield 44, 3) := by decide +kernel
theorem dX5_clearText_4 : decode cX5_clearText 4 = .ok (.getfield 122, 3) := by decide +kernel
theorem dX5_clearText_7 : decode cX5_clearText 7 = .ok (.istore_n 1, 1) := by decide +kernel
theorem dX5_clearText_8 : decode cX5_clearText 8 = .ok (.aload_n 0, 1) := by decide +kernel
theorem dX5_clearText_9 : decode cX5_clearText 9 = .ok (.getfield 44, 3) := by decide +kernel
theorem dX5_clearText_12 : decode cX5_clearText 12 = .ok (.iconst 0, 1) := by decide +kernel
theorem dX5_clearText_13 : decode cX5_clearText 13 = .ok (.putfield 122, 3) := by decide +kernel
theorem dX5_clearText_16 : decode cX5_clearText 16 = .ok (.iload_n 1, 1) := by decide +kernel
theorem dX5_clearText_17 : decode cX5_clearText 17 = .ok (.ireturn, 1) := by decide +kernel
theorem dX5_writeAll_0 : decode cX5_writeAll 0 = .ok (.aload_n 0, 1) := by decide +kernel
theorem dX5_writeAll_1 : decode cX5_writeAll 1 = .ok (.getfield 44, 3) := by decide +kernel
theorem dX5_writeAll_4 : decode cX5_writeAll 4 = .ok (.aload_n 0, 1) := by decide +kernel
theorem dX5_writeAll_5 : decode cX5_writeAll 5 = .ok (.getfield 51, 3) := by decide +kernel
theorem dX5_writeAll_8 : decode cX5_writeAll 8 = .ok (.invokevirtual 128, 3) := by decide +kernel
theorem dX5_writeAll_11 : decode cX5_writeAll 11 = .ok (.ifCond .ne 14, 3) := by decide +kernel
theorem dX5_writeAll_14 : decode cX5_writeAll 14 = .ok (.bipush (-100), 2) := by decide +kernel
theorem dX5_writeAll_16 : decode cX5_writeAll 16 = .ok (.aload_n 0, 1) := by decide +kernel
theorem dX5_writeAll_17 : decode cX5_writeAll 17 = .ok (.getfield 44, 3) := by decide +kernel
theorem dX5_writeAll_20 : decode cX5_writeAll 20 = .ok (.getfield 132, 3) := by decide +kernel
theorem dX5_writeAll_23 : decode cX5_writeAll 23 = .ok (.isub, 1) := by decide +kernel
theorem dX5_writeAll_24 : decode cX5_writeAll 24 = .ok (.ireturn, 1) := by decide +kernel
theorem dX5_writeAll_25 : decode cX5_writeAll 25 = .ok (.aload_n 0, 1) := by decide +kernel
theorem dX5_writeAll_26 : decode cX5_writeAll 26 = .ok (.getfield 51, 3) := by decide +kernel
theorem dX5_writeAll_29 : decode cX5_writeAll 29 = .ok (.invokevirtual 135, 3) := by decide +kernel
theorem dX5_writeAll_32 : decode cX5_writeAll 32 = .ok (.ifCond .eq 6, 3) := by decide +kernel
theorem dX5_writeAll_35 : decode cX5_writeAll 35 = .ok (.bipush (-2), 2) := by decide +kernel
theorem dX5_writeAll_37 : decode cX5_writeAll 37 = .ok (.ireturn, 1) := by decide +kernel
theorem dX5_writeAll_38 : decode cX5_writeAll 38 = .ok (.aload_n 0, 1) := by decide +kernel
theorem dX5_writeAll_39 : decode cX5_writeAll 39 = .ok (.getfield 20, 3) := by decide +kernel
theorem dX5_writeAll_42 : decode cX5_writeAll 42 = .ok (.getfield 89, 3) := by decide +kernel
theorem dX5_writeAll_45 : decode cX5_writeAll 45 = .ok (.getfield 92, 3) := by decide +kernel
theorem dX5_writeAll_48 : decode cX5_writeAll 48 = .ok (.aload_n 0, 1) := by decide +kernel
theorem dX5_writeAll_49 : decode cX5_writeAll 49 = .ok (.getfield 51, 3) := by decide +kernel
theorem dX5_writeAll_52 : decode cX5_writeAll 52 = .ok (.getfield 92, 3) := by decide +kernel
theorem dX5_writeAll_55 : decode cX5_writeAll 55 = .ok (.iadd, 1) := by decide +kernel
theorem dX5_writeAll_56 : decode cX5_writeAll 56 = .ok (.bipush 30, 2) := by decide +kernel
theorem dX5_writeAll_58 : decode cX5_writeAll 58 = .ok (.if_icmp .le 6, 3) := by decide +kernel
theorem dX5_writeAll_61 : decode cX5_writeAll 61 = .ok (.bipush (-3), 2) := by decide +kernel
theorem dX5_writeAll_63 : decode cX5_writeAll 63 = .ok (.ireturn, 1) := by decide +kernel
theorem dX5_writeAll_64 : decode cX5_writeAll 64 = .ok (.aload_n 0, 1) := by decide +kernel
theorem dX5_writeAll_65 : decode cX5_writeAll 65 = .ok (.invokevirtual 77, 3) := by decide +kernel
theorem dX5_writeAll_68 : decode cX5_writeAll 68 = .ok (.aload_n 0, 1) := by decide +kernel
theorem dX5_writeAll_69 : decode cX5_writeAll 69 = .ok (.getfield 20, 3) := by decide +kernel
theorem dX5_writeAll_72 : decode cX5_writeAll 72 = .ok (.getfield 89, 3) := by decide +kernel
theorem dX5_writeAll_75 : decode cX5_writeAll 75 = .ok (.aload_n 0, 1) := by decide +kernel
theorem dX5_writeAll_76 : decode cX5_writeAll 76 = .ok (.getfield 51, 3) := by decide +kernel
theorem dX5_writeAll_79 : decode cX5_writeAll 79 = .ok (.invokevirtual 139, 3) := by decide +kernel
theorem dX5_writeAll_82 : decode cX5_writeAll 82 = .ok (.aload_n 0, 1) := by decide +kernel
theorem dX5_writeAll_83 : decode cX5_writeAll 83 = .ok (.getfield 51, 3) := by decide +kernel
theorem dX5_writeAll_86 : decode cX5_writeAll 86 = .ok (.getfield 92, 3) := by decide +kernel
theorem dX5_writeAll_89 : decode cX5_writeAll 89 = .ok (.ireturn, 1) := by decide +kernel
theorem dX5_undo_0 : decode cX5_undo 0 = .ok (.aload_n 0, 1) := by decide +kernel
theorem dX5_undo_1 : decode cX5_undo 1 = .ok (.getfield 37, 3) := by decide +kernel
theorem dX5_undo_4 : decode cX5_undo 4 = .ok (.iconst 1, 1) := by decide +kernel
theorem dX5_undo_5 : decode cX5_undo 5 = .ok (.if_icmp .ge 6, 3) := by decide +kernel
theorem dX5_undo_8 : decode cX5_undo 8 = .ok (.bipush (-5), 2) := by decide +kernel
theorem dX5_undo_10 : decode cX5_undo 10 = .ok (.ireturn, 1) := by decide +kernel
theorem dX5_undo_11 : decode cX5_undo 11 = .ok (.aload_n 0, 1) := by decide +kernel
theorem dX5_undo_12 : decode cX5_undo 12 = .ok (.dup, 1) := by decide +kernel
theorem dX5_undo_13 : decode cX5_undo 13 = .ok (.getfield 37, 3) := by decide +kernel
theorem dX5_undo_16 : decode cX5_undo 16 = .ok (.iconst 1, 1) := by decide +kernel
theorem dX5_undo_17 : decode cX5_undo 17 = .ok (.isub, 1) := by decide +kernel
theorem dX5_undo_18 : decode cX5_undo 18 = .ok (.putfield 37, 3) := by decide +kernel
theorem dX5_undo_21 : decode cX5_undo 21 = .ok (.aload_n 0, 1) := by decide +kernel
theorem dX5_undo_22 : decode cX5_undo 22 = .ok (.getfield 20, 3) := by decide +kernel
theorem dX5_undo_25 : decode cX5_undo 25 = .ok (.aload_n 0, 1) := by decide +kernel
theorem dX5_undo_26 : decode cX5_undo 26 = .ok (.getfield 33, 3) := by decide +kernel
theorem dX5_undo_29 : decode cX5_undo 29 = .ok (.aload_n 0, 1) := by decide +kernel
theorem dX5_undo_30 : decode cX5_undo 30 = .ok (.getfield 37, 3) := by decide +kernel
theorem dX5_undo_33 : decode cX5_undo 33 = .ok (.aaload, 1) := by decide +kernel
theorem dX5_undo_34 : decode cX5_undo 34 = .ok (.invokevirtual 143, 3) := by decide +kernel
theorem dX5_undo_37 : decode cX5_undo 37 = .ok (.aload_n 0, 1) := by decide +kernel
theorem dX5_undo_38 : decode cX5_undo 38 = .ok (.getfield 37, 3) := by decide +kernel
theorem dX5_undo_41 : decode cX5_undo 41 = .ok (.ireturn, 1) := by decide +kernel
theorem dX5_keep_0 : decode cX5_keep 0 = .ok (.aload_n 0, 1) := by decide +kernel
theorem dX5_keep_1 : decode cX5_keep 1 = .ok (.getfield 26, 3) := by decide +kernel
theorem dX5_keep_4 : decode cX5_keep 4 = .ok (.aload_n 0, 1) := by decide +kernel
theorem dX5_keep_5 : decode cX5_keep 5 = .ok (.getfield 20, 3) := by decide +kernel
theorem dX5_keep_8 : decode cX5_keep 8 = .ok (.invokevirtual 143, 3) := by decide +kernel
theorem dX5_keep_11 : decode cX5_keep 11 = .ok (.aload_n 0, 1) := by decide +kernel
theorem dX5_keep_12 : decode cX5_keep 12 = .ok (.iconst 1, 1) := by decide +kernel
theorem dX5_keep_13 : decode cX5_keep 13 = .ok (.putfield 29, 3) := by decide +kernel
theorem dX5_keep_16 : decode cX5_keep 16 = .ok (.aload_n 0, 1) := by decide +kernel
theorem dX5_keep_17 : decode cX5_keep 17 = .ok (.getfield 20, 3) := by decide +kernel
theorem dX5_keep_20 : decode cX5_keep 20 = .ok (.getfield 89, 3) := by decide +kernel
theorem dX5_keep_23 : decode cX5_keep 23 = .ok (.getfield 92, 3) := by decide +kernel
theorem dX5_keep_26 : decode cX5_keep 26 = .ok (.ireturn, 1) := by decide +kernel
theorem dX5_restore_0 : decode cX5_restore 0 = .ok (.aload_n 0, 1) := by decide +kernel
theorem dX5_restore_1 : decode cX5_restore 1 = .ok (.getfield 29, 3) := by decide +kernel
theorem dX5_restore_4 : decode cX5_restore 4 = .ok (.ifCond .ne 6, 3) := by decide +kernel
theorem dX5_restore_7 : decode cX5_restore 7 = .ok (.bipush (-5), 2) := by decide +kernel
theorem dX5_restore_9 : decode cX5_restore 9 = .ok (.ireturn, 1) := by decide +kernel
theorem dX5_restore_10 : decode cX5_restore 10 = .ok (.aload_n 0, 1) := by decide +kernel
theorem dX5_restore_11 : decode cX5_restore 11 = .ok (.invokevirtual 77, 3) := by decide +kernel
theorem dX5_restore_14 : decode cX5_restore 14 = .ok (.aload_n 0, 1) := by decide +kernel
theorem dX5_restore_15 : decode cX5_restore 15 = .ok (.getfield 20, 3) := by decide +kernel
theorem dX5_restore_18 : decode cX5_restore 18 = .ok (.aload_n 0, 1) := by decide +kernel
theorem dX5_restore_19 : decode cX5_restore 19 = .ok (.getfield 26, 3) := by decide +kernel
theorem dX5_restore_22 : decode cX5_restore 22 = .ok (.invokevirtual 143, 3) := by decide +kernel
theorem dX5_restore_25 : decode cX5_restore 25 = .ok (.aload_n 0, 1) := by decide +kernel
theorem dX5_restore_26 : decode cX5_restore 26 = .ok (.getfield 20, 3) := by decide +kernel
theorem dX5_restore_29 : decode cX5_restore 29 = .ok (.getfield 89, 3) := by decide +kernel
theorem dX5_restore_32 : decode cX5_restore 32 = .ok (.getfield 92, 3) := by decide +kernel
theorem dX5_restore_35 : decode cX5_restore 35 = .ok (.ireturn, 1) := by decide +kernel
theorem dX5_chapter_0 : decode cX5_chapter 0 = .ok (.iload_n 1, 1) := by decide +kernel
theorem dX5_chapter_1 : decode cX5_chapter 1 = .ok (.invokestatic 62, 3) := by decide +kernel
theorem dX5_chapter_4 : decode cX5_chapter 4 = .ok (.ifCond .ne 5, 3) := by decide +kernel
theorem dX5_chapter_7 : decode cX5_chapter 7 = .ok (.iconst (-1), 1) := by decide +kernel
theorem dX5_chapter_8 : decode cX5_chapter 8 = .ok (.ireturn, 1) := by decide +kernel
theorem dX5_chapter_9 : decode cX5_chapter 9 = .ok (.iload_n 2, 1) := by decide +kernel
theorem dX5_chapter_10 : decode cX5_chapter 10 = .ok (.tableswitch 108 0 5 #[38, 48, 58, 68, 80, 99], 38) := by decide +kernel
theorem dX5_chapter_48 : decode cX5_chapter 48 = .ok (.aload_n 0, 1) := by decide +kernel
theorem dX5_chapter_49 : decode cX5_chapter 49 = .ok (.getfield 20, 3) := by decide +kernel
theorem dX5_chapter_52 : decode cX5_chapter 52 = .ok (.getfield 70, 3) := by decide +kernel
theorem dX5_chapter_55 : decode cX5_chapter 55 = .ok (.iload_n 1, 1) := by decide +kernel
theorem dX5_chapter_56 : decode cX5_chapter 56 = .ok (.iaload, 1) := by decide +kernel
theorem dX5_chapter_57 : decode cX5_chapter 57 = .ok (.ireturn, 1) := by decide +kernel
theorem dX5_chapter_58 : decode cX5_chapter 58 = .ok (.aload_n 0, 1) := by decide +kernel
theorem dX5_chapter_59 : decode cX5_chapter 59 = .ok (.getfield 20, 3) := by decide +kernel
theorem dX5_chapter_62 : decode cX5_chapter 62 = .ok (.getfield 74, 3) := by decide +kernel
theorem dX5_chapter_65 : decode cX5_chapter 65 = .ok (.iload_n 1, 1) := by decide +kernel
theorem dX5_chapter_66 : decode cX5_chapter 66 = .ok (.iaload, 1) := by decide +kernel
theorem dX5_chapter_67 : decode cX5_chapter 67 = .ok (.ireturn, 1) := by decide +kernel
theorem dX5_chapter_68 : decode cX5_chapter 68 = .ok (.aload_n 0, 1) := by decide +kernel
theorem dX5_chapter_69 : decode cX5_chapter 69 = .ok (.getfield 20, 3) := by decide +kernel
theorem dX5_chapter_72 : decode cX5_chapter 72 = .ok (.getfield 80, 3) := by decide +kernel
theorem dX5_chapter_75 : decode cX5_chapter 75 = .ok (.iload_n 1, 1) := by decide +kernel
theorem dX5_chapter_76 : decode cX5_chapter 76 = .ok (.iaload, 1) := by decide +kernel
theorem dX5_chapter_77 : decode cX5_chapter 77 = .ok (.ireturn, 1) := by decide +kernel
theorem dX5_chapter_78 : decode cX5_chapter 78 = .ok (.aload_n 0, 1) := by decide +kernel
theorem dX5_chapter_79 : decode cX5_chapter 79 = .ok (.getfield 20, 3) := by decide +kernel
theorem dX5_chapter_82 : decode cX5_chapter 82 = .ok (.getfield 89, 3) := by decide +kernel
theorem dX5_chapter_85 : decode cX5_chapter 85 = .ok (.iload_n 1, 1) := by decide +kernel
theorem dX5_chapter_86 : decode cX5_chapter 86 = .ok (.invokevirtual 147, 3) := by decide +kernel
theorem dX5_chapter_89 : decode cX5_chapter 89 = .ok (.ireturn, 1) := by decide +kernel
theorem dX5_chapter_90 : decode cX5_chapter 90 = .ok (.aload_n 0, 1) := by decide +kernel
theorem dX5_chapter_91 : decode cX5_chapter 91 = .ok (.getfield 20, 3) := by decide +kernel
theorem dX5_chapter_94 : decode cX5_chapter 94 = .ok (.getfield 89, 3) := by decide +kernel
theorem dX5_chapter_97 : decode cX5_chapter 97 = .ok (.iload_n 1, 1) := by decide +kernel
theorem dX5_chapter_98 : decode cX5_chapter 98 = .ok (.aload_n 0, 1) := by decide +kernel
theorem dX5_chapter_99 : decode cX5_chapter 99 = .ok (.getfield 20, 3) := by decide +kernel
theorem dX5_chapter_102 : decode cX5_chapter 102 = .ok (.getfield 115, 3) := by decide +kernel
theorem dX5_chapter_105 : decode cX5_chapter 105 = .ok (.invokevirtual 151, 3) := by decide +kernel
theorem dX5_chapter_108 : decode cX5_chapter 108 = .ok (.ireturn, 1) := by decide +kernel
theorem dX5_chapter_109 : decode cX5_chapter 109 = .ok (.aload_n 0, 1) := by decide +kernel
theorem dX5_chapter_110 : decode cX5_chapter 110 = .ok (.getfield 10, 3) := by decide +kernel
theorem dX5_chapter_113 : decode cX5_chapter 113 = .ok (.iload_n 1, 1) := by decide +kernel
theorem dX5_chapter_114 : decode cX5_chapter 114 = .ok (.invokevirtual 154, 3) := by decide +kernel
theorem dX5_chapter_117 : decode cX5_chapter 117 = .ok (.ireturn, 1) := by decide +kernel
theorem dX5_chapter_118 : decode cX5_chapter 118 = .ok (.bipush (-2), 2) := by decide +kernel
theorem dX5_chapter_120 : decode cX5_chapter 120 = .ok (.ireturn, 1) := by decide +kernel
theorem dX5_clause_0 : decode cX5_clause 0 = .ok (.aload_n 0, 1) := by decide +kernel
theorem dX5_clause_1 : decode cX5_clause 1 = .ok (.getfield 20, 3) := by decide +kernel
theorem dX5_clause_4 : decode cX5_clause 4 = .ok (.getfield 89, 3) := by decide +kernel
theorem dX5_clause_7 : decode cX5_clause 7 = .ok (.astore_n 3, 1) := by decide +kernel
theorem dX5_clause_8 : decode cX5_clause 8 = .ok (.aload_n 3, 1) := by decide +kernel
theorem dX5_clause_9 : decode cX5_clause 9 = .ok (.iload_n 1, 1) := by decide +kernel
theorem dX5_clause_10 : decode cX5_clause 10 = .ok (.invokevirtual 99, 3) := by decide +kernel
theorem dX5_clause_13 : decode cX5_clause 13 = .ok (.ifCond .ne 5, 3) := by decide +kernel
theorem dX5_clause_16 : decode cX5_clause 16 = .ok (.iconst (-1), 1) := by decide +kernel
theorem dX5_clause_17 : decode cX5_clause 17 = .ok (.ireturn, 1) := by decide +kernel
theorem dX5_clause_18 : decode cX5_clause 18 = .ok (.iload_n 2, 1) := by decide +kernel
theorem dX5_clause_19 : decode cX5_clause 19 = .ok (.tableswitch 141 0 9 #[53, 60, 67, 74, 81, 88, 95, 102, 123, 132], 53) := by decide +kernel
theorem dX5_clause_72 : decode cX5_clause 72 = .ok (.aload_n 3, 1) := by decide +kernel
theorem dX5_clause_73 : decode cX5_clause 73 = .ok (.getfield 157, 3) := by decide +kernel
theorem dX5_clause_76 : decode cX5_clause 76 = .ok (.iload_n 1, 1) := by decide +kernel
theorem dX5_clause_77 : decode cX5_clause 77 = .ok (.iaload, 1) := by decide +kernel
theorem dX5_clause_78 : decode cX5_clause 78 = .ok (.ireturn, 1) := by decide +kernel
theorem dX5_clause_79 : decode cX5_clause 79 = .ok (.aload_n 3, 1) := by decide +kernel
theorem dX5_clause_80 : decode cX5_clause 80 = .ok (.getfield 109, 3) := by decide +kernel
theorem dX5_clause_83 : decode cX5_clause 83 = .ok (.iload_n 1, 1) := by decide +kernel
theorem dX5_clause_84 : decode cX5_clause 84 = .ok (.iaload, 1) := by decide +kernel
theorem dX5_clause_85 : decode cX5_clause 85 = .ok (.ireturn, 1) := by decide +kernel
theorem dX5_clause_86 : decode cX5_clause 86 = .ok (.aload_n 3, 1) := by decide +kernel
theorem dX5_clause_87 : decode cX5_clause 87 = .ok (.getfield 112, 3) := by decide +kernel
theorem dX5_clause_90 : decode cX5_clause 90 = .ok (.iload_n 1, 1) := by decide +kernel
theorem dX5_clause_91 : decode cX5_clause 91 = .ok (.iaload, 1) := by decide +kernel
theorem dX5_clause_92 : decode cX5_clause 92 = .ok (.ireturn, 1) := by decide +kernel
theorem dX5_clause_93 : decode cX5_clause 93 = .ok (.aload_n 3, 1) := by decide +kernel
theorem dX5_clause_94 : decode cX5_clause 94 = .ok (.getfield 160, 3) := by decide +kernel
theorem dX5_clause_97 : decode cX5_clause 97 = .ok (.iload_n 1, 1) := by decide +kernel
theorem dX5_clause_98 : decode cX5_clause 98 = .ok (.iaload, 1) := by decide +kernel
theorem dX5_clause_99 : decode cX5_clause 99 = .ok (.ireturn, 1) := by decide +kernel
theorem dX5_clause_100 : decode cX5_clause 100 = .ok (.aload_n 3, 1) := by decide +kernel
theorem dX5_clause_101 : decode cX5_clause 101 = .ok (.getfield 163, 3) := by decide +kernel
theorem dX5_clause_104 : decode cX5_clause 104 = .ok (.iload_n 1, 1) := by decide +kernel
theorem dX5_clause_105 : decode cX5_clause 105 = .ok (.iaload, 1) := by decide +kernel
theorem dX5_clause_106 : decode cX5_clause 106 = .ok (.ireturn, 1) := by decide +kernel
theorem dX5_clause_107 : decode cX5_clause 107 = .ok (.aload_n 3, 1) := by decide +kernel
theorem dX5_clause_108 : decode cX5_clause 108 = .ok (.getfield 166, 3) := by decide +kernel
theorem dX5_clause_111 : decode cX5_clause 111 = .ok (.iload_n 1, 1) := by decide +kernel
theorem dX5_clause_112 : decode cX5_clause 112 = .ok (.iaload, 1) := by decide +kernel
theorem dX5_clause_113 : decode cX5_clause 113 = .ok (.ireturn, 1) := by decide +kernel
theorem dX5_clause_114 : decode cX5_clause 114 = .ok (.aload_n 3, 1) := by decide +kernel
theorem dX5_clause_115 : decode cX5_clause 115 = .ok (.getfield 102, 3) := by decide +kernel
theorem dX5_clause_118 : decode cX5_clause 118 = .ok (.iload_n 1, 1) := by decide +kernel
theorem dX5_clause_119 : decode cX5_clause 119 = .ok (.iaload, 1) := by decide +kernel
theorem dX5_clause_120 : decode cX5_clause 120 = .ok (.ireturn, 1) := by decide +kernel
theorem dX5_clause_121 : decode cX5_clause 121 = .ok (.aload_n 3, 1) := by decide +kernel
theorem dX5_clause_122 : decode cX5_clause 122 = .ok (.iload_n 1, 1) := by decide +kernel
theorem dX5_clause_123 : decode cX5_clause 123 = .ok (.aload_n 0, 1) := by decide +kernel
theorem dX5_clause_124 : decode cX5_clause 124 = .ok (.getfield 20, 3) := by decide +kernel
theorem dX5_clause_127 : decode cX5_clause 127 = .ok (.getfield 115, 3) := by decide +kernel
theorem dX5_clause_130 : decode cX5_clause 130 = .ok (.invokevirtual 169, 3) := by decide +kernel
theorem dX5_clause_133 : decode cX5_clause 133 = .ok (.ifCond .eq 7, 3) := by decide +kernel
theorem dX5_clause_136 : decode cX5_clause 136 = .ok (.iconst 1, 1) := by decide +kernel
theorem dX5_clause_137 : decode cX5_clause 137 = .ok (.goto 4, 3) := by decide +kernel
theorem dX5_clause_140 : decode cX5_clause 140 = .ok (.iconst 0, 1) := by decide +kernel
theorem dX5_clause_141 : decode cX5_clause 141 = .ok (.ireturn, 1) := by decide +kernel
theorem dX5_clause_142 : decode cX5_clause 142 = .ok (.aload_n 0, 1) := by decide +kernel
theorem dX5_clause_143 : decode cX5_clause 143 = .ok (.getfield 10, 3) := by decide +kernel
theorem dX5_clause_146 : decode cX5_clause 146 = .ok (.iload_n 1, 1) := by decide +kernel
theorem dX5_clause_147 : decode cX5_clause 147 = .ok (.invokevirtual 172, 3) := by decide +kernel
theorem dX5_clause_150 : decode cX5_clause 150 = .ok (.ireturn, 1) := by decide +kernel
theorem dX5_clause_151 : decode cX5_clause 151 = .ok (.aload_n 0, 1) := by decide +kernel
theorem dX5_clause_152 : decode cX5_clause 152 = .ok (.getfield 10, 3) := by decide +kernel
theorem dX5_clause_155 : decode cX5_clause 155 = .ok (.iload_n 1, 1) := by decide +kernel
theorem dX5_clause_156 : decode cX5_clause 156 = .ok (.invokevirtual 175, 3) := by decide +kernel
theorem dX5_clause_159 : decode cX5_clause 159 = .ok (.ireturn, 1) := by decide +kernel
theorem dX5_clause_160 : decode cX5_clause 160 = .ok (.bipush (-2), 2) := by decide +kernel
theorem dX5_clause_162 : decode cX5_clause 162 = .ok (.ireturn, 1) := by decide +kernel
theorem dX5_ruling_0 : decode cX5_ruling 0 = .ok (.iload_n 1, 1) := by decide +kernel
theorem dX5_ruling_1 : decode cX5_ruling 1 = .ok (.invokestatic 178, 3) := by decide +kernel
theorem dX5_ruling_4 : decode cX5_ruling 4 = .ok (.ifCond .eq 10, 3) := by decide +kernel
theorem dX5_ruling_7 : decode cX5_ruling 7 = .ok (.iload_n 2, 1) := by decide +kernel
theorem dX5_ruling_8 : decode cX5_ruling 8 = .ok (.invokestatic 83, 3) := by decide +kernel
theorem dX5_ruling_11 : decode cX5_ruling 11 = .ok (.ifCond .ne 5, 3) := by decide +kernel
theorem dX5_ruling_14 : decode cX5_ruling 14 = .ok (.iconst (-1), 1) := by decide +kernel
theorem dX5_ruling_15 : decode cX5_ruling 15 = .ok (.ireturn, 1) := by decide +kernel
theorem dX5_ruling_16 : decode cX5_ruling 16 = .ok (.iload_n 3, 1) := by decide +kernel
theorem dX5_ruling_17 : decode cX5_ruling 17 = .ok (.iconst 3, 1) := by decide +kernel
theorem dX5_ruling_18 : decode cX5_ruling 18 = .ok (.invokestatic 86, 3) := by decide +kernel
theorem dX5_ruling_21 : decode cX5_ruling 21 = .ok (.ifCond .ne 6, 3) := by decide +kernel
theorem dX5_ruling_24 : decode cX5_ruling 24 = .ok (.bipush (-2), 2) := by decide +kernel
theorem dX5_ruling_26 : decode cX5_ruling 26 = .ok (.ireturn, 1) := by decide +kernel
theorem dX5_ruling_27 : decode cX5_ruling 27 = .ok (.aload_n 0, 1) := by decide +kernel
theorem dX5_ruling_28 : decode cX5_ruling 28 = .ok (.getfield 10, 3) := by decide +kernel
theorem dX5_ruling_31 : decode cX5_ruling 31 = .ok (.iload_n 1, 1) := by decide +kernel
theorem dX5_ruling_32 : decode cX5_ruling 32 = .ok (.iload_n 2, 1) := by decide +kernel
theorem dX5_ruling_33 : decode cX5_ruling 33 = .ok (.invokevirtual 181, 3) := by decide +kernel
theorem dX5_ruling_36 : decode cX5_ruling 36 = .ok (.istore 4, 2) := by decide +kernel
theorem dX5_ruling_38 : decode cX5_ruling 38 = .ok (.iload 4, 2) := by decide +kernel
theorem dX5_ruling_40 : decode cX5_ruling 40 = .ok (.iconst (-1), 1) := by decide +kernel
theorem dX5_ruling_41 : decode cX5_ruling 41 = .ok (.if_icmp .ne 6, 3) := by decide +kernel
theorem dX5_ruling_44 : decode cX5_ruling 44 = .ok (.bipush (-5), 2) := by decide +kernel
theorem dX5_ruling_46 : decode cX5_ruling 46 = .ok (.ireturn, 1) := by decide +kernel
theorem dX5_ruling_47 : decode cX5_ruling 47 = .ok (.iload_n 3, 1) := by decide +kernel
theorem dX5_ruling_48 : decode cX5_ruling 48 = .ok (.ifCond .ne 17, 3) := by decide +kernel
theorem dX5_ruling_51 : decode cX5_ruling 51 = .ok (.aload_n 0, 1) := by decide +kernel
theorem dX5_ruling_52 : decode cX5_ruling 52 = .ok (.getfield 20, 3) := by decide +kernel
theorem dX5_ruling_55 : decode cX5_ruling 55 = .ok (.getfield 89, 3) := by decide +kernel
theorem dX5_ruling_58 : decode cX5_ruling 58 = .ok (.getfield 166, 3) := by decide +kernel
theorem dX5_ruling_61 : decode cX5_ruling 61 = .ok (.iload 4, 2) := by decide +kernel
theorem dX5_ruling_63 : decode cX5_ruling 63 = .ok (.iaload, 1) := by decide +kernel
theorem dX5_ruling_64 : decode cX5_ruling 64 = .ok (.ireturn, 1) := by decide +kernel
theorem dX5_ruling_65 : decode cX5_ruling 65 = .ok (.iload_n 3, 1) := by decide +kernel
theorem dX5_ruling_66 : decode cX5_ruling 66 = .ok (.iconst 1, 1) := by decide +kernel
theorem dX5_ruling_67 : decode cX5_ruling 67 = .ok (.if_icmp .ne 8, 3) := by decide +kernel
theorem dX5_ruling_70 : decode cX5_ruling 70 = .ok (.iload 4, 2) := by decide +kernel
theorem dX5_ruling_72 : decode cX5_ruling 72 = .ok (.goto 16, 3) := by decide +kernel
theorem dX5_ruling_75 : decode cX5_ruling 75 = .ok (.aload_n 0, 1) := by decide +kernel
theorem dX5_ruling_76 : decode cX5_ruling 76 = .ok (.getfield 20, 3) := by decide +kernel
theorem dX5_ruling_79 : decode cX5_ruling 79 = .ok (.getfield 89, 3) := by decide +kernel
theorem dX5_ruling_82 : decode cX5_ruling 82 = .ok (.getfield 157, 3) := by decide +kernel
theorem dX5_ruling_85 : decode cX5_ruling 85 = .ok (.iload 4, 2) := by decide +kernel
theorem dX5_ruling_87 : decode cX5_ruling 87 = .ok (.iaload, 1) := by decide +kernel
theorem dX5_ruling_88 : decode cX5_ruling 88 = .ok (.ireturn, 1) := by decide +kernel
theorem dX5_painted_0 : decode cX5_painted 0 = .ok (.iload_n 1, 1) := by decide +kernel
theorem dX5_painted_1 : decode cX5_painted 1 = .ok (.invokestatic 178, 3) := by decide +kernel
theorem dX5_painted_4 : decode cX5_painted 4 = .ok (.ifCond .eq 10, 3) := by decide +kernel
theorem dX5_painted_7 : decode cX5_painted 7 = .ok (.iload_n 2, 1) := by decide +kernel
theorem dX5_painted_8 : decode cX5_painted 8 = .ok (.invokestatic 83, 3) := by decide +kernel
theorem dX5_painted_11 : decode cX5_painted 11 = .ok (.ifCond .ne 5, 3) := by decide +kernel
theorem dX5_painted_14 : decode cX5_painted 14 = .ok (.iconst (-1), 1) := by decide +kernel
theorem dX5_painted_15 : decode cX5_painted 15 = .ok (.ireturn, 1) := by decide +kernel
theorem dX5_painted_16 : decode cX5_painted 16 = .ok (.aload_n 0, 1) := by decide +kernel
theorem dX5_painted_17 : decode cX5_painted 17 = .ok (.getfield 58, 3) := by decide +kernel
theorem dX5_painted_20 : decode cX5_painted 20 = .ok (.aload_n 0, 1) := by decide +kernel
theorem dX5_painted_21 : decode cX5_painted 21 = .ok (.getfield 20, 3) := by decide +kernel
theorem dX5_painted_24 : decode cX5_painted 24 = .ok (.iload_n 2, 1) := by decide +kernel
theorem dX5_painted_25 : decode cX5_painted 25 = .ok (.invokevirtual 184, 3) := by decide +kernel
theorem dX5_painted_28 : decode cX5_painted 28 = .ok (.aload_n 0, 1) := by decide +kernel
theorem dX5_painted_29 : decode cX5_painted 29 = .ok (.getfield 58, 3) := by decide +kernel
theorem dX5_painted_32 : decode cX5_painted 32 = .ok (.getfield 188, 3) := by decide +kernel
theorem dX5_painted_35 : decode cX5_painted 35 = .ok (.iload_n 1, 1) := by decide +kernel
theorem dX5_painted_36 : decode cX5_painted 36 = .ok (.iaload, 1) := by decide +kernel
theorem dX5_painted_37 : decode cX5_painted 37 = .ok (.istore_n 3, 1) := by decide +kernel
theorem dX5_painted_38 : decode cX5_painted 38 = .ok (.iload_n 3, 1) := by decide +kernel
theorem dX5_painted_39 : decode cX5_painted 39 = .ok (.iconst (-1), 1) := by decide +kernel
theorem dX5_painted_40 : decode cX5_painted 40 = .ok (.if_icmp .ne 8, 3) := by decide +kernel
theorem dX5_painted_43 : decode cX5_painted 43 = .ok (.bipush (-5), 2) := by decide +kernel
theorem dX5_painted_45 : decode cX5_painted 45 = .ok (.goto 4, 3) := by decide +kernel
theorem dX5_painted_48 : decode cX5_painted 48 = .ok (.iload_n 3, 1) := by decide +kernel
theorem dX5_painted_49 : decode cX5_painted 49 = .ok (.ireturn, 1) := by decide +kernel
theorem dX5_silencedBy_0 : decode cX5_silencedBy 0 = .ok (.aload_n 0, 1) := by decide +kernel
theorem dX5_silencedBy_1 : decode cX5_silencedBy 1 = .ok (.getfield 20, 3) := by decide +kernel
theorem dX5_silencedBy_4 : decode cX5_silencedBy 4 = .ok (.getfield 89, 3) := by decide +kernel
theorem dX5_silencedBy_7 : decode cX5_silencedBy 7 = .ok (.iload_n 1, 1) := by decide +kernel
theorem dX5_silencedBy_8 : decode cX5_silencedBy 8 = .ok (.invokevirtual 99, 3) := by decide +kernel
theorem dX5_silencedBy_11 : decode cX5_silencedBy 11 = .ok (.ifCond .eq 17, 3) := by decide +kernel
theorem dX5_silencedBy_14 : decode cX5_silencedBy 14 = .ok (.iload_n 2, 1) := by decide +kernel
theorem dX5_silencedBy_15 : decode cX5_silencedBy 15 = .ok (.invokestatic 178, 3) := by decide +kernel
theorem dX5_silencedBy_18 : decode cX5_silencedBy 18 = .ok (.ifCond .eq 10, 3) := by decide +kernel
theorem dX5_silencedBy_21 : decode cX5_silencedBy 21 = .ok (.iload_n 3, 1) := by decide +kernel
theorem dX5_silencedBy_22 : decode cX5_silencedBy 22 = .ok (.invokestatic 83, 3) := by decide +kernel
theorem dX5_silencedBy_25 : decode cX5_silencedBy 25 = .ok (.ifCond .ne 5, 3) := by decide +kernel
theorem dX5_silencedBy_28 : decode cX5_silencedBy 28 = .ok (.iconst (-1), 1) := by decide +kernel
theorem dX5_silencedBy_29 : decode cX5_silencedBy 29 = .ok (.ireturn, 1) := by decide +kernel
theorem dX5_silencedBy_30 : decode cX5_silencedBy 30 = .ok (.aload_n 0, 1) := by decide +kernel
theorem dX5_silencedBy_31 : decode cX5_silencedBy 31 = .ok (.getfield 10, 3) := by decide +kernel
theorem dX5_silencedBy_34 : decode cX5_silencedBy 34 = .ok (.iload_n 1, 1) := by decide +kernel
theorem dX5_silencedBy_35 : decode cX5_silencedBy 35 = .ok (.iload_n 2, 1) := by decide +kernel
theorem dX5_silencedBy_36 : decode cX5_silencedBy 36 = .ok (.iload_n 3, 1) := by decide +kernel
theorem dX5_silencedBy_37 : decode cX5_silencedBy 37 = .ok (.invokevirtual 191, 3) := by decide +kernel
theorem dX5_silencedBy_40 : decode cX5_silencedBy 40 = .ok (.istore 4, 2) := by decide +kernel
theorem dX5_silencedBy_42 : decode cX5_silencedBy 42 = .ok (.iload 4, 2) := by decide +kernel
theorem dX5_silencedBy_44 : decode cX5_silencedBy 44 = .ok (.iconst (-1), 1) := by decide +kernel
theorem dX5_silencedBy_45 : decode cX5_silencedBy 45 = .ok (.if_icmp .ne 8, 3) := by decide +kernel
theorem dX5_silencedBy_48 : decode cX5_silencedBy 48 = .ok (.bipush (-5), 2) := by decide +kernel
theorem dX5_silencedBy_50 : decode cX5_silencedBy 50 = .ok (.goto 5, 3) := by decide +kernel
theorem dX5_silencedBy_53 : decode cX5_silencedBy 53 = .ok (.iload 4, 2) := by decide +kernel
theorem dX5_silencedBy_55 : decode cX5_silencedBy 55 = .ok (.ireturn, 1) := by decide +kernel
theorem dX5_reason_0 : decode cX5_reason 0 = .ok (.aload_n 0, 1) := by decide +kernel
theorem dX5_reason_1 : decode cX5_reason 1 = .ok (.getfield 20, 3) := by decide +kernel
theorem dX5_reason_4 : decode cX5_reason 4 = .ok (.getfield 89, 3) := by decide +kernel
theorem dX5_reason_7 : decode cX5_reason 7 = .ok (.iload_n 1, 1) := by decide +kernel
theorem dX5_reason_8 : decode cX5_reason 8 = .ok (.invokevirtual 99, 3) := by decide +kernel
theorem dX5_reason_11 : decode cX5_reason 11 = .ok (.ifCond .eq 17, 3) := by decide +kernel
theorem dX5_reason_14 : decode cX5_reason 14 = .ok (.iload_n 2, 1) := by decide +kernel
theorem dX5_reason_15 : decode cX5_reason 15 = .ok (.invokestatic 178, 3) := by decide +kernel
theorem dX5_reason_18 : decode cX5_reason 18 = .ok (.ifCond .eq 10, 3) := by decide +kernel
theorem dX5_reason_21 : decode cX5_reason 21 = .ok (.iload_n 3, 1) := by decide +kernel
theorem dX5_reason_22 : decode cX5_reason 22 = .ok (.invokestatic 83, 3) := by decide +kernel
theorem dX5_reason_25 : decode cX5_reason 25 = .ok (.ifCond .ne 5, 3) := by decide +kernel
theorem dX5_reason_28 : decode cX5_reason 28 = .ok (.iconst (-1), 1) := by decide +kernel
theorem dX5_reason_29 : decode cX5_reason 29 = .ok (.ireturn, 1) := by decide +kernel
theorem dX5_reason_30 : decode cX5_reason 30 = .ok (.aload_n 0, 1) := by decide +kernel
theorem dX5_reason_31 : decode cX5_reason 31 = .ok (.getfield 10, 3) := by decide +kernel
theorem dX5_reason_34 : decode cX5_reason 34 = .ok (.iload_n 1, 1) := by decide +kernel
theorem dX5_reason_35 : decode cX5_reason 35 = .ok (.iload_n 2, 1) := by decide +kernel
theorem dX5_reason_36 : decode cX5_reason 36 = .ok (.iload_n 3, 1) := by decide +kernel
theorem dX5_reason_37 : decode cX5_reason 37 = .ok (.invokevirtual 195, 3) := by decide +kernel
theorem dX5_reason_40 : decode cX5_reason 40 = .ok (.ireturn, 1) := by decide +kernel
theorem dX5_changesOn_0 : decode cX5_changesOn 0 = .ok (.iload_n 1, 1) := by decide +kernel
theorem dX5_changesOn_1 : decode cX5_changesOn 1 = .ok (.invokestatic 178, 3) := by decide +kernel
theorem dX5_changesOn_4 : decode cX5_changesOn 4 = .ok (.ifCond .eq 10, 3) := by decide +kernel
theorem dX5_changesOn_7 : decode cX5_changesOn 7 = .ok (.iload_n 2, 1) := by decide +kernel
theorem dX5_changesOn_8 : decode cX5_changesOn 8 = .ok (.invokestatic 83, 3) := by decide +kernel
theorem dX5_changesOn_11 : decode cX5_changesOn 11 = .ok (.ifCond .ne 5, 3) := by decide +kernel
theorem dX5_changesOn_14 : decode cX5_changesOn 14 = .ok (.iconst (-1), 1) := by decide +kernel
theorem dX5_changesOn_15 : decode cX5_changesOn 15 = .ok (.ireturn, 1) := by decide +kernel
theorem dX5_changesOn_16 : decode cX5_changesOn 16 = .ok (.aload_n 0, 1) := by decide +kernel
theorem dX5_changesOn_17 : decode cX5_changesOn 17 = .ok (.getfield 10, 3) := by decide +kernel
theorem dX5_changesOn_20 : decode cX5_changesOn 20 = .ok (.iload_n 1, 1) := by decide +kernel
theorem dX5_changesOn_21 : decode cX5_changesOn 21 = .ok (.iload_n 2, 1) := by decide +kernel
theorem dX5_changesOn_22 : decode cX5_changesOn 22 = .ok (.invokevirtual 198, 3) := by decide +kernel
theorem dX5_changesOn_25 : decode cX5_changesOn 25 = .ok (.ireturn, 1) := by decide +kernel
theorem dX5_unlike_0 : decode cX5_unlike 0 = .ok (.iload_n 1, 1) := by decide +kernel
theorem dX5_unlike_1 : decode cX5_unlike 1 = .ok (.invokestatic 62, 3) := by decide +kernel
theorem dX5_unlike_4 : decode cX5_unlike 4 = .ok (.ifCond .eq 10, 3) := by decide +kernel
theorem dX5_unlike_7 : decode cX5_unlike 7 = .ok (.iload_n 2, 1) := by decide +kernel
theorem dX5_unlike_8 : decode cX5_unlike 8 = .ok (.invokestatic 62, 3) := by decide +kernel
theorem dX5_unlike_11 : decode cX5_unlike 11 = .ok (.ifCond .ne 5, 3) := by decide +kernel
theorem dX5_unlike_14 : decode cX5_unlike 14 = .ok (.iconst (-1), 1) := by decide +kernel
theorem dX5_unlike_15 : decode cX5_unlike 15 = .ok (.ireturn, 1) := by decide +kernel
theorem dX5_unlike_16 : decode cX5_unlike 16 = .ok (.iload_n 1, 1) := by decide +kernel
theorem dX5_unlike_17 : decode cX5_unlike 17 = .ok (.iload_n 2, 1) := by decide +kernel
theorem dX5_unlike_18 : decode cX5_unlike 18 = .ok (.if_icmp .ne 6, 3) := by decide +kernel
theorem dX5_unlike_21 : decode cX5_unlike 21 = .ok (.bipush (-2), 2) := by decide +kernel
theorem dX5_unlike_23 : decode cX5_unlike 23 = .ok (.ireturn, 1) := by decide +kernel
theorem dX5_unlike_24 : decode cX5_unlike 24 = .ok (.aload_n 0, 1) := by decide +kernel
theorem dX5_unlike_25 : decode cX5_unlike 25 = .ok (.getfield 10, 3) := by decide +kernel
theorem dX5_unlike_28 : decode cX5_unlike 28 = .ok (.iload_n 1, 1) := by decide +kernel
theorem dX5_unlike_29 : decode cX5_unlike 29 = .ok (.iload_n 2, 1) := by decide +kernel
theorem dX5_unlike_30 : decode cX5_unlike 30 = .ok (.invokevirtual 201, 3) := by decide +kernel
theorem dX5_unlike_33 : decode cX5_unlike 33 = .ok (.ireturn, 1) := by decide +kernel
theorem dX5_idle_0 : decode cX5_idle 0 = .ok (.iconst 1, 1) := by decide +kernel
theorem dX5_idle_1 : decode cX5_idle 1 = .ok (.aload_n 0, 1) := by decide +kernel
theorem dX5_idle_2 : decode cX5_idle 2 = .ok (.getfield 20, 3) := by decide +kernel
theorem dX5_idle_5 : decode cX5_idle 5 = .ok (.getfield 89, 3) := by decide +kernel
theorem dX5_idle_8 : decode cX5_idle 8 = .ok (.getfield 92, 3) := by decide +kernel
theorem dX5_idle_11 : decode cX5_idle 11 = .ok (.ishl, 1) := by decide +kernel
theorem dX5_idle_12 : decode cX5_idle 12 = .ok (.iconst 1, 1) := by decide +kernel
theorem dX5_idle_13 : decode cX5_idle 13 = .ok (.isub, 1) := by decide +kernel
theorem dX5_idle_14 : decode cX5_idle 14 = .ok (.istore_n 1, 1) := by decide +kernel
theorem dX5_idle_15 : decode cX5_idle 15 = .ok (.iload_n 1, 1) := by decide +kernel
theorem dX5_idle_16 : decode cX5_idle 16 = .ok (.aload_n 0, 1) := by decide +kernel
theorem dX5_idle_17 : decode cX5_idle 17 = .ok (.getfield 10, 3) := by decide +kernel
theorem dX5_idle_20 : decode cX5_idle 20 = .ok (.invokevirtual 204, 3) := by decide +kernel
theorem dX5_idle_23 : decode cX5_idle 23 = .ok (.iconst (-1), 1) := by decide +kernel
theorem dX5_idle_24 : decode cX5_idle 24 = .ok (.ixor, 1) := by decide +kernel
theorem dX5_idle_25 : decode cX5_idle 25 = .ok (.iand, 1) := by decide +kernel
theorem dX5_idle_26 : decode cX5_idle 26 = .ok (.ireturn, 1) := by decide +kernel
theorem dX5_ifGone_0 : decode cX5_ifGone 0 = .ok (.aload_n 0, 1) := by decide +kernel
theorem dX5_ifGone_1 : decode cX5_ifGone 1 = .ok (.getfield 20, 3) := by decide +kernel
theorem dX5_ifGone_4 : decode cX5_ifGone 4 = .ok (.getfield 89, 3) := by decide +kernel
theorem dX5_ifGone_7 : decode cX5_ifGone 7 = .ok (.iload_n 1, 1) := by decide +kernel
theorem dX5_ifGone_8 : decode cX5_ifGone 8 = .ok (.invokevirtual 99, 3) := by decide +kernel
theorem dX5_ifGone_11 : decode cX5_ifGone 11 = .ok (.ifCond .ne 5, 3) := by decide +kernel
theorem dX5_ifGone_14 : decode cX5_ifGone 14 = .ok (.iconst (-1), 1) := by decide +kernel
theorem dX5_ifGone_15 : decode cX5_ifGone 15 = .ok (.ireturn, 1) := by decide +kernel
theorem dX5_ifGone_16 : decode cX5_ifGone 16 = .ok (.aload_n 0, 1) := by decide +kernel
theorem dX5_ifGone_17 : decode cX5_ifGone 17 = .ok (.getfield 10, 3) := by decide +kernel
theorem dX5_ifGone_20 : decode cX5_ifGone 20 = .ok (.iload_n 1, 1) := by decide +kernel
theorem dX5_ifGone_21 : decode cX5_ifGone 21 = .ok (.invokevirtual 208, 3) := by decide +kernel
theorem dX5_ifGone_24 : decode cX5_ifGone 24 = .ok (.ireturn, 1) := by decide +kernel
theorem dX5_weightiest_0 : decode cX5_weightiest 0 = .ok (.aload_n 0, 1) := by decide +kernel
theorem dX5_weightiest_1 : decode cX5_weightiest 1 = .ok (.getfield 10, 3) := by decide +kernel
theorem dX5_weightiest_4 : decode cX5_weightiest 4 = .ok (.invokevirtual 211, 3) := by decide +kernel
theorem dX5_weightiest_7 : decode cX5_weightiest 7 = .ok (.istore_n 1, 1) := by decide +kernel
theorem dX5_weightiest_8 : decode cX5_weightiest 8 = .ok (.iload_n 1, 1) := by decide +kernel
theorem dX5_weightiest_9 : decode cX5_weightiest 9 = .ok (.iconst (-1), 1) := by decide +kernel
theorem dX5_weightiest_10 : decode cX5_weightiest 10 = .ok (.if_icmp .ne 8, 3) := by decide +kernel
theorem dX5_weightiest_13 : decode cX5_weightiest 13 = .ok (.bipush (-5), 2) := by decide +kernel
theorem dX5_weightiest_15 : decode cX5_weightiest 15 = .ok (.goto 4, 3) := by decide +kernel
theorem dX5_weightiest_18 : decode cX5_weightiest 18 = .ok (.iload_n 1, 1) := by decide +kernel
theorem dX5_weightiest_19 : decode cX5_weightiest 19 = .ok (.ireturn, 1) := by decide +kernel
theorem dX5_count_0 : decode cX5_count 0 = .ok (.iload_n 1, 1) := by decide +kernel
theorem dX5_count_1 : decode cX5_count 1 = .ok (.tableswitch 139 0 8 #[51, 59, 70, 88, 96, 104, 115, 126, 131], 51) := by decide +kernel
theorem dX5_count_52 : decode cX5_count 52 = .ok (.aload_n 0, 1) := by decide +kernel
theorem dX5_count_53 : decode cX5_count 53 = .ok (.getfield 20, 3) := by decide +kernel
theorem dX5_count_56 : decode cX5_count 56 = .ok (.getfield 115, 3) := by decide +kernel
theorem dX5_count_59 : decode cX5_count 59 = .ok (.ireturn, 1) := by decide +kernel
theorem dX5_count_60 : decode cX5_count 60 = .ok (.aload_n 0, 1) := by decide +kernel
theorem dX5_count_61 : decode cX5_count 61 = .ok (.getfield 20, 3) := by decide +kernel
theorem dX5_count_64 : decode cX5_count 64 = .ok (.getfield 89, 3) := by decide +kernel
theorem dX5_count_67 : decode cX5_count 67 = .ok (.getfield 92, 3) := by decide +kernel
theorem dX5_count_70 : decode cX5_count 70 = .ok (.ireturn, 1) := by decide +kernel
theorem dX5_count_71 : decode cX5_count 71 = .ok (.aload_n 0, 1) := by decide +kernel
theorem dX5_count_72 : decode cX5_count 72 = .ok (.getfield 20, 3) := by decide +kernel
theorem dX5_count_75 : decode cX5_count 75 = .ok (.getfield 89, 3) := by decide +kernel
theorem dX5_count_78 : decode cX5_count 78 = .ok (.aload_n 0, 1) := by decide +kernel
theorem dX5_count_79 : decode cX5_count 79 = .ok (.getfield 20, 3) := by decide +kernel
theorem dX5_count_82 : decode cX5_count 82 = .ok (.getfield 115, 3) := by decide +kernel
theorem dX5_count_85 : decode cX5_count 85 = .ok (.invokevirtual 214, 3) := by decide +kernel
theorem dX5_count_88 : decode cX5_count 88 = .ok (.ireturn, 1) := by decide +kernel
theorem dX5_count_89 : decode cX5_count 89 = .ok (.aload_n 0, 1) := by decide +kernel
theorem dX5_count_90 : decode cX5_count 90 = .ok (.getfield 10, 3) := by decide +kernel
theorem dX5_count_93 : decode cX5_count 93 = .ok (.invokevirtual 217, 3) := by decide +kernel
theorem dX5_count_96 : decode cX5_count 96 = .ok (.ireturn, 1) := by decide +kernel
theorem dX5_count_97 : decode cX5_count 97 = .ok (.aload_n 0, 1) := by decide +kernel
theorem dX5_count_98 : decode cX5_count 98 = .ok (.getfield 10, 3) := by decide +kernel
theorem dX5_count_101 : decode cX5_count 101 = .ok (.invokevirtual 220, 3) := by decide +kernel
theorem dX5_count_104 : decode cX5_count 104 = .ok (.ireturn, 1) := by decide +kernel
theorem dX5_count_105 : decode cX5_count 105 = .ok (.aload_n 0, 1) := by decide +kernel
theorem dX5_count_106 : decode cX5_count 106 = .ok (.getfield 20, 3) := by decide +kernel
theorem dX5_count_109 : decode cX5_count 109 = .ok (.getfield 89, 3) := by decide +kernel
theorem dX5_count_112 : decode cX5_count 112 = .ok (.invokevirtual 223, 3) := by decide +kernel
theorem dX5_count_115 : decode cX5_count 115 = .ok (.ireturn, 1) := by decide +kernel
theorem dX5_count_116 : decode cX5_count 116 = .ok (.aload_n 0, 1) := by decide +kernel
theorem dX5_count_117 : decode cX5_count 117 = .ok (.getfield 20, 3) := by decide +kernel
theorem dX5_count_120 : decode cX5_count 120 = .ok (.getfield 89, 3) := by decide +kernel
theorem dX5_count_123 : decode cX5_count 123 = .ok (.invokevirtual 226, 3) := by decide +kernel
theorem dX5_count_126 : decode cX5_count 126 = .ok (.ireturn, 1) := by decide +kernel
theorem dX5_count_127 : decode cX5_count 127 = .ok (.aload_n 0, 1) := by decide +kernel
theorem dX5_count_128 : decode cX5_count 128 = .ok (.getfield 37, 3) := by decide +kernel
theorem dX5_count_131 : decode cX5_count 131 = .ok (.ireturn, 1) := by decide +kernel
theorem dX5_count_132 : decode cX5_count 132 = .ok (.aload_n 0, 1) := by decide +kernel
theorem dX5_count_133 : decode cX5_count 133 = .ok (.getfield 44, 3) := by decide +kernel
theorem dX5_count_136 : decode cX5_count 136 = .ok (.getfield 122, 3) := by decide +kernel
theorem dX5_count_139 : decode cX5_count 139 = .ok (.ireturn, 1) := by decide +kernel
theorem dX5_count_140 : decode cX5_count 140 = .ok (.bipush (-2), 2) := by decide +kernel
theorem dX5_count_142 : decode cX5_count 142 = .ok (.ireturn, 1) := by decide +kernel
theorem dX5_isBelow_0 : decode cX5_isBelow 0 = .ok (.iload_n 0, 1) := by decide +kernel
theorem dX5_isBelow_1 : decode cX5_isBelow 1 = .ok (.ifCond .lt 12, 3) := by decide +kernel
theorem dX5_isBelow_4 : decode cX5_isBelow 4 = .ok (.iload_n 0, 1) := by decide +kernel
theorem dX5_isBelow_5 : decode cX5_isBelow 5 = .ok (.iload_n 1, 1) := by decide +kernel
theorem dX5_isBelow_6 : decode cX5_isBelow 6 = .ok (.if_icmp .ge 7, 3) := by decide +kernel
theorem dX5_isBelow_9 : decode cX5_isBelow 9 = .ok (.iconst 1, 1) := by decide +kernel
theorem dX5_isBelow_10 : decode cX5_isBelow 10 = .ok (.goto 4, 3) := by decide +kernel
theorem dX5_isBelow_13 : decode cX5_isBelow 13 = .ok (.iconst 0, 1) := by decide +kernel
theorem dX5_isBelow_14 : decode cX5_isBelow 14 = .ok (.ireturn, 1) := by decide +kernel
theorem dX5_isChapter_0 : decode cX5_isChapter 0 = .ok (.iload_n 0, 1) := by decide +kernel
theorem dX5_isChapter_1 : decode cX5_isChapter 1 = .ok (.bipush 6, 2) := by decide +kernel
theorem dX5_isChapter_3 : decode cX5_isChapter 3 = .ok (.invokestatic 86, 3) := by decide +kernel
theorem dX5_isChapter_6 : decode cX5_isChapter 6 = .ok (.ireturn, 1) := by decide +kernel
theorem dX5_isCase_0 : decode cX5_isCase 0 = .ok (.iload_n 0, 1) := by decide +kernel
theorem dX5_isCase_1 : decode cX5_isCase 1 = .ok (.bipush 100, 2) := by decide +kernel
theorem dX5_isCase_3 : decode cX5_isCase 3 = .ok (.invokestatic 86, 3) := by decide +kernel
theorem dX5_isCase_6 : decode cX5_isCase 6 = .ok (.ireturn, 1) := by decide +kernel
theorem dX5_isDay_0 : decode cX5_isDay 0 = .ok (.iload_n 0, 1) := by decide +kernel
theorem dX5_isDay_1 : decode cX5_isDay 1 = .ok (.sipush 1000, 3) := by decide +kernel
theorem dX5_isDay_4 : decode cX5_isDay 4 = .ok (.invokestatic 86, 3) := by decide +kernel
theorem dX5_isDay_7 : decode cX5_isDay 7 = .ok (.ireturn, 1) := by decide +kernel
theorem dX5_isSpan_0 : decode cX5_isSpan 0 = .ok (.iload_n 0, 1) := by decide +kernel
theorem dX5_isSpan_1 : decode cX5_isSpan 1 = .ok (.invokestatic 178, 3) := by decide +kernel
theorem dX5_isSpan_4 : decode cX5_isSpan 4 = .ok (.ifCond .eq 19, 3) := by decide +kernel
theorem dX5_isSpan_7 : decode cX5_isSpan 7 = .ok (.iload_n 1, 1) := by decide +kernel
theorem dX5_isSpan_8 : decode cX5_isSpan 8 = .ok (.invokestatic 178, 3) := by decide +kernel
theorem dX5_isSpan_11 : decode cX5_isSpan 11 = .ok (.ifCond .eq 12, 3) := by decide +kernel
theorem dX5_isSpan_14 : decode cX5_isSpan 14 = .ok (.iload_n 0, 1) := by decide +kernel
theorem dX5_isSpan_15 : decode cX5_isSpan 15 = .ok (.iload_n 1, 1) := by decide +kernel
theorem dX5_isSpan_16 : decode cX5_isSpan 16 = .ok (.if_icmp .gt 7, 3) := by decide +kernel
theorem dX5_isSpan_19 : decode cX5_isSpan 19 = .ok (.iconst 1, 1) := by decide +kernel
theorem dX5_isSpan_20 : decode cX5_isSpan 20 = .ok (.goto 4, 3) := by decide +kernel
theorem dX5_isSpan_23 : decode cX5_isSpan 23 = .ok (.iconst 0, 1) := by decide +kernel
theorem dX5_isSpan_24 : decode cX5_isSpan 24 = .ok (.ireturn, 1) := by decide +kernel
theorem dX5_record_0 : decode cX5_record 0 = .ok (.aload_n 0, 1) := by decide +kernel
theorem dX5_record_1 : decode cX5_record 1 = .ok (.getfield 37, 3) := by decide +kernel
theorem dX5_record_4 : decode cX5_record 4 = .ok (.iconst 4, 1) := by decide +kernel
theorem dX5_record_5 : decode cX5_record 5 = .ok (.if_icmp .ge 16, 3) := by decide +kernel
theorem dX5_record_8 : decode cX5_record 8 = .ok (.aload_n 0, 1) := by decide +kernel
theorem dX5_record_9 : decode cX5_record 9 = .ok (.dup, 1) := by decide +kernel
theorem dX5_record_10 : decode cX5_record 10 = .ok (.getfield 37, 3) := by decide +kernel
theorem dX5_record_13 : decode cX5_record 13 = .ok (.iconst 1, 1) := by decide +kernel
theorem dX5_record_14 : decode cX5_record 14 = .ok (.iadd, 1) := by decide +kernel
theorem dX5_record_15 : decode cX5_record 15 = .ok (.putfield 37, 3) := by decide +kernel
theorem dX5_record_18 : decode cX5_record 18 = .ok (.goto 44, 3) := by decide +kernel
theorem dX5_record_21 : decode cX5_record 21 = .ok (.aload_n 0, 1) := by decide +kernel
theorem dX5_record_22 : decode cX5_record 22 = .ok (.getfield 33, 3) := by decide +kernel
theorem dX5_record_25 : decode cX5_record 25 = .ok (.iconst 0, 1) := by decide +kernel
theorem dX5_record_26 : decode cX5_record 26 = .ok (.aaload, 1) := by decide +kernel
theorem dX5_record_27 : decode cX5_record 27 = .ok (.astore_n 1, 1) := by decide +kernel
theorem dX5_record_28 : decode cX5_record 28 = .ok (.iconst 1, 1) := by decide +kernel
theorem dX5_record_29 : decode cX5_record 29 = .ok (.istore_n 2, 1) := by decide +kernel
theorem dX5_record_30 : decode cX5_record 30 = .ok (.iload_n 2, 1) := by decide +kernel
theorem dX5_record_31 : decode cX5_record 31 = .ok (.iconst 4, 1) := by decide +kernel
theorem dX5_record_32 : decode cX5_record 32 = .ok (.if_icmp .ge 23, 3) := by decide +kernel
end
section
theorem dX5_record_35 : decode cX5_record 35 = .ok (.aload_n 0, 1) := by decide +kernel
theorem dX5_record_36 : decode cX5_record 36 = .ok (.getfield 33, 3) := by decide +kernel
theorem dX5_record_39 : decode cX5_record 39 = .ok (.iload_n 2, 1) := by decide +kernel
theorem dX5_record_40 : decode cX5_record 40 = .ok (.iconst 1, 1) := by decide +kernel
theorem dX5_record_41 : decode cX5_record 41 = .ok (.isub, 1) := by decide +kernel
theorem dX5_record_42 : decode cX5_record 42 = .ok (.aload_n 0, 1) := by decide +kernel
theorem dX5_record_43 : decode cX5_record 43 = .ok (.getfield 33, 3) := by decide +kernel
theorem dX5_record_46 : decode cX5_record 46 = .ok (.iload_n 2, 1) := by decide +kernel
theorem dX5_record_47 : decode cX5_record 47 = .ok (.aaload, 1) := by decide +kernel
theorem dX5_record_48 : decode cX5_record 48 = .ok (.aastore, 1) := by decide +kernel
theorem dX5_record_49 : decode cX5_record 49 = .ok (.iinc 2 1, 3) := by decide +kernel
theorem dX5_record_52 : decode cX5_record 52 = .ok (.goto (-22), 3) := by decide +kernel
theorem dX5_record_55 : decode cX5_record 55 = .ok (.aload_n 0, 1) := by decide +kernel
theorem dX5_record_56 : decode cX5_record 56 = .ok (.getfield 33, 3) := by decide +kernel
theorem dX5_record_59 : decode cX5_record 59 = .ok (.iconst 3, 1) := by decide +kernel
theorem dX5_record_60 : decode cX5_record 60 = .ok (.aload_n 1, 1) := by decide +kernel
theorem dX5_record_61 : decode cX5_record 61 = .ok (.aastore, 1) := by decide +kernel
theorem dX5_record_62 : decode cX5_record 62 = .ok (.aload_n 0, 1) := by decide +kernel
theorem dX5_record_63 : decode cX5_record 63 = .ok (.getfield 33, 3) := by decide +kernel
theorem dX5_record_66 : decode cX5_record 66 = .ok (.aload_n 0, 1) := by decide +kernel
theorem dX5_record_67 : decode cX5_record 67 = .ok (.getfield 37, 3) := by decide +kernel
theorem dX5_record_70 : decode cX5_record 70 = .ok (.iconst 1, 1) := by decide +kernel
theorem dX5_record_71 : decode cX5_record 71 = .ok (.isub, 1) := by decide +kernel
theorem dX5_record_72 : decode cX5_record 72 = .ok (.aaload, 1) := by decide +kernel
theorem dX5_record_73 : decode cX5_record 73 = .ok (.aload_n 0, 1) := by decide +kernel
theorem dX5_record_74 : decode cX5_record 74 = .ok (.getfield 20, 3) := by decide +kernel
theorem dX5_record_77 : decode cX5_record 77 = .ok (.invokevirtual 143, 3) := by decide +kernel
theorem dX5_record_80 : decode cX5_record 80 = .ok (.return_, 1) := by decide +kernel
theorem dX6_init_0 : decode cX6_init 0 = .ok (.aload_n 0, 1) := by decide +kernel
theorem dX6_init_1 : decode cX6_init 1 = .ok (.invokespecial 1, 3) := by decide +kernel
theorem dX6_init_4 : decode cX6_init 4 = .ok (.aload_n 0, 1) := by decide +kernel
theorem dX6_init_5 : decode cX6_init 5 = .ok (.sipush 410, 3) := by decide +kernel
theorem dX6_init_8 : decode cX6_init 8 = .ok (.newarray .int, 2) := by decide +kernel
theorem dX6_init_10 : decode cX6_init 10 = .ok (.putfield 7, 3) := by decide +kernel
theorem dX6_init_13 : decode cX6_init 13 = .ok (.aload_n 0, 1) := by decide +kernel
theorem dX6_init_14 : decode cX6_init 14 = .ok (.sipush 1640, 3) := by decide +kernel
theorem dX6_init_17 : decode cX6_init 17 = .ok (.newarray .int, 2) := by decide +kernel
theorem dX6_init_19 : decode cX6_init 19 = .ok (.putfield 13, 3) := by decide +kernel
theorem dX6_init_22 : decode cX6_init 22 = .ok (.aload_n 0, 1) := by decide +kernel
theorem dX6_init_23 : decode cX6_init 23 = .ok (.sipush 410, 3) := by decide +kernel
theorem dX6_init_26 : decode cX6_init 26 = .ok (.newarray .int, 2) := by decide +kernel
theorem dX6_init_28 : decode cX6_init 28 = .ok (.putfield 16, 3) := by decide +kernel
theorem dX6_init_31 : decode cX6_init 31 = .ok (.aload_n 0, 1) := by decide +kernel
theorem dX6_init_32 : decode cX6_init 32 = .ok (.bipush 80, 2) := by decide +kernel
theorem dX6_init_34 : decode cX6_init 34 = .ok (.newarray .int, 2) := by decide +kernel
theorem dX6_init_36 : decode cX6_init 36 = .ok (.putfield 19, 3) := by decide +kernel
theorem dX6_init_39 : decode cX6_init 39 = .ok (.aload_n 0, 1) := by decide +kernel
theorem dX6_init_40 : decode cX6_init 40 = .ok (.bipush 100, 2) := by decide +kernel
theorem dX6_init_42 : decode cX6_init 42 = .ok (.newarray .int, 2) := by decide +kernel
theorem dX6_init_44 : decode cX6_init 44 = .ok (.putfield 22, 3) := by decide +kernel
theorem dX6_init_47 : decode cX6_init 47 = .ok (.aload_n 0, 1) := by decide +kernel
theorem dX6_init_48 : decode cX6_init 48 = .ok (.bipush 100, 2) := by decide +kernel
theorem dX6_init_50 : decode cX6_init 50 = .ok (.newarray .int, 2) := by decide +kernel
theorem dX6_init_52 : decode cX6_init 52 = .ok (.putfield 25, 3) := by decide +kernel
theorem dX6_init_55 : decode cX6_init 55 = .ok (.iconst 0, 1) := by decide +kernel
theorem dX6_init_56 : decode cX6_init 56 = .ok (.istore_n 1, 1) := by decide +kernel
theorem dX6_init_57 : decode cX6_init 57 = .ok (.iload_n 1, 1) := by decide +kernel
theorem dX6_init_58 : decode cX6_init 58 = .ok (.bipush 6, 2) := by decide +kernel
theorem dX6_init_60 : decode cX6_init 60 = .ok (.if_icmp .ge 32, 3) := by decide +kernel
theorem dX6_init_63 : decode cX6_init 63 = .ok (.aload_n 0, 1) := by decide +kernel
theorem dX6_init_64 : decode cX6_init 64 = .ok (.getfield 7, 3) := by decide +kernel
theorem dX6_init_67 : decode cX6_init 67 = .ok (.iload_n 1, 1) := by decide +kernel
theorem dX6_init_68 : decode cX6_init 68 = .ok (.iconst 1, 1) := by decide +kernel
theorem dX6_init_69 : decode cX6_init 69 = .ok (.invokestatic 28, 3) := by decide +kernel
theorem dX6_init_72 : decode cX6_init 72 = .ok (.bipush 99, 2) := by decide +kernel
theorem dX6_init_74 : decode cX6_init 74 = .ok (.iastore, 1) := by decide +kernel
theorem dX6_init_75 : decode cX6_init 75 = .ok (.aload_n 0, 1) := by decide +kernel
theorem dX6_init_76 : decode cX6_init 76 = .ok (.getfield 7, 3) := by decide +kernel
theorem dX6_init_79 : decode cX6_init 79 = .ok (.iload_n 1, 1) := by decide +kernel
theorem dX6_init_80 : decode cX6_init 80 = .ok (.iconst 2, 1) := by decide +kernel
theorem dX6_init_81 : decode cX6_init 81 = .ok (.invokestatic 28, 3) := by decide +kernel
theorem dX6_init_84 : decode cX6_init 84 = .ok (.iload_n 1, 1) := by decide +kernel
theorem dX6_init_85 : decode cX6_init 85 = .ok (.iastore, 1) := by decide +kernel
theorem dX6_init_86 : decode cX6_init 86 = .ok (.iinc 1 1, 3) := by decide +kernel
theorem dX6_init_89 : decode cX6_init 89 = .ok (.goto (-32), 3) := by decide +kernel
theorem dX6_init_92 : decode cX6_init 92 = .ok (.return_, 1) := by decide +kernel
theorem dX6_in_0 : decode cX6_in 0 = .ok (.iload_n 0, 1) := by decide +kernel
theorem dX6_in_1 : decode cX6_in 1 = .ok (.iload_n 1, 1) := by decide +kernel
theorem dX6_in_2 : decode cX6_in 2 = .ok (.if_icmp .lt 12, 3) := by decide +kernel
theorem dX6_in_5 : decode cX6_in 5 = .ok (.iload_n 0, 1) := by decide +kernel
theorem dX6_in_6 : decode cX6_in 6 = .ok (.iload_n 2, 1) := by decide +kernel
theorem dX6_in_7 : decode cX6_in 7 = .ok (.if_icmp .gt 7, 3) := by decide +kernel
theorem dX6_in_10 : decode cX6_in 10 = .ok (.iconst 1, 1) := by decide +kernel
theorem dX6_in_11 : decode cX6_in 11 = .ok (.goto 4, 3) := by decide +kernel
theorem dX6_in_14 : decode cX6_in 14 = .ok (.iconst 0, 1) := by decide +kernel
theorem dX6_in_15 : decode cX6_in 15 = .ok (.ireturn, 1) := by decide +kernel
theorem dX6_isChapter_0 : decode cX6_isChapter 0 = .ok (.iload_n 0, 1) := by decide +kernel
theorem dX6_isChapter_1 : decode cX6_isChapter 1 = .ok (.iconst 0, 1) := by decide +kernel
theorem dX6_isChapter_2 : decode cX6_isChapter 2 = .ok (.iconst 5, 1) := by decide +kernel
theorem dX6_isChapter_3 : decode cX6_isChapter 3 = .ok (.invokestatic 32, 3) := by decide +kernel
theorem dX6_isChapter_6 : decode cX6_isChapter 6 = .ok (.ireturn, 1) := by decide +kernel
theorem dX6_isCase_0 : decode cX6_isCase 0 = .ok (.iload_n 0, 1) := by decide +kernel
theorem dX6_isCase_1 : decode cX6_isCase 1 = .ok (.iconst 0, 1) := by decide +kernel
theorem dX6_isCase_2 : decode cX6_isCase 2 = .ok (.bipush 99, 2) := by decide +kernel
theorem dX6_isCase_4 : decode cX6_isCase 4 = .ok (.invokestatic 32, 3) := by decide +kernel
theorem dX6_isCase_7 : decode cX6_isCase 7 = .ok (.ireturn, 1) := by decide +kernel
theorem dX6_isDay_0 : decode cX6_isDay 0 = .ok (.iload_n 0, 1) := by decide +kernel
theorem dX6_isDay_1 : decode cX6_isDay 1 = .ok (.iconst 0, 1) := by decide +kernel
theorem dX6_isDay_2 : decode cX6_isDay 2 = .ok (.sipush 999, 3) := by decide +kernel
theorem dX6_isDay_5 : decode cX6_isDay 5 = .ok (.invokestatic 32, 3) := by decide +kernel
theorem dX6_isDay_8 : decode cX6_isDay 8 = .ok (.ireturn, 1) := by decide +kernel
theorem dX6_isSpan_0 : decode cX6_isSpan 0 = .ok (.iload_n 0, 1) := by decide +kernel
theorem dX6_isSpan_1 : decode cX6_isSpan 1 = .ok (.invokestatic 36, 3) := by decide +kernel
theorem dX6_isSpan_4 : decode cX6_isSpan 4 = .ok (.ifCond .eq 17, 3) := by decide +kernel
theorem dX6_isSpan_7 : decode cX6_isSpan 7 = .ok (.iload_n 1, 1) := by decide +kernel
theorem dX6_isSpan_8 : decode cX6_isSpan 8 = .ok (.iload_n 0, 1) := by decide +kernel
theorem dX6_isSpan_9 : decode cX6_isSpan 9 = .ok (.bipush 99, 2) := by decide +kernel
theorem dX6_isSpan_11 : decode cX6_isSpan 11 = .ok (.invokestatic 32, 3) := by decide +kernel
theorem dX6_isSpan_14 : decode cX6_isSpan 14 = .ok (.ifCond .eq 7, 3) := by decide +kernel
theorem dX6_isSpan_17 : decode cX6_isSpan 17 = .ok (.iconst 1, 1) := by decide +kernel
theorem dX6_isSpan_18 : decode cX6_isSpan 18 = .ok (.goto 4, 3) := by decide +kernel
theorem dX6_isSpan_21 : decode cX6_isSpan 21 = .ok (.iconst 0, 1) := by decide +kernel
theorem dX6_isSpan_22 : decode cX6_isSpan 22 = .ok (.ireturn, 1) := by decide +kernel
theorem dX6_isClause_0 : decode cX6_isClause 0 = .ok (.iload_n 1, 1) := by decide +kernel
theorem dX6_isClause_1 : decode cX6_isClause 1 = .ok (.iconst 0, 1) := by decide +kernel
theorem dX6_isClause_2 : decode cX6_isClause 2 = .ok (.aload_n 0, 1) := by decide +kernel
theorem dX6_isClause_3 : decode cX6_isClause 3 = .ok (.getfield 7, 3) := by decide +kernel
theorem dX6_isClause_6 : decode cX6_isClause 6 = .ok (.bipush 19, 2) := by decide +kernel
theorem dX6_isClause_8 : decode cX6_isClause 8 = .ok (.iaload, 1) := by decide +kernel
theorem dX6_isClause_9 : decode cX6_isClause 9 = .ok (.iconst 1, 1) := by decide +kernel
theorem dX6_isClause_10 : decode cX6_isClause 10 = .ok (.isub, 1) := by decide +kernel
theorem dX6_isClause_11 : decode cX6_isClause 11 = .ok (.invokestatic 32, 3) := by decide +kernel
theorem dX6_isClause_14 : decode cX6_isClause 14 = .ok (.ireturn, 1) := by decide +kernel
theorem dX6_ofChapter_0 : decode cX6_ofChapter 0 = .ok (.iconst 1, 1) := by decide +kernel
theorem dX6_ofChapter_1 : decode cX6_ofChapter 1 = .ok (.iconst 3, 1) := by decide +kernel
theorem dX6_ofChapter_2 : decode cX6_ofChapter 2 = .ok (.iload_n 0, 1) := by decide +kernel
theorem dX6_ofChapter_3 : decode cX6_ofChapter 3 = .ok (.imul, 1) := by decide +kernel
theorem dX6_ofChapter_4 : decode cX6_ofChapter 4 = .ok (.iadd, 1) := by decide +kernel
theorem dX6_ofChapter_5 : decode cX6_ofChapter 5 = .ok (.iload_n 1, 1) := by decide +kernel
theorem dX6_ofChapter_6 : decode cX6_ofChapter 6 = .ok (.iadd, 1) := by decide +kernel
theorem dX6_ofChapter_7 : decode cX6_ofChapter 7 = .ok (.ireturn, 1) := by decide +kernel
theorem dX6_of_0 : decode cX6_of 0 = .ok (.bipush 20, 2) := by decide +kernel
theorem dX6_of_2 : decode cX6_of 2 = .ok (.bipush 13, 2) := by decide +kernel
theorem dX6_of_4 : decode cX6_of 4 = .ok (.iload_n 0, 1) := by decide +kernel
theorem dX6_of_5 : decode cX6_of 5 = .ok (.imul, 1) := by decide +kernel
theorem dX6_of_6 : decode cX6_of 6 = .ok (.iadd, 1) := by decide +kernel
theorem dX6_of_7 : decode cX6_of 7 = .ok (.iload_n 1, 1) := by decide +kernel
theorem dX6_of_8 : decode cX6_of 8 = .ok (.iadd, 1) := by decide +kernel
theorem dX6_of_9 : decode cX6_of 9 = .ok (.ireturn, 1) := by decide +kernel
theorem dX6_get_0 : decode cX6_get 0 = .ok (.aload_n 0, 1) := by decide +kernel
theorem dX6_get_1 : decode cX6_get 1 = .ok (.getfield 7, 3) := by decide +kernel
theorem dX6_get_4 : decode cX6_get 4 = .ok (.iload_n 1, 1) := by decide +kernel
theorem dX6_get_5 : decode cX6_get 5 = .ok (.iload_n 2, 1) := by decide +kernel
theorem dX6_get_6 : decode cX6_get 6 = .ok (.invokestatic 40, 3) := by decide +kernel
theorem dX6_get_9 : decode cX6_get 9 = .ok (.iaload, 1) := by decide +kernel
theorem dX6_get_10 : decode cX6_get 10 = .ok (.ireturn, 1) := by decide +kernel
theorem dX6_record_0 : decode cX6_record 0 = .ok (.aload_n 0, 1) := by decide +kernel
theorem dX6_record_1 : decode cX6_record 1 = .ok (.getfield 43, 3) := by decide +kernel
theorem dX6_record_4 : decode cX6_record 4 = .ok (.iconst 4, 1) := by decide +kernel
theorem dX6_record_5 : decode cX6_record 5 = .ok (.if_icmp .ne 44, 3) := by decide +kernel
theorem dX6_record_8 : decode cX6_record 8 = .ok (.iconst 0, 1) := by decide +kernel
theorem dX6_record_9 : decode cX6_record 9 = .ok (.istore_n 1, 1) := by decide +kernel
theorem dX6_record_10 : decode cX6_record 10 = .ok (.iload_n 1, 1) := by decide +kernel
theorem dX6_record_11 : decode cX6_record 11 = .ok (.sipush 1230, 3) := by decide +kernel
theorem dX6_record_14 : decode cX6_record 14 = .ok (.if_icmp .ge 25, 3) := by decide +kernel
theorem dX6_record_17 : decode cX6_record 17 = .ok (.aload_n 0, 1) := by decide +kernel
theorem dX6_record_18 : decode cX6_record 18 = .ok (.getfield 13, 3) := by decide +kernel
theorem dX6_record_21 : decode cX6_record 21 = .ok (.iload_n 1, 1) := by decide +kernel
theorem dX6_record_22 : decode cX6_record 22 = .ok (.aload_n 0, 1) := by decide +kernel
theorem dX6_record_23 : decode cX6_record 23 = .ok (.getfield 13, 3) := by decide +kernel
theorem dX6_record_26 : decode cX6_record 26 = .ok (.iload_n 1, 1) := by decide +kernel
theorem dX6_record_27 : decode cX6_record 27 = .ok (.sipush 410, 3) := by decide +kernel
theorem dX6_record_30 : decode cX6_record 30 = .ok (.iadd, 1) := by decide +kernel
theorem dX6_record_31 : decode cX6_record 31 = .ok (.iaload, 1) := by decide +kernel
theorem dX6_record_32 : decode cX6_record 32 = .ok (.iastore, 1) := by decide +kernel
theorem dX6_record_33 : decode cX6_record 33 = .ok (.iinc 1 1, 3) := by decide +kernel
theorem dX6_record_36 : decode cX6_record 36 = .ok (.goto (-26), 3) := by decide +kernel
theorem dX6_record_39 : decode cX6_record 39 = .ok (.aload_n 0, 1) := by decide +kernel
theorem dX6_record_40 : decode cX6_record 40 = .ok (.dup, 1) := by decide +kernel
theorem dX6_record_41 : decode cX6_record 41 = .ok (.getfield 43, 3) := by decide +kernel
theorem dX6_record_44 : decode cX6_record 44 = .ok (.iconst 1, 1) := by decide +kernel
theorem dX6_record_45 : decode cX6_record 45 = .ok (.isub, 1) := by decide +kernel
theorem dX6_record_46 : decode cX6_record 46 = .ok (.putfield 43, 3) := by decide +kernel
theorem dX6_record_49 : decode cX6_record 49 = .ok (.iconst 0, 1) := by decide +kernel
theorem dX6_record_50 : decode cX6_record 50 = .ok (.istore_n 1, 1) := by decide +kernel
theorem dX6_record_51 : decode cX6_record 51 = .ok (.iload_n 1, 1) := by decide +kernel
theorem dX6_record_52 : decode cX6_record 52 = .ok (.sipush 410, 3) := by decide +kernel
theorem dX6_record_55 : decode cX6_record 55 = .ok (.if_icmp .ge 30, 3) := by decide +kernel
theorem dX6_record_58 : decode cX6_record 58 = .ok (.aload_n 0, 1) := by decide +kernel
theorem dX6_record_59 : decode cX6_record 59 = .ok (.getfield 13, 3) := by decide +kernel
theorem dX6_record_62 : decode cX6_record 62 = .ok (.sipush 410, 3) := by decide +kernel
theorem dX6_record_65 : decode cX6_record 65 = .ok (.aload_n 0, 1) := by decide +kernel
theorem dX6_record_66 : decode cX6_record 66 = .ok (.getfield 43, 3) := by decide +kernel
theorem dX6_record_69 : decode cX6_record 69 = .ok (.imul, 1) := by decide +kernel
theorem dX6_record_70 : decode cX6_record 70 = .ok (.iload_n 1, 1) := by decide +kernel
theorem dX6_record_71 : decode cX6_record 71 = .ok (.iadd, 1) := by decide +kernel
theorem dX6_record_72 : decode cX6_record 72 = .ok (.aload_n 0, 1) := by decide +kernel
theorem dX6_record_73 : decode cX6_record 73 = .ok (.getfield 7, 3) := by decide +kernel
theorem dX6_record_76 : decode cX6_record 76 = .ok (.iload_n 1, 1) := by decide +kernel
theorem dX6_record_77 : decode cX6_record 77 = .ok (.iaload, 1) := by decide +kernel
theorem dX6_record_78 : decode cX6_record 78 = .ok (.iastore, 1) := by decide +kernel
theorem dX6_record_79 : decode cX6_record 79 = .ok (.iinc 1 1, 3) := by decide +kernel
theorem dX6_record_82 : decode cX6_record 82 = .ok (.goto (-31), 3) := by decide +kernel
theorem dX6_record_85 : decode cX6_record 85 = .ok (.aload_n 0, 1) := by decide +kernel
theorem dX6_record_86 : decode cX6_record 86 = .ok (.dup, 1) := by decide +kernel
theorem dX6_record_87 : decode cX6_record 87 = .ok (.getfield 43, 3) := by decide +kernel
theorem dX6_record_90 : decode cX6_record 90 = .ok (.iconst 1, 1) := by decide +kernel
theorem dX6_record_91 : decode cX6_record 91 = .ok (.iadd, 1) := by decide +kernel
theorem dX6_record_92 : decode cX6_record 92 = .ok (.putfield 43, 3) := by decide +kernel
theorem dX6_record_95 : decode cX6_record 95 = .ok (.return_, 1) := by decide +kernel
theorem dX6_isInForce_0 : decode cX6_isInForce 0 = .ok (.aload_n 0, 1) := by decide +kernel
theorem dX6_isInForce_1 : decode cX6_isInForce 1 = .ok (.iload_n 1, 1) := by decide +kernel
theorem dX6_isInForce_2 : decode cX6_isInForce 2 = .ok (.iconst 1, 1) := by decide +kernel
theorem dX6_isInForce_3 : decode cX6_isInForce 3 = .ok (.invokevirtual 47, 3) := by decide +kernel
theorem dX6_isInForce_6 : decode cX6_isInForce 6 = .ok (.iload_n 2, 1) := by decide +kernel
theorem dX6_isInForce_7 : decode cX6_isInForce 7 = .ok (.if_icmp .gt 17, 3) := by decide +kernel
theorem dX6_isInForce_10 : decode cX6_isInForce 10 = .ok (.iload_n 2, 1) := by decide +kernel
theorem dX6_isInForce_11 : decode cX6_isInForce 11 = .ok (.aload_n 0, 1) := by decide +kernel
theorem dX6_isInForce_12 : decode cX6_isInForce 12 = .ok (.iload_n 1, 1) := by decide +kernel
theorem dX6_isInForce_13 : decode cX6_isInForce 13 = .ok (.iconst 2, 1) := by decide +kernel
theorem dX6_isInForce_14 : decode cX6_isInForce 14 = .ok (.invokevirtual 47, 3) := by decide +kernel
theorem dX6_isInForce_17 : decode cX6_isInForce 17 = .ok (.if_icmp .ge 7, 3) := by decide +kernel
theorem dX6_isInForce_20 : decode cX6_isInForce 20 = .ok (.iconst 1, 1) := by decide +kernel
theorem dX6_isInForce_21 : decode cX6_isInForce 21 = .ok (.goto 4, 3) := by decide +kernel
theorem dX6_isInForce_24 : decode cX6_isInForce 24 = .ok (.iconst 0, 1) := by decide +kernel
theorem dX6_isInForce_25 : decode cX6_isInForce 25 = .ok (.ireturn, 1) := by decide +kernel
theorem dX6_reaches_0 : decode cX6_reaches 0 = .ok (.iload_n 2, 1) := by decide +kernel
theorem dX6_reaches_1 : decode cX6_reaches 1 = .ok (.aload_n 0, 1) := by decide +kernel
theorem dX6_reaches_2 : decode cX6_reaches 2 = .ok (.getfield 7, 3) := by decide +kernel
theorem dX6_reaches_5 : decode cX6_reaches 5 = .ok (.iload_n 1, 1) := by decide +kernel
theorem dX6_reaches_6 : decode cX6_reaches 6 = .ok (.iconst 0, 1) := by decide +kernel
theorem dX6_reaches_7 : decode cX6_reaches 7 = .ok (.invokestatic 28, 3) := by decide +kernel
theorem dX6_reaches_10 : decode cX6_reaches 10 = .ok (.iaload, 1) := by decide +kernel
theorem dX6_reaches_11 : decode cX6_reaches 11 = .ok (.aload_n 0, 1) := by decide +kernel
theorem dX6_reaches_12 : decode cX6_reaches 12 = .ok (.getfield 7, 3) := by decide +kernel
theorem dX6_reaches_15 : decode cX6_reaches 15 = .ok (.iload_n 1, 1) := by decide +kernel
theorem dX6_reaches_16 : decode cX6_reaches 16 = .ok (.iconst 1, 1) := by decide +kernel
theorem dX6_reaches_17 : decode cX6_reaches 17 = .ok (.invokestatic 28, 3) := by decide +kernel
theorem dX6_reaches_20 : decode cX6_reaches 20 = .ok (.iaload, 1) := by decide +kernel
theorem dX6_reaches_21 : decode cX6_reaches 21 = .ok (.invokestatic 32, 3) := by decide +kernel
theorem dX6_reaches_24 : decode cX6_reaches 24 = .ok (.ireturn, 1) := by decide +kernel
theorem dX6_isExcepted_0 : decode cX6_isExcepted 0 = .ok (.iconst 0, 1) := by decide +kernel
theorem dX6_isExcepted_1 : decode cX6_isExcepted 1 = .ok (.istore_n 3, 1) := by decide +kernel
theorem dX6_isExcepted_2 : decode cX6_isExcepted 2 = .ok (.iconst 0, 1) := by decide +kernel
theorem dX6_isExcepted_3 : decode cX6_isExcepted 3 = .ok (.istore 4, 2) := by decide +kernel
theorem dX6_isExcepted_5 : decode cX6_isExcepted 5 = .ok (.iload 4, 2) := by decide +kernel
theorem dX6_isExcepted_7 : decode cX6_isExcepted 7 = .ok (.aload_n 0, 1) := by decide +kernel
theorem dX6_isExcepted_8 : decode cX6_isExcepted 8 = .ok (.iload_n 1, 1) := by decide +kernel
theorem dX6_isExcepted_9 : decode cX6_isExcepted 9 = .ok (.bipush 6, 2) := by decide +kernel
theorem dX6_isExcepted_11 : decode cX6_isExcepted 11 = .ok (.invokevirtual 47, 3) := by decide +kernel
theorem dX6_isExcepted_14 : decode cX6_isExcepted 14 = .ok (.if_icmp .ge 52, 3) := by decide +kernel
theorem dX6_isExcepted_17 : decode cX6_isExcepted 17 = .ok (.iload_n 3, 1) := by decide +kernel
theorem dX6_isExcepted_18 : decode cX6_isExcepted 18 = .ok (.ifCond .ne 36, 3) := by decide +kernel
theorem dX6_isExcepted_21 : decode cX6_isExcepted 21 = .ok (.iload_n 2, 1) := by decide +kernel
theorem dX6_isExcepted_22 : decode cX6_isExcepted 22 = .ok (.aload_n 0, 1) := by decide +kernel
theorem dX6_isExcepted_23 : decode cX6_isExcepted 23 = .ok (.iload_n 1, 1) := by decide +kernel
theorem dX6_isExcepted_24 : decode cX6_isExcepted 24 = .ok (.bipush 7, 2) := by decide +kernel
theorem dX6_isExcepted_26 : decode cX6_isExcepted 26 = .ok (.iconst 2, 1) := by decide +kernel
theorem dX6_isExcepted_27 : decode cX6_isExcepted 27 = .ok (.iload 4, 2) := by decide +kernel
theorem dX6_isExcepted_29 : decode cX6_isExcepted 29 = .ok (.imul, 1) := by decide +kernel
theorem dX6_isExcepted_30 : decode cX6_isExcepted 30 = .ok (.iadd, 1) := by decide +kernel
theorem dX6_isExcepted_31 : decode cX6_isExcepted 31 = .ok (.invokevirtual 47, 3) := by decide +kernel
theorem dX6_isExcepted_34 : decode cX6_isExcepted 34 = .ok (.aload_n 0, 1) := by decide +kernel
theorem dX6_isExcepted_35 : decode cX6_isExcepted 35 = .ok (.iload_n 1, 1) := by decide +kernel
theorem dX6_isExcepted_36 : decode cX6_isExcepted 36 = .ok (.bipush 7, 2) := by decide +kernel
theorem dX6_isExcepted_38 : decode cX6_isExcepted 38 = .ok (.iconst 2, 1) := by decide +kernel
theorem dX6_isExcepted_39 : decode cX6_isExcepted 39 = .ok (.iload 4, 2) := by decide +kernel
theorem dX6_isExcepted_41 : decode cX6_isExcepted 41 = .ok (.imul, 1) := by decide +kernel
theorem dX6_isExcepted_42 : decode cX6_isExcepted 42 = .ok (.iadd, 1) := by decide +kernel
theorem dX6_isExcepted_43 : decode cX6_isExcepted 43 = .ok (.iconst 1, 1) := by decide +kernel
theorem dX6_isExcepted_44 : decode cX6_isExcepted 44 = .ok (.iadd, 1) := by decide +kernel
theorem dX6_isExcepted_45 : decode cX6_isExcepted 45 = .ok (.invokevirtual 47, 3) := by decide +kernel
theorem dX6_isExcepted_48 : decode cX6_isExcepted 48 = .ok (.invokestatic 32, 3) := by decide +kernel
theorem dX6_isExcepted_51 : decode cX6_isExcepted 51 = .ok (.ifCond .eq 7, 3) := by decide +kernel
theorem dX6_isExcepted_54 : decode cX6_isExcepted 54 = .ok (.iconst 1, 1) := by decide +kernel
theorem dX6_isExcepted_55 : decode cX6_isExcepted 55 = .ok (.goto 4, 3) := by decide +kernel
theorem dX6_isExcepted_58 : decode cX6_isExcepted 58 = .ok (.iconst 0, 1) := by decide +kernel
theorem dX6_isExcepted_59 : decode cX6_isExcepted 59 = .ok (.istore_n 3, 1) := by decide +kernel
theorem dX6_isExcepted_60 : decode cX6_isExcepted 60 = .ok (.iinc 4 1, 3) := by decide +kernel
theorem dX6_isExcepted_63 : decode cX6_isExcepted 63 = .ok (.goto (-58), 3) := by decide +kernel
theorem dX6_isExcepted_66 : decode cX6_isExcepted 66 = .ok (.iload_n 3, 1) := by decide +kernel
theorem dX6_isExcepted_67 : decode cX6_isExcepted 67 = .ok (.ireturn, 1) := by decide +kernel
theorem dX6_meets_0 : decode cX6_meets 0 = .ok (.aload_n 0, 1) := by decide +kernel
theorem dX6_meets_1 : decode cX6_meets 1 = .ok (.aload_n 0, 1) := by decide +kernel
theorem dX6_meets_2 : decode cX6_meets 2 = .ok (.iload_n 1, 1) := by decide +kernel
theorem dX6_meets_3 : decode cX6_meets 3 = .ok (.iconst 0, 1) := by decide +kernel
theorem dX6_meets_4 : decode cX6_meets 4 = .ok (.invokevirtual 47, 3) := by decide +kernel
theorem dX6_meets_7 : decode cX6_meets 7 = .ok (.iload_n 2, 1) := by decide +kernel
theorem dX6_meets_8 : decode cX6_meets 8 = .ok (.invokevirtual 50, 3) := by decide +kernel
theorem dX6_meets_11 : decode cX6_meets 11 = .ok (.ifCond .eq 35, 3) := by decide +kernel
theorem dX6_meets_14 : decode cX6_meets 14 = .ok (.iload_n 2, 1) := by decide +kernel
theorem dX6_meets_15 : decode cX6_meets 15 = .ok (.aload_n 0, 1) := by decide +kernel
theorem dX6_meets_16 : decode cX6_meets 16 = .ok (.iload_n 1, 1) := by decide +kernel
theorem dX6_meets_17 : decode cX6_meets 17 = .ok (.iconst 3, 1) := by decide +kernel
theorem dX6_meets_18 : decode cX6_meets 18 = .ok (.invokevirtual 47, 3) := by decide +kernel
theorem dX6_meets_21 : decode cX6_meets 21 = .ok (.aload_n 0, 1) := by decide +kernel
theorem dX6_meets_22 : decode cX6_meets 22 = .ok (.iload_n 1, 1) := by decide +kernel
theorem dX6_meets_23 : decode cX6_meets 23 = .ok (.iconst 4, 1) := by decide +kernel
theorem dX6_meets_24 : decode cX6_meets 24 = .ok (.invokevirtual 47, 3) := by decide +kernel
theorem dX6_meets_27 : decode cX6_meets 27 = .ok (.invokestatic 32, 3) := by decide +kernel
theorem dX6_meets_30 : decode cX6_meets 30 = .ok (.ifCond .eq 16, 3) := by decide +kernel
theorem dX6_meets_33 : decode cX6_meets 33 = .ok (.aload_n 0, 1) := by decide +kernel
theorem dX6_meets_34 : decode cX6_meets 34 = .ok (.iload_n 1, 1) := by decide +kernel
theorem dX6_meets_35 : decode cX6_meets 35 = .ok (.iload_n 2, 1) := by decide +kernel
theorem dX6_meets_36 : decode cX6_meets 36 = .ok (.invokevirtual 54, 3) := by decide +kernel
theorem dX6_meets_39 : decode cX6_meets 39 = .ok (.ifCond .ne 7, 3) := by decide +kernel
theorem dX6_meets_42 : decode cX6_meets 42 = .ok (.iconst 1, 1) := by decide +kernel
theorem dX6_meets_43 : decode cX6_meets 43 = .ok (.goto 4, 3) := by decide +kernel
theorem dX6_meets_46 : decode cX6_meets 46 = .ok (.iconst 0, 1) := by decide +kernel
theorem dX6_meets_47 : decode cX6_meets 47 = .ok (.ireturn, 1) := by decide +kernel
theorem dX6_latestOf_0 : decode cX6_latestOf 0 = .ok (.bipush (-5), 2) := by decide +kernel
theorem dX6_latestOf_2 : decode cX6_latestOf 2 = .ok (.istore 5, 2) := by decide +kernel
theorem dX6_latestOf_4 : decode cX6_latestOf 4 = .ok (.iconst 0, 1) := by decide +kernel
theorem dX6_latestOf_5 : decode cX6_latestOf 5 = .ok (.istore 6, 2) := by decide +kernel
theorem dX6_latestOf_7 : decode cX6_latestOf 7 = .ok (.iload 6, 2) := by decide +kernel
theorem dX6_latestOf_9 : decode cX6_latestOf 9 = .ok (.aload_n 0, 1) := by decide +kernel
theorem dX6_latestOf_10 : decode cX6_latestOf 10 = .ok (.getfield 7, 3) := by decide +kernel
theorem dX6_latestOf_13 : decode cX6_latestOf 13 = .ok (.bipush 19, 2) := by decide +kernel
theorem dX6_latestOf_15 : decode cX6_latestOf 15 = .ok (.iaload, 1) := by decide +kernel
theorem dX6_latestOf_16 : decode cX6_latestOf 16 = .ok (.if_icmp .ge 92, 3) := by decide +kernel
theorem dX6_latestOf_19 : decode cX6_latestOf 19 = .ok (.iload 6, 2) := by decide +kernel
theorem dX6_latestOf_21 : decode cX6_latestOf 21 = .ok (.iload 4, 2) := by decide +kernel
theorem dX6_latestOf_23 : decode cX6_latestOf 23 = .ok (.if_icmp .eq 38, 3) := by decide +kernel
theorem dX6_latestOf_26 : decode cX6_latestOf 26 = .ok (.aload_n 0, 1) := by decide +kernel
theorem dX6_latestOf_27 : decode cX6_latestOf 27 = .ok (.iload 6, 2) := by decide +kernel
theorem dX6_latestOf_29 : decode cX6_latestOf 29 = .ok (.iconst 0, 1) := by decide +kernel
theorem dX6_latestOf_30 : decode cX6_latestOf 30 = .ok (.invokevirtual 47, 3) := by decide +kernel
theorem dX6_latestOf_33 : decode cX6_latestOf 33 = .ok (.iload_n 1, 1) := by decide +kernel
theorem dX6_latestOf_34 : decode cX6_latestOf 34 = .ok (.if_icmp .ne 27, 3) := by decide +kernel
theorem dX6_latestOf_37 : decode cX6_latestOf 37 = .ok (.aload_n 0, 1) := by decide +kernel
theorem dX6_latestOf_38 : decode cX6_latestOf 38 = .ok (.iload 6, 2) := by decide +kernel
theorem dX6_latestOf_40 : decode cX6_latestOf 40 = .ok (.iload_n 3, 1) := by decide +kernel
theorem dX6_latestOf_41 : decode cX6_latestOf 41 = .ok (.invokevirtual 57, 3) := by decide +kernel
theorem dX6_latestOf_44 : decode cX6_latestOf 44 = .ok (.ifCond .eq 17, 3) := by decide +kernel
theorem dX6_latestOf_47 : decode cX6_latestOf 47 = .ok (.aload_n 0, 1) := by decide +kernel
theorem dX6_latestOf_48 : decode cX6_latestOf 48 = .ok (.iload 6, 2) := by decide +kernel
theorem dX6_latestOf_50 : decode cX6_latestOf 50 = .ok (.iload_n 2, 1) := by decide +kernel
theorem dX6_latestOf_51 : decode cX6_latestOf 51 = .ok (.invokevirtual 60, 3) := by decide +kernel
theorem dX6_latestOf_54 : decode cX6_latestOf 54 = .ok (.ifCond .eq 7, 3) := by decide +kernel
theorem dX6_latestOf_57 : decode cX6_latestOf 57 = .ok (.iconst 1, 1) := by decide +kernel
theorem dX6_latestOf_58 : decode cX6_latestOf 58 = .ok (.goto 4, 3) := by decide +kernel
theorem dX6_latestOf_61 : decode cX6_latestOf 61 = .ok (.iconst 0, 1) := by decide +kernel
theorem dX6_latestOf_62 : decode cX6_latestOf 62 = .ok (.istore 7, 2) := by decide +kernel
theorem dX6_latestOf_64 : decode cX6_latestOf 64 = .ok (.iload 7, 2) := by decide +kernel
theorem dX6_latestOf_66 : decode cX6_latestOf 66 = .ok (.ifCond .eq 32, 3) := by decide +kernel
theorem dX6_latestOf_69 : decode cX6_latestOf 69 = .ok (.iload 5, 2) := by decide +kernel
theorem dX6_latestOf_71 : decode cX6_latestOf 71 = .ok (.bipush (-5), 2) := by decide +kernel
theorem dX6_latestOf_73 : decode cX6_latestOf 73 = .ok (.if_icmp .eq 20, 3) := by decide +kernel
theorem dX6_latestOf_76 : decode cX6_latestOf 76 = .ok (.aload_n 0, 1) := by decide +kernel
theorem dX6_latestOf_77 : decode cX6_latestOf 77 = .ok (.iload 6, 2) := by decide +kernel
theorem dX6_latestOf_79 : decode cX6_latestOf 79 = .ok (.iconst 1, 1) := by decide +kernel
theorem dX6_latestOf_80 : decode cX6_latestOf 80 = .ok (.invokevirtual 47, 3) := by decide +kernel
theorem dX6_latestOf_83 : decode cX6_latestOf 83 = .ok (.aload_n 0, 1) := by decide +kernel
theorem dX6_latestOf_84 : decode cX6_latestOf 84 = .ok (.iload 5, 2) := by decide +kernel
theorem dX6_latestOf_86 : decode cX6_latestOf 86 = .ok (.iconst 1, 1) := by decide +kernel
theorem dX6_latestOf_87 : decode cX6_latestOf 87 = .ok (.invokevirtual 47, 3) := by decide +kernel
theorem dX6_latestOf_90 : decode cX6_latestOf 90 = .ok (.if_icmp .lt 8, 3) := by decide +kernel
theorem dX6_latestOf_93 : decode cX6_latestOf 93 = .ok (.iload 6, 2) := by decide +kernel
theorem dX6_latestOf_95 : decode cX6_latestOf 95 = .ok (.goto 5, 3) := by decide +kernel
theorem dX6_latestOf_98 : decode cX6_latestOf 98 = .ok (.iload 5, 2) := by decide +kernel
theorem dX6_latestOf_100 : decode cX6_latestOf 100 = .ok (.istore 5, 2) := by decide +kernel
theorem dX6_latestOf_102 : decode cX6_latestOf 102 = .ok (.iinc 6 1, 3) := by decide +kernel
theorem dX6_latestOf_105 : decode cX6_latestOf 105 = .ok (.goto (-98), 3) := by decide +kernel
theorem dX6_latestOf_108 : decode cX6_latestOf 108 = .ok (.iload 5, 2) := by decide +kernel
theorem dX6_latestOf_110 : decode cX6_latestOf 110 = .ok (.ireturn, 1) := by decide +kernel
theorem dX6_speaksIn_0 : decode cX6_speaksIn 0 = .ok (.aload_n 0, 1) := by decide +kernel
theorem dX6_speaksIn_1 : decode cX6_speaksIn 1 = .ok (.iload_n 1, 1) := by decide +kernel
theorem dX6_speaksIn_2 : decode cX6_speaksIn 2 = .ok (.iload_n 2, 1) := by decide +kernel
theorem dX6_speaksIn_3 : decode cX6_speaksIn 3 = .ok (.iload_n 3, 1) := by decide +kernel
theorem dX6_speaksIn_4 : decode cX6_speaksIn 4 = .ok (.iload 4, 2) := by decide +kernel
theorem dX6_speaksIn_6 : decode cX6_speaksIn 6 = .ok (.invokevirtual 63, 3) := by decide +kernel
theorem dX6_speaksIn_9 : decode cX6_speaksIn 9 = .ok (.istore 5, 2) := by decide +kernel
theorem dX6_speaksIn_11 : decode cX6_speaksIn 11 = .ok (.iload 5, 2) := by decide +kernel
theorem dX6_speaksIn_13 : decode cX6_speaksIn 13 = .ok (.bipush (-5), 2) := by decide +kernel
theorem dX6_speaksIn_15 : decode cX6_speaksIn 15 = .ok (.if_icmp .eq 13, 3) := by decide +kernel
theorem dX6_speaksIn_18 : decode cX6_speaksIn 18 = .ok (.aload_n 0, 1) := by decide +kernel
theorem dX6_speaksIn_19 : decode cX6_speaksIn 19 = .ok (.iload 5, 2) := by decide +kernel
theorem dX6_speaksIn_21 : decode cX6_speaksIn 21 = .ok (.iconst 5, 1) := by decide +kernel
theorem dX6_speaksIn_22 : decode cX6_speaksIn 22 = .ok (.invokevirtual 47, 3) := by decide +kernel
theorem dX6_speaksIn_25 : decode cX6_speaksIn 25 = .ok (.ifCond .ne 8, 3) := by decide +kernel
theorem dX6_speaksIn_28 : decode cX6_speaksIn 28 = .ok (.bipush (-5), 2) := by decide +kernel
theorem dX6_speaksIn_30 : decode cX6_speaksIn 30 = .ok (.goto 5, 3) := by decide +kernel
theorem dX6_speaksIn_33 : decode cX6_speaksIn 33 = .ok (.iload 5, 2) := by decide +kernel
theorem dX6_speaksIn_35 : decode cX6_speaksIn 35 = .ok (.ireturn, 1) := by decide +kernel
theorem dX6_rules_0 : decode cX6_rules 0 = .ok (.bipush (-5), 2) := by decide +kernel
theorem dX6_rules_2 : decode cX6_rules 2 = .ok (.istore 4, 2) := by decide +kernel
theorem dX6_rules_4 : decode cX6_rules 4 = .ok (.bipush (-5), 2) := by decide +kernel
theorem dX6_rules_6 : decode cX6_rules 6 = .ok (.istore 5, 2) := by decide +kernel
theorem dX6_rules_8 : decode cX6_rules 8 = .ok (.iconst 0, 1) := by decide +kernel
theorem dX6_rules_9 : decode cX6_rules 9 = .ok (.istore 6, 2) := by decide +kernel
theorem dX6_rules_11 : decode cX6_rules 11 = .ok (.iload 6, 2) := by decide +kernel
theorem dX6_rules_13 : decode cX6_rules 13 = .ok (.bipush 6, 2) := by decide +kernel
theorem dX6_rules_15 : decode cX6_rules 15 = .ok (.if_icmp .ge 77, 3) := by decide +kernel
theorem dX6_rules_18 : decode cX6_rules 18 = .ok (.aload_n 0, 1) := by decide +kernel
theorem dX6_rules_19 : decode cX6_rules 19 = .ok (.getfield 7, 3) := by decide +kernel
theorem dX6_rules_22 : decode cX6_rules 22 = .ok (.iload 6, 2) := by decide +kernel
theorem dX6_rules_24 : decode cX6_rules 24 = .ok (.iconst 2, 1) := by decide +kernel
theorem dX6_rules_25 : decode cX6_rules 25 = .ok (.invokestatic 28, 3) := by decide +kernel
theorem dX6_rules_28 : decode cX6_rules 28 = .ok (.iaload, 1) := by decide +kernel
theorem dX6_rules_29 : decode cX6_rules 29 = .ok (.istore 7, 2) := by decide +kernel
theorem dX6_rules_31 : decode cX6_rules 31 = .ok (.iload 7, 2) := by decide +kernel
theorem dX6_rules_33 : decode cX6_rules 33 = .ok (.iload 5, 2) := by decide +kernel
theorem dX6_rules_35 : decode cX6_rules 35 = .ok (.if_icmp .le 15, 3) := by decide +kernel
theorem dX6_rules_38 : decode cX6_rules 38 = .ok (.aload_n 0, 1) := by decide +kernel
theorem dX6_rules_39 : decode cX6_rules 39 = .ok (.iload 6, 2) := by decide +kernel
theorem dX6_rules_41 : decode cX6_rules 41 = .ok (.iload_n 1, 1) := by decide +kernel
theorem dX6_rules_42 : decode cX6_rules 42 = .ok (.iload_n 2, 1) := by decide +kernel
theorem dX6_rules_43 : decode cX6_rules 43 = .ok (.iload_n 3, 1) := by decide +kernel
theorem dX6_rules_44 : decode cX6_rules 44 = .ok (.invokevirtual 67, 3) := by decide +kernel
theorem dX6_rules_47 : decode cX6_rules 47 = .ok (.goto 5, 3) := by decide +kernel
theorem dX6_rules_50 : decode cX6_rules 50 = .ok (.bipush (-5), 2) := by decide +kernel
theorem dX6_rules_52 : decode cX6_rules 52 = .ok (.istore 8, 2) := by decide +kernel
theorem dX6_rules_54 : decode cX6_rules 54 = .ok (.iload 8, 2) := by decide +kernel
theorem dX6_rules_56 : decode cX6_rules 56 = .ok (.bipush (-5), 2) := by decide +kernel
theorem dX6_rules_58 : decode cX6_rules 58 = .ok (.if_icmp .ne 8, 3) := by decide +kernel
theorem dX6_rules_61 : decode cX6_rules 61 = .ok (.iload 4, 2) := by decide +kernel
theorem dX6_rules_63 : decode cX6_rules 63 = .ok (.goto 5, 3) := by decide +kernel
theorem dX6_rules_66 : decode cX6_rules 66 = .ok (.iload 8, 2) := by decide +kernel
theorem dX6_rules_68 : decode cX6_rules 68 = .ok (.istore 4, 2) := by decide +kernel
theorem dX6_rules_70 : decode cX6_rules 70 = .ok (.iload 8, 2) := by decide +kernel
theorem dX6_rules_72 : decode cX6_rules 72 = .ok (.bipush (-5), 2) := by decide +kernel
theorem dX6_rules_74 : decode cX6_rules 74 = .ok (.if_icmp .ne 8, 3) := by decide +kernel
theorem dX6_rules_77 : decode cX6_rules 77 = .ok (.iload 5, 2) := by decide +kernel
theorem dX6_rules_79 : decode cX6_rules 79 = .ok (.goto 5, 3) := by decide +kernel
theorem dX6_rules_82 : decode cX6_rules 82 = .ok (.iload 7, 2) := by decide +kernel
theorem dX6_rules_84 : decode cX6_rules 84 = .ok (.istore 5, 2) := by decide +kernel
theorem dX6_rules_86 : decode cX6_rules 86 = .ok (.iinc 6 1, 3) := by decide +kernel
theorem dX6_rules_89 : decode cX6_rules 89 = .ok (.goto (-78), 3) := by decide +kernel
theorem dX6_rules_92 : decode cX6_rules 92 = .ok (.iload 4, 2) := by decide +kernel
theorem dX6_rules_94 : decode cX6_rules 94 = .ok (.ireturn, 1) := by decide +kernel
theorem dX6_worksOut_0 : decode cX6_worksOut 0 = .ok (.iconst 0, 1) := by decide +kernel
theorem dX6_worksOut_1 : decode cX6_worksOut 1 = .ok (.istore_n 2, 1) := by decide +kernel
theorem dX6_worksOut_2 : decode cX6_worksOut 2 = .ok (.iload_n 2, 1) := by decide +kernel
theorem dX6_worksOut_3 : decode cX6_worksOut 3 = .ok (.bipush 99, 2) := by decide +kernel
theorem dX6_worksOut_5 : decode cX6_worksOut 5 = .ok (.if_icmp .gt 27, 3) := by decide +kernel
theorem dX6_worksOut_8 : decode cX6_worksOut 8 = .ok (.aload_n 0, 1) := by decide +kernel
theorem dX6_worksOut_9 : decode cX6_worksOut 9 = .ok (.getfield 22, 3) := by decide +kernel
theorem dX6_worksOut_12 : decode cX6_worksOut 12 = .ok (.iload_n 2, 1) := by decide +kernel
theorem dX6_worksOut_13 : decode cX6_worksOut 13 = .ok (.aload_n 0, 1) := by decide +kernel
theorem dX6_worksOut_14 : decode cX6_worksOut 14 = .ok (.iload_n 2, 1) := by decide +kernel
theorem dX6_worksOut_15 : decode cX6_worksOut 15 = .ok (.aload_n 0, 1) := by decide +kernel
theorem dX6_worksOut_16 : decode cX6_worksOut 16 = .ok (.getfield 7, 3) := by decide +kernel
theorem dX6_worksOut_19 : decode cX6_worksOut 19 = .ok (.iconst 0, 1) := by decide +kernel
theorem dX6_worksOut_20 : decode cX6_worksOut 20 = .ok (.iaload, 1) := by decide +kernel
theorem dX6_worksOut_21 : decode cX6_worksOut 21 = .ok (.iload_n 1, 1) := by decide +kernel
theorem dX6_worksOut_22 : decode cX6_worksOut 22 = .ok (.invokevirtual 70, 3) := by decide +kernel
theorem dX6_worksOut_25 : decode cX6_worksOut 25 = .ok (.iastore, 1) := by decide +kernel
theorem dX6_worksOut_26 : decode cX6_worksOut 26 = .ok (.iinc 2 1, 3) := by decide +kernel
theorem dX6_worksOut_29 : decode cX6_worksOut 29 = .ok (.goto (-27), 3) := by decide +kernel
theorem dX6_worksOut_32 : decode cX6_worksOut 32 = .ok (.return_, 1) := by decide +kernel
theorem dX6_putAside_0 : decode cX6_putAside 0 = .ok (.aload_n 0, 1) := by decide +kernel
theorem dX6_putAside_1 : decode cX6_putAside 1 = .ok (.bipush (-5), 2) := by decide +kernel
theorem dX6_putAside_3 : decode cX6_putAside 3 = .ok (.invokevirtual 74, 3) := by decide +kernel
theorem dX6_putAside_6 : decode cX6_putAside 6 = .ok (.iconst 0, 1) := by decide +kernel
theorem dX6_putAside_7 : decode cX6_putAside 7 = .ok (.istore_n 1, 1) := by decide +kernel
theorem dX6_putAside_8 : decode cX6_putAside 8 = .ok (.iload_n 1, 1) := by decide +kernel
theorem dX6_putAside_9 : decode cX6_putAside 9 = .ok (.bipush 99, 2) := by decide +kernel
theorem dX6_putAside_11 : decode cX6_putAside 11 = .ok (.if_icmp .gt 21, 3) := by decide +kernel
theorem dX6_putAside_14 : decode cX6_putAside 14 = .ok (.aload_n 0, 1) := by decide +kernel
theorem dX6_putAside_15 : decode cX6_putAside 15 = .ok (.getfield 25, 3) := by decide +kernel
theorem dX6_putAside_18 : decode cX6_putAside 18 = .ok (.iload_n 1, 1) := by decide +kernel
theorem dX6_putAside_19 : decode cX6_putAside 19 = .ok (.aload_n 0, 1) := by decide +kernel
theorem dX6_putAside_20 : decode cX6_putAside 20 = .ok (.getfield 22, 3) := by decide +kernel
theorem dX6_putAside_23 : decode cX6_putAside 23 = .ok (.iload_n 1, 1) := by decide +kernel
theorem dX6_putAside_24 : decode cX6_putAside 24 = .ok (.iaload, 1) := by decide +kernel
theorem dX6_putAside_25 : decode cX6_putAside 25 = .ok (.iastore, 1) := by decide +kernel
theorem dX6_putAside_26 : decode cX6_putAside 26 = .ok (.iinc 1 1, 3) := by decide +kernel
theorem dX6_putAside_29 : decode cX6_putAside 29 = .ok (.goto (-21), 3) := by decide +kernel
theorem dX6_putAside_32 : decode cX6_putAside 32 = .ok (.return_, 1) := by decide +kernel
theorem dX6_changed_0 : decode cX6_changed 0 = .ok (.iconst 0, 1) := by decide +kernel
theorem dX6_changed_1 : decode cX6_changed 1 = .ok (.istore_n 1, 1) := by decide +kernel
theorem dX6_changed_2 : decode cX6_changed 2 = .ok (.iconst 0, 1) := by decide +kernel
theorem dX6_changed_3 : decode cX6_changed 3 = .ok (.istore_n 2, 1) := by decide +kernel
theorem dX6_changed_4 : decode cX6_changed 4 = .ok (.iload_n 2, 1) := by decide +kernel
theorem dX6_changed_5 : decode cX6_changed 5 = .ok (.bipush 99, 2) := by decide +kernel
theorem dX6_changed_7 : decode cX6_changed 7 = .ok (.if_icmp .gt 32, 3) := by decide +kernel
theorem dX6_changed_10 : decode cX6_changed 10 = .ok (.iload_n 1, 1) := by decide +kernel
theorem dX6_changed_11 : decode cX6_changed 11 = .ok (.aload_n 0, 1) := by decide +kernel
theorem dX6_changed_12 : decode cX6_changed 12 = .ok (.getfield 22, 3) := by decide +kernel
theorem dX6_changed_15 : decode cX6_changed 15 = .ok (.iload_n 2, 1) := by decide +kernel
theorem dX6_changed_16 : decode cX6_changed 16 = .ok (.iaload, 1) := by decide +kernel
theorem dX6_changed_17 : decode cX6_changed 17 = .ok (.aload_n 0, 1) := by decide +kernel
theorem dX6_changed_18 : decode cX6_changed 18 = .ok (.getfield 25, 3) := by decide +kernel
theorem dX6_changed_21 : decode cX6_changed 21 = .ok (.iload_n 2, 1) := by decide +kernel
theorem dX6_changed_22 : decode cX6_changed 22 = .ok (.iaload, 1) := by decide +kernel
theorem dX6_changed_23 : decode cX6_changed 23 = .ok (.if_icmp .ne 7, 3) := by decide +kernel
theorem dX6_changed_26 : decode cX6_changed 26 = .ok (.iconst 0, 1) := by decide +kernel
theorem dX6_changed_27 : decode cX6_changed 27 = .ok (.goto 4, 3) := by decide +kernel
theorem dX6_changed_30 : decode cX6_changed 30 = .ok (.iconst 1, 1) := by decide +kernel
theorem dX6_changed_31 : decode cX6_changed 31 = .ok (.iadd, 1) := by decide +kernel
theorem dX6_changed_32 : decode cX6_changed 32 = .ok (.istore_n 1, 1) := by decide +kernel
theorem dX6_changed_33 : decode cX6_changed 33 = .ok (.iinc 2 1, 3) := by decide +kernel
theorem dX6_changed_36 : decode cX6_changed 36 = .ok (.goto (-32), 3) := by decide +kernel
theorem dX6_changed_39 : decode cX6_changed 39 = .ok (.iload_n 1, 1) := by decide +kernel
theorem dX6_changed_40 : decode cX6_changed 40 = .ok (.ireturn, 1) := by decide +kernel
theorem dX6_setReach_0 : decode cX6_setReach 0 = .ok (.iload_n 1, 1) := by decide +kernel
theorem dX6_setReach_1 : decode cX6_setReach 1 = .ok (.invokestatic 78, 3) := by decide +kernel
theorem dX6_setReach_4 : decode cX6_setReach 4 = .ok (.ifCond .ne 5, 3) := by decide +kernel
theorem dX6_setReach_7 : decode cX6_setReach 7 = .ok (.iconst (-1), 1) := by decide +kernel
theorem dX6_setReach_8 : decode cX6_setReach 8 = .ok (.ireturn, 1) := by decide +kernel
theorem dX6_setReach_9 : decode cX6_setReach 9 = .ok (.iload_n 2, 1) := by decide +kernel
theorem dX6_setReach_10 : decode cX6_setReach 10 = .ok (.iload_n 3, 1) := by decide +kernel
theorem dX6_setReach_11 : decode cX6_setReach 11 = .ok (.invokestatic 81, 3) := by decide +kernel
theorem dX6_setReach_14 : decode cX6_setReach 14 = .ok (.ifCond .ne 6, 3) := by decide +kernel
theorem dX6_setReach_17 : decode cX6_setReach 17 = .ok (.bipush (-2), 2) := by decide +kernel
theorem dX6_setReach_19 : decode cX6_setReach 19 = .ok (.ireturn, 1) := by decide +kernel
theorem dX6_setReach_20 : decode cX6_setReach 20 = .ok (.aload_n 0, 1) := by decide +kernel
theorem dX6_setReach_21 : decode cX6_setReach 21 = .ok (.getfield 7, 3) := by decide +kernel
theorem dX6_setReach_24 : decode cX6_setReach 24 = .ok (.iload_n 1, 1) := by decide +kernel
theorem dX6_setReach_25 : decode cX6_setReach 25 = .ok (.iconst 0, 1) := by decide +kernel
theorem dX6_setReach_26 : decode cX6_setReach 26 = .ok (.invokestatic 28, 3) := by decide +kernel
theorem dX6_setReach_29 : decode cX6_setReach 29 = .ok (.iaload, 1) := by decide +kernel
theorem dX6_setReach_30 : decode cX6_setReach 30 = .ok (.istore 4, 2) := by decide +kernel
theorem dX6_setReach_32 : decode cX6_setReach 32 = .ok (.aload_n 0, 1) := by decide +kernel
theorem dX6_setReach_33 : decode cX6_setReach 33 = .ok (.getfield 7, 3) := by decide +kernel
theorem dX6_setReach_36 : decode cX6_setReach 36 = .ok (.iload_n 1, 1) := by decide +kernel
theorem dX6_setReach_37 : decode cX6_setReach 37 = .ok (.iconst 1, 1) := by decide +kernel
theorem dX6_setReach_38 : decode cX6_setReach 38 = .ok (.invokestatic 28, 3) := by decide +kernel
theorem dX6_setReach_41 : decode cX6_setReach 41 = .ok (.iaload, 1) := by decide +kernel
theorem dX6_setReach_42 : decode cX6_setReach 42 = .ok (.istore 5, 2) := by decide +kernel
theorem dX6_setReach_44 : decode cX6_setReach 44 = .ok (.iload 4, 2) := by decide +kernel
theorem dX6_setReach_46 : decode cX6_setReach 46 = .ok (.iload_n 2, 1) := by decide +kernel
theorem dX6_setReach_47 : decode cX6_setReach 47 = .ok (.if_icmp .ne 12, 3) := by decide +kernel
theorem dX6_setReach_50 : decode cX6_setReach 50 = .ok (.iload 5, 2) := by decide +kernel
theorem dX6_setReach_52 : decode cX6_setReach 52 = .ok (.iload_n 3, 1) := by decide +kernel
theorem dX6_setReach_53 : decode cX6_setReach 53 = .ok (.if_icmp .ne 6, 3) := by decide +kernel
theorem dX6_setReach_56 : decode cX6_setReach 56 = .ok (.bipush (-5), 2) := by decide +kernel
theorem dX6_setReach_58 : decode cX6_setReach 58 = .ok (.ireturn, 1) := by decide +kernel
theorem dX6_setReach_59 : decode cX6_setReach 59 = .ok (.aload_n 0, 1) := by decide +kernel
theorem dX6_setReach_60 : decode cX6_setReach 60 = .ok (.invokevirtual 84, 3) := by decide +kernel
theorem dX6_setReach_63 : decode cX6_setReach 63 = .ok (.aload_n 0, 1) := by decide +kernel
theorem dX6_setReach_64 : decode cX6_setReach 64 = .ok (.getfield 7, 3) := by decide +kernel
theorem dX6_setReach_67 : decode cX6_setReach 67 = .ok (.iload_n 1, 1) := by decide +kernel
theorem dX6_setReach_68 : decode cX6_setReach 68 = .ok (.iconst 0, 1) := by decide +kernel
theorem dX6_setReach_69 : decode cX6_setReach 69 = .ok (.invokestatic 28, 3) := by decide +kernel
theorem dX6_setReach_72 : decode cX6_setReach 72 = .ok (.iload_n 2, 1) := by decide +kernel
theorem dX6_setReach_73 : decode cX6_setReach 73 = .ok (.iastore, 1) := by decide +kernel
theorem dX6_setReach_74 : decode cX6_setReach 74 = .ok (.aload_n 0, 1) := by decide +kernel
theorem dX6_setReach_75 : decode cX6_setReach 75 = .ok (.getfield 7, 3) := by decide +kernel
theorem dX6_setReach_78 : decode cX6_setReach 78 = .ok (.iload_n 1, 1) := by decide +kernel
theorem dX6_setReach_79 : decode cX6_setReach 79 = .ok (.iconst 1, 1) := by decide +kernel
theorem dX6_setReach_80 : decode cX6_setReach 80 = .ok (.invokestatic 28, 3) := by decide +kernel
theorem dX6_setReach_83 : decode cX6_setReach 83 = .ok (.iload_n 3, 1) := by decide +kernel
theorem dX6_setReach_84 : decode cX6_setReach 84 = .ok (.iastore, 1) := by decide +kernel
theorem dX6_setReach_85 : decode cX6_setReach 85 = .ok (.bipush 100, 2) := by decide +kernel
theorem dX6_setReach_87 : decode cX6_setReach 87 = .ok (.iload 4, 2) := by decide +kernel
theorem dX6_setReach_89 : decode cX6_setReach 89 = .ok (.imul, 1) := by decide +kernel
theorem dX6_setReach_90 : decode cX6_setReach 90 = .ok (.iload 5, 2) := by decide +kernel
theorem dX6_setReach_92 : decode cX6_setReach 92 = .ok (.iadd, 1) := by decide +kernel
theorem dX6_setReach_93 : decode cX6_setReach 93 = .ok (.ireturn, 1) := by decide +kernel
theorem dX6_exchange_0 : decode cX6_exchange 0 = .ok (.iload_n 1, 1) := by decide +kernel
theorem dX6_exchange_1 : decode cX6_exchange 1 = .ok (.invokestatic 78, 3) := by decide +kernel
theorem dX6_exchange_4 : decode cX6_exchange 4 = .ok (.ifCond .eq 10, 3) := by decide +kernel
theorem dX6_exchange_7 : decode cX6_exchange 7 = .ok (.iload_n 2, 1) := by decide +kernel
theorem dX6_exchange_8 : decode cX6_exchange 8 = .ok (.invokestatic 78, 3) := by decide +kernel
theorem dX6_exchange_11 : decode cX6_exchange 11 = .ok (.ifCond .ne 5, 3) := by decide +kernel
theorem dX6_exchange_14 : decode cX6_exchange 14 = .ok (.iconst (-1), 1) := by decide +kernel
theorem dX6_exchange_15 : decode cX6_exchange 15 = .ok (.ireturn, 1) := by decide +kernel
theorem dX6_exchange_16 : decode cX6_exchange 16 = .ok (.iload_n 1, 1) := by decide +kernel
theorem dX6_exchange_17 : decode cX6_exchange 17 = .ok (.iload_n 2, 1) := by decide +kernel
theorem dX6_exchange_18 : decode cX6_exchange 18 = .ok (.if_icmp .ne 6, 3) := by decide +kernel
theorem dX6_exchange_21 : decode cX6_exchange 21 = .ok (.bipush (-5), 2) := by decide +kernel
theorem dX6_exchange_23 : decode cX6_exchange 23 = .ok (.ireturn, 1) := by decide +kernel
theorem dX6_exchange_24 : decode cX6_exchange 24 = .ok (.aload_n 0, 1) := by decide +kernel
theorem dX6_exchange_25 : decode cX6_exchange 25 = .ok (.invokevirtual 84, 3) := by decide +kernel
theorem dX6_exchange_28 : decode cX6_exchange 28 = .ok (.aload_n 0, 1) := by decide +kernel
theorem dX6_exchange_29 : decode cX6_exchange 29 = .ok (.getfield 7, 3) := by decide +kernel
theorem dX6_exchange_32 : decode cX6_exchange 32 = .ok (.iload_n 2, 1) := by decide +kernel
theorem dX6_exchange_33 : decode cX6_exchange 33 = .ok (.iconst 2, 1) := by decide +kernel
theorem dX6_exchange_34 : decode cX6_exchange 34 = .ok (.invokestatic 28, 3) := by decide +kernel
theorem dX6_exchange_37 : decode cX6_exchange 37 = .ok (.iaload, 1) := by decide +kernel
theorem dX6_exchange_38 : decode cX6_exchange 38 = .ok (.istore_n 3, 1) := by decide +kernel
theorem dX6_exchange_39 : decode cX6_exchange 39 = .ok (.aload_n 0, 1) := by decide +kernel
theorem dX6_exchange_40 : decode cX6_exchange 40 = .ok (.getfield 7, 3) := by decide +kernel
theorem dX6_exchange_43 : decode cX6_exchange 43 = .ok (.iload_n 2, 1) := by decide +kernel
theorem dX6_exchange_44 : decode cX6_exchange 44 = .ok (.iconst 2, 1) := by decide +kernel
theorem dX6_exchange_45 : decode cX6_exchange 45 = .ok (.invokestatic 28, 3) := by decide +kernel
theorem dX6_exchange_48 : decode cX6_exchange 48 = .ok (.aload_n 0, 1) := by decide +kernel
theorem dX6_exchange_49 : decode cX6_exchange 49 = .ok (.getfield 7, 3) := by decide +kernel
theorem dX6_exchange_52 : decode cX6_exchange 52 = .ok (.iload_n 1, 1) := by decide +kernel
theorem dX6_exchange_53 : decode cX6_exchange 53 = .ok (.iconst 2, 1) := by decide +kernel
theorem dX6_exchange_54 : decode cX6_exchange 54 = .ok (.invokestatic 28, 3) := by decide +kernel
theorem dX6_exchange_57 : decode cX6_exchange 57 = .ok (.iaload, 1) := by decide +kernel
theorem dX6_exchange_58 : decode cX6_exchange 58 = .ok (.iastore, 1) := by decide +kernel
theorem dX6_exchange_59 : decode cX6_exchange 59 = .ok (.aload_n 0, 1) := by decide +kernel
theorem dX6_exchange_60 : decode cX6_exchange 60 = .ok (.getfield 7, 3) := by decide +kernel
theorem dX6_exchange_63 : decode cX6_exchange 63 = .ok (.iload_n 1, 1) := by decide +kernel
theorem dX6_exchange_64 : decode cX6_exchange 64 = .ok (.iconst 2, 1) := by decide +kernel
theorem dX6_exchange_65 : decode cX6_exchange 65 = .ok (.invokestatic 28, 3) := by decide +kernel
theorem dX6_exchange_68 : decode cX6_exchange 68 = .ok (.iload_n 3, 1) := by decide +kernel
theorem dX6_exchange_69 : decode cX6_exchange 69 = .ok (.iastore, 1) := by decide +kernel
theorem dX6_exchange_70 : decode cX6_exchange 70 = .ok (.iload_n 3, 1) := by decide +kernel
theorem dX6_exchange_71 : decode cX6_exchange 71 = .ok (.ireturn, 1) := by decide +kernel
theorem dX6_writes_0 : decode cX6_writes 0 = .ok (.aload_n 0, 1) := by decide +kernel
theorem dX6_writes_1 : decode cX6_writes 1 = .ok (.getfield 7, 3) := by decide +kernel
theorem dX6_writes_4 : decode cX6_writes 4 = .ok (.bipush 19, 2) := by decide +kernel
theorem dX6_writes_6 : decode cX6_writes 6 = .ok (.iaload, 1) := by decide +kernel
theorem dX6_writes_7 : decode cX6_writes 7 = .ok (.istore 6, 2) := by decide +kernel
theorem dX6_writes_9 : decode cX6_writes 9 = .ok (.aload_n 0, 1) := by decide +kernel
theorem dX6_writes_10 : decode cX6_writes 10 = .ok (.getfield 7, 3) := by decide +kernel
theorem dX6_writes_13 : decode cX6_writes 13 = .ok (.bipush 19, 2) := by decide +kernel
theorem dX6_writes_15 : decode cX6_writes 15 = .ok (.dup2, 1) := by decide +kernel
theorem dX6_writes_16 : decode cX6_writes 16 = .ok (.iaload, 1) := by decide +kernel
theorem dX6_writes_17 : decode cX6_writes 17 = .ok (.iconst 1, 1) := by decide +kernel
theorem dX6_writes_18 : decode cX6_writes 18 = .ok (.iadd, 1) := by decide +kernel
theorem dX6_writes_19 : decode cX6_writes 19 = .ok (.iastore, 1) := by decide +kernel
theorem dX6_writes_20 : decode cX6_writes 20 = .ok (.aload_n 0, 1) := by decide +kernel
theorem dX6_writes_21 : decode cX6_writes 21 = .ok (.getfield 7, 3) := by decide +kernel
theorem dX6_writes_24 : decode cX6_writes 24 = .ok (.iload 6, 2) := by decide +kernel
theorem dX6_writes_26 : decode cX6_writes 26 = .ok (.iconst 0, 1) := by decide +kernel
theorem dX6_writes_27 : decode cX6_writes 27 = .ok (.invokestatic 40, 3) := by decide +kernel
theorem dX6_writes_30 : decode cX6_writes 30 = .ok (.iload_n 1, 1) := by decide +kernel
theorem dX6_writes_31 : decode cX6_writes 31 = .ok (.iastore, 1) := by decide +kernel
theorem dX6_writes_32 : decode cX6_writes 32 = .ok (.aload_n 0, 1) := by decide +kernel
theorem dX6_writes_33 : decode cX6_writes 33 = .ok (.getfield 7, 3) := by decide +kernel
theorem dX6_writes_36 : decode cX6_writes 36 = .ok (.iload 6, 2) := by decide +kernel
theorem dX6_writes_38 : decode cX6_writes 38 = .ok (.iconst 1, 1) := by decide +kernel
theorem dX6_writes_39 : decode cX6_writes 39 = .ok (.invokestatic 40, 3) := by decide +kernel
theorem dX6_writes_42 : decode cX6_writes 42 = .ok (.iload_n 2, 1) := by decide +kernel
theorem dX6_writes_43 : decode cX6_writes 43 = .ok (.iastore, 1) := by decide +kernel
theorem dX6_writes_44 : decode cX6_writes 44 = .ok (.aload_n 0, 1) := by decide +kernel
theorem dX6_writes_45 : decode cX6_writes 45 = .ok (.getfield 7, 3) := by decide +kernel
theorem dX6_writes_48 : decode cX6_writes 48 = .ok (.iload 6, 2) := by decide +kernel
theorem dX6_writes_50 : decode cX6_writes 50 = .ok (.iconst 2, 1) := by decide +kernel
theorem dX6_writes_51 : decode cX6_writes 51 = .ok (.invokestatic 40, 3) := by decide +kernel
theorem dX6_writes_54 : decode cX6_writes 54 = .ok (.sipush 1000, 3) := by decide +kernel
theorem dX6_writes_57 : decode cX6_writes 57 = .ok (.iastore, 1) := by decide +kernel
theorem dX6_writes_58 : decode cX6_writes 58 = .ok (.aload_n 0, 1) := by decide +kernel
theorem dX6_writes_59 : decode cX6_writes 59 = .ok (.getfield 7, 3) := by decide +kernel
theorem dX6_writes_62 : decode cX6_writes 62 = .ok (.iload 6, 2) := by decide +kernel
theorem dX6_writes_64 : decode cX6_writes 64 = .ok (.iconst 3, 1) := by decide +kernel
theorem dX6_writes_65 : decode cX6_writes 65 = .ok (.invokestatic 40, 3) := by decide +kernel
theorem dX6_writes_68 : decode cX6_writes 68 = .ok (.iload_n 3, 1) := by decide +kernel
theorem dX6_writes_69 : decode cX6_writes 69 = .ok (.iastore, 1) := by decide +kernel
theorem dX6_writes_70 : decode cX6_writes 70 = .ok (.aload_n 0, 1) := by decide +kernel
theorem dX6_writes_71 : decode cX6_writes 71 = .ok (.getfield 7, 3) := by decide +kernel
theorem dX6_writes_74 : decode cX6_writes 74 = .ok (.iload 6, 2) := by decide +kernel
theorem dX6_writes_76 : decode cX6_writes 76 = .ok (.iconst 4, 1) := by decide +kernel
theorem dX6_writes_77 : decode cX6_writes 77 = .ok (.invokestatic 40, 3) := by decide +kernel
theorem dX6_writes_80 : decode cX6_writes 80 = .ok (.iload 4, 2) := by decide +kernel
theorem dX6_writes_82 : decode cX6_writes 82 = .ok (.iastore, 1) := by decide +kernel
theorem dX6_writes_83 : decode cX6_writes 83 = .ok (.aload_n 0, 1) := by decide +kernel
theorem dX6_writes_84 : decode cX6_writes 84 = .ok (.getfield 7, 3) := by decide +kernel
theorem dX6_writes_87 : decode cX6_writes 87 = .ok (.iload 6, 2) := by decide +kernel
theorem dX6_writes_89 : decode cX6_writes 89 = .ok (.iconst 5, 1) := by decide +kernel
theorem dX6_writes_90 : decode cX6_writes 90 = .ok (.invokestatic 40, 3) := by decide +kernel
theorem dX6_writes_93 : decode cX6_writes 93 = .ok (.iload 5, 2) := by decide +kernel
theorem dX6_writes_95 : decode cX6_writes 95 = .ok (.iastore, 1) := by decide +kernel
theorem dX6_writes_96 : decode cX6_writes 96 = .ok (.aload_n 0, 1) := by decide +kernel
theorem dX6_writes_97 : decode cX6_writes 97 = .ok (.getfield 7, 3) := by decide +kernel
theorem dX6_writes_100 : decode cX6_writes 100 = .ok (.iload 6, 2) := by decide +kernel
theorem dX6_writes_102 : decode cX6_writes 102 = .ok (.bipush 6, 2) := by decide +kernel
theorem dX6_writes_104 : decode cX6_writes 104 = .ok (.invokestatic 40, 3) := by decide +kernel
theorem dX6_writes_107 : decode cX6_writes 107 = .ok (.iconst 0, 1) := by decide +kernel
theorem dX6_writes_108 : decode cX6_writes 108 = .ok (.iastore, 1) := by decide +kernel
theorem dX6_writes_109 : decode cX6_writes 109 = .ok (.return_, 1) := by decide +kernel
theorem dX6_excepts_0 : decode cX6_excepts 0 = .ok (.aload_n 0, 1) := by decide +kernel
theorem dX6_excepts_1 : decode cX6_excepts 1 = .ok (.iload_n 1, 1) := by decide +kernel
theorem dX6_excepts_2 : decode cX6_excepts 2 = .ok (.bipush 6, 2) := by decide +kernel
theorem dX6_excepts_4 : decode cX6_excepts 4 = .ok (.invokevirtual 47, 3) := by decide +kernel
theorem dX6_excepts_7 : decode cX6_excepts 7 = .ok (.istore 4, 2) := by decide +kernel
theorem dX6_excepts_9 : decode cX6_excepts 9 = .ok (.aload_n 0, 1) := by decide +kernel
theorem dX6_excepts_10 : decode cX6_excepts 10 = .ok (.getfield 7, 3) := by decide +kernel
theorem dX6_excepts_13 : decode cX6_excepts 13 = .ok (.iload_n 1, 1) := by decide +kernel
theorem dX6_excepts_14 : decode cX6_excepts 14 = .ok (.bipush 7, 2) := by decide +kernel
theorem dX6_excepts_16 : decode cX6_excepts 16 = .ok (.iconst 2, 1) := by decide +kernel
theorem dX6_excepts_17 : decode cX6_excepts 17 = .ok (.iload 4, 2) := by decide +kernel
theorem dX6_excepts_19 : decode cX6_excepts 19 = .ok (.imul, 1) := by decide +kernel
theorem dX6_excepts_20 : decode cX6_excepts 20 = .ok (.iadd, 1) := by decide +kernel
theorem dX6_excepts_21 : decode cX6_excepts 21 = .ok (.invokestatic 40, 3) := by decide +kernel
theorem dX6_excepts_24 : decode cX6_excepts 24 = .ok (.iload_n 2, 1) := by decide +kernel
theorem dX6_excepts_25 : decode cX6_excepts 25 = .ok (.iastore, 1) := by decide +kernel
theorem dX6_excepts_26 : decode cX6_excepts 26 = .ok (.aload_n 0, 1) := by decide +kernel
theorem dX6_excepts_27 : decode cX6_excepts 27 = .ok (.getfield 7, 3) := by decide +kernel
theorem dX6_excepts_30 : decode cX6_excepts 30 = .ok (.iload_n 1, 1) := by decide +kernel
theorem dX6_excepts_31 : decode cX6_excepts 31 = .ok (.bipush 7, 2) := by decide +kernel
theorem dX6_excepts_33 : decode cX6_excepts 33 = .ok (.iconst 2, 1) := by decide +kernel
theorem dX6_excepts_34 : decode cX6_excepts 34 = .ok (.iload 4, 2) := by decide +kernel
theorem dX6_excepts_36 : decode cX6_excepts 36 = .ok (.imul, 1) := by decide +kernel
theorem dX6_excepts_37 : decode cX6_excepts 37 = .ok (.iadd, 1) := by decide +kernel
theorem dX6_excepts_38 : decode cX6_excepts 38 = .ok (.iconst 1, 1) := by decide +kernel
theorem dX6_excepts_39 : decode cX6_excepts 39 = .ok (.iadd, 1) := by decide +kernel
theorem dX6_excepts_40 : decode cX6_excepts 40 = .ok (.invokestatic 40, 3) := by decide +kernel
theorem dX6_excepts_43 : decode cX6_excepts 43 = .ok (.iload_n 3, 1) := by decide +kernel
theorem dX6_excepts_44 : decode cX6_excepts 44 = .ok (.iastore, 1) := by decide +kernel
theorem dX6_excepts_45 : decode cX6_excepts 45 = .ok (.aload_n 0, 1) := by decide +kernel
theorem dX6_excepts_46 : decode cX6_excepts 46 = .ok (.getfield 7, 3) := by decide +kernel
theorem dX6_excepts_49 : decode cX6_excepts 49 = .ok (.iload_n 1, 1) := by decide +kernel
theorem dX6_excepts_50 : decode cX6_excepts 50 = .ok (.bipush 6, 2) := by decide +kernel
theorem dX6_excepts_52 : decode cX6_excepts 52 = .ok (.invokestatic 40, 3) := by decide +kernel
theorem dX6_excepts_55 : decode cX6_excepts 55 = .ok (.iload 4, 2) := by decide +kernel
theorem dX6_excepts_57 : decode cX6_excepts 57 = .ok (.iconst 1, 1) := by decide +kernel
theorem dX6_excepts_58 : decode cX6_excepts 58 = .ok (.iadd, 1) := by decide +kernel
theorem dX6_excepts_59 : decode cX6_excepts 59 = .ok (.iastore, 1) := by decide +kernel
theorem dX6_excepts_60 : decode cX6_excepts 60 = .ok (.iload 4, 2) := by decide +kernel
theorem dX6_excepts_62 : decode cX6_excepts 62 = .ok (.iconst 1, 1) := by decide +kernel
theorem dX6_excepts_63 : decode cX6_excepts 63 = .ok (.iadd, 1) := by decide +kernel
theorem dX6_excepts_64 : decode cX6_excepts 64 = .ok (.ireturn, 1) := by decide +kernel
theorem dX6_write_0 : decode cX6_write 0 = .ok (.iload_n 1, 1) := by decide +kernel
theorem dX6_write_1 : decode cX6_write 1 = .ok (.invokestatic 78, 3) := by decide +kernel
theorem dX6_write_4 : decode cX6_write 4 = .ok (.ifCond .ne 5, 3) := by decide +kernel
theorem dX6_write_7 : decode cX6_write 7 = .ok (.iconst (-1), 1) := by decide +kernel
theorem dX6_write_8 : decode cX6_write 8 = .ok (.ireturn, 1) := by decide +kernel
theorem dX6_write_9 : decode cX6_write 9 = .ok (.iload_n 2, 1) := by decide +kernel
theorem dX6_write_10 : decode cX6_write 10 = .ok (.invokestatic 87, 3) := by decide +kernel
theorem dX6_write_13 : decode cX6_write 13 = .ok (.ifCond .eq 23, 3) := by decide +kernel
theorem dX6_write_16 : decode cX6_write 16 = .ok (.iload_n 3, 1) := by decide +kernel
theorem dX6_write_17 : decode cX6_write 17 = .ok (.iload 4, 2) := by decide +kernel
theorem dX6_write_19 : decode cX6_write 19 = .ok (.invokestatic 81, 3) := by decide +kernel
theorem dX6_write_22 : decode cX6_write 22 = .ok (.ifCond .eq 14, 3) := by decide +kernel
theorem dX6_write_25 : decode cX6_write 25 = .ok (.iload 5, 2) := by decide +kernel
theorem dX6_write_27 : decode cX6_write 27 = .ok (.iconst 0, 1) := by decide +kernel
theorem dX6_write_28 : decode cX6_write 28 = .ok (.bipush 9, 2) := by decide +kernel
theorem dX6_write_30 : decode cX6_write 30 = .ok (.invokestatic 32, 3) := by decide +kernel
theorem dX6_write_33 : decode cX6_write 33 = .ok (.ifCond .ne 6, 3) := by decide +kernel
theorem dX6_write_36 : decode cX6_write 36 = .ok (.bipush (-2), 2) := by decide +kernel
theorem dX6_write_38 : decode cX6_write 38 = .ok (.ireturn, 1) := by decide +kernel
theorem dX6_write_39 : decode cX6_write 39 = .ok (.aload_n 0, 1) := by decide +kernel
theorem dX6_write_40 : decode cX6_write 40 = .ok (.getfield 7, 3) := by decide +kernel
theorem dX6_write_43 : decode cX6_write 43 = .ok (.bipush 19, 2) := by decide +kernel
theorem dX6_write_45 : decode cX6_write 45 = .ok (.iaload, 1) := by decide +kernel
theorem dX6_write_46 : decode cX6_write 46 = .ok (.bipush 30, 2) := by decide +kernel
theorem dX6_write_48 : decode cX6_write 48 = .ok (.if_icmp .ne 6, 3) := by decide +kernel
theorem dX6_write_51 : decode cX6_write 51 = .ok (.bipush (-3), 2) := by decide +kernel
theorem dX6_write_53 : decode cX6_write 53 = .ok (.ireturn, 1) := by decide +kernel
theorem dX6_write_54 : decode cX6_write 54 = .ok (.aload_n 0, 1) := by decide +kernel
theorem dX6_write_55 : decode cX6_write 55 = .ok (.invokevirtual 84, 3) := by decide +kernel
theorem dX6_write_58 : decode cX6_write 58 = .ok (.aload_n 0, 1) := by decide +kernel
theorem dX6_write_59 : decode cX6_write 59 = .ok (.iload_n 1, 1) := by decide +kernel
theorem dX6_write_60 : decode cX6_write 60 = .ok (.iload_n 2, 1) := by decide +kernel
theorem dX6_write_61 : decode cX6_write 61 = .ok (.iload_n 3, 1) := by decide +kernel
theorem dX6_write_62 : decode cX6_write 62 = .ok (.iload 4, 2) := by decide +kernel
theorem dX6_write_64 : decode cX6_write 64 = .ok (.iload 5, 2) := by decide +kernel
theorem dX6_write_66 : decode cX6_write 66 = .ok (.invokevirtual 90, 3) := by decide +kernel
theorem dX6_write_69 : decode cX6_write 69 = .ok (.aload_n 0, 1) := by decide +kernel
theorem dX6_write_70 : decode cX6_write 70 = .ok (.getfield 7, 3) := by decide +kernel
theorem dX6_write_73 : decode cX6_write 73 = .ok (.bipush 19, 2) := by decide +kernel
theorem dX6_write_75 : decode cX6_write 75 = .ok (.iaload, 1) := by decide +kernel
theorem dX6_write_76 : decode cX6_write 76 = .ok (.iconst 1, 1) := by decide +kernel
theorem dX6_write_77 : decode cX6_write 77 = .ok (.isub, 1) := by decide +kernel
theorem dX6_write_78 : decode cX6_write 78 = .ok (.ireturn, 1) := by decide +kernel
theorem dX6_except_0 : decode cX6_except 0 = .ok (.aload_n 0, 1) := by decide +kernel
theorem dX6_except_1 : decode cX6_except 1 = .ok (.iload_n 1, 1) := by decide +kernel
theorem dX6_except_2 : decode cX6_except 2 = .ok (.invokevirtual 94, 3) := by decide +kernel
theorem dX6_except_5 : decode cX6_except 5 = .ok (.ifCond .ne 5, 3) := by decide +kernel
theorem dX6_except_8 : decode cX6_except 8 = .ok (.iconst (-1), 1) := by decide +kernel
theorem dX6_except_9 : decode cX6_except 9 = .ok (.ireturn, 1) := by decide +kernel
theorem dX6_except_10 : decode cX6_except 10 = .ok (.iload_n 2, 1) := by decide +kernel
theorem dX6_except_11 : decode cX6_except 11 = .ok (.iload_n 3, 1) := by decide +kernel
theorem dX6_except_12 : decode cX6_except 12 = .ok (.invokestatic 81, 3) := by decide +kernel
theorem dX6_except_15 : decode cX6_except 15 = .ok (.ifCond .ne 6, 3) := by decide +kernel
theorem dX6_except_18 : decode cX6_except 18 = .ok (.bipush (-2), 2) := by decide +kernel
theorem dX6_except_20 : decode cX6_except 20 = .ok (.ireturn, 1) := by decide +kernel
theorem dX6_except_21 : decode cX6_except 21 = .ok (.aload_n 0, 1) := by decide +kernel
theorem dX6_except_22 : decode cX6_except 22 = .ok (.iload_n 1, 1) := by decide +kernel
theorem dX6_except_23 : decode cX6_except 23 = .ok (.bipush 6, 2) := by decide +kernel
theorem dX6_except_25 : decode cX6_except 25 = .ok (.invokevirtual 47, 3) := by decide +kernel
theorem dX6_except_28 : decode cX6_except 28 = .ok (.iconst 3, 1) := by decide +kernel
theorem dX6_except_29 : decode cX6_except 29 = .ok (.if_icmp .ne 6, 3) := by decide +kernel
theorem dX6_except_32 : decode cX6_except 32 = .ok (.bipush (-3), 2) := by decide +kernel
theorem dX6_except_34 : decode cX6_except 34 = .ok (.ireturn, 1) := by decide +kernel
theorem dX6_except_35 : decode cX6_except 35 = .ok (.aload_n 0, 1) := by decide +kernel
theorem dX6_except_36 : decode cX6_except 36 = .ok (.invokevirtual 84, 3) := by decide +kernel
theorem dX6_except_39 : decode cX6_except 39 = .ok (.aload_n 0, 1) := by decide +kernel
theorem dX6_except_40 : decode cX6_except 40 = .ok (.iload_n 1, 1) := by decide +kernel
theorem dX6_except_41 : decode cX6_except 41 = .ok (.iload_n 2, 1) := by decide +kernel
theorem dX6_except_42 : decode cX6_except 42 = .ok (.iload_n 3, 1) := by decide +kernel
theorem dX6_except_43 : decode cX6_except 43 = .ok (.invokevirtual 97, 3) := by decide +kernel
theorem dX6_except_46 : decode cX6_except 46 = .ok (.ireturn, 1) := by decide +kernel
theorem dX6_end_0 : decode cX6_end 0 = .ok (.aload_n 0, 1) := by decide +kernel
theorem dX6_end_1 : decode cX6_end 1 = .ok (.iload_n 1, 1) := by decide +kernel
theorem dX6_end_2 : decode cX6_end 2 = .ok (.invokevirtual 94, 3) := by decide +kernel
theorem dX6_end_5 : decode cX6_end 5 = .ok (.ifCond .ne 5, 3) := by decide +kernel
theorem dX6_end_8 : decode cX6_end 8 = .ok (.iconst (-1), 1) := by decide +kernel
theorem dX6_end_9 : decode cX6_end 9 = .ok (.ireturn, 1) := by decide +kernel
theorem dX6_end_10 : decode cX6_end 10 = .ok (.iload_n 2, 1) := by decide +kernel
theorem dX6_end_11 : decode cX6_end 11 = .ok (.iconst 1, 1) := by decide +kernel
theorem dX6_end_12 : decode cX6_end 12 = .ok (.sipush 1000, 3) := by decide +kernel
theorem dX6_end_15 : decode cX6_end 15 = .ok (.invokestatic 32, 3) := by decide +kernel
theorem dX6_end_18 : decode cX6_end 18 = .ok (.ifCond .ne 6, 3) := by decide +kernel
theorem dX6_end_21 : decode cX6_end 21 = .ok (.bipush (-2), 2) := by decide +kernel
theorem dX6_end_23 : decode cX6_end 23 = .ok (.ireturn, 1) := by decide +kernel
theorem dX6_end_24 : decode cX6_end 24 = .ok (.iload_n 2, 1) := by decide +kernel
theorem dX6_end_25 : decode cX6_end 25 = .ok (.aload_n 0, 1) := by decide +kernel
theorem dX6_end_26 : decode cX6_end 26 = .ok (.iload_n 1, 1) := by decide +kernel
theorem dX6_end_27 : decode cX6_end 27 = .ok (.iconst 1, 1) := by decide +kernel
theorem dX6_end_28 : decode cX6_end 28 = .ok (.invokevirtual 47, 3) := by decide +kernel
theorem dX6_end_31 : decode cX6_end 31 = .ok (.if_icmp .gt 6, 3) := by decide +kernel
theorem dX6_end_34 : decode cX6_end 34 = .ok (.bipush (-4), 2) := by decide +kernel
theorem dX6_end_36 : decode cX6_end 36 = .ok (.ireturn, 1) := by decide +kernel
theorem dX6_end_37 : decode cX6_end 37 = .ok (.aload_n 0, 1) := by decide +kernel
theorem dX6_end_38 : decode cX6_end 38 = .ok (.iload_n 1, 1) := by decide +kernel
theorem dX6_end_39 : decode cX6_end 39 = .ok (.iconst 2, 1) := by decide +kernel
theorem dX6_end_40 : decode cX6_end 40 = .ok (.invokevirtual 47, 3) := by decide +kernel
theorem dX6_end_43 : decode cX6_end 43 = .ok (.istore_n 3, 1) := by decide +kernel
theorem dX6_end_44 : decode cX6_end 44 = .ok (.iload_n 3, 1) := by decide +kernel
theorem dX6_end_45 : decode cX6_end 45 = .ok (.iload_n 2, 1) := by decide +kernel
theorem dX6_end_46 : decode cX6_end 46 = .ok (.if_icmp .ne 6, 3) := by decide +kernel
theorem dX6_end_49 : decode cX6_end 49 = .ok (.bipush (-5), 2) := by decide +kernel
theorem dX6_end_51 : decode cX6_end 51 = .ok (.ireturn, 1) := by decide +kernel
theorem dX6_end_52 : decode cX6_end 52 = .ok (.aload_n 0, 1) := by decide +kernel
theorem dX6_end_53 : decode cX6_end 53 = .ok (.invokevirtual 84, 3) := by decide +kernel
theorem dX6_end_56 : decode cX6_end 56 = .ok (.aload_n 0, 1) := by decide +kernel
theorem dX6_end_57 : decode cX6_end 57 = .ok (.getfield 7, 3) := by decide +kernel
theorem dX6_end_60 : decode cX6_end 60 = .ok (.iload_n 1, 1) := by decide +kernel
theorem dX6_end_61 : decode cX6_end 61 = .ok (.iconst 2, 1) := by decide +kernel
theorem dX6_end_62 : decode cX6_end 62 = .ok (.invokestatic 40, 3) := by decide +kernel
theorem dX6_end_65 : decode cX6_end 65 = .ok (.iload_n 2, 1) := by decide +kernel
theorem dX6_end_66 : decode cX6_end 66 = .ok (.iastore, 1) := by decide +kernel
theorem dX6_end_67 : decode cX6_end 67 = .ok (.iload_n 3, 1) := by decide +kernel
theorem dX6_end_68 : decode cX6_end 68 = .ok (.ireturn, 1) := by decide +kernel
theorem dX6_setDay_0 : decode cX6_setDay 0 = .ok (.iload_n 1, 1) := by decide +kernel
theorem dX6_setDay_1 : decode cX6_setDay 1 = .ok (.invokestatic 87, 3) := by decide +kernel
theorem dX6_setDay_4 : decode cX6_setDay 4 = .ok (.ifCond .ne 6, 3) := by decide +kernel
theorem dX6_setDay_7 : decode cX6_setDay 7 = .ok (.bipush (-2), 2) := by decide +kernel
theorem dX6_setDay_9 : decode cX6_setDay 9 = .ok (.ireturn, 1) := by decide +kernel
theorem dX6_setDay_10 : decode cX6_setDay 10 = .ok (.aload_n 0, 1) := by decide +kernel
theorem dX6_setDay_11 : decode cX6_setDay 11 = .ok (.getfield 7, 3) := by decide +kernel
theorem dX6_setDay_14 : decode cX6_setDay 14 = .ok (.iconst 0, 1) := by decide +kernel
theorem dX6_setDay_15 : decode cX6_setDay 15 = .ok (.iaload, 1) := by decide +kernel
theorem dX6_setDay_16 : decode cX6_setDay 16 = .ok (.iload_n 1, 1) := by decide +kernel
theorem dX6_setDay_17 : decode cX6_setDay 17 = .ok (.if_icmp .ne 6, 3) := by decide +kernel
theorem dX6_setDay_20 : decode cX6_setDay 20 = .ok (.bipush (-5), 2) := by decide +kernel
theorem dX6_setDay_22 : decode cX6_setDay 22 = .ok (.ireturn, 1) := by decide +kernel
theorem dX6_setDay_23 : decode cX6_setDay 23 = .ok (.aload_n 0, 1) := by decide +kernel
theorem dX6_setDay_24 : decode cX6_setDay 24 = .ok (.invokevirtual 84, 3) := by decide +kernel
theorem dX6_setDay_27 : decode cX6_setDay 27 = .ok (.aload_n 0, 1) := by decide +kernel
theorem dX6_setDay_28 : decode cX6_setDay 28 = .ok (.invokevirtual 100, 3) := by decide +kernel
theorem dX6_setDay_31 : decode cX6_setDay 31 = .ok (.aload_n 0, 1) := by decide +kernel
theorem dX6_setDay_32 : decode cX6_setDay 32 = .ok (.getfield 7, 3) := by decide +kernel
theorem dX6_setDay_35 : decode cX6_setDay 35 = .ok (.iconst 0, 1) := by decide +kernel
theorem dX6_setDay_36 : decode cX6_setDay 36 = .ok (.iload_n 1, 1) := by decide +kernel
theorem dX6_setDay_37 : decode cX6_setDay 37 = .ok (.iastore, 1) := by decide +kernel
theorem dX6_setDay_38 : decode cX6_setDay 38 = .ok (.aload_n 0, 1) := by decide +kernel
theorem dX6_setDay_39 : decode cX6_setDay 39 = .ok (.bipush (-5), 2) := by decide +kernel
theorem dX6_setDay_41 : decode cX6_setDay 41 = .ok (.invokevirtual 74, 3) := by decide +kernel
theorem dX6_setDay_44 : decode cX6_setDay 44 = .ok (.aload_n 0, 1) := by decide +kernel
theorem dX6_setDay_45 : decode cX6_setDay 45 = .ok (.invokevirtual 103, 3) := by decide +kernel
theorem dX6_setDay_48 : decode cX6_setDay 48 = .ok (.ireturn, 1) := by decide +kernel
theorem dX6_type_0 : decode cX6_type 0 = .ok (.aload_n 0, 1) := by decide +kernel
theorem dX6_type_1 : decode cX6_type 1 = .ok (.getfield 107, 3) := by decide +kernel
theorem dX6_type_4 : decode cX6_type 4 = .ok (.bipush 80, 2) := by decide +kernel
theorem dX6_type_6 : decode cX6_type 6 = .ok (.if_icmp .ne 6, 3) := by decide +kernel
theorem dX6_type_9 : decode cX6_type 9 = .ok (.bipush (-3), 2) := by decide +kernel
theorem dX6_type_11 : decode cX6_type 11 = .ok (.ireturn, 1) := by decide +kernel
theorem dX6_type_12 : decode cX6_type 12 = .ok (.aload_n 0, 1) := by decide +kernel
theorem dX6_type_13 : decode cX6_type 13 = .ok (.getfield 19, 3) := by decide +kernel
theorem dX6_type_16 : decode cX6_type 16 = .ok (.aload_n 0, 1) := by decide +kernel
theorem dX6_type_17 : decode cX6_type 17 = .ok (.getfield 107, 3) := by decide +kernel
theorem dX6_type_20 : decode cX6_type 20 = .ok (.iload_n 1, 1) := by decide +kernel
theorem dX6_type_21 : decode cX6_type 21 = .ok (.iastore, 1) := by decide +kernel
theorem dX6_type_22 : decode cX6_type 22 = .ok (.aload_n 0, 1) := by decide +kernel
theorem dX6_type_23 : decode cX6_type 23 = .ok (.dup, 1) := by decide +kernel
theorem dX6_type_24 : decode cX6_type 24 = .ok (.getfield 107, 3) := by decide +kernel
theorem dX6_type_27 : decode cX6_type 27 = .ok (.iconst 1, 1) := by decide +kernel
theorem dX6_type_28 : decode cX6_type 28 = .ok (.iadd, 1) := by decide +kernel
theorem dX6_type_29 : decode cX6_type 29 = .ok (.putfield 107, 3) := by decide +kernel
theorem dX6_type_32 : decode cX6_type 32 = .ok (.aload_n 0, 1) := by decide +kernel
theorem dX6_type_33 : decode cX6_type 33 = .ok (.getfield 107, 3) := by decide +kernel
theorem dX6_type_36 : decode cX6_type 36 = .ok (.ireturn, 1) := by decide +kernel
theorem dX6_clearText_0 : decode cX6_clearText 0 = .ok (.aload_n 0, 1) := by decide +kernel
theorem dX6_clearText_1 : decode cX6_clearText 1 = .ok (.getfield 107, 3) := by decide +kernel
theorem dX6_clearText_4 : decode cX6_clearText 4 = .ok (.istore_n 1, 1) := by decide +kernel
theorem dX6_clearText_5 : decode cX6_clearText 5 = .ok (.aload_n 0, 1) := by decide +kernel
theorem dX6_clearText_6 : decode cX6_clearText 6 = .ok (.iconst 0, 1) := by decide +kernel
theorem dX6_clearText_7 : decode cX6_clearText 7 = .ok (.putfield 107, 3) := by decide +kernel
theorem dX6_clearText_10 : decode cX6_clearText 10 = .ok (.iload_n 1, 1) := by decide +kernel
theorem dX6_clearText_11 : decode cX6_clearText 11 = .ok (.ireturn, 1) := by decide +kernel
theorem dX6_isNext_0 : decode cX6_isNext 0 = .ok (.aload_n 0, 1) := by decide +kernel
theorem dX6_isNext_1 : decode cX6_isNext 1 = .ok (.getfield 110, 3) := by decide +kernel
theorem dX6_isNext_4 : decode cX6_isNext 4 = .ok (.ifCond .ne 35, 3) := by decide +kernel
theorem dX6_isNext_7 : decode cX6_isNext 7 = .ok (.aload_n 0, 1) := by decide +kernel
theorem dX6_isNext_8 : decode cX6_isNext 8 = .ok (.getfield 114, 3) := by decide +kernel
theorem dX6_isNext_11 : decode cX6_isNext 11 = .ok (.aload_n 0, 1) := by decide +kernel
theorem dX6_isNext_12 : decode cX6_isNext 12 = .ok (.getfield 107, 3) := by decide +kernel
theorem dX6_isNext_15 : decode cX6_isNext 15 = .ok (.if_icmp .ge 24, 3) := by decide +kernel
theorem dX6_isNext_18 : decode cX6_isNext 18 = .ok (.aload_n 0, 1) := by decide +kernel
theorem dX6_isNext_19 : decode cX6_isNext 19 = .ok (.getfield 19, 3) := by decide +kernel
theorem dX6_isNext_22 : decode cX6_isNext 22 = .ok (.aload_n 0, 1) := by decide +kernel
theorem dX6_isNext_23 : decode cX6_isNext 23 = .ok (.getfield 114, 3) := by decide +kernel
theorem dX6_isNext_26 : decode cX6_isNext 26 = .ok (.iaload, 1) := by decide +kernel
theorem dX6_isNext_27 : decode cX6_isNext 27 = .ok (.iload_n 1, 1) := by decide +kernel
theorem dX6_isNext_28 : decode cX6_isNext 28 = .ok (.iload_n 2, 1) := by decide +kernel
theorem dX6_isNext_29 : decode cX6_isNext 29 = .ok (.invokestatic 32, 3) := by decide +kernel
theorem dX6_isNext_32 : decode cX6_isNext 32 = .ok (.ifCond .eq 7, 3) := by decide +kernel
theorem dX6_isNext_35 : decode cX6_isNext 35 = .ok (.iconst 1, 1) := by decide +kernel
theorem dX6_isNext_36 : decode cX6_isNext 36 = .ok (.goto 4, 3) := by decide +kernel
theorem dX6_isNext_39 : decode cX6_isNext 39 = .ok (.iconst 0, 1) := by decide +kernel
theorem dX6_isNext_40 : decode cX6_isNext 40 = .ok (.ireturn, 1) := by decide +kernel
theorem dX6_takes_0 : decode cX6_takes 0 = .ok (.aload_n 0, 1) := by decide +kernel
theorem dX6_takes_1 : decode cX6_takes 1 = .ok (.iload_n 1, 1) := by decide +kernel
theorem dX6_takes_2 : decode cX6_takes 2 = .ok (.iload_n 2, 1) := by decide +kernel
theorem dX6_takes_3 : decode cX6_takes 3 = .ok (.invokevirtual 117, 3) := by decide +kernel
theorem dX6_takes_6 : decode cX6_takes 6 = .ok (.istore_n 3, 1) := by decide +kernel
theorem dX6_takes_7 : decode cX6_takes 7 = .ok (.iload_n 3, 1) := by decide +kernel
theorem dX6_takes_8 : decode cX6_takes 8 = .ok (.ifCond .eq 17, 3) := by decide +kernel
theorem dX6_takes_11 : decode cX6_takes 11 = .ok (.aload_n 0, 1) := by decide +kernel
theorem dX6_takes_12 : decode cX6_takes 12 = .ok (.getfield 19, 3) := by decide +kernel
theorem dX6_takes_15 : decode cX6_takes 15 = .ok (.aload_n 0, 1) := by decide +kernel
theorem dX6_takes_16 : decode cX6_takes 16 = .ok (.getfield 114, 3) := by decide +kernel
theorem dX6_takes_19 : decode cX6_takes 19 = .ok (.iaload, 1) := by decide +kernel
theorem dX6_takes_20 : decode cX6_takes 20 = .ok (.iload_n 1, 1) := by decide +kernel
theorem dX6_takes_21 : decode cX6_takes 21 = .ok (.isub, 1) := by decide +kernel
theorem dX6_takes_22 : decode cX6_takes 22 = .ok (.goto 4, 3) := by decide +kernel
theorem dX6_takes_25 : decode cX6_takes 25 = .ok (.iconst 0, 1) := by decide +kernel
theorem dX6_takes_26 : decode cX6_takes 26 = .ok (.istore 4, 2) := by decide +kernel
theorem dX6_takes_28 : decode cX6_takes 28 = .ok (.aload_n 0, 1) := by decide +kernel
theorem dX6_takes_29 : decode cX6_takes 29 = .ok (.dup, 1) := by decide +kernel
theorem dX6_takes_30 : decode cX6_takes 30 = .ok (.getfield 114, 3) := by decide +kernel
theorem dX6_takes_33 : decode cX6_takes 33 = .ok (.iload_n 3, 1) := by decide +kernel
theorem dX6_takes_34 : decode cX6_takes 34 = .ok (.ifCond .eq 7, 3) := by decide +kernel
theorem dX6_takes_37 : decode cX6_takes 37 = .ok (.iconst 1, 1) := by decide +kernel
theorem dX6_takes_38 : decode cX6_takes 38 = .ok (.goto 4, 3) := by decide +kernel
theorem dX6_takes_41 : decode cX6_takes 41 = .ok (.iconst 0, 1) := by decide +kernel
theorem dX6_takes_42 : decode cX6_takes 42 = .ok (.iadd, 1) := by decide +kernel
theorem dX6_takes_43 : decode cX6_takes 43 = .ok (.putfield 114, 3) := by decide +kernel
theorem dX6_takes_46 : decode cX6_takes 46 = .ok (.aload_n 0, 1) := by decide +kernel
theorem dX6_takes_47 : decode cX6_takes 47 = .ok (.aload_n 0, 1) := by decide +kernel
theorem dX6_takes_48 : decode cX6_takes 48 = .ok (.getfield 110, 3) := by decide +kernel
theorem dX6_takes_51 : decode cX6_takes 51 = .ok (.ifCond .ne 7, 3) := by decide +kernel
theorem dX6_takes_54 : decode cX6_takes 54 = .ok (.iload_n 3, 1) := by decide +kernel
theorem dX6_takes_55 : decode cX6_takes 55 = .ok (.ifCond .ne 7, 3) := by decide +kernel
theorem dX6_takes_58 : decode cX6_takes 58 = .ok (.iconst 1, 1) := by decide +kernel
theorem dX6_takes_59 : decode cX6_takes 59 = .ok (.goto 4, 3) := by decide +kernel
theorem dX6_takes_62 : decode cX6_takes 62 = .ok (.iconst 0, 1) := by decide +kernel
theorem dX6_takes_63 : decode cX6_takes 63 = .ok (.putfield 110, 3) := by decide +kernel
theorem dX6_takes_66 : decode cX6_takes 66 = .ok (.iload 4, 2) := by decide +kernel
theorem dX6_takes_68 : decode cX6_takes 68 = .ok (.ireturn, 1) := by decide +kernel
theorem dX6_number_0 : decode cX6_number 0 = .ok (.aload_n 0, 1) := by decide +kernel
theorem dX6_number_1 : decode cX6_number 1 = .ok (.bipush 48, 2) := by decide +kernel
theorem dX6_number_3 : decode cX6_number 3 = .ok (.bipush 57, 2) := by decide +kernel
theorem dX6_number_5 : decode cX6_number 5 = .ok (.invokevirtual 120, 3) := by decide +kernel
theorem dX6_number_8 : decode cX6_number 8 = .ok (.istore_n 2, 1) := by decide +kernel
theorem dX6_number_9 : decode cX6_number 9 = .ok (.iload_n 2, 1) := by decide +kernel
theorem dX6_number_10 : decode cX6_number 10 = .ok (.ifCond .le 66, 3) := by decide +kernel
theorem dX6_number_13 : decode cX6_number 13 = .ok (.aload_n 0, 1) := by decide +kernel
theorem dX6_number_14 : decode cX6_number 14 = .ok (.bipush 48, 2) := by decide +kernel
theorem dX6_number_16 : decode cX6_number 16 = .ok (.bipush 57, 2) := by decide +kernel
theorem dX6_number_18 : decode cX6_number 18 = .ok (.invokevirtual 117, 3) := by decide +kernel
theorem dX6_number_21 : decode cX6_number 21 = .ok (.ifCond .eq 55, 3) := by decide +kernel
theorem dX6_number_24 : decode cX6_number 24 = .ok (.bipush 10, 2) := by decide +kernel
theorem dX6_number_26 : decode cX6_number 26 = .ok (.iload_n 2, 1) := by decide +kernel
theorem dX6_number_27 : decode cX6_number 27 = .ok (.imul, 1) := by decide +kernel
theorem dX6_number_28 : decode cX6_number 28 = .ok (.aload_n 0, 1) := by decide +kernel
theorem dX6_number_29 : decode cX6_number 29 = .ok (.getfield 19, 3) := by decide +kernel
theorem dX6_number_32 : decode cX6_number 32 = .ok (.aload_n 0, 1) := by decide +kernel
theorem dX6_number_33 : decode cX6_number 33 = .ok (.getfield 114, 3) := by decide +kernel
theorem dX6_number_36 : decode cX6_number 36 = .ok (.iaload, 1) := by decide +kernel
theorem dX6_number_37 : decode cX6_number 37 = .ok (.iadd, 1) := by decide +kernel
theorem dX6_number_38 : decode cX6_number 38 = .ok (.bipush 48, 2) := by decide +kernel
theorem dX6_number_40 : decode cX6_number 40 = .ok (.isub, 1) := by decide +kernel
theorem dX6_number_41 : decode cX6_number 41 = .ok (.iload_n 1, 1) := by decide +kernel
theorem dX6_number_42 : decode cX6_number 42 = .ok (.if_icmp .gt 34, 3) := by decide +kernel
theorem dX6_number_45 : decode cX6_number 45 = .ok (.bipush 10, 2) := by decide +kernel
theorem dX6_number_47 : decode cX6_number 47 = .ok (.iload_n 2, 1) := by decide +kernel
theorem dX6_number_48 : decode cX6_number 48 = .ok (.imul, 1) := by decide +kernel
theorem dX6_number_49 : decode cX6_number 49 = .ok (.aload_n 0, 1) := by decide +kernel
theorem dX6_number_50 : decode cX6_number 50 = .ok (.getfield 19, 3) := by decide +kernel
theorem dX6_number_53 : decode cX6_number 53 = .ok (.aload_n 0, 1) := by decide +kernel
theorem dX6_number_54 : decode cX6_number 54 = .ok (.getfield 114, 3) := by decide +kernel
theorem dX6_number_57 : decode cX6_number 57 = .ok (.iaload, 1) := by decide +kernel
theorem dX6_number_58 : decode cX6_number 58 = .ok (.iadd, 1) := by decide +kernel
theorem dX6_number_59 : decode cX6_number 59 = .ok (.bipush 48, 2) := by decide +kernel
theorem dX6_number_61 : decode cX6_number 61 = .ok (.isub, 1) := by decide +kernel
theorem dX6_number_62 : decode cX6_number 62 = .ok (.istore_n 2, 1) := by decide +kernel
theorem dX6_number_63 : decode cX6_number 63 = .ok (.aload_n 0, 1) := by decide +kernel
theorem dX6_number_64 : decode cX6_number 64 = .ok (.dup, 1) := by decide +kernel
theorem dX6_number_65 : decode cX6_number 65 = .ok (.getfield 114, 3) := by decide +kernel
theorem dX6_number_68 : decode cX6_number 68 = .ok (.iconst 1, 1) := by decide +kernel
theorem dX6_number_69 : decode cX6_number 69 = .ok (.iadd, 1) := by decide +kernel
theorem dX6_number_70 : decode cX6_number 70 = .ok (.putfield 114, 3) := by decide +kernel
theorem dX6_number_73 : decode cX6_number 73 = .ok (.goto (-64), 3) := by decide +kernel
theorem dX6_number_76 : decode cX6_number 76 = .ok (.iload_n 2, 1) := by decide +kernel
theorem dX6_number_77 : decode cX6_number 77 = .ok (.ireturn, 1) := by decide +kernel
theorem dX6_readSpan_0 : decode cX6_readSpan 0 = .ok (.aload_n 0, 1) := by decide +kernel
theorem dX6_readSpan_1 : decode cX6_readSpan 1 = .ok (.aload_n 0, 1) := by decide +kernel
theorem dX6_readSpan_2 : decode cX6_readSpan 2 = .ok (.bipush 99, 2) := by decide +kernel
theorem dX6_readSpan_4 : decode cX6_readSpan 4 = .ok (.invokevirtual 123, 3) := by decide +kernel
theorem dX6_readSpan_7 : decode cX6_readSpan 7 = .ok (.putfield 127, 3) := by decide +kernel
theorem dX6_readSpan_10 : decode cX6_readSpan 10 = .ok (.aload_n 0, 1) := by decide +kernel
theorem dX6_readSpan_11 : decode cX6_readSpan 11 = .ok (.bipush 45, 2) := by decide +kernel
theorem dX6_readSpan_13 : decode cX6_readSpan 13 = .ok (.bipush 45, 2) := by decide +kernel
theorem dX6_readSpan_15 : decode cX6_readSpan 15 = .ok (.invokevirtual 120, 3) := by decide +kernel
theorem dX6_readSpan_18 : decode cX6_readSpan 18 = .ok (.istore_n 1, 1) := by decide +kernel
theorem dX6_readSpan_19 : decode cX6_readSpan 19 = .ok (.aload_n 0, 1) := by decide +kernel
theorem dX6_readSpan_20 : decode cX6_readSpan 20 = .ok (.aload_n 0, 1) := by decide +kernel
theorem dX6_readSpan_21 : decode cX6_readSpan 21 = .ok (.bipush 99, 2) := by decide +kernel
theorem dX6_readSpan_23 : decode cX6_readSpan 23 = .ok (.invokevirtual 123, 3) := by decide +kernel
theorem dX6_readSpan_26 : decode cX6_readSpan 26 = .ok (.putfield 130, 3) := by decide +kernel
theorem dX6_readSpan_29 : decode cX6_readSpan 29 = .ok (.aload_n 0, 1) := by decide +kernel
theorem dX6_readSpan_30 : decode cX6_readSpan 30 = .ok (.aload_n 0, 1) := by decide +kernel
theorem dX6_readSpan_31 : decode cX6_readSpan 31 = .ok (.getfield 133, 3) := by decide +kernel
theorem dX6_readSpan_34 : decode cX6_readSpan 34 = .ok (.ifCond .ne 14, 3) := by decide +kernel
theorem dX6_readSpan_37 : decode cX6_readSpan 37 = .ok (.aload_n 0, 1) := by decide +kernel
theorem dX6_readSpan_38 : decode cX6_readSpan 38 = .ok (.getfield 130, 3) := by decide +kernel
theorem dX6_readSpan_41 : decode cX6_readSpan 41 = .ok (.aload_n 0, 1) := by decide +kernel
theorem dX6_readSpan_42 : decode cX6_readSpan 42 = .ok (.getfield 127, 3) := by decide +kernel
theorem dX6_readSpan_45 : decode cX6_readSpan 45 = .ok (.if_icmp .ge 7, 3) := by decide +kernel
theorem dX6_readSpan_48 : decode cX6_readSpan 48 = .ok (.iconst 1, 1) := by decide +kernel
theorem dX6_readSpan_49 : decode cX6_readSpan 49 = .ok (.goto 4, 3) := by decide +kernel
theorem dX6_readSpan_52 : decode cX6_readSpan 52 = .ok (.iconst 0, 1) := by decide +kernel
theorem dX6_readSpan_53 : decode cX6_readSpan 53 = .ok (.putfield 133, 3) := by decide +kernel
theorem dX6_readSpan_56 : decode cX6_readSpan 56 = .ok (.return_, 1) := by decide +kernel
theorem dX6_readClause_0 : decode cX6_readClause 0 = .ok (.aload_n 0, 1) := by decide +kernel
theorem dX6_readClause_1 : decode cX6_readClause 1 = .ok (.bipush 48, 2) := by decide +kernel
theorem dX6_readClause_3 : decode cX6_readClause 3 = .ok (.bipush 53, 2) := by decide +kernel
theorem dX6_readClause_5 : decode cX6_readClause 5 = .ok (.invokevirtual 120, 3) := by decide +kernel
theorem dX6_readClause_8 : decode cX6_readClause 8 = .ok (.istore_n 2, 1) := by decide +kernel
theorem dX6_readClause_9 : decode cX6_readClause 9 = .ok (.aload_n 0, 1) := by decide +kernel
theorem dX6_readClause_10 : decode cX6_readClause 10 = .ok (.bipush 64, 2) := by decide +kernel
theorem dX6_readClause_12 : decode cX6_readClause 12 = .ok (.bipush 64, 2) := by decide +kernel
theorem dX6_readClause_14 : decode cX6_readClause 14 = .ok (.invokevirtual 120, 3) := by decide +kernel
theorem dX6_readClause_17 : decode cX6_readClause 17 = .ok (.istore_n 3, 1) := by decide +kernel
theorem dX6_readClause_18 : decode cX6_readClause 18 = .ok (.aload_n 0, 1) := by decide +kernel
theorem dX6_readClause_19 : decode cX6_readClause 19 = .ok (.sipush 999, 3) := by decide +kernel
theorem dX6_readClause_22 : decode cX6_readClause 22 = .ok (.invokevirtual 123, 3) := by decide +kernel
theorem dX6_readClause_25 : decode cX6_readClause 25 = .ok (.istore 4, 2) := by decide +kernel
theorem dX6_readClause_27 : decode cX6_readClause 27 = .ok (.aload_n 0, 1) := by decide +kernel
theorem dX6_readClause_28 : decode cX6_readClause 28 = .ok (.bipush 58, 2) := by decide +kernel
theorem dX6_readClause_30 : decode cX6_readClause 30 = .ok (.bipush 58, 2) := by decide +kernel
theorem dX6_readClause_32 : decode cX6_readClause 32 = .ok (.invokevirtual 120, 3) := by decide +kernel
theorem dX6_readClause_35 : decode cX6_readClause 35 = .ok (.istore_n 3, 1) := by decide +kernel
theorem dX6_readClause_36 : decode cX6_readClause 36 = .ok (.aload_n 0, 1) := by decide +kernel
theorem dX6_readClause_37 : decode cX6_readClause 37 = .ok (.invokevirtual 136, 3) := by decide +kernel
theorem dX6_readClause_40 : decode cX6_readClause 40 = .ok (.aload_n 0, 1) := by decide +kernel
theorem dX6_readClause_41 : decode cX6_readClause 41 = .ok (.getfield 127, 3) := by decide +kernel
theorem dX6_readClause_44 : decode cX6_readClause 44 = .ok (.istore 5, 2) := by decide +kernel
theorem dX6_readClause_46 : decode cX6_readClause 46 = .ok (.aload_n 0, 1) := by decide +kernel
theorem dX6_readClause_47 : decode cX6_readClause 47 = .ok (.getfield 130, 3) := by decide +kernel
theorem dX6_readClause_50 : decode cX6_readClause 50 = .ok (.istore 6, 2) := by decide +kernel
theorem dX6_readClause_52 : decode cX6_readClause 52 = .ok (.aload_n 0, 1) := by decide +kernel
theorem dX6_readClause_53 : decode cX6_readClause 53 = .ok (.bipush 61, 2) := by decide +kernel
theorem dX6_readClause_55 : decode cX6_readClause 55 = .ok (.bipush 61, 2) := by decide +kernel
theorem dX6_readClause_57 : decode cX6_readClause 57 = .ok (.invokevirtual 120, 3) := by decide +kernel
theorem dX6_readClause_60 : decode cX6_readClause 60 = .ok (.istore_n 3, 1) := by decide +kernel
theorem dX6_readClause_61 : decode cX6_readClause 61 = .ok (.aload_n 0, 1) := by decide +kernel
theorem dX6_readClause_62 : decode cX6_readClause 62 = .ok (.bipush 48, 2) := by decide +kernel
theorem dX6_readClause_64 : decode cX6_readClause 64 = .ok (.bipush 57, 2) := by decide +kernel
theorem dX6_readClause_66 : decode cX6_readClause 66 = .ok (.invokevirtual 120, 3) := by decide +kernel
theorem dX6_readClause_69 : decode cX6_readClause 69 = .ok (.istore 7, 2) := by decide +kernel
theorem dX6_readClause_71 : decode cX6_readClause 71 = .ok (.iload_n 1, 1) := by decide +kernel
theorem dX6_readClause_72 : decode cX6_readClause 72 = .ok (.ifCond .eq 16, 3) := by decide +kernel
theorem dX6_readClause_75 : decode cX6_readClause 75 = .ok (.aload_n 0, 1) := by decide +kernel
theorem dX6_readClause_76 : decode cX6_readClause 76 = .ok (.iload_n 2, 1) := by decide +kernel
theorem dX6_readClause_77 : decode cX6_readClause 77 = .ok (.iload 4, 2) := by decide +kernel
theorem dX6_readClause_79 : decode cX6_readClause 79 = .ok (.iload 5, 2) := by decide +kernel
theorem dX6_readClause_81 : decode cX6_readClause 81 = .ok (.iload 6, 2) := by decide +kernel
theorem dX6_readClause_83 : decode cX6_readClause 83 = .ok (.iload 7, 2) := by decide +kernel
theorem dX6_readClause_85 : decode cX6_readClause 85 = .ok (.invokevirtual 90, 3) := by decide +kernel
theorem dX6_readClause_88 : decode cX6_readClause 88 = .ok (.aload_n 0, 1) := by decide +kernel
theorem dX6_readClause_89 : decode cX6_readClause 89 = .ok (.bipush 33, 2) := by decide +kernel
theorem dX6_readClause_91 : decode cX6_readClause 91 = .ok (.bipush 33, 2) := by decide +kernel
theorem dX6_readClause_93 : decode cX6_readClause 93 = .ok (.invokevirtual 117, 3) := by decide +kernel
theorem dX6_readClause_96 : decode cX6_readClause 96 = .ok (.istore 8, 2) := by decide +kernel
theorem dX6_readClause_98 : decode cX6_readClause 98 = .ok (.iconst 0, 1) := by decide +kernel
theorem dX6_readClause_99 : decode cX6_readClause 99 = .ok (.istore 9, 2) := by decide +kernel
theorem dX6_readClause_101 : decode cX6_readClause 101 = .ok (.iload 9, 2) := by decide +kernel
theorem dX6_readClause_103 : decode cX6_readClause 103 = .ok (.iconst 3, 1) := by decide +kernel
theorem dX6_readClause_104 : decode cX6_readClause 104 = .ok (.if_icmp .ge 69, 3) := by decide +kernel
theorem dX6_readClause_107 : decode cX6_readClause 107 = .ok (.iload 8, 2) := by decide +kernel
theorem dX6_readClause_109 : decode cX6_readClause 109 = .ok (.ifCond .eq 64, 3) := by decide +kernel
theorem dX6_readClause_112 : decode cX6_readClause 112 = .ok (.aload_n 0, 1) := by decide +kernel
theorem dX6_readClause_113 : decode cX6_readClause 113 = .ok (.dup, 1) := by decide +kernel
theorem dX6_readClause_114 : decode cX6_readClause 114 = .ok (.getfield 114, 3) := by decide +kernel
theorem dX6_readClause_117 : decode cX6_readClause 117 = .ok (.iconst 1, 1) := by decide +kernel
theorem dX6_readClause_118 : decode cX6_readClause 118 = .ok (.iadd, 1) := by decide +kernel
theorem dX6_readClause_119 : decode cX6_readClause 119 = .ok (.putfield 114, 3) := by decide +kernel
theorem dX6_readClause_122 : decode cX6_readClause 122 = .ok (.aload_n 0, 1) := by decide +kernel
theorem dX6_readClause_123 : decode cX6_readClause 123 = .ok (.invokevirtual 136, 3) := by decide +kernel
theorem dX6_readClause_126 : decode cX6_readClause 126 = .ok (.iload_n 1, 1) := by decide +kernel
theorem dX6_readClause_127 : decode cX6_readClause 127 = .ok (.ifCond .eq 27, 3) := by decide +kernel
theorem dX6_readClause_130 : decode cX6_readClause 130 = .ok (.aload_n 0, 1) := by decide +kernel
theorem dX6_readClause_131 : decode cX6_readClause 131 = .ok (.aload_n 0, 1) := by decide +kernel
theorem dX6_readClause_132 : decode cX6_readClause 132 = .ok (.getfield 7, 3) := by decide +kernel
theorem dX6_readClause_135 : decode cX6_readClause 135 = .ok (.bipush 19, 2) := by decide +kernel
theorem dX6_readClause_137 : decode cX6_readClause 137 = .ok (.iaload, 1) := by decide +kernel
theorem dX6_readClause_138 : decode cX6_readClause 138 = .ok (.iconst 1, 1) := by decide +kernel
theorem dX6_readClause_139 : decode cX6_readClause 139 = .ok (.isub, 1) := by decide +kernel
theorem dX6_readClause_140 : decode cX6_readClause 140 = .ok (.aload_n 0, 1) := by decide +kernel
theorem dX6_readClause_141 : decode cX6_readClause 141 = .ok (.getfield 127, 3) := by decide +kernel
theorem dX6_readClause_144 : decode cX6_readClause 144 = .ok (.aload_n 0, 1) := by decide +kernel
theorem dX6_readClause_145 : decode cX6_readClause 145 = .ok (.getfield 130, 3) := by decide +kernel
theorem dX6_readClause_148 : decode cX6_readClause 148 = .ok (.invokevirtual 97, 3) := by decide +kernel
theorem dX6_readClause_151 : decode cX6_readClause 151 = .ok (.goto 4, 3) := by decide +kernel
theorem dX6_readClause_154 : decode cX6_readClause 154 = .ok (.iconst 0, 1) := by decide +kernel
theorem dX6_readClause_155 : decode cX6_readClause 155 = .ok (.istore 10, 2) := by decide +kernel
theorem dX6_readClause_157 : decode cX6_readClause 157 = .ok (.aload_n 0, 1) := by decide +kernel
theorem dX6_readClause_158 : decode cX6_readClause 158 = .ok (.bipush 44, 2) := by decide +kernel
theorem dX6_readClause_160 : decode cX6_readClause 160 = .ok (.bipush 44, 2) := by decide +kernel
theorem dX6_readClause_162 : decode cX6_readClause 162 = .ok (.invokevirtual 117, 3) := by decide +kernel
theorem dX6_readClause_165 : decode cX6_readClause 165 = .ok (.istore 8, 2) := by decide +kernel
theorem dX6_readClause_167 : decode cX6_readClause 167 = .ok (.iinc 9 1, 3) := by decide +kernel
theorem dX6_readClause_170 : decode cX6_readClause 170 = .ok (.goto (-69), 3) := by decide +kernel
theorem dX6_readClause_173 : decode cX6_readClause 173 = .ok (.return_, 1) := by decide +kernel
theorem dX6_reads_0 : decode cX6_reads 0 = .ok (.aload_n 0, 1) := by decide +kernel
theorem dX6_reads_1 : decode cX6_reads 1 = .ok (.iconst 0, 1) := by decide +kernel
theorem dX6_reads_2 : decode cX6_reads 2 = .ok (.putfield 114, 3) := by decide +kernel
theorem dX6_reads_5 : decode cX6_reads 5 = .ok (.aload_n 0, 1) := by decide +kernel
theorem dX6_reads_6 : decode cX6_reads 6 = .ok (.iconst 0, 1) := by decide +kernel
theorem dX6_reads_7 : decode cX6_reads 7 = .ok (.putfield 110, 3) := by decide +kernel
theorem dX6_reads_10 : decode cX6_reads 10 = .ok (.aload_n 0, 1) := by decide +kernel
theorem dX6_reads_11 : decode cX6_reads 11 = .ok (.iconst 0, 1) := by decide +kernel
theorem dX6_reads_12 : decode cX6_reads 12 = .ok (.putfield 133, 3) := by decide +kernel
theorem dX6_reads_15 : decode cX6_reads 15 = .ok (.iconst 0, 1) := by decide +kernel
theorem dX6_reads_16 : decode cX6_reads 16 = .ok (.istore_n 2, 1) := by decide +kernel
theorem dX6_reads_17 : decode cX6_reads 17 = .ok (.iconst 1, 1) := by decide +kernel
theorem dX6_reads_18 : decode cX6_reads 18 = .ok (.istore_n 3, 1) := by decide +kernel
theorem dX6_reads_19 : decode cX6_reads 19 = .ok (.iload_n 3, 1) := by decide +kernel
theorem dX6_reads_20 : decode cX6_reads 20 = .ok (.ifCond .eq 65, 3) := by decide +kernel
theorem dX6_reads_23 : decode cX6_reads 23 = .ok (.aload_n 0, 1) := by decide +kernel
theorem dX6_reads_24 : decode cX6_reads 24 = .ok (.iload_n 1, 1) := by decide +kernel
theorem dX6_reads_25 : decode cX6_reads 25 = .ok (.invokevirtual 139, 3) := by decide +kernel
theorem dX6_reads_28 : decode cX6_reads 28 = .ok (.iinc 2 1, 3) := by decide +kernel
theorem dX6_reads_31 : decode cX6_reads 31 = .ok (.aload_n 0, 1) := by decide +kernel
theorem dX6_reads_32 : decode cX6_reads 32 = .ok (.getfield 110, 3) := by decide +kernel
theorem dX6_reads_35 : decode cX6_reads 35 = .ok (.ifCond .ne 18, 3) := by decide +kernel
theorem dX6_reads_38 : decode cX6_reads 38 = .ok (.aload_n 0, 1) := by decide +kernel
theorem dX6_reads_39 : decode cX6_reads 39 = .ok (.getfield 114, 3) := by decide +kernel
theorem dX6_reads_42 : decode cX6_reads 42 = .ok (.aload_n 0, 1) := by decide +kernel
theorem dX6_reads_43 : decode cX6_reads 43 = .ok (.getfield 107, 3) := by decide +kernel
theorem dX6_reads_46 : decode cX6_reads 46 = .ok (.if_icmp .ge 7, 3) := by decide +kernel
theorem dX6_reads_49 : decode cX6_reads 49 = .ok (.iconst 1, 1) := by decide +kernel
theorem dX6_reads_50 : decode cX6_reads 50 = .ok (.goto 4, 3) := by decide +kernel
theorem dX6_reads_53 : decode cX6_reads 53 = .ok (.iconst 0, 1) := by decide +kernel
theorem dX6_reads_54 : decode cX6_reads 54 = .ok (.istore_n 3, 1) := by decide +kernel
theorem dX6_reads_55 : decode cX6_reads 55 = .ok (.iload_n 3, 1) := by decide +kernel
theorem dX6_reads_56 : decode cX6_reads 56 = .ok (.ifCond .eq (-37), 3) := by decide +kernel
theorem dX6_reads_59 : decode cX6_reads 59 = .ok (.aload_n 0, 1) := by decide +kernel
theorem dX6_reads_60 : decode cX6_reads 60 = .ok (.bipush 59, 2) := by decide +kernel
theorem dX6_reads_62 : decode cX6_reads 62 = .ok (.bipush 59, 2) := by decide +kernel
theorem dX6_reads_64 : decode cX6_reads 64 = .ok (.invokevirtual 120, 3) := by decide +kernel
theorem dX6_reads_67 : decode cX6_reads 67 = .ok (.istore 4, 2) := by decide +kernel
theorem dX6_reads_69 : decode cX6_reads 69 = .ok (.aload_n 0, 1) := by decide +kernel
theorem dX6_reads_70 : decode cX6_reads 70 = .ok (.getfield 110, 3) := by decide +kernel
theorem dX6_reads_73 : decode cX6_reads 73 = .ok (.ifCond .ne 7, 3) := by decide +kernel
theorem dX6_reads_76 : decode cX6_reads 76 = .ok (.iconst 1, 1) := by decide +kernel
theorem dX6_reads_77 : decode cX6_reads 77 = .ok (.goto 4, 3) := by decide +kernel
theorem dX6_reads_80 : decode cX6_reads 80 = .ok (.iconst 0, 1) := by decide +kernel
theorem dX6_reads_81 : decode cX6_reads 81 = .ok (.istore_n 3, 1) := by decide +kernel
theorem dX6_reads_82 : decode cX6_reads 82 = .ok (.goto (-63), 3) := by decide +kernel
theorem dX6_reads_85 : decode cX6_reads 85 = .ok (.iload_n 2, 1) := by decide +kernel
theorem dX6_reads_86 : decode cX6_reads 86 = .ok (.ireturn, 1) := by decide +kernel
theorem dX6_writeAll_0 : decode cX6_writeAll 0 = .ok (.aload_n 0, 1) := by decide +kernel
theorem dX6_writeAll_1 : decode cX6_writeAll 1 = .ok (.iconst 0, 1) := by decide +kernel
theorem dX6_writeAll_2 : decode cX6_writeAll 2 = .ok (.invokevirtual 143, 3) := by decide +kernel
theorem dX6_writeAll_5 : decode cX6_writeAll 5 = .ok (.istore_n 1, 1) := by decide +kernel
theorem dX6_writeAll_6 : decode cX6_writeAll 6 = .ok (.aload_n 0, 1) := by decide +kernel
theorem dX6_writeAll_7 : decode cX6_writeAll 7 = .ok (.getfield 110, 3) := by decide +kernel
theorem dX6_writeAll_10 : decode cX6_writeAll 10 = .ok (.ifCond .eq 11, 3) := by decide +kernel
theorem dX6_writeAll_13 : decode cX6_writeAll 13 = .ok (.bipush (-100), 2) := by decide +kernel
theorem dX6_writeAll_15 : decode cX6_writeAll 15 = .ok (.aload_n 0, 1) := by decide +kernel
theorem dX6_writeAll_16 : decode cX6_writeAll 16 = .ok (.getfield 114, 3) := by decide +kernel
theorem dX6_writeAll_19 : decode cX6_writeAll 19 = .ok (.isub, 1) := by decide +kernel
theorem dX6_writeAll_20 : decode cX6_writeAll 20 = .ok (.ireturn, 1) := by decide +kernel
theorem dX6_writeAll_21 : decode cX6_writeAll 21 = .ok (.aload_n 0, 1) := by decide +kernel
theorem dX6_writeAll_22 : decode cX6_writeAll 22 = .ok (.getfield 133, 3) := by decide +kernel
theorem dX6_writeAll_25 : decode cX6_writeAll 25 = .ok (.ifCond .ne 17, 3) := by decide +kernel
theorem dX6_writeAll_28 : decode cX6_writeAll 28 = .ok (.aload_n 0, 1) := by decide +kernel
theorem dX6_writeAll_29 : decode cX6_writeAll 29 = .ok (.getfield 7, 3) := by decide +kernel
theorem dX6_writeAll_32 : decode cX6_writeAll 32 = .ok (.bipush 19, 2) := by decide +kernel
theorem dX6_writeAll_34 : decode cX6_writeAll 34 = .ok (.iaload, 1) := by decide +kernel
theorem dX6_writeAll_35 : decode cX6_writeAll 35 = .ok (.iload_n 1, 1) := by decide +kernel
theorem dX6_writeAll_36 : decode cX6_writeAll 36 = .ok (.iadd, 1) := by decide +kernel
theorem dX6_writeAll_37 : decode cX6_writeAll 37 = .ok (.bipush 30, 2) := by decide +kernel
theorem dX6_writeAll_39 : decode cX6_writeAll 39 = .ok (.if_icmp .le 18, 3) := by decide +kernel
theorem dX6_writeAll_42 : decode cX6_writeAll 42 = .ok (.aload_n 0, 1) := by decide +kernel
theorem dX6_writeAll_43 : decode cX6_writeAll 43 = .ok (.getfield 133, 3) := by decide +kernel
theorem dX6_writeAll_46 : decode cX6_writeAll 46 = .ok (.ifCond .eq 8, 3) := by decide +kernel
theorem dX6_writeAll_49 : decode cX6_writeAll 49 = .ok (.bipush (-2), 2) := by decide +kernel
theorem dX6_writeAll_51 : decode cX6_writeAll 51 = .ok (.goto 5, 3) := by decide +kernel
theorem dX6_writeAll_54 : decode cX6_writeAll 54 = .ok (.bipush (-3), 2) := by decide +kernel
theorem dX6_writeAll_56 : decode cX6_writeAll 56 = .ok (.ireturn, 1) := by decide +kernel
theorem dX6_writeAll_57 : decode cX6_writeAll 57 = .ok (.aload_n 0, 1) := by decide +kernel
theorem dX6_writeAll_58 : decode cX6_writeAll 58 = .ok (.invokevirtual 84, 3) := by decide +kernel
theorem dX6_writeAll_61 : decode cX6_writeAll 61 = .ok (.aload_n 0, 1) := by decide +kernel
theorem dX6_writeAll_62 : decode cX6_writeAll 62 = .ok (.iconst 1, 1) := by decide +kernel
theorem dX6_writeAll_63 : decode cX6_writeAll 63 = .ok (.invokevirtual 143, 3) := by decide +kernel
theorem dX6_writeAll_66 : decode cX6_writeAll 66 = .ok (.ireturn, 1) := by decide +kernel
theorem dX6_undo_0 : decode cX6_undo 0 = .ok (.aload_n 0, 1) := by decide +kernel
theorem dX6_undo_1 : decode cX6_undo 1 = .ok (.getfield 43, 3) := by decide +kernel
theorem dX6_undo_4 : decode cX6_undo 4 = .ok (.ifCond .ne 6, 3) := by decide +kernel
theorem dX6_undo_7 : decode cX6_undo 7 = .ok (.bipush (-5), 2) := by decide +kernel
theorem dX6_undo_9 : decode cX6_undo 9 = .ok (.ireturn, 1) := by decide +kernel
theorem dX6_undo_10 : decode cX6_undo 10 = .ok (.aload_n 0, 1) := by decide +kernel
theorem dX6_undo_11 : decode cX6_undo 11 = .ok (.dup, 1) := by decide +kernel
theorem dX6_undo_12 : decode cX6_undo 12 = .ok (.getfield 43, 3) := by decide +kernel
theorem dX6_undo_15 : decode cX6_undo 15 = .ok (.iconst 1, 1) := by decide +kernel
theorem dX6_undo_16 : decode cX6_undo 16 = .ok (.isub, 1) := by decide +kernel
theorem dX6_undo_17 : decode cX6_undo 17 = .ok (.putfield 43, 3) := by decide +kernel
theorem dX6_undo_20 : decode cX6_undo 20 = .ok (.iconst 0, 1) := by decide +kernel
theorem dX6_undo_21 : decode cX6_undo 21 = .ok (.istore_n 1, 1) := by decide +kernel
theorem dX6_undo_22 : decode cX6_undo 22 = .ok (.iload_n 1, 1) := by decide +kernel
theorem dX6_undo_23 : decode cX6_undo 23 = .ok (.sipush 410, 3) := by decide +kernel
theorem dX6_undo_26 : decode cX6_undo 26 = .ok (.if_icmp .ge 30, 3) := by decide +kernel
theorem dX6_undo_29 : decode cX6_undo 29 = .ok (.aload_n 0, 1) := by decide +kernel
theorem dX6_undo_30 : decode cX6_undo 30 = .ok (.getfield 7, 3) := by decide +kernel
theorem dX6_undo_33 : decode cX6_undo 33 = .ok (.iload_n 1, 1) := by decide +kernel
theorem dX6_undo_34 : decode cX6_undo 34 = .ok (.aload_n 0, 1) := by decide +kernel
theorem dX6_undo_35 : decode cX6_undo 35 = .ok (.getfield 13, 3) := by decide +kernel
theorem dX6_undo_38 : decode cX6_undo 38 = .ok (.sipush 410, 3) := by decide +kernel
theorem dX6_undo_41 : decode cX6_undo 41 = .ok (.aload_n 0, 1) := by decide +kernel
theorem dX6_undo_42 : decode cX6_undo 42 = .ok (.getfield 43, 3) := by decide +kernel
theorem dX6_undo_45 : decode cX6_undo 45 = .ok (.imul, 1) := by decide +kernel
theorem dX6_undo_46 : decode cX6_undo 46 = .ok (.iload_n 1, 1) := by decide +kernel
theorem dX6_undo_47 : decode cX6_undo 47 = .ok (.iadd, 1) := by decide +kernel
theorem dX6_undo_48 : decode cX6_undo 48 = .ok (.iaload, 1) := by decide +kernel
theorem dX6_undo_49 : decode cX6_undo 49 = .ok (.iastore, 1) := by decide +kernel
theorem dX6_undo_50 : decode cX6_undo 50 = .ok (.iinc 1 1, 3) := by decide +kernel
theorem dX6_undo_53 : decode cX6_undo 53 = .ok (.goto (-31), 3) := by decide +kernel
theorem dX6_undo_56 : decode cX6_undo 56 = .ok (.aload_n 0, 1) := by decide +kernel
theorem dX6_undo_57 : decode cX6_undo 57 = .ok (.getfield 43, 3) := by decide +kernel
theorem dX6_undo_60 : decode cX6_undo 60 = .ok (.ireturn, 1) := by decide +kernel
theorem dX6_keep_0 : decode cX6_keep 0 = .ok (.iconst 0, 1) := by decide +kernel
theorem dX6_keep_1 : decode cX6_keep 1 = .ok (.istore_n 1, 1) := by decide +kernel
theorem dX6_keep_2 : decode cX6_keep 2 = .ok (.iload_n 1, 1) := by decide +kernel
theorem dX6_keep_3 : decode cX6_keep 3 = .ok (.sipush 410, 3) := by decide +kernel
theorem dX6_keep_6 : decode cX6_keep 6 = .ok (.if_icmp .ge 21, 3) := by decide +kernel
theorem dX6_keep_9 : decode cX6_keep 9 = .ok (.aload_n 0, 1) := by decide +kernel
theorem dX6_keep_10 : decode cX6_keep 10 = .ok (.getfield 16, 3) := by decide +kernel
theorem dX6_keep_13 : decode cX6_keep 13 = .ok (.iload_n 1, 1) := by decide +kernel
theorem dX6_keep_14 : decode cX6_keep 14 = .ok (.aload_n 0, 1) := by decide +kernel
theorem dX6_keep_15 : decode cX6_keep 15 = .ok (.getfield 7, 3) := by decide +kernel
theorem dX6_keep_18 : decode cX6_keep 18 = .ok (.iload_n 1, 1) := by decide +kernel
theorem dX6_keep_19 : decode cX6_keep 19 = .ok (.iaload, 1) := by decide +kernel
theorem dX6_keep_20 : decode cX6_keep 20 = .ok (.iastore, 1) := by decide +kernel
theorem dX6_keep_21 : decode cX6_keep 21 = .ok (.iinc 1 1, 3) := by decide +kernel
theorem dX6_keep_24 : decode cX6_keep 24 = .ok (.goto (-22), 3) := by decide +kernel
theorem dX6_keep_27 : decode cX6_keep 27 = .ok (.aload_n 0, 1) := by decide +kernel
theorem dX6_keep_28 : decode cX6_keep 28 = .ok (.iconst 1, 1) := by decide +kernel
theorem dX6_keep_29 : decode cX6_keep 29 = .ok (.putfield 147, 3) := by decide +kernel
theorem dX6_keep_32 : decode cX6_keep 32 = .ok (.aload_n 0, 1) := by decide +kernel
theorem dX6_keep_33 : decode cX6_keep 33 = .ok (.getfield 7, 3) := by decide +kernel
theorem dX6_keep_36 : decode cX6_keep 36 = .ok (.bipush 19, 2) := by decide +kernel
theorem dX6_keep_38 : decode cX6_keep 38 = .ok (.iaload, 1) := by decide +kernel
theorem dX6_keep_39 : decode cX6_keep 39 = .ok (.ireturn, 1) := by decide +kernel
theorem dX6_restore_0 : decode cX6_restore 0 = .ok (.aload_n 0, 1) := by decide +kernel
theorem dX6_restore_1 : decode cX6_restore 1 = .ok (.getfield 147, 3) := by decide +kernel
theorem dX6_restore_4 : decode cX6_restore 4 = .ok (.ifCond .ne 6, 3) := by decide +kernel
theorem dX6_restore_7 : decode cX6_restore 7 = .ok (.bipush (-5), 2) := by decide +kernel
theorem dX6_restore_9 : decode cX6_restore 9 = .ok (.ireturn, 1) := by decide +kernel
theorem dX6_restore_10 : decode cX6_restore 10 = .ok (.aload_n 0, 1) := by decide +kernel
theorem dX6_restore_11 : decode cX6_restore 11 = .ok (.invokevirtual 84, 3) := by decide +kernel
theorem dX6_restore_14 : decode cX6_restore 14 = .ok (.iconst 0, 1) := by decide +kernel
theorem dX6_restore_15 : decode cX6_restore 15 = .ok (.istore_n 1, 1) := by decide +kernel
theorem dX6_restore_16 : decode cX6_restore 16 = .ok (.iload_n 1, 1) := by decide +kernel
theorem dX6_restore_17 : decode cX6_restore 17 = .ok (.sipush 410, 3) := by decide +kernel
theorem dX6_restore_20 : decode cX6_restore 20 = .ok (.if_icmp .ge 21, 3) := by decide +kernel
theorem dX6_restore_23 : decode cX6_restore 23 = .ok (.aload_n 0, 1) := by decide +kernel
theorem dX6_restore_24 : decode cX6_restore 24 = .ok (.getfield 7, 3) := by decide +kernel
theorem dX6_restore_27 : decode cX6_restore 27 = .ok (.iload_n 1, 1) := by decide +kernel
theorem dX6_restore_28 : decode cX6_restore 28 = .ok (.aload_n 0, 1) := by decide +kernel
theorem dX6_restore_29 : decode cX6_restore 29 = .ok (.getfield 16, 3) := by decide +kernel
theorem dX6_restore_32 : decode cX6_restore 32 = .ok (.iload_n 1, 1) := by decide +kernel
theorem dX6_restore_33 : decode cX6_restore 33 = .ok (.iaload, 1) := by decide +kernel
theorem dX6_restore_34 : decode cX6_restore 34 = .ok (.iastore, 1) := by decide +kernel
theorem dX6_restore_35 : decode cX6_restore 35 = .ok (.iinc 1 1, 3) := by decide +kernel
theorem dX6_restore_38 : decode cX6_restore 38 = .ok (.goto (-22), 3) := by decide +kernel
theorem dX6_restore_41 : decode cX6_restore 41 = .ok (.aload_n 0, 1) := by decide +kernel
theorem dX6_restore_42 : decode cX6_restore 42 = .ok (.getfield 7, 3) := by decide +kernel
theorem dX6_restore_45 : decode cX6_restore 45 = .ok (.bipush 19, 2) := by decide +kernel
theorem dX6_restore_47 : decode cX6_restore 47 = .ok (.iaload, 1) := by decide +kernel
theorem dX6_restore_48 : decode cX6_restore 48 = .ok (.ireturn, 1) := by decide +kernel
theorem dX6_clausesOf_0 : decode cX6_clausesOf 0 = .ok (.iconst 0, 1) := by decide +kernel
theorem dX6_clausesOf_1 : decode cX6_clausesOf 1 = .ok (.istore_n 3, 1) := by decide +kernel
theorem dX6_clausesOf_2 : decode cX6_clausesOf 2 = .ok (.iconst 0, 1) := by decide +kernel
theorem dX6_clausesOf_3 : decode cX6_clausesOf 3 = .ok (.istore 4, 2) := by decide +kernel
theorem dX6_clausesOf_5 : decode cX6_clausesOf 5 = .ok (.iload 4, 2) := by decide +kernel
theorem dX6_clausesOf_7 : decode cX6_clausesOf 7 = .ok (.aload_n 0, 1) := by decide +kernel
theorem dX6_clausesOf_8 : decode cX6_clausesOf 8 = .ok (.getfield 7, 3) := by decide +kernel
theorem dX6_clausesOf_11 : decode cX6_clausesOf 11 = .ok (.bipush 19, 2) := by decide +kernel
theorem dX6_clausesOf_13 : decode cX6_clausesOf 13 = .ok (.iaload, 1) := by decide +kernel
theorem dX6_clausesOf_14 : decode cX6_clausesOf 14 = .ok (.if_icmp .ge 65, 3) := by decide +kernel
theorem dX6_clausesOf_17 : decode cX6_clausesOf 17 = .ok (.iload_n 1, 1) := by decide +kernel
theorem dX6_clausesOf_18 : decode cX6_clausesOf 18 = .ok (.bipush (-5), 2) := by decide +kernel
theorem dX6_clausesOf_20 : decode cX6_clausesOf 20 = .ok (.if_icmp .eq 14, 3) := by decide +kernel
theorem dX6_clausesOf_23 : decode cX6_clausesOf 23 = .ok (.aload_n 0, 1) := by decide +kernel
theorem dX6_clausesOf_24 : decode cX6_clausesOf 24 = .ok (.iload 4, 2) := by decide +kernel
theorem dX6_clausesOf_26 : decode cX6_clausesOf 26 = .ok (.iconst 0, 1) := by decide +kernel
theorem dX6_clausesOf_27 : decode cX6_clausesOf 27 = .ok (.invokevirtual 47, 3) := by decide +kernel
theorem dX6_clausesOf_30 : decode cX6_clausesOf 30 = .ok (.iload_n 1, 1) := by decide +kernel
theorem dX6_clausesOf_31 : decode cX6_clausesOf 31 = .ok (.if_icmp .ne 7, 3) := by decide +kernel
theorem dX6_clausesOf_34 : decode cX6_clausesOf 34 = .ok (.iconst 1, 1) := by decide +kernel
theorem dX6_clausesOf_35 : decode cX6_clausesOf 35 = .ok (.goto 4, 3) := by decide +kernel
theorem dX6_clausesOf_38 : decode cX6_clausesOf 38 = .ok (.iconst 0, 1) := by decide +kernel
theorem dX6_clausesOf_39 : decode cX6_clausesOf 39 = .ok (.istore 5, 2) := by decide +kernel
theorem dX6_clausesOf_41 : decode cX6_clausesOf 41 = .ok (.iload_n 3, 1) := by decide +kernel
theorem dX6_clausesOf_42 : decode cX6_clausesOf 42 = .ok (.iload 5, 2) := by decide +kernel
theorem dX6_clausesOf_44 : decode cX6_clausesOf 44 = .ok (.ifCond .eq 26, 3) := by decide +kernel
theorem dX6_clausesOf_47 : decode cX6_clausesOf 47 = .ok (.iload_n 2, 1) := by decide +kernel
theorem dX6_clausesOf_48 : decode cX6_clausesOf 48 = .ok (.ifCond .eq 18, 3) := by decide +kernel
theorem dX6_clausesOf_51 : decode cX6_clausesOf 51 = .ok (.aload_n 0, 1) := by decide +kernel
theorem dX6_clausesOf_52 : decode cX6_clausesOf 52 = .ok (.iload 4, 2) := by decide +kernel
theorem dX6_clausesOf_54 : decode cX6_clausesOf 54 = .ok (.aload_n 0, 1) := by decide +kernel
theorem dX6_clausesOf_55 : decode cX6_clausesOf 55 = .ok (.getfield 7, 3) := by decide +kernel
theorem dX6_clausesOf_58 : decode cX6_clausesOf 58 = .ok (.iconst 0, 1) := by decide +kernel
theorem dX6_clausesOf_59 : decode cX6_clausesOf 59 = .ok (.iaload, 1) := by decide +kernel
theorem dX6_clausesOf_60 : decode cX6_clausesOf 60 = .ok (.invokevirtual 57, 3) := by decide +kernel
theorem dX6_clausesOf_63 : decode cX6_clausesOf 63 = .ok (.ifCond .eq 7, 3) := by decide +kernel
theorem dX6_clausesOf_66 : decode cX6_clausesOf 66 = .ok (.iconst 1, 1) := by decide +kernel
theorem dX6_clausesOf_67 : decode cX6_clausesOf 67 = .ok (.goto 4, 3) := by decide +kernel
theorem dX6_clausesOf_70 : decode cX6_clausesOf 70 = .ok (.iconst 0, 1) := by decide +kernel
theorem dX6_clausesOf_71 : decode cX6_clausesOf 71 = .ok (.iadd, 1) := by decide +kernel
theorem dX6_clausesOf_72 : decode cX6_clausesOf 72 = .ok (.istore_n 3, 1) := by decide +kernel
theorem dX6_clausesOf_73 : decode cX6_clausesOf 73 = .ok (.iinc 4 1, 3) := by decide +kernel
theorem dX6_clausesOf_76 : decode cX6_clausesOf 76 = .ok (.goto (-71), 3) := by decide +kernel
theorem dX6_clausesOf_79 : decode cX6_clausesOf 79 = .ok (.iload_n 3, 1) := by decide +kernel
theorem dX6_clausesOf_80 : decode cX6_clausesOf 80 = .ok (.ireturn, 1) := by decide +kernel
theorem dX6_ruledIn_0 : decode cX6_ruledIn 0 = .ok (.aload_n 0, 1) := by decide +kernel
theorem dX6_ruledIn_1 : decode cX6_ruledIn 1 = .ok (.bipush (-5), 2) := by decide +kernel
theorem dX6_ruledIn_3 : decode cX6_ruledIn 3 = .ok (.invokevirtual 74, 3) := by decide +kernel
theorem dX6_ruledIn_6 : decode cX6_ruledIn 6 = .ok (.iconst 0, 1) := by decide +kernel
theorem dX6_ruledIn_7 : decode cX6_ruledIn 7 = .ok (.istore_n 2, 1) := by decide +kernel
theorem dX6_ruledIn_8 : decode cX6_ruledIn 8 = .ok (.iconst 0, 1) := by decide +kernel
theorem dX6_ruledIn_9 : decode cX6_ruledIn 9 = .ok (.istore_n 3, 1) := by decide +kernel
theorem dX6_ruledIn_10 : decode cX6_ruledIn 10 = .ok (.iload_n 3, 1) := by decide +kernel
theorem dX6_ruledIn_11 : decode cX6_ruledIn 11 = .ok (.bipush 99, 2) := by decide +kernel
theorem dX6_ruledIn_13 : decode cX6_ruledIn 13 = .ok (.if_icmp .gt 43, 3) := by decide +kernel
theorem dX6_ruledIn_16 : decode cX6_ruledIn 16 = .ok (.iload_n 2, 1) := by decide +kernel
theorem dX6_ruledIn_17 : decode cX6_ruledIn 17 = .ok (.aload_n 0, 1) := by decide +kernel
theorem dX6_ruledIn_18 : decode cX6_ruledIn 18 = .ok (.getfield 22, 3) := by decide +kernel
theorem dX6_ruledIn_21 : decode cX6_ruledIn 21 = .ok (.iload_n 3, 1) := by decide +kernel
theorem dX6_ruledIn_22 : decode cX6_ruledIn 22 = .ok (.iaload, 1) := by decide +kernel
theorem dX6_ruledIn_23 : decode cX6_ruledIn 23 = .ok (.bipush (-5), 2) := by decide +kernel
theorem dX6_ruledIn_25 : decode cX6_ruledIn 25 = .ok (.if_icmp .eq 22, 3) := by decide +kernel
theorem dX6_ruledIn_28 : decode cX6_ruledIn 28 = .ok (.aload_n 0, 1) := by decide +kernel
theorem dX6_ruledIn_29 : decode cX6_ruledIn 29 = .ok (.aload_n 0, 1) := by decide +kernel
theorem dX6_ruledIn_30 : decode cX6_ruledIn 30 = .ok (.getfield 22, 3) := by decide +kernel
theorem dX6_ruledIn_33 : decode cX6_ruledIn 33 = .ok (.iload_n 3, 1) := by decide +kernel
theorem dX6_ruledIn_34 : decode cX6_ruledIn 34 = .ok (.iaload, 1) := by decide +kernel
theorem dX6_ruledIn_35 : decode cX6_ruledIn 35 = .ok (.iconst 0, 1) := by decide +kernel
theorem dX6_ruledIn_36 : decode cX6_ruledIn 36 = .ok (.invokevirtual 47, 3) := by decide +kernel
theorem dX6_ruledIn_39 : decode cX6_ruledIn 39 = .ok (.iload_n 1, 1) := by decide +kernel
theorem dX6_ruledIn_40 : decode cX6_ruledIn 40 = .ok (.if_icmp .ne 7, 3) := by decide +kernel
theorem dX6_ruledIn_43 : decode cX6_ruledIn 43 = .ok (.iconst 1, 1) := by decide +kernel
theorem dX6_ruledIn_44 : decode cX6_ruledIn 44 = .ok (.goto 4, 3) := by decide +kernel
theorem dX6_ruledIn_47 : decode cX6_ruledIn 47 = .ok (.iconst 0, 1) := by decide +kernel
theorem dX6_ruledIn_48 : decode cX6_ruledIn 48 = .ok (.iadd, 1) := by decide +kernel
theorem dX6_ruledIn_49 : decode cX6_ruledIn 49 = .ok (.istore_n 2, 1) := by decide +kernel
theorem dX6_ruledIn_50 : decode cX6_ruledIn 50 = .ok (.iinc 3 1, 3) := by decide +kernel
theorem dX6_ruledIn_53 : decode cX6_ruledIn 53 = .ok (.goto (-43), 3) := by decide +kernel
theorem dX6_ruledIn_56 : decode cX6_ruledIn 56 = .ok (.iload_n 2, 1) := by decide +kernel
theorem dX6_ruledIn_57 : decode cX6_ruledIn 57 = .ok (.ireturn, 1) := by decide +kernel
theorem dX6_chapter_0 : decode cX6_chapter 0 = .ok (.iload_n 1, 1) := by decide +kernel
theorem dX6_chapter_1 : decode cX6_chapter 1 = .ok (.invokestatic 78, 3) := by decide +kernel
theorem dX6_chapter_4 : decode cX6_chapter 4 = .ok (.ifCond .ne 5, 3) := by decide +kernel
theorem dX6_chapter_7 : decode cX6_chapter 7 = .ok (.iconst (-1), 1) := by decide +kernel
theorem dX6_chapter_8 : decode cX6_chapter 8 = .ok (.ireturn, 1) := by decide +kernel
theorem dX6_chapter_9 : decode cX6_chapter 9 = .ok (.iload_n 2, 1) := by decide +kernel
theorem dX6_chapter_10 : decode cX6_chapter 10 = .ok (.tableswitch 71 0 5 #[38, 38, 38, 49, 49, 65], 38) := by decide +kernel
theorem dX6_chapter_48 : decode cX6_chapter 48 = .ok (.aload_n 0, 1) := by decide +kernel
theorem dX6_chapter_49 : decode cX6_chapter 49 = .ok (.getfield 7, 3) := by decide +kernel
theorem dX6_chapter_52 : decode cX6_chapter 52 = .ok (.iload_n 1, 1) := by decide +kernel
theorem dX6_chapter_53 : decode cX6_chapter 53 = .ok (.iload_n 2, 1) := by decide +kernel
theorem dX6_chapter_54 : decode cX6_chapter 54 = .ok (.invokestatic 28, 3) := by decide +kernel
theorem dX6_chapter_57 : decode cX6_chapter 57 = .ok (.iaload, 1) := by decide +kernel
theorem dX6_chapter_58 : decode cX6_chapter 58 = .ok (.ireturn, 1) := by decide +kernel
theorem dX6_chapter_59 : decode cX6_chapter 59 = .ok (.aload_n 0, 1) := by decide +kernel
theorem dX6_chapter_60 : decode cX6_chapter 60 = .ok (.iload_n 1, 1) := by decide +kernel
theorem dX6_chapter_61 : decode cX6_chapter 61 = .ok (.iload_n 2, 1) := by decide +kernel
theorem dX6_chapter_62 : decode cX6_chapter 62 = .ok (.iconst 4, 1) := by decide +kernel
theorem dX6_chapter_63 : decode cX6_chapter 63 = .ok (.if_icmp .ne 7, 3) := by decide +kernel
theorem dX6_chapter_66 : decode cX6_chapter 66 = .ok (.iconst 1, 1) := by decide +kernel
theorem dX6_chapter_67 : decode cX6_chapter 67 = .ok (.goto 4, 3) := by decide +kernel
theorem dX6_chapter_70 : decode cX6_chapter 70 = .ok (.iconst 0, 1) := by decide +kernel
theorem dX6_chapter_71 : decode cX6_chapter 71 = .ok (.invokevirtual 150, 3) := by decide +kernel
theorem dX6_chapter_74 : decode cX6_chapter 74 = .ok (.ireturn, 1) := by decide +kernel
theorem dX6_chapter_75 : decode cX6_chapter 75 = .ok (.aload_n 0, 1) := by decide +kernel
theorem dX6_chapter_76 : decode cX6_chapter 76 = .ok (.iload_n 1, 1) := by decide +kernel
theorem dX6_chapter_77 : decode cX6_chapter 77 = .ok (.invokevirtual 154, 3) := by decide +kernel
theorem dX6_chapter_80 : decode cX6_chapter 80 = .ok (.ireturn, 1) := by decide +kernel
theorem dX6_chapter_81 : decode cX6_chapter 81 = .ok (.bipush (-2), 2) := by decide +kernel
theorem dX6_chapter_83 : decode cX6_chapter 83 = .ok (.ireturn, 1) := by decide +kernel
theorem dX6_spokenBy_0 : decode cX6_spokenBy 0 = .ok (.iconst 0, 1) := by decide +kernel
theorem dX6_spokenBy_1 : decode cX6_spokenBy 1 = .ok (.istore_n 2, 1) := by decide +kernel
theorem dX6_spokenBy_2 : decode cX6_spokenBy 2 = .ok (.iconst 0, 1) := by decide +kernel
theorem dX6_spokenBy_3 : decode cX6_spokenBy 3 = .ok (.istore_n 3, 1) := by decide +kernel
theorem dX6_spokenBy_4 : decode cX6_spokenBy 4 = .ok (.iload_n 3, 1) := by decide +kernel
theorem dX6_spokenBy_5 : decode cX6_spokenBy 5 = .ok (.bipush 99, 2) := by decide +kernel
theorem dX6_spokenBy_7 : decode cX6_spokenBy 7 = .ok (.if_icmp .gt 40, 3) := by decide +kernel
theorem dX6_spokenBy_10 : decode cX6_spokenBy 10 = .ok (.iload_n 2, 1) := by decide +kernel
theorem dX6_spokenBy_11 : decode cX6_spokenBy 11 = .ok (.aload_n 0, 1) := by decide +kernel
theorem dX6_spokenBy_12 : decode cX6_spokenBy 12 = .ok (.aload_n 0, 1) := by decide +kernel
theorem dX6_spokenBy_13 : decode cX6_spokenBy 13 = .ok (.iload_n 1, 1) := by decide +kernel
theorem dX6_spokenBy_14 : decode cX6_spokenBy 14 = .ok (.iconst 0, 1) := by decide +kernel
theorem dX6_spokenBy_15 : decode cX6_spokenBy 15 = .ok (.invokevirtual 47, 3) := by decide +kernel
theorem dX6_spokenBy_18 : decode cX6_spokenBy 18 = .ok (.iload_n 3, 1) := by decide +kernel
theorem dX6_spokenBy_19 : decode cX6_spokenBy 19 = .ok (.aload_n 0, 1) := by decide +kernel
theorem dX6_spokenBy_20 : decode cX6_spokenBy 20 = .ok (.getfield 7, 3) := by decide +kernel
theorem dX6_spokenBy_23 : decode cX6_spokenBy 23 = .ok (.iconst 0, 1) := by decide +kernel
theorem dX6_spokenBy_24 : decode cX6_spokenBy 24 = .ok (.iaload, 1) := by decide +kernel
theorem dX6_spokenBy_25 : decode cX6_spokenBy 25 = .ok (.bipush (-5), 2) := by decide +kernel
theorem dX6_spokenBy_27 : decode cX6_spokenBy 27 = .ok (.invokevirtual 67, 3) := by decide +kernel
theorem dX6_spokenBy_30 : decode cX6_spokenBy 30 = .ok (.iload_n 1, 1) := by decide +kernel
theorem dX6_spokenBy_31 : decode cX6_spokenBy 31 = .ok (.if_icmp .ne 7, 3) := by decide +kernel
theorem dX6_spokenBy_34 : decode cX6_spokenBy 34 = .ok (.iconst 1, 1) := by decide +kernel
theorem dX6_spokenBy_35 : decode cX6_spokenBy 35 = .ok (.goto 4, 3) := by decide +kernel
theorem dX6_spokenBy_38 : decode cX6_spokenBy 38 = .ok (.iconst 0, 1) := by decide +kernel
theorem dX6_spokenBy_39 : decode cX6_spokenBy 39 = .ok (.iadd, 1) := by decide +kernel
theorem dX6_spokenBy_40 : decode cX6_spokenBy 40 = .ok (.istore_n 2, 1) := by decide +kernel
theorem dX6_spokenBy_41 : decode cX6_spokenBy 41 = .ok (.iinc 3 1, 3) := by decide +kernel
theorem dX6_spokenBy_44 : decode cX6_spokenBy 44 = .ok (.goto (-40), 3) := by decide +kernel
theorem dX6_spokenBy_47 : decode cX6_spokenBy 47 = .ok (.iload_n 2, 1) := by decide +kernel
theorem dX6_spokenBy_48 : decode cX6_spokenBy 48 = .ok (.ireturn, 1) := by decide +kernel
theorem dX6_ruledBy_0 : decode cX6_ruledBy 0 = .ok (.iconst 0, 1) := by decide +kernel
theorem dX6_ruledBy_1 : decode cX6_ruledBy 1 = .ok (.istore_n 2, 1) := by decide +kernel
theorem dX6_ruledBy_2 : decode cX6_ruledBy 2 = .ok (.iconst 0, 1) := by decide +kernel
theorem dX6_ruledBy_3 : decode cX6_ruledBy 3 = .ok (.istore_n 3, 1) := by decide +kernel
theorem dX6_ruledBy_4 : decode cX6_ruledBy 4 = .ok (.iload_n 3, 1) := by decide +kernel
theorem dX6_ruledBy_5 : decode cX6_ruledBy 5 = .ok (.bipush 99, 2) := by decide +kernel
theorem dX6_ruledBy_7 : decode cX6_ruledBy 7 = .ok (.if_icmp .gt 27, 3) := by decide +kernel
theorem dX6_ruledBy_10 : decode cX6_ruledBy 10 = .ok (.iload_n 2, 1) := by decide +kernel
theorem dX6_ruledBy_11 : decode cX6_ruledBy 11 = .ok (.aload_n 0, 1) := by decide +kernel
theorem dX6_ruledBy_12 : decode cX6_ruledBy 12 = .ok (.getfield 22, 3) := by decide +kernel
theorem dX6_ruledBy_15 : decode cX6_ruledBy 15 = .ok (.iload_n 3, 1) := by decide +kernel
theorem dX6_ruledBy_16 : decode cX6_ruledBy 16 = .ok (.iaload, 1) := by decide +kernel
theorem dX6_ruledBy_17 : decode cX6_ruledBy 17 = .ok (.iload_n 1, 1) := by decide +kernel
theorem dX6_ruledBy_18 : decode cX6_ruledBy 18 = .ok (.if_icmp .ne 7, 3) := by decide +kernel
theorem dX6_ruledBy_21 : decode cX6_ruledBy 21 = .ok (.iconst 1, 1) := by decide +kernel
theorem dX6_ruledBy_22 : decode cX6_ruledBy 22 = .ok (.goto 4, 3) := by decide +kernel
theorem dX6_ruledBy_25 : decode cX6_ruledBy 25 = .ok (.iconst 0, 1) := by decide +kernel
theorem dX6_ruledBy_26 : decode cX6_ruledBy 26 = .ok (.iadd, 1) := by decide +kernel
theorem dX6_ruledBy_27 : decode cX6_ruledBy 27 = .ok (.istore_n 2, 1) := by decide +kernel
theorem dX6_ruledBy_28 : decode cX6_ruledBy 28 = .ok (.iinc 3 1, 3) := by decide +kernel
theorem dX6_ruledBy_31 : decode cX6_ruledBy 31 = .ok (.goto (-27), 3) := by decide +kernel
theorem dX6_ruledBy_34 : decode cX6_ruledBy 34 = .ok (.iload_n 2, 1) := by decide +kernel
theorem dX6_ruledBy_35 : decode cX6_ruledBy 35 = .ok (.ireturn, 1) := by decide +kernel
theorem dX6_clause_0 : decode cX6_clause 0 = .ok (.aload_n 0, 1) := by decide +kernel
theorem dX6_clause_1 : decode cX6_clause 1 = .ok (.iload_n 1, 1) := by decide +kernel
theorem dX6_clause_2 : decode cX6_clause 2 = .ok (.invokevirtual 94, 3) := by decide +kernel
theorem dX6_clause_5 : decode cX6_clause 5 = .ok (.ifCond .ne 5, 3) := by decide +kernel
theorem dX6_clause_8 : decode cX6_clause 8 = .ok (.iconst (-1), 1) := by decide +kernel
theorem dX6_clause_9 : decode cX6_clause 9 = .ok (.ireturn, 1) := by decide +kernel
theorem dX6_clause_10 : decode cX6_clause 10 = .ok (.iload_n 2, 1) := by decide +kernel
theorem dX6_clause_11 : decode cX6_clause 11 = .ok (.iconst 0, 1) := by decide +kernel
theorem dX6_clause_12 : decode cX6_clause 12 = .ok (.bipush 9, 2) := by decide +kernel
theorem dX6_clause_14 : decode cX6_clause 14 = .ok (.invokestatic 32, 3) := by decide +kernel
theorem dX6_clause_17 : decode cX6_clause 17 = .ok (.ifCond .ne 6, 3) := by decide +kernel
theorem dX6_clause_20 : decode cX6_clause 20 = .ok (.bipush (-2), 2) := by decide +kernel
theorem dX6_clause_22 : decode cX6_clause 22 = .ok (.ireturn, 1) := by decide +kernel
theorem dX6_clause_23 : decode cX6_clause 23 = .ok (.iload_n 2, 1) := by decide +kernel
theorem dX6_clause_24 : decode cX6_clause 24 = .ok (.bipush 9, 2) := by decide +kernel
theorem dX6_clause_26 : decode cX6_clause 26 = .ok (.if_icmp .ne 15, 3) := by decide +kernel
theorem dX6_clause_29 : decode cX6_clause 29 = .ok (.aload_n 0, 1) := by decide +kernel
theorem dX6_clause_30 : decode cX6_clause 30 = .ok (.bipush (-5), 2) := by decide +kernel
theorem dX6_clause_32 : decode cX6_clause 32 = .ok (.invokevirtual 74, 3) := by decide +kernel
theorem dX6_clause_35 : decode cX6_clause 35 = .ok (.aload_n 0, 1) := by decide +kernel
theorem dX6_clause_36 : decode cX6_clause 36 = .ok (.iload_n 1, 1) := by decide +kernel
theorem dX6_clause_37 : decode cX6_clause 37 = .ok (.invokevirtual 157, 3) := by decide +kernel
theorem dX6_clause_40 : decode cX6_clause 40 = .ok (.ireturn, 1) := by decide +kernel
theorem dX6_clause_41 : decode cX6_clause 41 = .ok (.iload_n 2, 1) := by decide +kernel
theorem dX6_clause_42 : decode cX6_clause 42 = .ok (.bipush 7, 2) := by decide +kernel
theorem dX6_clause_44 : decode cX6_clause 44 = .ok (.if_icmp .ge 12, 3) := by decide +kernel
theorem dX6_clause_47 : decode cX6_clause 47 = .ok (.aload_n 0, 1) := by decide +kernel
theorem dX6_clause_48 : decode cX6_clause 48 = .ok (.iload_n 1, 1) := by decide +kernel
theorem dX6_clause_49 : decode cX6_clause 49 = .ok (.iload_n 2, 1) := by decide +kernel
theorem dX6_clause_50 : decode cX6_clause 50 = .ok (.invokevirtual 47, 3) := by decide +kernel
theorem dX6_clause_53 : decode cX6_clause 53 = .ok (.goto 36, 3) := by decide +kernel
theorem dX6_clause_56 : decode cX6_clause 56 = .ok (.iload_n 2, 1) := by decide +kernel
theorem dX6_clause_57 : decode cX6_clause 57 = .ok (.bipush 8, 2) := by decide +kernel
theorem dX6_clause_59 : decode cX6_clause 59 = .ok (.if_icmp .ne 11, 3) := by decide +kernel
theorem dX6_clause_62 : decode cX6_clause 62 = .ok (.aload_n 0, 1) := by decide +kernel
theorem dX6_clause_63 : decode cX6_clause 63 = .ok (.iload_n 1, 1) := by decide +kernel
theorem dX6_clause_64 : decode cX6_clause 64 = .ok (.invokevirtual 160, 3) := by decide +kernel
theorem dX6_clause_67 : decode cX6_clause 67 = .ok (.goto 22, 3) := by decide +kernel
theorem dX6_clause_70 : decode cX6_clause 70 = .ok (.aload_n 0, 1) := by decide +kernel
theorem dX6_clause_71 : decode cX6_clause 71 = .ok (.iload_n 1, 1) := by decide +kernel
theorem dX6_clause_72 : decode cX6_clause 72 = .ok (.aload_n 0, 1) := by decide +kernel
theorem dX6_clause_73 : decode cX6_clause 73 = .ok (.getfield 7, 3) := by decide +kernel
theorem dX6_clause_76 : decode cX6_clause 76 = .ok (.iconst 0, 1) := by decide +kernel
theorem dX6_clause_77 : decode cX6_clause 77 = .ok (.iaload, 1) := by decide +kernel
theorem dX6_clause_78 : decode cX6_clause 78 = .ok (.invokevirtual 57, 3) := by decide +kernel
theorem dX6_clause_81 : decode cX6_clause 81 = .ok (.ifCond .eq 7, 3) := by decide +kernel
theorem dX6_clause_84 : decode cX6_clause 84 = .ok (.iconst 1, 1) := by decide +kernel
theorem dX6_clause_85 : decode cX6_clause 85 = .ok (.goto 4, 3) := by decide +kernel
theorem dX6_clause_88 : decode cX6_clause 88 = .ok (.iconst 0, 1) := by decide +kernel
theorem dX6_clause_89 : decode cX6_clause 89 = .ok (.ireturn, 1) := by decide +kernel
theorem dX6_ruling_0 : decode cX6_ruling 0 = .ok (.iload_n 1, 1) := by decide +kernel
theorem dX6_ruling_1 : decode cX6_ruling 1 = .ok (.invokestatic 36, 3) := by decide +kernel
theorem dX6_ruling_4 : decode cX6_ruling 4 = .ok (.ifCond .eq 10, 3) := by decide +kernel
theorem dX6_ruling_7 : decode cX6_ruling 7 = .ok (.iload_n 2, 1) := by decide +kernel
theorem dX6_ruling_8 : decode cX6_ruling 8 = .ok (.invokestatic 87, 3) := by decide +kernel
theorem dX6_ruling_11 : decode cX6_ruling 11 = .ok (.ifCond .ne 5, 3) := by decide +kernel
theorem dX6_ruling_14 : decode cX6_ruling 14 = .ok (.iconst (-1), 1) := by decide +kernel
theorem dX6_ruling_15 : decode cX6_ruling 15 = .ok (.ireturn, 1) := by decide +kernel
theorem dX6_ruling_16 : decode cX6_ruling 16 = .ok (.iload_n 3, 1) := by decide +kernel
theorem dX6_ruling_17 : decode cX6_ruling 17 = .ok (.iconst 0, 1) := by decide +kernel
theorem dX6_ruling_18 : decode cX6_ruling 18 = .ok (.iconst 2, 1) := by decide +kernel
theorem dX6_ruling_19 : decode cX6_ruling 19 = .ok (.invokestatic 32, 3) := by decide +kernel
theorem dX6_ruling_22 : decode cX6_ruling 22 = .ok (.ifCond .ne 6, 3) := by decide +kernel
theorem dX6_ruling_25 : decode cX6_ruling 25 = .ok (.bipush (-2), 2) := by decide +kernel
theorem dX6_ruling_27 : decode cX6_ruling 27 = .ok (.ireturn, 1) := by decide +kernel
theorem dX6_ruling_28 : decode cX6_ruling 28 = .ok (.aload_n 0, 1) := by decide +kernel
theorem dX6_ruling_29 : decode cX6_ruling 29 = .ok (.iload_n 1, 1) := by decide +kernel
theorem dX6_ruling_30 : decode cX6_ruling 30 = .ok (.iload_n 2, 1) := by decide +kernel
theorem dX6_ruling_31 : decode cX6_ruling 31 = .ok (.bipush (-5), 2) := by decide +kernel
theorem dX6_ruling_33 : decode cX6_ruling 33 = .ok (.invokevirtual 70, 3) := by decide +kernel
theorem dX6_ruling_36 : decode cX6_ruling 36 = .ok (.istore 4, 2) := by decide +kernel
theorem dX6_ruling_38 : decode cX6_ruling 38 = .ok (.iload 4, 2) := by decide +kernel
theorem dX6_ruling_40 : decode cX6_ruling 40 = .ok (.bipush (-5), 2) := by decide +kernel
theorem dX6_ruling_42 : decode cX6_ruling 42 = .ok (.if_icmp .ne 8, 3) := by decide +kernel
theorem dX6_ruling_45 : decode cX6_ruling 45 = .ok (.bipush (-5), 2) := by decide +kernel
theorem dX6_ruling_47 : decode cX6_ruling 47 = .ok (.goto 28, 3) := by decide +kernel
theorem dX6_ruling_50 : decode cX6_ruling 50 = .ok (.iload_n 3, 1) := by decide +kernel
theorem dX6_ruling_51 : decode cX6_ruling 51 = .ok (.iconst 1, 1) := by decide +kernel
theorem dX6_ruling_52 : decode cX6_ruling 52 = .ok (.if_icmp .ne 8, 3) := by decide +kernel
theorem dX6_ruling_55 : decode cX6_ruling 55 = .ok (.iload 4, 2) := by decide +kernel
theorem dX6_ruling_57 : decode cX6_ruling 57 = .ok (.goto 18, 3) := by decide +kernel
theorem dX6_ruling_60 : decode cX6_ruling 60 = .ok (.aload_n 0, 1) := by decide +kernel
theorem dX6_ruling_61 : decode cX6_ruling 61 = .ok (.iload 4, 2) := by decide +kernel
theorem dX6_ruling_63 : decode cX6_ruling 63 = .ok (.iload_n 3, 1) := by decide +kernel
theorem dX6_ruling_64 : decode cX6_ruling 64 = .ok (.ifCond .ne 7, 3) := by decide +kernel
theorem dX6_ruling_67 : decode cX6_ruling 67 = .ok (.iconst 5, 1) := by decide +kernel
theorem dX6_ruling_68 : decode cX6_ruling 68 = .ok (.goto 4, 3) := by decide +kernel
theorem dX6_ruling_71 : decode cX6_ruling 71 = .ok (.iconst 0, 1) := by decide +kernel
theorem dX6_ruling_72 : decode cX6_ruling 72 = .ok (.invokevirtual 47, 3) := by decide +kernel
theorem dX6_ruling_75 : decode cX6_ruling 75 = .ok (.ireturn, 1) := by decide +kernel
theorem dX6_painted_0 : decode cX6_painted 0 = .ok (.iload_n 1, 1) := by decide +kernel
theorem dX6_painted_1 : decode cX6_painted 1 = .ok (.invokestatic 36, 3) := by decide +kernel
theorem dX6_painted_4 : decode cX6_painted 4 = .ok (.ifCond .eq 21, 3) := by decide +kernel
theorem dX6_painted_7 : decode cX6_painted 7 = .ok (.iload_n 2, 1) := by decide +kernel
theorem dX6_painted_8 : decode cX6_painted 8 = .ok (.invokestatic 87, 3) := by decide +kernel
theorem dX6_painted_11 : decode cX6_painted 11 = .ok (.ifCond .eq 14, 3) := by decide +kernel
theorem dX6_painted_14 : decode cX6_painted 14 = .ok (.aload_n 0, 1) := by decide +kernel
theorem dX6_painted_15 : decode cX6_painted 15 = .ok (.iload_n 1, 1) := by decide +kernel
theorem dX6_painted_16 : decode cX6_painted 16 = .ok (.iload_n 2, 1) := by decide +kernel
theorem dX6_painted_17 : decode cX6_painted 17 = .ok (.bipush (-5), 2) := by decide +kernel
theorem dX6_painted_19 : decode cX6_painted 19 = .ok (.invokevirtual 70, 3) := by decide +kernel
theorem dX6_painted_22 : decode cX6_painted 22 = .ok (.goto 4, 3) := by decide +kernel
theorem dX6_painted_25 : decode cX6_painted 25 = .ok (.iconst (-1), 1) := by decide +kernel
theorem dX6_painted_26 : decode cX6_painted 26 = .ok (.ireturn, 1) := by decide +kernel
theorem dX6_areThere_0 : decode cX6_areThere 0 = .ok (.aload_n 0, 1) := by decide +kernel
theorem dX6_areThere_1 : decode cX6_areThere 1 = .ok (.iload_n 1, 1) := by decide +kernel
theorem dX6_areThere_2 : decode cX6_areThere 2 = .ok (.invokevirtual 94, 3) := by decide +kernel
theorem dX6_areThere_5 : decode cX6_areThere 5 = .ok (.ifCond .eq 21, 3) := by decide +kernel
theorem dX6_areThere_8 : decode cX6_areThere 8 = .ok (.iload_n 2, 1) := by decide +kernel
theorem dX6_areThere_9 : decode cX6_areThere 9 = .ok (.invokestatic 36, 3) := by decide +kernel
theorem dX6_areThere_12 : decode cX6_areThere 12 = .ok (.ifCond .eq 14, 3) := by decide +kernel
theorem dX6_areThere_15 : decode cX6_areThere 15 = .ok (.iload_n 3, 1) := by decide +kernel
theorem dX6_areThere_16 : decode cX6_areThere 16 = .ok (.invokestatic 87, 3) := by decide +kernel
theorem dX6_areThere_19 : decode cX6_areThere 19 = .ok (.ifCond .eq 7, 3) := by decide +kernel
theorem dX6_areThere_22 : decode cX6_areThere 22 = .ok (.iconst 1, 1) := by decide +kernel
theorem dX6_areThere_23 : decode cX6_areThere 23 = .ok (.goto 4, 3) := by decide +kernel
theorem dX6_areThere_26 : decode cX6_areThere 26 = .ok (.iconst 0, 1) := by decide +kernel
theorem dX6_areThere_27 : decode cX6_areThere 27 = .ok (.ireturn, 1) := by decide +kernel
theorem dX6_silencer_0 : decode cX6_silencer 0 = .ok (.aload_n 0, 1) := by decide +kernel
theorem dX6_silencer_1 : decode cX6_silencer 1 = .ok (.aload_n 0, 1) := by decide +kernel
theorem dX6_silencer_2 : decode cX6_silencer 2 = .ok (.iload_n 1, 1) := by decide +kernel
theorem dX6_silencer_3 : decode cX6_silencer 3 = .ok (.iconst 0, 1) := by decide +kernel
theorem dX6_silencer_4 : decode cX6_silencer 4 = .ok (.invokevirtual 47, 3) := by decide +kernel
theorem dX6_silencer_7 : decode cX6_silencer 7 = .ok (.iload_n 2, 1) := by decide +kernel
theorem dX6_silencer_8 : decode cX6_silencer 8 = .ok (.iload_n 3, 1) := by decide +kernel
theorem dX6_silencer_9 : decode cX6_silencer 9 = .ok (.bipush (-5), 2) := by decide +kernel
theorem dX6_silencer_11 : decode cX6_silencer 11 = .ok (.invokevirtual 63, 3) := by decide +kernel
theorem dX6_silencer_14 : decode cX6_silencer 14 = .ok (.istore 4, 2) := by decide +kernel
theorem dX6_silencer_16 : decode cX6_silencer 16 = .ok (.aload_n 0, 1) := by decide +kernel
theorem dX6_silencer_17 : decode cX6_silencer 17 = .ok (.iload_n 1, 1) := by decide +kernel
theorem dX6_silencer_18 : decode cX6_silencer 18 = .ok (.iload_n 3, 1) := by decide +kernel
theorem dX6_silencer_19 : decode cX6_silencer 19 = .ok (.invokevirtual 57, 3) := by decide +kernel
theorem dX6_silencer_22 : decode cX6_silencer 22 = .ok (.ifCond .eq 23, 3) := by decide +kernel
theorem dX6_silencer_25 : decode cX6_silencer 25 = .ok (.aload_n 0, 1) := by decide +kernel
theorem dX6_silencer_26 : decode cX6_silencer 26 = .ok (.iload_n 1, 1) := by decide +kernel
theorem dX6_silencer_27 : decode cX6_silencer 27 = .ok (.iload_n 2, 1) := by decide +kernel
theorem dX6_silencer_28 : decode cX6_silencer 28 = .ok (.invokevirtual 60, 3) := by decide +kernel
theorem dX6_silencer_31 : decode cX6_silencer 31 = .ok (.ifCond .eq 14, 3) := by decide +kernel
theorem dX6_silencer_34 : decode cX6_silencer 34 = .ok (.iload 4, 2) := by decide +kernel
theorem dX6_silencer_36 : decode cX6_silencer 36 = .ok (.iload_n 1, 1) := by decide +kernel
theorem dX6_silencer_37 : decode cX6_silencer 37 = .ok (.if_icmp .eq 8, 3) := by decide +kernel
theorem dX6_silencer_40 : decode cX6_silencer 40 = .ok (.iload 4, 2) := by decide +kernel
theorem dX6_silencer_42 : decode cX6_silencer 42 = .ok (.goto 5, 3) := by decide +kernel
theorem dX6_silencer_45 : decode cX6_silencer 45 = .ok (.bipush (-5), 2) := by decide +kernel
theorem dX6_silencer_47 : decode cX6_silencer 47 = .ok (.ireturn, 1) := by decide +kernel
theorem dX6_silencedBy_0 : decode cX6_silencedBy 0 = .ok (.aload_n 0, 1) := by decide +kernel
theorem dX6_silencedBy_1 : decode cX6_silencedBy 1 = .ok (.iload_n 1, 1) := by decide +kernel
theorem dX6_silencedBy_2 : decode cX6_silencedBy 2 = .ok (.iload_n 2, 1) := by decide +kernel
theorem dX6_silencedBy_3 : decode cX6_silencedBy 3 = .ok (.iload_n 3, 1) := by decide +kernel
theorem dX6_silencedBy_4 : decode cX6_silencedBy 4 = .ok (.invokevirtual 163, 3) := by decide +kernel
theorem dX6_silencedBy_7 : decode cX6_silencedBy 7 = .ok (.ifCond .eq 13, 3) := by decide +kernel
theorem dX6_silencedBy_10 : decode cX6_silencedBy 10 = .ok (.aload_n 0, 1) := by decide +kernel
theorem dX6_silencedBy_11 : decode cX6_silencedBy 11 = .ok (.iload_n 1, 1) := by decide +kernel
theorem dX6_silencedBy_12 : decode cX6_silencedBy 12 = .ok (.iload_n 2, 1) := by decide +kernel
theorem dX6_silencedBy_13 : decode cX6_silencedBy 13 = .ok (.iload_n 3, 1) := by decide +kernel
theorem dX6_silencedBy_14 : decode cX6_silencedBy 14 = .ok (.invokevirtual 166, 3) := by decide +kernel
theorem dX6_silencedBy_17 : decode cX6_silencedBy 17 = .ok (.goto 4, 3) := by decide +kernel
theorem dX6_silencedBy_20 : decode cX6_silencedBy 20 = .ok (.iconst (-1), 1) := by decide +kernel
theorem dX6_silencedBy_21 : decode cX6_silencedBy 21 = .ok (.ireturn, 1) := by decide +kernel
theorem dX6_reason_0 : decode cX6_reason 0 = .ok (.aload_n 0, 1) := by decide +kernel
theorem dX6_reason_1 : decode cX6_reason 1 = .ok (.iload_n 1, 1) := by decide +kernel
theorem dX6_reason_2 : decode cX6_reason 2 = .ok (.iload_n 2, 1) := by decide +kernel
theorem dX6_reason_3 : decode cX6_reason 3 = .ok (.iload_n 3, 1) := by decide +kernel
theorem dX6_reason_4 : decode cX6_reason 4 = .ok (.invokevirtual 163, 3) := by decide +kernel
theorem dX6_reason_7 : decode cX6_reason 7 = .ok (.ifCond .ne 5, 3) := by decide +kernel
theorem dX6_reason_10 : decode cX6_reason 10 = .ok (.iconst (-1), 1) := by decide +kernel
theorem dX6_reason_11 : decode cX6_reason 11 = .ok (.ireturn, 1) := by decide +kernel
theorem dX6_reason_12 : decode cX6_reason 12 = .ok (.aload_n 0, 1) := by decide +kernel
theorem dX6_reason_13 : decode cX6_reason 13 = .ok (.iload_n 1, 1) := by decide +kernel
theorem dX6_reason_14 : decode cX6_reason 14 = .ok (.iload_n 3, 1) := by decide +kernel
theorem dX6_reason_15 : decode cX6_reason 15 = .ok (.invokevirtual 57, 3) := by decide +kernel
theorem dX6_reason_18 : decode cX6_reason 18 = .ok (.ifCond .ne 19, 3) := by decide +kernel
theorem dX6_reason_21 : decode cX6_reason 21 = .ok (.aload_n 0, 1) := by decide +kernel
theorem dX6_reason_22 : decode cX6_reason 22 = .ok (.iload_n 1, 1) := by decide +kernel
theorem dX6_reason_23 : decode cX6_reason 23 = .ok (.iconst 1, 1) := by decide +kernel
theorem dX6_reason_24 : decode cX6_reason 24 = .ok (.invokevirtual 47, 3) := by decide +kernel
theorem dX6_reason_27 : decode cX6_reason 27 = .ok (.iload_n 3, 1) := by decide +kernel
theorem dX6_reason_28 : decode cX6_reason 28 = .ok (.if_icmp .le 7, 3) := by decide +kernel
theorem dX6_reason_31 : decode cX6_reason 31 = .ok (.iconst 1, 1) := by decide +kernel
theorem dX6_reason_32 : decode cX6_reason 32 = .ok (.goto 4, 3) := by decide +kernel
theorem dX6_reason_35 : decode cX6_reason 35 = .ok (.iconst 2, 1) := by decide +kernel
theorem dX6_reason_36 : decode cX6_reason 36 = .ok (.ireturn, 1) := by decide +kernel
theorem dX6_reason_37 : decode cX6_reason 37 = .ok (.aload_n 0, 1) := by decide +kernel
theorem dX6_reason_38 : decode cX6_reason 38 = .ok (.iload_n 1, 1) := by decide +kernel
theorem dX6_reason_39 : decode cX6_reason 39 = .ok (.iload_n 2, 1) := by decide +kernel
theorem dX6_reason_40 : decode cX6_reason 40 = .ok (.invokevirtual 60, 3) := by decide +kernel
theorem dX6_reason_43 : decode cX6_reason 43 = .ok (.ifCond .ne 46, 3) := by decide +kernel
theorem dX6_reason_46 : decode cX6_reason 46 = .ok (.aload_n 0, 1) := by decide +kernel
theorem dX6_reason_47 : decode cX6_reason 47 = .ok (.aload_n 0, 1) := by decide +kernel
theorem dX6_reason_48 : decode cX6_reason 48 = .ok (.iload_n 1, 1) := by decide +kernel
theorem dX6_reason_49 : decode cX6_reason 49 = .ok (.iconst 0, 1) := by decide +kernel
theorem dX6_reason_50 : decode cX6_reason 50 = .ok (.invokevirtual 47, 3) := by decide +kernel
theorem dX6_reason_53 : decode cX6_reason 53 = .ok (.iload_n 2, 1) := by decide +kernel
theorem dX6_reason_54 : decode cX6_reason 54 = .ok (.invokevirtual 50, 3) := by decide +kernel
theorem dX6_reason_57 : decode cX6_reason 57 = .ok (.ifCond .ne 7, 3) := by decide +kernel
theorem dX6_reason_60 : decode cX6_reason 60 = .ok (.iconst 3, 1) := by decide +kernel
theorem dX6_reason_61 : decode cX6_reason 61 = .ok (.goto 27, 3) := by decide +kernel
theorem dX6_reason_64 : decode cX6_reason 64 = .ok (.iload_n 2, 1) := by decide +kernel
theorem dX6_reason_65 : decode cX6_reason 65 = .ok (.aload_n 0, 1) := by decide +kernel
theorem dX6_reason_66 : decode cX6_reason 66 = .ok (.iload_n 1, 1) := by decide +kernel
theorem dX6_reason_67 : decode cX6_reason 67 = .ok (.iconst 3, 1) := by decide +kernel
theorem dX6_reason_68 : decode cX6_reason 68 = .ok (.invokevirtual 47, 3) := by decide +kernel
theorem dX6_reason_71 : decode cX6_reason 71 = .ok (.aload_n 0, 1) := by decide +kernel
theorem dX6_reason_72 : decode cX6_reason 72 = .ok (.iload_n 1, 1) := by decide +kernel
theorem dX6_reason_73 : decode cX6_reason 73 = .ok (.iconst 4, 1) := by decide +kernel
theorem dX6_reason_74 : decode cX6_reason 74 = .ok (.invokevirtual 47, 3) := by decide +kernel
theorem dX6_reason_77 : decode cX6_reason 77 = .ok (.invokestatic 32, 3) := by decide +kernel
theorem dX6_reason_80 : decode cX6_reason 80 = .ok (.ifCond .ne 7, 3) := by decide +kernel
theorem dX6_reason_83 : decode cX6_reason 83 = .ok (.iconst 4, 1) := by decide +kernel
theorem dX6_reason_84 : decode cX6_reason 84 = .ok (.goto 4, 3) := by decide +kernel
theorem dX6_reason_87 : decode cX6_reason 87 = .ok (.iconst 5, 1) := by decide +kernel
theorem dX6_reason_88 : decode cX6_reason 88 = .ok (.ireturn, 1) := by decide +kernel
theorem dX6_reason_89 : decode cX6_reason 89 = .ok (.aload_n 0, 1) := by decide +kernel
theorem dX6_reason_90 : decode cX6_reason 90 = .ok (.iload_n 1, 1) := by decide +kernel
theorem dX6_reason_91 : decode cX6_reason 91 = .ok (.iload_n 2, 1) := by decide +kernel
theorem dX6_reason_92 : decode cX6_reason 92 = .ok (.iload_n 3, 1) := by decide +kernel
theorem dX6_reason_93 : decode cX6_reason 93 = .ok (.invokevirtual 166, 3) := by decide +kernel
theorem dX6_reason_96 : decode cX6_reason 96 = .ok (.bipush (-5), 2) := by decide +kernel
theorem dX6_reason_98 : decode cX6_reason 98 = .ok (.if_icmp .eq 6, 3) := by decide +kernel
theorem dX6_reason_101 : decode cX6_reason 101 = .ok (.bipush 6, 2) := by decide +kernel
theorem dX6_reason_103 : decode cX6_reason 103 = .ok (.ireturn, 1) := by decide +kernel
theorem dX6_reason_104 : decode cX6_reason 104 = .ok (.aload_n 0, 1) := by decide +kernel
theorem dX6_reason_105 : decode cX6_reason 105 = .ok (.iload_n 1, 1) := by decide +kernel
theorem dX6_reason_106 : decode cX6_reason 106 = .ok (.iconst 5, 1) := by decide +kernel
theorem dX6_reason_107 : decode cX6_reason 107 = .ok (.invokevirtual 47, 3) := by decide +kernel
theorem dX6_reason_110 : decode cX6_reason 110 = .ok (.ifCond .ne 8, 3) := by decide +kernel
theorem dX6_reason_113 : decode cX6_reason 113 = .ok (.bipush 7, 2) := by decide +kernel
theorem dX6_reason_115 : decode cX6_reason 115 = .ok (.goto 21, 3) := by decide +kernel
theorem dX6_reason_118 : decode cX6_reason 118 = .ok (.aload_n 0, 1) := by decide +kernel
theorem dX6_reason_119 : decode cX6_reason 119 = .ok (.iload_n 2, 1) := by decide +kernel
theorem dX6_reason_120 : decode cX6_reason 120 = .ok (.iload_n 3, 1) := by decide +kernel
theorem dX6_reason_121 : decode cX6_reason 121 = .ok (.bipush (-5), 2) := by decide +kernel
theorem dX6_reason_123 : decode cX6_reason 123 = .ok (.invokevirtual 70, 3) := by decide +kernel
theorem dX6_reason_126 : decode cX6_reason 126 = .ok (.iload_n 1, 1) := by decide +kernel
theorem dX6_reason_127 : decode cX6_reason 127 = .ok (.if_icmp .ne 7, 3) := by decide +kernel
theorem dX6_reason_130 : decode cX6_reason 130 = .ok (.iconst 0, 1) := by decide +kernel
theorem dX6_reason_131 : decode cX6_reason 131 = .ok (.goto 5, 3) := by decide +kernel
theorem dX6_reason_134 : decode cX6_reason 134 = .ok (.bipush 8, 2) := by decide +kernel
theorem dX6_reason_136 : decode cX6_reason 136 = .ok (.ireturn, 1) := by decide +kernel
theorem dX6_changesOn_0 : decode cX6_changesOn 0 = .ok (.iload_n 1, 1) := by decide +kernel
theorem dX6_changesOn_1 : decode cX6_changesOn 1 = .ok (.invokestatic 36, 3) := by decide +kernel
theorem dX6_changesOn_4 : decode cX6_changesOn 4 = .ok (.ifCond .eq 10, 3) := by decide +kernel
theorem dX6_changesOn_7 : decode cX6_changesOn 7 = .ok (.iload_n 2, 1) := by decide +kernel
theorem dX6_changesOn_8 : decode cX6_changesOn 8 = .ok (.invokestatic 87, 3) := by decide +kernel
theorem dX6_changesOn_11 : decode cX6_changesOn 11 = .ok (.ifCond .ne 5, 3) := by decide +kernel
theorem dX6_changesOn_14 : decode cX6_changesOn 14 = .ok (.iconst (-1), 1) := by decide +kernel
theorem dX6_changesOn_15 : decode cX6_changesOn 15 = .ok (.ireturn, 1) := by decide +kernel
theorem dX6_changesOn_16 : decode cX6_changesOn 16 = .ok (.bipush (-5), 2) := by decide +kernel
theorem dX6_changesOn_18 : decode cX6_changesOn 18 = .ok (.istore_n 3, 1) := by decide +kernel
theorem dX6_changesOn_19 : decode cX6_changesOn 19 = .ok (.aload_n 0, 1) := by decide +kernel
theorem dX6_changesOn_20 : decode cX6_changesOn 20 = .ok (.iload_n 1, 1) := by decide +kernel
theorem dX6_changesOn_21 : decode cX6_changesOn 21 = .ok (.iload_n 2, 1) := by decide +kernel
theorem dX6_changesOn_22 : decode cX6_changesOn 22 = .ok (.bipush (-5), 2) := by decide +kernel
theorem dX6_changesOn_24 : decode cX6_changesOn 24 = .ok (.invokevirtual 70, 3) := by decide +kernel
theorem dX6_changesOn_27 : decode cX6_changesOn 27 = .ok (.istore 4, 2) := by decide +kernel
theorem dX6_changesOn_29 : decode cX6_changesOn 29 = .ok (.iload_n 2, 1) := by decide +kernel
theorem dX6_changesOn_30 : decode cX6_changesOn 30 = .ok (.iconst 1, 1) := by decide +kernel
theorem dX6_changesOn_31 : decode cX6_changesOn 31 = .ok (.iadd, 1) := by decide +kernel
theorem dX6_changesOn_32 : decode cX6_changesOn 32 = .ok (.istore 5, 2) := by decide +kernel
theorem dX6_changesOn_34 : decode cX6_changesOn 34 = .ok (.iload 5, 2) := by decide +kernel
theorem dX6_changesOn_36 : decode cX6_changesOn 36 = .ok (.sipush 999, 3) := by decide +kernel
theorem dX6_changesOn_39 : decode cX6_changesOn 39 = .ok (.if_icmp .gt 37, 3) := by decide +kernel
theorem dX6_changesOn_42 : decode cX6_changesOn 42 = .ok (.iload_n 3, 1) := by decide +kernel
theorem dX6_changesOn_43 : decode cX6_changesOn 43 = .ok (.bipush (-5), 2) := by decide +kernel
theorem dX6_changesOn_45 : decode cX6_changesOn 45 = .ok (.if_icmp .ne 31, 3) := by decide +kernel
theorem dX6_changesOn_48 : decode cX6_changesOn 48 = .ok (.aload_n 0, 1) := by decide +kernel
theorem dX6_changesOn_49 : decode cX6_changesOn 49 = .ok (.iload_n 1, 1) := by decide +kernel
theorem dX6_changesOn_50 : decode cX6_changesOn 50 = .ok (.iload 5, 2) := by decide +kernel
theorem dX6_changesOn_52 : decode cX6_changesOn 52 = .ok (.bipush (-5), 2) := by decide +kernel
theorem dX6_changesOn_54 : decode cX6_changesOn 54 = .ok (.invokevirtual 70, 3) := by decide +kernel
theorem dX6_changesOn_57 : decode cX6_changesOn 57 = .ok (.iload 4, 2) := by decide +kernel
theorem dX6_changesOn_59 : decode cX6_changesOn 59 = .ok (.if_icmp .ne 8, 3) := by decide +kernel
theorem dX6_changesOn_62 : decode cX6_changesOn 62 = .ok (.bipush (-5), 2) := by decide +kernel
theorem dX6_changesOn_64 : decode cX6_changesOn 64 = .ok (.goto 5, 3) := by decide +kernel
theorem dX6_changesOn_67 : decode cX6_changesOn 67 = .ok (.iload 5, 2) := by decide +kernel
theorem dX6_changesOn_69 : decode cX6_changesOn 69 = .ok (.istore_n 3, 1) := by decide +kernel
theorem dX6_changesOn_70 : decode cX6_changesOn 70 = .ok (.iinc 5 1, 3) := by decide +kernel
theorem dX6_changesOn_73 : decode cX6_changesOn 73 = .ok (.goto (-39), 3) := by decide +kernel
theorem dX6_changesOn_76 : decode cX6_changesOn 76 = .ok (.iload_n 3, 1) := by decide +kernel
theorem dX6_changesOn_77 : decode cX6_changesOn 77 = .ok (.ireturn, 1) := by decide +kernel
theorem dX6_unlike_0 : decode cX6_unlike 0 = .ok (.iload_n 1, 1) := by decide +kernel
theorem dX6_unlike_1 : decode cX6_unlike 1 = .ok (.invokestatic 78, 3) := by decide +kernel
theorem dX6_unlike_4 : decode cX6_unlike 4 = .ok (.ifCond .eq 10, 3) := by decide +kernel
theorem dX6_unlike_7 : decode cX6_unlike 7 = .ok (.iload_n 2, 1) := by decide +kernel
theorem dX6_unlike_8 : decode cX6_unlike 8 = .ok (.invokestatic 78, 3) := by decide +kernel
theorem dX6_unlike_11 : decode cX6_unlike 11 = .ok (.ifCond .ne 5, 3) := by decide +kernel
theorem dX6_unlike_14 : decode cX6_unlike 14 = .ok (.iconst (-1), 1) := by decide +kernel
theorem dX6_unlike_15 : decode cX6_unlike 15 = .ok (.ireturn, 1) := by decide +kernel
theorem dX6_unlike_16 : decode cX6_unlike 16 = .ok (.iload_n 1, 1) := by decide +kernel
theorem dX6_unlike_17 : decode cX6_unlike 17 = .ok (.iload_n 2, 1) := by decide +kernel
theorem dX6_unlike_18 : decode cX6_unlike 18 = .ok (.if_icmp .ne 6, 3) := by decide +kernel
theorem dX6_unlike_21 : decode cX6_unlike 21 = .ok (.bipush (-2), 2) := by decide +kernel
theorem dX6_unlike_23 : decode cX6_unlike 23 = .ok (.ireturn, 1) := by decide +kernel
theorem dX6_unlike_24 : decode cX6_unlike 24 = .ok (.iconst 0, 1) := by decide +kernel
theorem dX6_unlike_25 : decode cX6_unlike 25 = .ok (.istore_n 3, 1) := by decide +kernel
theorem dX6_unlike_26 : decode cX6_unlike 26 = .ok (.iconst 0, 1) := by decide +kernel
theorem dX6_unlike_27 : decode cX6_unlike 27 = .ok (.istore 4, 2) := by decide +kernel
theorem dX6_unlike_29 : decode cX6_unlike 29 = .ok (.iload 4, 2) := by decide +kernel
theorem dX6_unlike_31 : decode cX6_unlike 31 = .ok (.bipush 99, 2) := by decide +kernel
theorem dX6_unlike_33 : decode cX6_unlike 33 = .ok (.if_icmp .gt 82, 3) := by decide +kernel
theorem dX6_unlike_36 : decode cX6_unlike 36 = .ok (.aload_n 0, 1) := by decide +kernel
theorem dX6_unlike_37 : decode cX6_unlike 37 = .ok (.iload_n 1, 1) := by decide +kernel
theorem dX6_unlike_38 : decode cX6_unlike 38 = .ok (.iload 4, 2) := by decide +kernel
theorem dX6_unlike_40 : decode cX6_unlike 40 = .ok (.aload_n 0, 1) := by decide +kernel
theorem dX6_unlike_41 : decode cX6_unlike 41 = .ok (.getfield 7, 3) := by decide +kernel
theorem dX6_unlike_44 : decode cX6_unlike 44 = .ok (.iconst 0, 1) := by decide +kernel
theorem dX6_unlike_45 : decode cX6_unlike 45 = .ok (.iaload, 1) := by decide +kernel
theorem dX6_unlike_46 : decode cX6_unlike 46 = .ok (.bipush (-5), 2) := by decide +kernel
theorem dX6_unlike_48 : decode cX6_unlike 48 = .ok (.invokevirtual 67, 3) := by decide +kernel
theorem dX6_unlike_51 : decode cX6_unlike 51 = .ok (.istore 5, 2) := by decide +kernel
theorem dX6_unlike_53 : decode cX6_unlike 53 = .ok (.aload_n 0, 1) := by decide +kernel
theorem dX6_unlike_54 : decode cX6_unlike 54 = .ok (.iload_n 2, 1) := by decide +kernel
theorem dX6_unlike_55 : decode cX6_unlike 55 = .ok (.iload 4, 2) := by decide +kernel
theorem dX6_unlike_57 : decode cX6_unlike 57 = .ok (.aload_n 0, 1) := by decide +kernel
theorem dX6_unlike_58 : decode cX6_unlike 58 = .ok (.getfield 7, 3) := by decide +kernel
theorem dX6_unlike_61 : decode cX6_unlike 61 = .ok (.iconst 0, 1) := by decide +kernel
theorem dX6_unlike_62 : decode cX6_unlike 62 = .ok (.iaload, 1) := by decide +kernel
theorem dX6_unlike_63 : decode cX6_unlike 63 = .ok (.bipush (-5), 2) := by decide +kernel
theorem dX6_unlike_65 : decode cX6_unlike 65 = .ok (.invokevirtual 67, 3) := by decide +kernel
theorem dX6_unlike_68 : decode cX6_unlike 68 = .ok (.istore 6, 2) := by decide +kernel
theorem dX6_unlike_70 : decode cX6_unlike 70 = .ok (.iload_n 3, 1) := by decide +kernel
theorem dX6_unlike_71 : decode cX6_unlike 71 = .ok (.iload 5, 2) := by decide +kernel
theorem dX6_unlike_73 : decode cX6_unlike 73 = .ok (.bipush (-5), 2) := by decide +kernel
theorem dX6_unlike_75 : decode cX6_unlike 75 = .ok (.if_icmp .eq 31, 3) := by decide +kernel
theorem dX6_unlike_78 : decode cX6_unlike 78 = .ok (.iload 6, 2) := by decide +kernel
theorem dX6_unlike_80 : decode cX6_unlike 80 = .ok (.bipush (-5), 2) := by decide +kernel
theorem dX6_unlike_82 : decode cX6_unlike 82 = .ok (.if_icmp .eq 24, 3) := by decide +kernel
theorem dX6_unlike_85 : decode cX6_unlike 85 = .ok (.aload_n 0, 1) := by decide +kernel
theorem dX6_unlike_86 : decode cX6_unlike 86 = .ok (.iload 5, 2) := by decide +kernel
theorem dX6_unlike_88 : decode cX6_unlike 88 = .ok (.iconst 5, 1) := by decide +kernel
theorem dX6_unlike_89 : decode cX6_unlike 89 = .ok (.invokevirtual 47, 3) := by decide +kernel
theorem dX6_unlike_92 : decode cX6_unlike 92 = .ok (.aload_n 0, 1) := by decide +kernel
theorem dX6_unlike_93 : decode cX6_unlike 93 = .ok (.iload 6, 2) := by decide +kernel
theorem dX6_unlike_95 : decode cX6_unlike 95 = .ok (.iconst 5, 1) := by decide +kernel
theorem dX6_unlike_96 : decode cX6_unlike 96 = .ok (.invokevirtual 47, 3) := by decide +kernel
theorem dX6_unlike_99 : decode cX6_unlike 99 = .ok (.if_icmp .eq 7, 3) := by decide +kernel
theorem dX6_unlike_102 : decode cX6_unlike 102 = .ok (.iconst 1, 1) := by decide +kernel
theorem dX6_unlike_103 : decode cX6_unlike 103 = .ok (.goto 4, 3) := by decide +kernel
theorem dX6_unlike_106 : decode cX6_unlike 106 = .ok (.iconst 0, 1) := by decide +kernel
theorem dX6_unlike_107 : decode cX6_unlike 107 = .ok (.iadd, 1) := by decide +kernel
theorem dX6_unlike_108 : decode cX6_unlike 108 = .ok (.istore_n 3, 1) := by decide +kernel
theorem dX6_unlike_109 : decode cX6_unlike 109 = .ok (.iinc 4 1, 3) := by decide +kernel
theorem dX6_unlike_112 : decode cX6_unlike 112 = .ok (.goto (-83), 3) := by decide +kernel
theorem dX6_unlike_115 : decode cX6_unlike 115 = .ok (.iload_n 3, 1) := by decide +kernel
theorem dX6_unlike_116 : decode cX6_unlike 116 = .ok (.ireturn, 1) := by decide +kernel
theorem dX6_ruleOn_0 : decode cX6_ruleOn 0 = .ok (.iconst 0, 1) := by decide +kernel
theorem dX6_ruleOn_1 : decode cX6_ruleOn 1 = .ok (.istore_n 2, 1) := by decide +kernel
theorem dX6_ruleOn_2 : decode cX6_ruleOn 2 = .ok (.iconst 0, 1) := by decide +kernel
theorem dX6_ruleOn_3 : decode cX6_ruleOn 3 = .ok (.istore_n 3, 1) := by decide +kernel
theorem dX6_ruleOn_4 : decode cX6_ruleOn 4 = .ok (.iload_n 3, 1) := by decide +kernel
theorem dX6_ruleOn_5 : decode cX6_ruleOn 5 = .ok (.bipush 99, 2) := by decide +kernel
theorem dX6_ruleOn_7 : decode cX6_ruleOn 7 = .ok (.if_icmp .gt 37, 3) := by decide +kernel
theorem dX6_ruleOn_10 : decode cX6_ruleOn 10 = .ok (.aload_n 0, 1) := by decide +kernel
theorem dX6_ruleOn_11 : decode cX6_ruleOn 11 = .ok (.iload_n 3, 1) := by decide +kernel
theorem dX6_ruleOn_12 : decode cX6_ruleOn 12 = .ok (.iload_n 1, 1) := by decide +kernel
theorem dX6_ruleOn_13 : decode cX6_ruleOn 13 = .ok (.bipush (-5), 2) := by decide +kernel
theorem dX6_ruleOn_15 : decode cX6_ruleOn 15 = .ok (.invokevirtual 70, 3) := by decide +kernel
theorem dX6_ruleOn_18 : decode cX6_ruleOn 18 = .ok (.istore 4, 2) := by decide +kernel
theorem dX6_ruleOn_20 : decode cX6_ruleOn 20 = .ok (.iload_n 2, 1) := by decide +kernel
theorem dX6_ruleOn_21 : decode cX6_ruleOn 21 = .ok (.iload 4, 2) := by decide +kernel
theorem dX6_ruleOn_23 : decode cX6_ruleOn 23 = .ok (.bipush (-5), 2) := by decide +kernel
theorem dX6_ruleOn_25 : decode cX6_ruleOn 25 = .ok (.if_icmp .ne 7, 3) := by decide +kernel
theorem dX6_ruleOn_28 : decode cX6_ruleOn 28 = .ok (.iconst 0, 1) := by decide +kernel
theorem dX6_ruleOn_29 : decode cX6_ruleOn 29 = .ok (.goto 7, 3) := by decide +kernel
theorem dX6_ruleOn_32 : decode cX6_ruleOn 32 = .ok (.iconst 1, 1) := by decide +kernel
theorem dX6_ruleOn_33 : decode cX6_ruleOn 33 = .ok (.iload 4, 2) := by decide +kernel
theorem dX6_ruleOn_35 : decode cX6_ruleOn 35 = .ok (.ishl, 1) := by decide +kernel
theorem dX6_ruleOn_36 : decode cX6_ruleOn 36 = .ok (.ior, 1) := by decide +kernel
theorem dX6_ruleOn_37 : decode cX6_ruleOn 37 = .ok (.istore_n 2, 1) := by decide +kernel
theorem dX6_ruleOn_38 : decode cX6_ruleOn 38 = .ok (.iinc 3 1, 3) := by decide +kernel
theorem dX6_ruleOn_41 : decode cX6_ruleOn 41 = .ok (.goto (-37), 3) := by decide +kernel
theorem dX6_ruleOn_44 : decode cX6_ruleOn 44 = .ok (.iload_n 2, 1) := by decide +kernel
theorem dX6_ruleOn_45 : decode cX6_ruleOn 45 = .ok (.ireturn, 1) := by decide +kernel
theorem dX6_idle_0 : decode cX6_idle 0 = .ok (.iconst 0, 1) := by decide +kernel
theorem dX6_idle_1 : decode cX6_idle 1 = .ok (.istore_n 1, 1) := by decide +kernel
theorem dX6_idle_2 : decode cX6_idle 2 = .ok (.iconst 0, 1) := by decide +kernel
theorem dX6_idle_3 : decode cX6_idle 3 = .ok (.istore_n 2, 1) := by decide +kernel
theorem dX6_idle_4 : decode cX6_idle 4 = .ok (.iload_n 2, 1) := by decide +kernel
theorem dX6_idle_5 : decode cX6_idle 5 = .ok (.iconst 2, 1) := by decide +kernel
theorem dX6_idle_6 : decode cX6_idle 6 = .ok (.aload_n 0, 1) := by decide +kernel
theorem dX6_idle_7 : decode cX6_idle 7 = .ok (.getfield 7, 3) := by decide +kernel
theorem dX6_idle_10 : decode cX6_idle 10 = .ok (.bipush 19, 2) := by decide +kernel
theorem dX6_idle_12 : decode cX6_idle 12 = .ok (.iaload, 1) := by decide +kernel
theorem dX6_idle_13 : decode cX6_idle 13 = .ok (.imul, 1) := by decide +kernel
theorem dX6_idle_14 : decode cX6_idle 14 = .ok (.if_icmp .ge 41, 3) := by decide +kernel
theorem dX6_idle_17 : decode cX6_idle 17 = .ok (.aload_n 0, 1) := by decide +kernel
theorem dX6_idle_18 : decode cX6_idle 18 = .ok (.iload_n 2, 1) := by decide +kernel
theorem dX6_idle_19 : decode cX6_idle 19 = .ok (.iconst 2, 1) := by decide +kernel
theorem dX6_idle_20 : decode cX6_idle 20 = .ok (.idiv, 1) := by decide +kernel
theorem dX6_idle_21 : decode cX6_idle 21 = .ok (.iconst 1, 1) := by decide +kernel
theorem dX6_idle_22 : decode cX6_idle 22 = .ok (.iload_n 2, 1) := by decide +kernel
theorem dX6_idle_23 : decode cX6_idle 23 = .ok (.iconst 2, 1) := by decide +kernel
theorem dX6_idle_24 : decode cX6_idle 24 = .ok (.irem, 1) := by decide +kernel
theorem dX6_idle_25 : decode cX6_idle 25 = .ok (.iadd, 1) := by decide +kernel
theorem dX6_idle_26 : decode cX6_idle 26 = .ok (.invokevirtual 47, 3) := by decide +kernel
theorem dX6_idle_29 : decode cX6_idle 29 = .ok (.istore_n 3, 1) := by decide +kernel
theorem dX6_idle_30 : decode cX6_idle 30 = .ok (.iload_n 1, 1) := by decide +kernel
theorem dX6_idle_31 : decode cX6_idle 31 = .ok (.iload_n 3, 1) := by decide +kernel
theorem dX6_idle_32 : decode cX6_idle 32 = .ok (.sipush 999, 3) := by decide +kernel
theorem dX6_idle_35 : decode cX6_idle 35 = .ok (.if_icmp .gt 11, 3) := by decide +kernel
theorem dX6_idle_38 : decode cX6_idle 38 = .ok (.aload_n 0, 1) := by decide +kernel
theorem dX6_idle_39 : decode cX6_idle 39 = .ok (.iload_n 3, 1) := by decide +kernel
theorem dX6_idle_40 : decode cX6_idle 40 = .ok (.invokevirtual 169, 3) := by decide +kernel
theorem dX6_idle_43 : decode cX6_idle 43 = .ok (.goto 4, 3) := by decide +kernel
theorem dX6_idle_46 : decode cX6_idle 46 = .ok (.iconst 0, 1) := by decide +kernel
theorem dX6_idle_47 : decode cX6_idle 47 = .ok (.ior, 1) := by decide +kernel
theorem dX6_idle_48 : decode cX6_idle 48 = .ok (.istore_n 1, 1) := by decide +kernel
theorem dX6_idle_49 : decode cX6_idle 49 = .ok (.iinc 2 1, 3) := by decide +kernel
theorem dX6_idle_52 : decode cX6_idle 52 = .ok (.goto (-48), 3) := by decide +kernel
theorem dX6_idle_55 : decode cX6_idle 55 = .ok (.iconst 1, 1) := by decide +kernel
theorem dX6_idle_56 : decode cX6_idle 56 = .ok (.aload_n 0, 1) := by decide +kernel
theorem dX6_idle_57 : decode cX6_idle 57 = .ok (.getfield 7, 3) := by decide +kernel
theorem dX6_idle_60 : decode cX6_idle 60 = .ok (.bipush 19, 2) := by decide +kernel
theorem dX6_idle_62 : decode cX6_idle 62 = .ok (.iaload, 1) := by decide +kernel
theorem dX6_idle_63 : decode cX6_idle 63 = .ok (.ishl, 1) := by decide +kernel
theorem dX6_idle_64 : decode cX6_idle 64 = .ok (.iconst 1, 1) := by decide +kernel
theorem dX6_idle_65 : decode cX6_idle 65 = .ok (.isub, 1) := by decide +kernel
theorem dX6_idle_66 : decode cX6_idle 66 = .ok (.iload_n 1, 1) := by decide +kernel
theorem dX6_idle_67 : decode cX6_idle 67 = .ok (.iconst (-1), 1) := by decide +kernel
theorem dX6_idle_68 : decode cX6_idle 68 = .ok (.ixor, 1) := by decide +kernel
theorem dX6_idle_69 : decode cX6_idle 69 = .ok (.iand, 1) := by decide +kernel
theorem dX6_idle_70 : decode cX6_idle 70 = .ok (.ireturn, 1) := by decide +kernel
theorem dX6_ifGone_0 : decode cX6_ifGone 0 = .ok (.aload_n 0, 1) := by decide +kernel
theorem dX6_ifGone_1 : decode cX6_ifGone 1 = .ok (.iload_n 1, 1) := by decide +kernel
theorem dX6_ifGone_2 : decode cX6_ifGone 2 = .ok (.invokevirtual 94, 3) := by decide +kernel
theorem dX6_ifGone_5 : decode cX6_ifGone 5 = .ok (.ifCond .ne 5, 3) := by decide +kernel
theorem dX6_ifGone_8 : decode cX6_ifGone 8 = .ok (.iconst (-1), 1) := by decide +kernel
theorem dX6_ifGone_9 : decode cX6_ifGone 9 = .ok (.ireturn, 1) := by decide +kernel
theorem dX6_ifGone_10 : decode cX6_ifGone 10 = .ok (.aload_n 0, 1) := by decide +kernel
theorem dX6_ifGone_11 : decode cX6_ifGone 11 = .ok (.invokevirtual 100, 3) := by decide +kernel
theorem dX6_ifGone_14 : decode cX6_ifGone 14 = .ok (.aload_n 0, 1) := by decide +kernel
theorem dX6_ifGone_15 : decode cX6_ifGone 15 = .ok (.iload_n 1, 1) := by decide +kernel
theorem dX6_ifGone_16 : decode cX6_ifGone 16 = .ok (.invokevirtual 74, 3) := by decide +kernel
theorem dX6_ifGone_19 : decode cX6_ifGone 19 = .ok (.aload_n 0, 1) := by decide +kernel
theorem dX6_ifGone_20 : decode cX6_ifGone 20 = .ok (.invokevirtual 103, 3) := by decide +kernel
theorem dX6_ifGone_23 : decode cX6_ifGone 23 = .ok (.ireturn, 1) := by decide +kernel
theorem dX6_weightiest_0 : decode cX6_weightiest 0 = .ok (.aload_n 0, 1) := by decide +kernel
theorem dX6_weightiest_1 : decode cX6_weightiest 1 = .ok (.bipush (-5), 2) := by decide +kernel
theorem dX6_weightiest_3 : decode cX6_weightiest 3 = .ok (.invokevirtual 74, 3) := by decide +kernel
theorem dX6_weightiest_6 : decode cX6_weightiest 6 = .ok (.bipush (-5), 2) := by decide +kernel
theorem dX6_weightiest_8 : decode cX6_weightiest 8 = .ok (.istore_n 1, 1) := by decide +kernel
theorem dX6_weightiest_9 : decode cX6_weightiest 9 = .ok (.iconst 0, 1) := by decide +kernel
theorem dX6_weightiest_10 : decode cX6_weightiest 10 = .ok (.istore_n 2, 1) := by decide +kernel
theorem dX6_weightiest_11 : decode cX6_weightiest 11 = .ok (.iconst 0, 1) := by decide +kernel
theorem dX6_weightiest_12 : decode cX6_weightiest 12 = .ok (.istore_n 3, 1) := by decide +kernel
theorem dX6_weightiest_13 : decode cX6_weightiest 13 = .ok (.iload_n 3, 1) := by decide +kernel
theorem dX6_weightiest_14 : decode cX6_weightiest 14 = .ok (.aload_n 0, 1) := by decide +kernel
theorem dX6_weightiest_15 : decode cX6_weightiest 15 = .ok (.getfield 7, 3) := by decide +kernel
theorem dX6_weightiest_18 : decode cX6_weightiest 18 = .ok (.bipush 19, 2) := by decide +kernel
theorem dX6_weightiest_20 : decode cX6_weightiest 20 = .ok (.iaload, 1) := by decide +kernel
theorem dX6_weightiest_21 : decode cX6_weightiest 21 = .ok (.if_icmp .ge 41, 3) := by decide +kernel
theorem dX6_weightiest_24 : decode cX6_weightiest 24 = .ok (.aload_n 0, 1) := by decide +kernel
theorem dX6_weightiest_25 : decode cX6_weightiest 25 = .ok (.iload_n 3, 1) := by decide +kernel
theorem dX6_weightiest_26 : decode cX6_weightiest 26 = .ok (.invokevirtual 157, 3) := by decide +kernel
theorem dX6_weightiest_29 : decode cX6_weightiest 29 = .ok (.istore 4, 2) := by decide +kernel
theorem dX6_weightiest_31 : decode cX6_weightiest 31 = .ok (.iload 4, 2) := by decide +kernel
theorem dX6_weightiest_33 : decode cX6_weightiest 33 = .ok (.iload_n 2, 1) := by decide +kernel
theorem dX6_weightiest_34 : decode cX6_weightiest 34 = .ok (.if_icmp .le 7, 3) := by decide +kernel
theorem dX6_weightiest_37 : decode cX6_weightiest 37 = .ok (.iload_n 3, 1) := by decide +kernel
theorem dX6_weightiest_38 : decode cX6_weightiest 38 = .ok (.goto 4, 3) := by decide +kernel
theorem dX6_weightiest_41 : decode cX6_weightiest 41 = .ok (.iload_n 1, 1) := by decide +kernel
theorem dX6_weightiest_42 : decode cX6_weightiest 42 = .ok (.istore_n 1, 1) := by decide +kernel
theorem dX6_weightiest_43 : decode cX6_weightiest 43 = .ok (.iload 4, 2) := by decide +kernel
theorem dX6_weightiest_45 : decode cX6_weightiest 45 = .ok (.iload_n 2, 1) := by decide +kernel
theorem dX6_weightiest_46 : decode cX6_weightiest 46 = .ok (.if_icmp .le 8, 3) := by decide +kernel
theorem dX6_weightiest_49 : decode cX6_weightiest 49 = .ok (.iload 4, 2) := by decide +kernel
theorem dX6_weightiest_51 : decode cX6_weightiest 51 = .ok (.goto 4, 3) := by decide +kernel
theorem dX6_weightiest_54 : decode cX6_weightiest 54 = .ok (.iload_n 2, 1) := by decide +kernel
theorem dX6_weightiest_55 : decode cX6_weightiest 55 = .ok (.istore_n 2, 1) := by decide +kernel
theorem dX6_weightiest_56 : decode cX6_weightiest 56 = .ok (.iinc 3 1, 3) := by decide +kernel
theorem dX6_weightiest_59 : decode cX6_weightiest 59 = .ok (.goto (-46), 3) := by decide +kernel
theorem dX6_weightiest_62 : decode cX6_weightiest 62 = .ok (.iload_n 1, 1) := by decide +kernel
theorem dX6_weightiest_63 : decode cX6_weightiest 63 = .ok (.ireturn, 1) := by decide +kernel
theorem dX6_ruled_0 : decode cX6_ruled 0 = .ok (.aload_n 0, 1) := by decide +kernel
theorem dX6_ruled_1 : decode cX6_ruled 1 = .ok (.bipush (-5), 2) := by decide +kernel
theorem dX6_ruled_3 : decode cX6_ruled 3 = .ok (.invokevirtual 74, 3) := by decide +kernel
theorem dX6_ruled_6 : decode cX6_ruled 6 = .ok (.bipush 100, 2) := by decide +kernel
theorem dX6_ruled_8 : decode cX6_ruled 8 = .ok (.aload_n 0, 1) := by decide +kernel
theorem dX6_ruled_9 : decode cX6_ruled 9 = .ok (.bipush (-5), 2) := by decide +kernel
theorem dX6_ruled_11 : decode cX6_ruled 11 = .ok (.invokevirtual 157, 3) := by decide +kernel
theorem dX6_ruled_14 : decode cX6_ruled 14 = .ok (.isub, 1) := by decide +kernel
theorem dX6_ruled_15 : decode cX6_ruled 15 = .ok (.ireturn, 1) := by decide +kernel
theorem dX6_spoken_0 : decode cX6_spoken 0 = .ok (.iconst 0, 1) := by decide +kernel
theorem dX6_spoken_1 : decode cX6_spoken 1 = .ok (.istore_n 1, 1) := by decide +kernel
theorem dX6_spoken_2 : decode cX6_spoken 2 = .ok (.iconst 0, 1) := by decide +kernel
theorem dX6_spoken_3 : decode cX6_spoken 3 = .ok (.istore_n 2, 1) := by decide +kernel
theorem dX6_spoken_4 : decode cX6_spoken 4 = .ok (.iload_n 2, 1) := by decide +kernel
theorem dX6_spoken_5 : decode cX6_spoken 5 = .ok (.sipush 600, 3) := by decide +kernel
theorem dX6_spoken_8 : decode cX6_spoken 8 = .ok (.if_icmp .ge 42, 3) := by decide +kernel
theorem dX6_spoken_11 : decode cX6_spoken 11 = .ok (.iload_n 1, 1) := by decide +kernel
theorem dX6_spoken_12 : decode cX6_spoken 12 = .ok (.aload_n 0, 1) := by decide +kernel
theorem dX6_spoken_13 : decode cX6_spoken 13 = .ok (.iload_n 2, 1) := by decide +kernel
theorem dX6_spoken_14 : decode cX6_spoken 14 = .ok (.bipush 100, 2) := by decide +kernel
theorem dX6_spoken_16 : decode cX6_spoken 16 = .ok (.idiv, 1) := by decide +kernel
theorem dX6_spoken_17 : decode cX6_spoken 17 = .ok (.iload_n 2, 1) := by decide +kernel
theorem dX6_spoken_18 : decode cX6_spoken 18 = .ok (.bipush 100, 2) := by decide +kernel
theorem dX6_spoken_20 : decode cX6_spoken 20 = .ok (.irem, 1) := by decide +kernel
theorem dX6_spoken_21 : decode cX6_spoken 21 = .ok (.aload_n 0, 1) := by decide +kernel
theorem dX6_spoken_22 : decode cX6_spoken 22 = .ok (.getfield 7, 3) := by decide +kernel
theorem dX6_spoken_25 : decode cX6_spoken 25 = .ok (.iconst 0, 1) := by decide +kernel
theorem dX6_spoken_26 : decode cX6_spoken 26 = .ok (.iaload, 1) := by decide +kernel
theorem dX6_spoken_27 : decode cX6_spoken 27 = .ok (.bipush (-5), 2) := by decide +kernel
theorem dX6_spoken_29 : decode cX6_spoken 29 = .ok (.invokevirtual 67, 3) := by decide +kernel
theorem dX6_spoken_32 : decode cX6_spoken 32 = .ok (.bipush (-5), 2) := by decide +kernel
theorem dX6_spoken_34 : decode cX6_spoken 34 = .ok (.if_icmp .ne 7, 3) := by decide +kernel
theorem dX6_spoken_37 : decode cX6_spoken 37 = .ok (.iconst 0, 1) := by decide +kernel
theorem dX6_spoken_38 : decode cX6_spoken 38 = .ok (.goto 4, 3) := by decide +kernel
theorem dX6_spoken_41 : decode cX6_spoken 41 = .ok (.iconst 1, 1) := by decide +kernel
theorem dX6_spoken_42 : decode cX6_spoken 42 = .ok (.iadd, 1) := by decide +kernel
theorem dX6_spoken_43 : decode cX6_spoken 43 = .ok (.istore_n 1, 1) := by decide +kernel
theorem dX6_spoken_44 : decode cX6_spoken 44 = .ok (.iinc 2 1, 3) := by decide +kernel
theorem dX6_spoken_47 : decode cX6_spoken 47 = .ok (.goto (-43), 3) := by decide +kernel
theorem dX6_spoken_50 : decode cX6_spoken 50 = .ok (.iload_n 1, 1) := by decide +kernel
theorem dX6_spoken_51 : decode cX6_spoken 51 = .ok (.ireturn, 1) := by decide +kernel
theorem dX6_allOf_0 : decode cX6_allOf 0 = .ok (.iconst 0, 1) := by decide +kernel
theorem dX6_allOf_1 : decode cX6_allOf 1 = .ok (.istore_n 2, 1) := by decide +kernel
theorem dX6_allOf_2 : decode cX6_allOf 2 = .ok (.iconst 0, 1) := by decide +kernel
theorem dX6_allOf_3 : decode cX6_allOf 3 = .ok (.istore_n 3, 1) := by decide +kernel
theorem dX6_allOf_4 : decode cX6_allOf 4 = .ok (.iload_n 3, 1) := by decide +kernel
theorem dX6_allOf_5 : decode cX6_allOf 5 = .ok (.aload_n 0, 1) := by decide +kernel
theorem dX6_allOf_6 : decode cX6_allOf 6 = .ok (.getfield 7, 3) := by decide +kernel
theorem dX6_allOf_9 : decode cX6_allOf 9 = .ok (.bipush 19, 2) := by decide +kernel
theorem dX6_allOf_11 : decode cX6_allOf 11 = .ok (.iaload, 1) := by decide +kernel
theorem dX6_allOf_12 : decode cX6_allOf 12 = .ok (.if_icmp .ge 40, 3) := by decide +kernel
theorem dX6_allOf_15 : decode cX6_allOf 15 = .ok (.iload_n 2, 1) := by decide +kernel
theorem dX6_allOf_16 : decode cX6_allOf 16 = .ok (.iload_n 1, 1) := by decide +kernel
theorem dX6_allOf_17 : decode cX6_allOf 17 = .ok (.ifCond .eq 13, 3) := by decide +kernel
theorem dX6_allOf_20 : decode cX6_allOf 20 = .ok (.aload_n 0, 1) := by decide +kernel
theorem dX6_allOf_21 : decode cX6_allOf 21 = .ok (.iload_n 3, 1) := by decide +kernel
theorem dX6_allOf_22 : decode cX6_allOf 22 = .ok (.bipush 6, 2) := by decide +kernel
theorem dX6_allOf_24 : decode cX6_allOf 24 = .ok (.invokevirtual 47, 3) := by decide +kernel
theorem dX6_allOf_27 : decode cX6_allOf 27 = .ok (.goto 17, 3) := by decide +kernel
theorem dX6_allOf_30 : decode cX6_allOf 30 = .ok (.aload_n 0, 1) := by decide +kernel
theorem dX6_allOf_31 : decode cX6_allOf 31 = .ok (.iload_n 3, 1) := by decide +kernel
theorem dX6_allOf_32 : decode cX6_allOf 32 = .ok (.iconst 5, 1) := by decide +kernel
theorem dX6_allOf_33 : decode cX6_allOf 33 = .ok (.invokevirtual 47, 3) := by decide +kernel
theorem dX6_allOf_36 : decode cX6_allOf 36 = .ok (.ifCond .ne 7, 3) := by decide +kernel
theorem dX6_allOf_39 : decode cX6_allOf 39 = .ok (.iconst 1, 1) := by decide +kernel
theorem dX6_allOf_40 : decode cX6_allOf 40 = .ok (.goto 4, 3) := by decide +kernel
theorem dX6_allOf_43 : decode cX6_allOf 43 = .ok (.iconst 0, 1) := by decide +kernel
theorem dX6_allOf_44 : decode cX6_allOf 44 = .ok (.iadd, 1) := by decide +kernel
theorem dX6_allOf_45 : decode cX6_allOf 45 = .ok (.istore_n 2, 1) := by decide +kernel
theorem dX6_allOf_46 : decode cX6_allOf 46 = .ok (.iinc 3 1, 3) := by decide +kernel
theorem dX6_allOf_49 : decode cX6_allOf 49 = .ok (.goto (-45), 3) := by decide +kernel
theorem dX6_allOf_52 : decode cX6_allOf 52 = .ok (.iload_n 2, 1) := by decide +kernel
theorem dX6_allOf_53 : decode cX6_allOf 53 = .ok (.ireturn, 1) := by decide +kernel
theorem dX6_count_0 : decode cX6_count 0 = .ok (.iload_n 1, 1) := by decide +kernel
theorem dX6_count_1 : decode cX6_count 1 = .ok (.tableswitch 109 0 8 #[51, 58, 66, 74, 79, 84, 84, 99, 104], 51) := by decide +kernel
theorem dX6_count_52 : decode cX6_count 52 = .ok (.aload_n 0, 1) := by decide +kernel
theorem dX6_count_53 : decode cX6_count 53 = .ok (.getfield 7, 3) := by decide +kernel
theorem dX6_count_56 : decode cX6_count 56 = .ok (.iconst 0, 1) := by decide +kernel
theorem dX6_count_57 : decode cX6_count 57 = .ok (.iaload, 1) := by decide +kernel
theorem dX6_count_58 : decode cX6_count 58 = .ok (.ireturn, 1) := by decide +kernel
theorem dX6_count_59 : decode cX6_count 59 = .ok (.aload_n 0, 1) := by decide +kernel
theorem dX6_count_60 : decode cX6_count 60 = .ok (.getfield 7, 3) := by decide +kernel
theorem dX6_count_63 : decode cX6_count 63 = .ok (.bipush 19, 2) := by decide +kernel
theorem dX6_count_65 : decode cX6_count 65 = .ok (.iaload, 1) := by decide +kernel
theorem dX6_count_66 : decode cX6_count 66 = .ok (.ireturn, 1) := by decide +kernel
theorem dX6_count_67 : decode cX6_count 67 = .ok (.aload_n 0, 1) := by decide +kernel
theorem dX6_count_68 : decode cX6_count 68 = .ok (.bipush (-5), 2) := by decide +kernel
theorem dX6_count_70 : decode cX6_count 70 = .ok (.iconst 1, 1) := by decide +kernel
theorem dX6_count_71 : decode cX6_count 71 = .ok (.invokevirtual 150, 3) := by decide +kernel
theorem dX6_count_74 : decode cX6_count 74 = .ok (.ireturn, 1) := by decide +kernel
theorem dX6_count_75 : decode cX6_count 75 = .ok (.aload_n 0, 1) := by decide +kernel
theorem dX6_count_76 : decode cX6_count 76 = .ok (.invokevirtual 172, 3) := by decide +kernel
theorem dX6_count_79 : decode cX6_count 79 = .ok (.ireturn, 1) := by decide +kernel
theorem dX6_count_80 : decode cX6_count 80 = .ok (.aload_n 0, 1) := by decide +kernel
theorem dX6_count_81 : decode cX6_count 81 = .ok (.invokevirtual 175, 3) := by decide +kernel
theorem dX6_count_84 : decode cX6_count 84 = .ok (.ireturn, 1) := by decide +kernel
theorem dX6_count_85 : decode cX6_count 85 = .ok (.aload_n 0, 1) := by decide +kernel
theorem dX6_count_86 : decode cX6_count 86 = .ok (.iload_n 1, 1) := by decide +kernel
theorem dX6_count_87 : decode cX6_count 87 = .ok (.iconst 5, 1) := by decide +kernel
theorem dX6_count_88 : decode cX6_count 88 = .ok (.if_icmp .ne 7, 3) := by decide +kernel
theorem dX6_count_91 : decode cX6_count 91 = .ok (.iconst 1, 1) := by decide +kernel
theorem dX6_count_92 : decode cX6_count 92 = .ok (.goto 4, 3) := by decide +kernel
theorem dX6_count_95 : decode cX6_count 95 = .ok (.iconst 0, 1) := by decide +kernel
theorem dX6_count_96 : decode cX6_count 96 = .ok (.invokevirtual 178, 3) := by decide +kernel
theorem dX6_count_99 : decode cX6_count 99 = .ok (.ireturn, 1) := by decide +kernel
theorem dX6_count_100 : decode cX6_count 100 = .ok (.aload_n 0, 1) := by decide +kernel
theorem dX6_count_101 : decode cX6_count 101 = .ok (.getfield 43, 3) := by decide +kernel
theorem dX6_count_104 : decode cX6_count 104 = .ok (.ireturn, 1) := by decide +kernel
theorem dX6_count_105 : decode cX6_count 105 = .ok (.aload_n 0, 1) := by decide +kernel
theorem dX6_count_106 : decode cX6_count 106 = .ok (.getfield 107, 3) := by decide +kernel
theorem dX6_count_109 : decode cX6_count 109 = .ok (.ireturn, 1) := by decide +kernel
theorem dX6_count_110 : decode cX6_count 110 = .ok (.bipush (-2), 2) := by decide +kernel
theorem dX6_count_112 : decode cX6_count 112 = .ok (.ireturn, 1) := by decide +kernel
theorem dJ9_max_7cf53_0 : decode cJ9_max_7cf53 0 = .ok (.iload_n 0, 1) := by decide +kernel
theorem dJ9_max_7cf53_1 : decode cJ9_max_7cf53 1 = .ok (.iload_n 1, 1) := by decide +kernel
theorem dJ9_max_7cf53_2 : decode cJ9_max_7cf53 2 = .ok (.if_icmp .lt 7, 3) := by decide +kernel
theorem dJ9_max_7cf53_5 : decode cJ9_max_7cf53 5 = .ok (.iload_n 0, 1) := by decide +kernel
theorem dJ9_max_7cf53_6 : decode cJ9_max_7cf53 6 = .ok (.goto 4, 3) := by decide +kernel
theorem dJ9_max_7cf53_9 : decode cJ9_max_7cf53 9 = .ok (.iload_n 1, 1) := by decide +kernel
theorem dJ9_max_7cf53_10 : decode cJ9_max_7cf53 10 = .ok (.ireturn, 1) := by decide +kernel
theorem dJ9_min_7cf53_0 : decode cJ9_min_7cf53 0 = .ok (.iload_n 0, 1) := by decide +kernel
theorem dJ9_min_7cf53_1 : decode cJ9_min_7cf53 1 = .ok (.iload_n 1, 1) := by decide +kernel
theorem dJ9_min_7cf53_2 : decode cJ9_min_7cf53 2 = .ok (.if_icmp .gt 7, 3) := by decide +kernel
theorem dJ9_min_7cf53_5 : decode cJ9_min_7cf53 5 = .ok (.iload_n 0, 1) := by decide +kernel
theorem dJ9_min_7cf53_6 : decode cJ9_min_7cf53 6 = .ok (.goto 4, 3) := by decide +kernel
theorem dJ9_min_7cf53_9 : decode cJ9_min_7cf53 9 = .ok (.iload_n 1, 1) := by decide +kernel
theorem dJ9_min_7cf53_10 : decode cJ9_min_7cf53 10 = .ok (.ireturn, 1) := by decide +kernel
theorem dJ7_fill_53178_0 : decode cJ7_fill_53178 0 = .ok (.iconst 0, 1) := by decide +kernel
theorem dJ7_fill_53178_1 : decode cJ7_fill_53178 1 = .ok (.istore_n 2, 1) := by decide +kernel
theorem dJ7_fill_53178_2 : decode cJ7_fill_53178 2 = .ok (.aload_n 0, 1) := by decide +kernel
theorem dJ7_fill_53178_3 : decode cJ7_fill_53178 3 = .ok (.arraylength, 1) := by decide +kernel
theorem dJ7_fill_53178_4 : decode cJ7_fill_53178 4 = .ok (.istore_n 3, 1) := by decide +kernel
theorem dJ7_fill_53178_5 : decode cJ7_fill_53178 5 = .ok (.iload_n 2, 1) := by decide +kernel
theorem dJ7_fill_53178_6 : decode cJ7_fill_53178 6 = .ok (.iload_n 3, 1) := by decide +kernel
theorem dJ7_fill_53178_7 : decode cJ7_fill_53178 7 = .ok (.if_icmp .ge 13, 3) := by decide +kernel
theorem dJ7_fill_53178_10 : decode cJ7_fill_53178 10 = .ok (.aload_n 0, 1) := by decide +kernel
theorem dJ7_fill_53178_11 : decode cJ7_fill_53178 11 = .ok (.iload_n 2, 1) := by decide +kernel
theorem dJ7_fill_53178_12 : decode cJ7_fill_53178 12 = .ok (.iload_n 1, 1) := by decide +kernel
theorem dJ7_fill_53178_13 : decode cJ7_fill_53178 13 = .ok (.iastore, 1) := by decide +kernel
theorem dJ7_fill_53178_14 : decode cJ7_fill_53178 14 = .ok (.iinc 2 1, 3) := by decide +kernel
theorem dJ7_fill_53178_17 : decode cJ7_fill_53178 17 = .ok (.goto (-12), 3) := by decide +kernel
theorem dJ7_fill_53178_20 : decode cJ7_fill_53178 20 = .ok (.return_, 1) := by decide +kernel
theorem dL_law_0 : decode cL_law 0 = .ok (.new 7, 3) := by decide +kernel
theorem dL_law_3 : decode cL_law 3 = .ok (.dup, 1) := by decide +kernel
theorem dL_law_4 : decode cL_law 4 = .ok (.invokespecial 9, 3) := by decide +kernel
theorem dL_law_7 : decode cL_law 7 = .ok (.astore_n 1, 1) := by decide +kernel
theorem dL_law_8 : decode cL_law 8 = .ok (.new 10, 3) := by decide +kernel
theorem dL_law_11 : decode cL_law 11 = .ok (.dup, 1) := by decide +kernel
theorem dL_law_12 : decode cL_law 12 = .ok (.invokespecial 12, 3) := by decide +kernel
theorem dL_law_15 : decode cL_law 15 = .ok (.astore_n 2, 1) := by decide +kernel
theorem dL_law_16 : decode cL_law 16 = .ok (.iconst 0, 1) := by decide +kernel
theorem dL_law_17 : decode cL_law 17 = .ok (.istore_n 3, 1) := by decide +kernel
theorem dL_law_18 : decode cL_law 18 = .ok (.iload_n 3, 1) := by decide +kernel
theorem dL_law_19 : decode cL_law 19 = .ok (.aload_n 0, 1) := by decide +kernel
theorem dL_law_20 : decode cL_law 20 = .ok (.arraylength, 1) := by decide +kernel
theorem dL_law_21 : decode cL_law 21 = .ok (.bipush 6, 2) := by decide +kernel
theorem dL_law_23 : decode cL_law 23 = .ok (.isub, 1) := by decide +kernel
theorem dL_law_24 : decode cL_law 24 = .ok (.if_icmp .gt 820, 3) := by decide +kernel
theorem dL_law_27 : decode cL_law 27 = .ok (.aload_n 0, 1) := by decide +kernel
theorem dL_law_28 : decode cL_law 28 = .ok (.iload_n 3, 1) := by decide +kernel
theorem dL_law_29 : decode cL_law 29 = .ok (.iaload, 1) := by decide +kernel
theorem dL_law_30 : decode cL_law 30 = .ok (.bipush 31, 2) := by decide +kernel
theorem dL_law_32 : decode cL_law 32 = .ok (.iand, 1) := by decide +kernel
theorem dL_law_33 : decode cL_law 33 = .ok (.tableswitch 805 0 23 #[111, 154, 187, 250, 293, 326, 349, 374, 387, 400, 413, 426, 439, 472, 505, 548, 581, 624, 667, 700, 733, 746, 769, 782], 111) := by decide +kernel
theorem dL_law_144 : decode cL_law 144 = .ok (.aload_n 1, 1) := by decide +kernel
theorem dL_law_145 : decode cL_law 145 = .ok (.aload_n 0, 1) := by decide +kernel
theorem dL_law_146 : decode cL_law 146 = .ok (.iload_n 3, 1) := by decide +kernel
theorem dL_law_147 : decode cL_law 147 = .ok (.iconst 1, 1) := by decide +kernel
theorem dL_law_148 : decode cL_law 148 = .ok (.iadd, 1) := by decide +kernel
theorem dL_law_149 : decode cL_law 149 = .ok (.iaload, 1) := by decide +kernel
theorem dL_law_150 : decode cL_law 150 = .ok (.aload_n 0, 1) := by decide +kernel
theorem dL_law_151 : decode cL_law 151 = .ok (.iload_n 3, 1) := by decide +kernel
theorem dL_law_152 : decode cL_law 152 = .ok (.iconst 2, 1) := by decide +kernel
theorem dL_law_153 : decode cL_law 153 = .ok (.iadd, 1) := by decide +kernel
theorem dL_law_154 : decode cL_law 154 = .ok (.iaload, 1) := by decide +kernel
theorem dL_law_155 : decode cL_law 155 = .ok (.aload_n 0, 1) := by decide +kernel
theorem dL_law_156 : decode cL_law 156 = .ok (.iload_n 3, 1) := by decide +kernel
theorem dL_law_157 : decode cL_law 157 = .ok (.iconst 3, 1) := by decide +kernel
theorem dL_law_158 : decode cL_law 158 = .ok (.iadd, 1) := by decide +kernel
theorem dL_law_159 : decode cL_law 159 = .ok (.iaload, 1) := by decide +kernel
theorem dL_law_160 : decode cL_law 160 = .ok (.invokevirtual 13, 3) := by decide +kernel
theorem dL_law_163 : decode cL_law 163 = .ok (.aload_n 2, 1) := by decide +kernel
theorem dL_law_164 : decode cL_law 164 = .ok (.aload_n 0, 1) := by decide +kernel
theorem dL_law_165 : decode cL_law 165 = .ok (.iload_n 3, 1) := by decide +kernel
theorem dL_law_166 : decode cL_law 166 = .ok (.iconst 1, 1) := by decide +kernel
theorem dL_law_167 : decode cL_law 167 = .ok (.iadd, 1) := by decide +kernel
theorem dL_law_168 : decode cL_law 168 = .ok (.iaload, 1) := by decide +kernel
theorem dL_law_169 : decode cL_law 169 = .ok (.aload_n 0, 1) := by decide +kernel
theorem dL_law_170 : decode cL_law 170 = .ok (.iload_n 3, 1) := by decide +kernel
theorem dL_law_171 : decode cL_law 171 = .ok (.iconst 2, 1) := by decide +kernel
theorem dL_law_172 : decode cL_law 172 = .ok (.iadd, 1) := by decide +kernel
theorem dL_law_173 : decode cL_law 173 = .ok (.iaload, 1) := by decide +kernel
theorem dL_law_174 : decode cL_law 174 = .ok (.aload_n 0, 1) := by decide +kernel
theorem dL_law_175 : decode cL_law 175 = .ok (.iload_n 3, 1) := by decide +kernel
theorem dL_law_176 : decode cL_law 176 = .ok (.iconst 3, 1) := by decide +kernel
theorem dL_law_177 : decode cL_law 177 = .ok (.iadd, 1) := by decide +kernel
theorem dL_law_178 : decode cL_law 178 = .ok (.iaload, 1) := by decide +kernel
theorem dL_law_179 : decode cL_law 179 = .ok (.invokevirtual 17, 3) := by decide +kernel
theorem dL_law_182 : decode cL_law 182 = .ok (.if_icmp .eq 656, 3) := by decide +kernel
theorem dL_law_185 : decode cL_law 185 = .ok (.iconst 0, 1) := by decide +kernel
theorem dL_law_186 : decode cL_law 186 = .ok (.ireturn, 1) := by decide +kernel
theorem dL_law_187 : decode cL_law 187 = .ok (.aload_n 1, 1) := by decide +kernel
theorem dL_law_188 : decode cL_law 188 = .ok (.aload_n 0, 1) := by decide +kernel
theorem dL_law_189 : decode cL_law 189 = .ok (.iload_n 3, 1) := by decide +kernel
theorem dL_law_190 : decode cL_law 190 = .ok (.iconst 1, 1) := by decide +kernel
theorem dL_law_191 : decode cL_law 191 = .ok (.iadd, 1) := by decide +kernel
theorem dL_law_192 : decode cL_law 192 = .ok (.iaload, 1) := by decide +kernel
theorem dL_law_193 : decode cL_law 193 = .ok (.aload_n 0, 1) := by decide +kernel
theorem dL_law_194 : decode cL_law 194 = .ok (.iload_n 3, 1) := by decide +kernel
theorem dL_law_195 : decode cL_law 195 = .ok (.iconst 2, 1) := by decide +kernel
theorem dL_law_196 : decode cL_law 196 = .ok (.iadd, 1) := by decide +kernel
theorem dL_law_197 : decode cL_law 197 = .ok (.iaload, 1) := by decide +kernel
theorem dL_law_198 : decode cL_law 198 = .ok (.invokevirtual 18, 3) := by decide +kernel
theorem dL_law_201 : decode cL_law 201 = .ok (.aload_n 2, 1) := by decide +kernel
theorem dL_law_202 : decode cL_law 202 = .ok (.aload_n 0, 1) := by decide +kernel
theorem dL_law_203 : decode cL_law 203 = .ok (.iload_n 3, 1) := by decide +kernel
theorem dL_law_204 : decode cL_law 204 = .ok (.iconst 1, 1) := by decide +kernel
theorem dL_law_205 : decode cL_law 205 = .ok (.iadd, 1) := by decide +kernel
theorem dL_law_206 : decode cL_law 206 = .ok (.iaload, 1) := by decide +kernel
theorem dL_law_207 : decode cL_law 207 = .ok (.aload_n 0, 1) := by decide +kernel
theorem dL_law_208 : decode cL_law 208 = .ok (.iload_n 3, 1) := by decide +kernel
theorem dL_law_209 : decode cL_law 209 = .ok (.iconst 2, 1) := by decide +kernel
theorem dL_law_210 : decode cL_law 210 = .ok (.iadd, 1) := by decide +kernel
theorem dL_law_211 : decode cL_law 211 = .ok (.iaload, 1) := by decide +kernel
theorem dL_law_212 : decode cL_law 212 = .ok (.invokevirtual 22, 3) := by decide +kernel
theorem dL_law_215 : decode cL_law 215 = .ok (.if_icmp .eq 623, 3) := by decide +kernel
theorem dL_law_218 : decode cL_law 218 = .ok (.iconst 0, 1) := by decide +kernel
theorem dL_law_219 : decode cL_law 219 = .ok (.ireturn, 1) := by decide +kernel
theorem dL_law_220 : decode cL_law 220 = .ok (.aload_n 1, 1) := by decide +kernel
theorem dL_law_221 : decode cL_law 221 = .ok (.aload_n 0, 1) := by decide +kernel
theorem dL_law_222 : decode cL_law 222 = .ok (.iload_n 3, 1) := by decide +kernel
theorem dL_law_223 : decode cL_law 223 = .ok (.iconst 1, 1) := by decide +kernel
theorem dL_law_224 : decode cL_law 224 = .ok (.iadd, 1) := by decide +kernel
theorem dL_law_225 : decode cL_law 225 = .ok (.iaload, 1) := by decide +kernel
theorem dL_law_226 : decode cL_law 226 = .ok (.aload_n 0, 1) := by decide +kernel
theorem dL_law_227 : decode cL_law 227 = .ok (.iload_n 3, 1) := by decide +kernel
theorem dL_law_228 : decode cL_law 228 = .ok (.iconst 2, 1) := by decide +kernel
theorem dL_law_229 : decode cL_law 229 = .ok (.iadd, 1) := by decide +kernel
theorem dL_law_230 : decode cL_law 230 = .ok (.iaload, 1) := by decide +kernel
theorem dL_law_231 : decode cL_law 231 = .ok (.aload_n 0, 1) := by decide +kernel
theorem dL_law_232 : decode cL_law 232 = .ok (.iload_n 3, 1) := by decide +kernel
theorem dL_law_233 : decode cL_law 233 = .ok (.iconst 3, 1) := by decide +kernel
theorem dL_law_234 : decode cL_law 234 = .ok (.iadd, 1) := by decide +kernel
theorem dL_law_235 : decode cL_law 235 = .ok (.iaload, 1) := by decide +kernel
theorem dL_law_236 : decode cL_law 236 = .ok (.aload_n 0, 1) := by decide +kernel
theorem dL_law_237 : decode cL_law 237 = .ok (.iload_n 3, 1) := by decide +kernel
theorem dL_law_238 : decode cL_law 238 = .ok (.iconst 4, 1) := by decide +kernel
theorem dL_law_239 : decode cL_law 239 = .ok (.iadd, 1) := by decide +kernel
theorem dL_law_240 : decode cL_law 240 = .ok (.iaload, 1) := by decide +kernel
theorem dL_law_241 : decode cL_law 241 = .ok (.aload_n 0, 1) := by decide +kernel
theorem dL_law_242 : decode cL_law 242 = .ok (.iload_n 3, 1) := by decide +kernel
theorem dL_law_243 : decode cL_law 243 = .ok (.iconst 5, 1) := by decide +kernel
theorem dL_law_244 : decode cL_law 244 = .ok (.iadd, 1) := by decide +kernel
theorem dL_law_245 : decode cL_law 245 = .ok (.iaload, 1) := by decide +kernel
theorem dL_law_246 : decode cL_law 246 = .ok (.invokevirtual 23, 3) := by decide +kernel
theorem dL_law_249 : decode cL_law 249 = .ok (.aload_n 2, 1) := by decide +kernel
theorem dL_law_250 : decode cL_law 250 = .ok (.aload_n 0, 1) := by decide +kernel
theorem dL_law_251 : decode cL_law 251 = .ok (.iload_n 3, 1) := by decide +kernel
theorem dL_law_252 : decode cL_law 252 = .ok (.iconst 1, 1) := by decide +kernel
theorem dL_law_253 : decode cL_law 253 = .ok (.iadd, 1) := by decide +kernel
theorem dL_law_254 : decode cL_law 254 = .ok (.iaload, 1) := by decide +kernel
theorem dL_law_255 : decode cL_law 255 = .ok (.aload_n 0, 1) := by decide +kernel
theorem dL_law_256 : decode cL_law 256 = .ok (.iload_n 3, 1) := by decide +kernel
theorem dL_law_257 : decode cL_law 257 = .ok (.iconst 2, 1) := by decide +kernel
theorem dL_law_258 : decode cL_law 258 = .ok (.iadd, 1) := by decide +kernel
theorem dL_law_259 : decode cL_law 259 = .ok (.iaload, 1) := by decide +kernel
theorem dL_law_260 : decode cL_law 260 = .ok (.aload_n 0, 1) := by decide +kernel
theorem dL_law_261 : decode cL_law 261 = .ok (.iload_n 3, 1) := by decide +kernel
theorem dL_law_262 : decode cL_law 262 = .ok (.iconst 3, 1) := by decide +kernel
theorem dL_law_263 : decode cL_law 263 = .ok (.iadd, 1) := by decide +kernel
theorem dL_law_264 : decode cL_law 264 = .ok (.iaload, 1) := by decide +kernel
theorem dL_law_265 : decode cL_law 265 = .ok (.aload_n 0, 1) := by decide +kernel
theorem dL_law_266 : decode cL_law 266 = .ok (.iload_n 3, 1) := by decide +kernel
theorem dL_law_267 : decode cL_law 267 = .ok (.iconst 4, 1) := by decide +kernel
theorem dL_law_268 : decode cL_law 268 = .ok (.iadd, 1) := by decide +kernel
theorem dL_law_269 : decode cL_law 269 = .ok (.iaload, 1) := by decide +kernel
theorem dL_law_270 : decode cL_law 270 = .ok (.aload_n 0, 1) := by decide +kernel
theorem dL_law_271 : decode cL_law 271 = .ok (.iload_n 3, 1) := by decide +kernel
theorem dL_law_272 : decode cL_law 272 = .ok (.iconst 5, 1) := by decide +kernel
theorem dL_law_273 : decode cL_law 273 = .ok (.iadd, 1) := by decide +kernel
theorem dL_law_274 : decode cL_law 274 = .ok (.iaload, 1) := by decide +kernel
theorem dL_law_275 : decode cL_law 275 = .ok (.invokevirtual 27, 3) := by decide +kernel
theorem dL_law_278 : decode cL_law 278 = .ok (.if_icmp .eq 560, 3) := by decide +kernel
theorem dL_law_281 : decode cL_law 281 = .ok (.iconst 0, 1) := by decide +kernel
theorem dL_law_282 : decode cL_law 282 = .ok (.ireturn, 1) := by decide +kernel
theorem dL_law_283 : decode cL_law 283 = .ok (.aload_n 1, 1) := by decide +kernel
theorem dL_law_284 : decode cL_law 284 = .ok (.aload_n 0, 1) := by decide +kernel
theorem dL_law_285 : decode cL_law 285 = .ok (.iload_n 3, 1) := by decide +kernel
theorem dL_law_286 : decode cL_law 286 = .ok (.iconst 1, 1) := by decide +kernel
theorem dL_law_287 : decode cL_law 287 = .ok (.iadd, 1) := by decide +kernel
theorem dL_law_288 : decode cL_law 288 = .ok (.iaload, 1) := by decide +kernel
theorem dL_law_289 : decode cL_law 289 = .ok (.aload_n 0, 1) := by decide +kernel
theorem dL_law_290 : decode cL_law 290 = .ok (.iload_n 3, 1) := by decide +kernel
theorem dL_law_291 : decode cL_law 291 = .ok (.iconst 2, 1) := by decide +kernel
theorem dL_law_292 : decode cL_law 292 = .ok (.iadd, 1) := by decide +kernel
theorem dL_law_293 : decode cL_law 293 = .ok (.iaload, 1) := by decide +kernel
theorem dL_law_294 : decode cL_law 294 = .ok (.aload_n 0, 1) := by decide +kernel
theorem dL_law_295 : decode cL_law 295 = .ok (.iload_n 3, 1) := by decide +kernel
theorem dL_law_296 : decode cL_law 296 = .ok (.iconst 3, 1) := by decide +kernel
theorem dL_law_297 : decode cL_law 297 = .ok (.iadd, 1) := by decide +kernel
theorem dL_law_298 : decode cL_law 298 = .ok (.iaload, 1) := by decide +kernel
theorem dL_law_299 : decode cL_law 299 = .ok (.invokevirtual 28, 3) := by decide +kernel
theorem dL_law_302 : decode cL_law 302 = .ok (.aload_n 2, 1) := by decide +kernel
theorem dL_law_303 : decode cL_law 303 = .ok (.aload_n 0, 1) := by decide +kernel
theorem dL_law_304 : decode cL_law 304 = .ok (.iload_n 3, 1) := by decide +kernel
theorem dL_law_305 : decode cL_law 305 = .ok (.iconst 1, 1) := by decide +kernel
theorem dL_law_306 : decode cL_law 306 = .ok (.iadd, 1) := by decide +kernel
theorem dL_law_307 : decode cL_law 307 = .ok (.iaload, 1) := by decide +kernel
theorem dL_law_308 : decode cL_law 308 = .ok (.aload_n 0, 1) := by decide +kernel
theorem dL_law_309 : decode cL_law 309 = .ok (.iload_n 3, 1) := by decide +kernel
theorem dL_law_310 : decode cL_law 310 = .ok (.iconst 2, 1) := by decide +kernel
theorem dL_law_311 : decode cL_law 311 = .ok (.iadd, 1) := by decide +kernel
theorem dL_law_312 : decode cL_law 312 = .ok (.iaload, 1) := by decide +kernel
theorem dL_law_313 : decode cL_law 313 = .ok (.aload_n 0, 1) := by decide +kernel
theorem dL_law_314 : decode cL_law 314 = .ok (.iload_n 3, 1) := by decide +kernel
theorem dL_law_315 : decode cL_law 315 = .ok (.iconst 3, 1) := by decide +kernel
theorem dL_law_316 : decode cL_law 316 = .ok (.iadd, 1) := by decide +kernel
theorem dL_law_317 : decode cL_law 317 = .ok (.iaload, 1) := by decide +kernel
theorem dL_law_318 : decode cL_law 318 = .ok (.invokevirtual 31, 3) := by decide +kernel
theorem dL_law_321 : decode cL_law 321 = .ok (.if_icmp .eq 517, 3) := by decide +kernel
theorem dL_law_324 : decode cL_law 324 = .ok (.iconst 0, 1) := by decide +kernel
theorem dL_law_325 : decode cL_law 325 = .ok (.ireturn, 1) := by decide +kernel
theorem dL_law_326 : decode cL_law 326 = .ok (.aload_n 1, 1) := by decide +kernel
theorem dL_law_327 : decode cL_law 327 = .ok (.aload_n 0, 1) := by decide +kernel
theorem dL_law_328 : decode cL_law 328 = .ok (.iload_n 3, 1) := by decide +kernel
theorem dL_law_329 : decode cL_law 329 = .ok (.iconst 1, 1) := by decide +kernel
theorem dL_law_330 : decode cL_law 330 = .ok (.iadd, 1) := by decide +kernel
theorem dL_law_331 : decode cL_law 331 = .ok (.iaload, 1) := by decide +kernel
theorem dL_law_332 : decode cL_law 332 = .ok (.aload_n 0, 1) := by decide +kernel
theorem dL_law_333 : decode cL_law 333 = .ok (.iload_n 3, 1) := by decide +kernel
theorem dL_law_334 : decode cL_law 334 = .ok (.iconst 2, 1) := by decide +kernel
theorem dL_law_335 : decode cL_law 335 = .ok (.iadd, 1) := by decide +kernel
theorem dL_law_336 : decode cL_law 336 = .ok (.iaload, 1) := by decide +kernel
theorem dL_law_337 : decode cL_law 337 = .ok (.invokevirtual 32, 3) := by decide +kernel
theorem dL_law_340 : decode cL_law 340 = .ok (.aload_n 2, 1) := by decide +kernel
theorem dL_law_341 : decode cL_law 341 = .ok (.aload_n 0, 1) := by decide +kernel
theorem dL_law_342 : decode cL_law 342 = .ok (.iload_n 3, 1) := by decide +kernel
theorem dL_law_343 : decode cL_law 343 = .ok (.iconst 1, 1) := by decide +kernel
theorem dL_law_344 : decode cL_law 344 = .ok (.iadd, 1) := by decide +kernel
theorem dL_law_345 : decode cL_law 345 = .ok (.iaload, 1) := by decide +kernel
theorem dL_law_346 : decode cL_law 346 = .ok (.aload_n 0, 1) := by decide +kernel
theorem dL_law_347 : decode cL_law 347 = .ok (.iload_n 3, 1) := by decide +kernel
theorem dL_law_348 : decode cL_law 348 = .ok (.iconst 2, 1) := by decide +kernel
theorem dL_law_349 : decode cL_law 349 = .ok (.iadd, 1) := by decide +kernel
theorem dL_law_350 : decode cL_law 350 = .ok (.iaload, 1) := by decide +kernel
theorem dL_law_351 : decode cL_law 351 = .ok (.invokevirtual 35, 3) := by decide +kernel
theorem dL_law_354 : decode cL_law 354 = .ok (.if_icmp .eq 484, 3) := by decide +kernel
theorem dL_law_357 : decode cL_law 357 = .ok (.iconst 0, 1) := by decide +kernel
theorem dL_law_358 : decode cL_law 358 = .ok (.ireturn, 1) := by decide +kernel
theorem dL_law_359 : decode cL_law 359 = .ok (.aload_n 1, 1) := by decide +kernel
theorem dL_law_360 : decode cL_law 360 = .ok (.aload_n 0, 1) := by decide +kernel
theorem dL_law_361 : decode cL_law 361 = .ok (.iload_n 3, 1) := by decide +kernel
theorem dL_law_362 : decode cL_law 362 = .ok (.iconst 1, 1) := by decide +kernel
theorem dL_law_363 : decode cL_law 363 = .ok (.iadd, 1) := by decide +kernel
theorem dL_law_364 : decode cL_law 364 = .ok (.iaload, 1) := by decide +kernel
theorem dL_law_365 : decode cL_law 365 = .ok (.invokevirtual 36, 3) := by decide +kernel
theorem dL_law_368 : decode cL_law 368 = .ok (.aload_n 2, 1) := by decide +kernel
theorem dL_law_369 : decode cL_law 369 = .ok (.aload_n 0, 1) := by decide +kernel
theorem dL_law_370 : decode cL_law 370 = .ok (.iload_n 3, 1) := by decide +kernel
theorem dL_law_371 : decode cL_law 371 = .ok (.iconst 1, 1) := by decide +kernel
theorem dL_law_372 : decode cL_law 372 = .ok (.iadd, 1) := by decide +kernel
theorem dL_law_373 : decode cL_law 373 = .ok (.iaload, 1) := by decide +kernel
theorem dL_law_374 : decode cL_law 374 = .ok (.invokevirtual 40, 3) := by decide +kernel
theorem dL_law_377 : decode cL_law 377 = .ok (.if_icmp .eq 461, 3) := by decide +kernel
theorem dL_law_380 : decode cL_law 380 = .ok (.iconst 0, 1) := by decide +kernel
theorem dL_law_381 : decode cL_law 381 = .ok (.ireturn, 1) := by decide +kernel
theorem dL_law_382 : decode cL_law 382 = .ok (.aload_n 1, 1) := by decide +kernel
theorem dL_law_383 : decode cL_law 383 = .ok (.aload_n 0, 1) := by decide +kernel
theorem dL_law_384 : decode cL_law 384 = .ok (.iload_n 3, 1) := by decide +kernel
theorem dL_law_385 : decode cL_law 385 = .ok (.iconst 1, 1) := by decide +kernel
theorem dL_law_386 : decode cL_law 386 = .ok (.iadd, 1) := by decide +kernel
theorem dL_law_387 : decode cL_law 387 = .ok (.iaload, 1) := by decide +kernel
theorem dL_law_388 : decode cL_law 388 = .ok (.i2c, 1) := by decide +kernel
theorem dL_law_389 : decode cL_law 389 = .ok (.invokevirtual 41, 3) := by decide +kernel
theorem dL_law_392 : decode cL_law 392 = .ok (.aload_n 2, 1) := by decide +kernel
theorem dL_law_393 : decode cL_law 393 = .ok (.aload_n 0, 1) := by decide +kernel
theorem dL_law_394 : decode cL_law 394 = .ok (.iload_n 3, 1) := by decide +kernel
theorem dL_law_395 : decode cL_law 395 = .ok (.iconst 1, 1) := by decide +kernel
theorem dL_law_396 : decode cL_law 396 = .ok (.iadd, 1) := by decide +kernel
theorem dL_law_397 : decode cL_law 397 = .ok (.iaload, 1) := by decide +kernel
theorem dL_law_398 : decode cL_law 398 = .ok (.i2c, 1) := by decide +kernel
theorem dL_law_399 : decode cL_law 399 = .ok (.invokevirtual 45, 3) := by decide +kernel
theorem dL_law_402 : decode cL_law 402 = .ok (.if_icmp .eq 436, 3) := by decide +kernel
theorem dL_law_405 : decode cL_law 405 = .ok (.iconst 0, 1) := by decide +kernel
theorem dL_law_406 : decode cL_law 406 = .ok (.ireturn, 1) := by decide +kernel
theorem dL_law_407 : decode cL_law 407 = .ok (.aload_n 1, 1) := by decide +kernel
theorem dL_law_408 : decode cL_law 408 = .ok (.invokevirtual 46, 3) := by decide +kernel
theorem dL_law_411 : decode cL_law 411 = .ok (.aload_n 2, 1) := by decide +kernel
theorem dL_law_412 : decode cL_law 412 = .ok (.invokevirtual 50, 3) := by decide +kernel
theorem dL_law_415 : decode cL_law 415 = .ok (.if_icmp .eq 423, 3) := by decide +kernel
theorem dL_law_418 : decode cL_law 418 = .ok (.iconst 0, 1) := by decide +kernel
theorem dL_law_419 : decode cL_law 419 = .ok (.ireturn, 1) := by decide +kernel
theorem dL_law_420 : decode cL_law 420 = .ok (.aload_n 1, 1) := by decide +kernel
theorem dL_law_421 : decode cL_law 421 = .ok (.invokevirtual 51, 3) := by decide +kernel
theorem dL_law_424 : decode cL_law 424 = .ok (.aload_n 2, 1) := by decide +kernel
theorem dL_law_425 : decode cL_law 425 = .ok (.invokevirtual 54, 3) := by decide +kernel
theorem dL_law_428 : decode cL_law 428 = .ok (.if_icmp .eq 410, 3) := by decide +kernel
theorem dL_law_431 : decode cL_law 431 = .ok (.iconst 0, 1) := by decide +kernel
theorem dL_law_432 : decode cL_law 432 = .ok (.ireturn, 1) := by decide +kernel
theorem dL_law_433 : decode cL_law 433 = .ok (.aload_n 1, 1) := by decide +kernel
theorem dL_law_434 : decode cL_law 434 = .ok (.invokevirtual 55, 3) := by decide +kernel
theorem dL_law_437 : decode cL_law 437 = .ok (.aload_n 2, 1) := by decide +kernel
theorem dL_law_438 : decode cL_law 438 = .ok (.invokevirtual 58, 3) := by decide +kernel
theorem dL_law_441 : decode cL_law 441 = .ok (.if_icmp .eq 397, 3) := by decide +kernel
theorem dL_law_444 : decode cL_law 444 = .ok (.iconst 0, 1) := by decide +kernel
theorem dL_law_445 : decode cL_law 445 = .ok (.ireturn, 1) := by decide +kernel
theorem dL_law_446 : decode cL_law 446 = .ok (.aload_n 1, 1) := by decide +kernel
theorem dL_law_447 : decode cL_law 447 = .ok (.invokevirtual 59, 3) := by decide +kernel
theorem dL_law_450 : decode cL_law 450 = .ok (.aload_n 2, 1) := by decide +kernel
theorem dL_law_451 : decode cL_law 451 = .ok (.invokevirtual 62, 3) := by decide +kernel
theorem dL_law_454 : decode cL_law 454 = .ok (.if_icmp .eq 384, 3) := by decide +kernel
theorem dL_law_457 : decode cL_law 457 = .ok (.iconst 0, 1) := by decide +kernel
theorem dL_law_458 : decode cL_law 458 = .ok (.ireturn, 1) := by decide +kernel
theorem dL_law_459 : decode cL_law 459 = .ok (.aload_n 1, 1) := by decide +kernel
theorem dL_law_460 : decode cL_law 460 = .ok (.invokevirtual 63, 3) := by decide +kernel
theorem dL_law_463 : decode cL_law 463 = .ok (.aload_n 2, 1) := by decide +kernel
theorem dL_law_464 : decode cL_law 464 = .ok (.invokevirtual 66, 3) := by decide +kernel
theorem dL_law_467 : decode cL_law 467 = .ok (.if_icmp .eq 371, 3) := by decide +kernel
theorem dL_law_470 : decode cL_law 470 = .ok (.iconst 0, 1) := by decide +kernel
theorem dL_law_471 : decode cL_law 471 = .ok (.ireturn, 1) := by decide +kernel
theorem dL_law_472 : decode cL_law 472 = .ok (.aload_n 1, 1) := by decide +kernel
theorem dL_law_473 : decode cL_law 473 = .ok (.aload_n 0, 1) := by decide +kernel
theorem dL_law_474 : decode cL_law 474 = .ok (.iload_n 3, 1) := by decide +kernel
theorem dL_law_475 : decode cL_law 475 = .ok (.iconst 1, 1) := by decide +kernel
theorem dL_law_476 : decode cL_law 476 = .ok (.iadd, 1) := by decide +kernel
theorem dL_law_477 : decode cL_law 477 = .ok (.iaload, 1) := by decide +kernel
theorem dL_law_478 : decode cL_law 478 = .ok (.aload_n 0, 1) := by decide +kernel
theorem dL_law_479 : decode cL_law 479 = .ok (.iload_n 3, 1) := by decide +kernel
theorem dL_law_480 : decode cL_law 480 = .ok (.iconst 2, 1) := by decide +kernel
theorem dL_law_481 : decode cL_law 481 = .ok (.iadd, 1) := by decide +kernel
theorem dL_law_482 : decode cL_law 482 = .ok (.iaload, 1) := by decide +kernel
theorem dL_law_483 : decode cL_law 483 = .ok (.invokevirtual 67, 3) := by decide +kernel
theorem dL_law_486 : decode cL_law 486 = .ok (.aload_n 2, 1) := by decide +kernel
theorem dL_law_487 : decode cL_law 487 = .ok (.aload_n 0, 1) := by decide +kernel
theorem dL_law_488 : decode cL_law 488 = .ok (.iload_n 3, 1) := by decide +kernel
theorem dL_law_489 : decode cL_law 489 = .ok (.iconst 1, 1) := by decide +kernel
theorem dL_law_490 : decode cL_law 490 = .ok (.iadd, 1) := by decide +kernel
theorem dL_law_491 : decode cL_law 491 = .ok (.iaload, 1) := by decide +kernel
theorem dL_law_492 : decode cL_law 492 = .ok (.aload_n 0, 1) := by decide +kernel
theorem dL_law_493 : decode cL_law 493 = .ok (.iload_n 3, 1) := by decide +kernel
theorem dL_law_494 : decode cL_law 494 = .ok (.iconst 2, 1) := by decide +kernel
theorem dL_law_495 : decode cL_law 495 = .ok (.iadd, 1) := by decide +kernel
theorem dL_law_496 : decode cL_law 496 = .ok (.iaload, 1) := by decide +kernel
theorem dL_law_497 : decode cL_law 497 = .ok (.invokevirtual 70, 3) := by decide +kernel
theorem dL_law_500 : decode cL_law 500 = .ok (.if_icmp .eq 338, 3) := by decide +kernel
theorem dL_law_503 : decode cL_law 503 = .ok (.iconst 0, 1) := by decide +kernel
theorem dL_law_504 : decode cL_law 504 = .ok (.ireturn, 1) := by decide +kernel
theorem dL_law_505 : decode cL_law 505 = .ok (.aload_n 1, 1) := by decide +kernel
theorem dL_law_506 : decode cL_law 506 = .ok (.aload_n 0, 1) := by decide +kernel
theorem dL_law_507 : decode cL_law 507 = .ok (.iload_n 3, 1) := by decide +kernel
theorem dL_law_508 : decode cL_law 508 = .ok (.iconst 1, 1) := by decide +kernel
theorem dL_law_509 : decode cL_law 509 = .ok (.iadd, 1) := by decide +kernel
theorem dL_law_510 : decode cL_law 510 = .ok (.iaload, 1) := by decide +kernel
theorem dL_law_511 : decode cL_law 511 = .ok (.aload_n 0, 1) := by decide +kernel
theorem dL_law_512 : decode cL_law 512 = .ok (.iload_n 3, 1) := by decide +kernel
theorem dL_law_513 : decode cL_law 513 = .ok (.iconst 2, 1) := by decide +kernel
theorem dL_law_514 : decode cL_law 514 = .ok (.iadd, 1) := by decide +kernel
theorem dL_law_515 : decode cL_law 515 = .ok (.iaload, 1) := by decide +kernel
theorem dL_law_516 : decode cL_law 516 = .ok (.invokevirtual 71, 3) := by decide +kernel
theorem dL_law_519 : decode cL_law 519 = .ok (.aload_n 2, 1) := by decide +kernel
theorem dL_law_520 : decode cL_law 520 = .ok (.aload_n 0, 1) := by decide +kernel
theorem dL_law_521 : decode cL_law 521 = .ok (.iload_n 3, 1) := by decide +kernel
theorem dL_law_522 : decode cL_law 522 = .ok (.iconst 1, 1) := by decide +kernel
theorem dL_law_523 : decode cL_law 523 = .ok (.iadd, 1) := by decide +kernel
theorem dL_law_524 : decode cL_law 524 = .ok (.iaload, 1) := by decide +kernel
theorem dL_law_525 : decode cL_law 525 = .ok (.aload_n 0, 1) := by decide +kernel
theorem dL_law_526 : decode cL_law 526 = .ok (.iload_n 3, 1) := by decide +kernel
theorem dL_law_527 : decode cL_law 527 = .ok (.iconst 2, 1) := by decide +kernel
theorem dL_law_528 : decode cL_law 528 = .ok (.iadd, 1) := by decide +kernel
theorem dL_law_529 : decode cL_law 529 = .ok (.iaload, 1) := by decide +kernel
theorem dL_law_530 : decode cL_law 530 = .ok (.invokevirtual 74, 3) := by decide +kernel
theorem dL_law_533 : decode cL_law 533 = .ok (.if_icmp .eq 305, 3) := by decide +kernel
theorem dL_law_536 : decode cL_law 536 = .ok (.iconst 0, 1) := by decide +kernel
theorem dL_law_537 : decode cL_law 537 = .ok (.ireturn, 1) := by decide +kernel
theorem dL_law_538 : decode cL_law 538 = .ok (.aload_n 1, 1) := by decide +kernel
theorem dL_law_539 : decode cL_law 539 = .ok (.aload_n 0, 1) := by decide +kernel
theorem dL_law_540 : decode cL_law 540 = .ok (.iload_n 3, 1) := by decide +kernel
theorem dL_law_541 : decode cL_law 541 = .ok (.iconst 1, 1) := by decide +kernel
theorem dL_law_542 : decode cL_law 542 = .ok (.iadd, 1) := by decide +kernel
theorem dL_law_543 : decode cL_law 543 = .ok (.iaload, 1) := by decide +kernel
theorem dL_law_544 : decode cL_law 544 = .ok (.aload_n 0, 1) := by decide +kernel
theorem dL_law_545 : decode cL_law 545 = .ok (.iload_n 3, 1) := by decide +kernel
theorem dL_law_546 : decode cL_law 546 = .ok (.iconst 2, 1) := by decide +kernel
theorem dL_law_547 : decode cL_law 547 = .ok (.iadd, 1) := by decide +kernel
theorem dL_law_548 : decode cL_law 548 = .ok (.iaload, 1) := by decide +kernel
theorem dL_law_549 : decode cL_law 549 = .ok (.aload_n 0, 1) := by decide +kernel
theorem dL_law_550 : decode cL_law 550 = .ok (.iload_n 3, 1) := by decide +kernel
theorem dL_law_551 : decode cL_law 551 = .ok (.iconst 3, 1) := by decide +kernel
theorem dL_law_552 : decode cL_law 552 = .ok (.iadd, 1) := by decide +kernel
theorem dL_law_553 : decode cL_law 553 = .ok (.iaload, 1) := by decide +kernel
theorem dL_law_554 : decode cL_law 554 = .ok (.invokevirtual 75, 3) := by decide +kernel
theorem dL_law_557 : decode cL_law 557 = .ok (.aload_n 2, 1) := by decide +kernel
theorem dL_law_558 : decode cL_law 558 = .ok (.aload_n 0, 1) := by decide +kernel
theorem dL_law_559 : decode cL_law 559 = .ok (.iload_n 3, 1) := by decide +kernel
theorem dL_law_560 : decode cL_law 560 = .ok (.iconst 1, 1) := by decide +kernel
theorem dL_law_561 : decode cL_law 561 = .ok (.iadd, 1) := by decide +kernel
theorem dL_law_562 : decode cL_law 562 = .ok (.iaload, 1) := by decide +kernel
theorem dL_law_563 : decode cL_law 563 = .ok (.aload_n 0, 1) := by decide +kernel
theorem dL_law_564 : decode cL_law 564 = .ok (.iload_n 3, 1) := by decide +kernel
theorem dL_law_565 : decode cL_law 565 = .ok (.iconst 2, 1) := by decide +kernel
theorem dL_law_566 : decode cL_law 566 = .ok (.iadd, 1) := by decide +kernel
theorem dL_law_567 : decode cL_law 567 = .ok (.iaload, 1) := by decide +kernel
theorem dL_law_568 : decode cL_law 568 = .ok (.aload_n 0, 1) := by decide +kernel
theorem dL_law_569 : decode cL_law 569 = .ok (.iload_n 3, 1) := by decide +kernel
theorem dL_law_570 : decode cL_law 570 = .ok (.iconst 3, 1) := by decide +kernel
theorem dL_law_571 : decode cL_law 571 = .ok (.iadd, 1) := by decide +kernel
theorem dL_law_572 : decode cL_law 572 = .ok (.iaload, 1) := by decide +kernel
theorem dL_law_573 : decode cL_law 573 = .ok (.invokevirtual 78, 3) := by decide +kernel
theorem dL_law_576 : decode cL_law 576 = .ok (.if_icmp .eq 262, 3) := by decide +kernel
theorem dL_law_579 : decode cL_law 579 = .ok (.iconst 0, 1) := by decide +kernel
theorem dL_law_580 : decode cL_law 580 = .ok (.ireturn, 1) := by decide +kernel
theorem dL_law_581 : decode cL_law 581 = .ok (.aload_n 1, 1) := by decide +kernel
theorem dL_law_582 : decode cL_law 582 = .ok (.aload_n 0, 1) := by decide +kernel
theorem dL_law_583 : decode cL_law 583 = .ok (.iload_n 3, 1) := by decide +kernel
theorem dL_law_584 : decode cL_law 584 = .ok (.iconst 1, 1) := by decide +kernel
theorem dL_law_585 : decode cL_law 585 = .ok (.iadd, 1) := by decide +kernel
theorem dL_law_586 : decode cL_law 586 = .ok (.iaload, 1) := by decide +kernel
theorem dL_law_587 : decode cL_law 587 = .ok (.aload_n 0, 1) := by decide +kernel
theorem dL_law_588 : decode cL_law 588 = .ok (.iload_n 3, 1) := by decide +kernel
theorem dL_law_589 : decode cL_law 589 = .ok (.iconst 2, 1) := by decide +kernel
theorem dL_law_590 : decode cL_law 590 = .ok (.iadd, 1) := by decide +kernel
theorem dL_law_591 : decode cL_law 591 = .ok (.iaload, 1) := by decide +kernel
theorem dL_law_592 : decode cL_law 592 = .ok (.invokevirtual 79, 3) := by decide +kernel
theorem dL_law_595 : decode cL_law 595 = .ok (.aload_n 2, 1) := by decide +kernel
theorem dL_law_596 : decode cL_law 596 = .ok (.aload_n 0, 1) := by decide +kernel
theorem dL_law_597 : decode cL_law 597 = .ok (.iload_n 3, 1) := by decide +kernel
theorem dL_law_598 : decode cL_law 598 = .ok (.iconst 1, 1) := by decide +kernel
theorem dL_law_599 : decode cL_law 599 = .ok (.iadd, 1) := by decide +kernel
theorem dL_law_600 : decode cL_law 600 = .ok (.iaload, 1) := by decide +kernel
theorem dL_law_601 : decode cL_law 601 = .ok (.aload_n 0, 1) := by decide +kernel
theorem dL_law_602 : decode cL_law 602 = .ok (.iload_n 3, 1) := by decide +kernel
theorem dL_law_603 : decode cL_law 603 = .ok (.iconst 2, 1) := by decide +kernel
theorem dL_law_604 : decode cL_law 604 = .ok (.iadd, 1) := by decide +kernel
theorem dL_law_605 : decode cL_law 605 = .ok (.iaload, 1) := by decide +kernel
theorem dL_law_606 : decode cL_law 606 = .ok (.invokevirtual 82, 3) := by decide +kernel
theorem dL_law_609 : decode cL_law 609 = .ok (.if_icmp .eq 229, 3) := by decide +kernel
theorem dL_law_612 : decode cL_law 612 = .ok (.iconst 0, 1) := by decide +kernel
theorem dL_law_613 : decode cL_law 613 = .ok (.ireturn, 1) := by decide +kernel
theorem dL_law_614 : decode cL_law 614 = .ok (.aload_n 1, 1) := by decide +kernel
theorem dL_law_615 : decode cL_law 615 = .ok (.aload_n 0, 1) := by decide +kernel
theorem dL_law_616 : decode cL_law 616 = .ok (.iload_n 3, 1) := by decide +kernel
theorem dL_law_617 : decode cL_law 617 = .ok (.iconst 1, 1) := by decide +kernel
theorem dL_law_618 : decode cL_law 618 = .ok (.iadd, 1) := by decide +kernel
theorem dL_law_619 : decode cL_law 619 = .ok (.iaload, 1) := by decide +kernel
theorem dL_law_620 : decode cL_law 620 = .ok (.aload_n 0, 1) := by decide +kernel
theorem dL_law_621 : decode cL_law 621 = .ok (.iload_n 3, 1) := by decide +kernel
theorem dL_law_622 : decode cL_law 622 = .ok (.iconst 2, 1) := by decide +kernel
theorem dL_law_623 : decode cL_law 623 = .ok (.iadd, 1) := by decide +kernel
theorem dL_law_624 : decode cL_law 624 = .ok (.iaload, 1) := by decide +kernel
theorem dL_law_625 : decode cL_law 625 = .ok (.aload_n 0, 1) := by decide +kernel
theorem dL_law_626 : decode cL_law 626 = .ok (.iload_n 3, 1) := by decide +kernel
theorem dL_law_627 : decode cL_law 627 = .ok (.iconst 3, 1) := by decide +kernel
theorem dL_law_628 : decode cL_law 628 = .ok (.iadd, 1) := by decide +kernel
theorem dL_law_629 : decode cL_law 629 = .ok (.iaload, 1) := by decide +kernel
theorem dL_law_630 : decode cL_law 630 = .ok (.invokevirtual 83, 3) := by decide +kernel
theorem dL_law_633 : decode cL_law 633 = .ok (.aload_n 2, 1) := by decide +kernel
theorem dL_law_634 : decode cL_law 634 = .ok (.aload_n 0, 1) := by decide +kernel
theorem dL_law_635 : decode cL_law 635 = .ok (.iload_n 3, 1) := by decide +kernel
theorem dL_law_636 : decode cL_law 636 = .ok (.iconst 1, 1) := by decide +kernel
theorem dL_law_637 : decode cL_law 637 = .ok (.iadd, 1) := by decide +kernel
theorem dL_law_638 : decode cL_law 638 = .ok (.iaload, 1) := by decide +kernel
theorem dL_law_639 : decode cL_law 639 = .ok (.aload_n 0, 1) := by decide +kernel
theorem dL_law_640 : decode cL_law 640 = .ok (.iload_n 3, 1) := by decide +kernel
theorem dL_law_641 : decode cL_law 641 = .ok (.iconst 2, 1) := by decide +kernel
theorem dL_law_642 : decode cL_law 642 = .ok (.iadd, 1) := by decide +kernel
theorem dL_law_643 : decode cL_law 643 = .ok (.iaload, 1) := by decide +kernel
theorem dL_law_644 : decode cL_law 644 = .ok (.aload_n 0, 1) := by decide +kernel
theorem dL_law_645 : decode cL_law 645 = .ok (.iload_n 3, 1) := by decide +kernel
theorem dL_law_646 : decode cL_law 646 = .ok (.iconst 3, 1) := by decide +kernel
theorem dL_law_647 : decode cL_law 647 = .ok (.iadd, 1) := by decide +kernel
theorem dL_law_648 : decode cL_law 648 = .ok (.iaload, 1) := by decide +kernel
theorem dL_law_649 : decode cL_law 649 = .ok (.invokevirtual 86, 3) := by decide +kernel
theorem dL_law_652 : decode cL_law 652 = .ok (.if_icmp .eq 186, 3) := by decide +kernel
theorem dL_law_655 : decode cL_law 655 = .ok (.iconst 0, 1) := by decide +kernel
theorem dL_law_656 : decode cL_law 656 = .ok (.ireturn, 1) := by decide +kernel
theorem dL_law_657 : decode cL_law 657 = .ok (.aload_n 1, 1) := by decide +kernel
theorem dL_law_658 : decode cL_law 658 = .ok (.aload_n 0, 1) := by decide +kernel
theorem dL_law_659 : decode cL_law 659 = .ok (.iload_n 3, 1) := by decide +kernel
theorem dL_law_660 : decode cL_law 660 = .ok (.iconst 1, 1) := by decide +kernel
theorem dL_law_661 : decode cL_law 661 = .ok (.iadd, 1) := by decide +kernel
theorem dL_law_662 : decode cL_law 662 = .ok (.iaload, 1) := by decide +kernel
theorem dL_law_663 : decode cL_law 663 = .ok (.aload_n 0, 1) := by decide +kernel
theorem dL_law_664 : decode cL_law 664 = .ok (.iload_n 3, 1) := by decide +kernel
theorem dL_law_665 : decode cL_law 665 = .ok (.iconst 2, 1) := by decide +kernel
theorem dL_law_666 : decode cL_law 666 = .ok (.iadd, 1) := by decide +kernel
theorem dL_law_667 : decode cL_law 667 = .ok (.iaload, 1) := by decide +kernel
theorem dL_law_668 : decode cL_law 668 = .ok (.aload_n 0, 1) := by decide +kernel
theorem dL_law_669 : decode cL_law 669 = .ok (.iload_n 3, 1) := by decide +kernel
theorem dL_law_670 : decode cL_law 670 = .ok (.iconst 3, 1) := by decide +kernel
theorem dL_law_671 : decode cL_law 671 = .ok (.iadd, 1) := by decide +kernel
theorem dL_law_672 : decode cL_law 672 = .ok (.iaload, 1) := by decide +kernel
theorem dL_law_673 : decode cL_law 673 = .ok (.invokevirtual 87, 3) := by decide +kernel
theorem dL_law_676 : decode cL_law 676 = .ok (.aload_n 2, 1) := by decide +kernel
theorem dL_law_677 : decode cL_law 677 = .ok (.aload_n 0, 1) := by decide +kernel
theorem dL_law_678 : decode cL_law 678 = .ok (.iload_n 3, 1) := by decide +kernel
theorem dL_law_679 : decode cL_law 679 = .ok (.iconst 1, 1) := by decide +kernel
theorem dL_law_680 : decode cL_law 680 = .ok (.iadd, 1) := by decide +kernel
theorem dL_law_681 : decode cL_law 681 = .ok (.iaload, 1) := by decide +kernel
theorem dL_law_682 : decode cL_law 682 = .ok (.aload_n 0, 1) := by decide +kernel
theorem dL_law_683 : decode cL_law 683 = .ok (.iload_n 3, 1) := by decide +kernel
theorem dL_law_684 : decode cL_law 684 = .ok (.iconst 2, 1) := by decide +kernel
theorem dL_law_685 : decode cL_law 685 = .ok (.iadd, 1) := by decide +kernel
theorem dL_law_686 : decode cL_law 686 = .ok (.iaload, 1) := by decide +kernel
theorem dL_law_687 : decode cL_law 687 = .ok (.aload_n 0, 1) := by decide +kernel
theorem dL_law_688 : decode cL_law 688 = .ok (.iload_n 3, 1) := by decide +kernel
theorem dL_law_689 : decode cL_law 689 = .ok (.iconst 3, 1) := by decide +kernel
theorem dL_law_690 : decode cL_law 690 = .ok (.iadd, 1) := by decide +kernel
theorem dL_law_691 : decode cL_law 691 = .ok (.iaload, 1) := by decide +kernel
theorem dL_law_692 : decode cL_law 692 = .ok (.invokevirtual 90, 3) := by decide +kernel
theorem dL_law_695 : decode cL_law 695 = .ok (.if_icmp .eq 143, 3) := by decide +kernel
theorem dL_law_698 : decode cL_law 698 = .ok (.iconst 0, 1) := by decide +kernel
theorem dL_law_699 : decode cL_law 699 = .ok (.ireturn, 1) := by decide +kernel
theorem dL_law_700 : decode cL_law 700 = .ok (.aload_n 1, 1) := by decide +kernel
theorem dL_law_701 : decode cL_law 701 = .ok (.aload_n 0, 1) := by decide +kernel
theorem dL_law_702 : decode cL_law 702 = .ok (.iload_n 3, 1) := by decide +kernel
theorem dL_law_703 : decode cL_law 703 = .ok (.iconst 1, 1) := by decide +kernel
theorem dL_law_704 : decode cL_law 704 = .ok (.iadd, 1) := by decide +kernel
theorem dL_law_705 : decode cL_law 705 = .ok (.iaload, 1) := by decide +kernel
theorem dL_law_706 : decode cL_law 706 = .ok (.aload_n 0, 1) := by decide +kernel
theorem dL_law_707 : decode cL_law 707 = .ok (.iload_n 3, 1) := by decide +kernel
theorem dL_law_708 : decode cL_law 708 = .ok (.iconst 2, 1) := by decide +kernel
theorem dL_law_709 : decode cL_law 709 = .ok (.iadd, 1) := by decide +kernel
theorem dL_law_710 : decode cL_law 710 = .ok (.iaload, 1) := by decide +kernel
theorem dL_law_711 : decode cL_law 711 = .ok (.invokevirtual 91, 3) := by decide +kernel
theorem dL_law_714 : decode cL_law 714 = .ok (.aload_n 2, 1) := by decide +kernel
theorem dL_law_715 : decode cL_law 715 = .ok (.aload_n 0, 1) := by decide +kernel
theorem dL_law_716 : decode cL_law 716 = .ok (.iload_n 3, 1) := by decide +kernel
theorem dL_law_717 : decode cL_law 717 = .ok (.iconst 1, 1) := by decide +kernel
theorem dL_law_718 : decode cL_law 718 = .ok (.iadd, 1) := by decide +kernel
theorem dL_law_719 : decode cL_law 719 = .ok (.iaload, 1) := by decide +kernel
theorem dL_law_720 : decode cL_law 720 = .ok (.aload_n 0, 1) := by decide +kernel
theorem dL_law_721 : decode cL_law 721 = .ok (.iload_n 3, 1) := by decide +kernel
theorem dL_law_722 : decode cL_law 722 = .ok (.iconst 2, 1) := by decide +kernel
theorem dL_law_723 : decode cL_law 723 = .ok (.iadd, 1) := by decide +kernel
theorem dL_law_724 : decode cL_law 724 = .ok (.iaload, 1) := by decide +kernel
theorem dL_law_725 : decode cL_law 725 = .ok (.invokevirtual 94, 3) := by decide +kernel
theorem dL_law_728 : decode cL_law 728 = .ok (.if_icmp .eq 110, 3) := by decide +kernel
theorem dL_law_731 : decode cL_law 731 = .ok (.iconst 0, 1) := by decide +kernel
theorem dL_law_732 : decode cL_law 732 = .ok (.ireturn, 1) := by decide +kernel
theorem dL_law_733 : decode cL_law 733 = .ok (.aload_n 1, 1) := by decide +kernel
theorem dL_law_734 : decode cL_law 734 = .ok (.aload_n 0, 1) := by decide +kernel
theorem dL_law_735 : decode cL_law 735 = .ok (.iload_n 3, 1) := by decide +kernel
theorem dL_law_736 : decode cL_law 736 = .ok (.iconst 1, 1) := by decide +kernel
theorem dL_law_737 : decode cL_law 737 = .ok (.iadd, 1) := by decide +kernel
theorem dL_law_738 : decode cL_law 738 = .ok (.iaload, 1) := by decide +kernel
theorem dL_law_739 : decode cL_law 739 = .ok (.aload_n 0, 1) := by decide +kernel
theorem dL_law_740 : decode cL_law 740 = .ok (.iload_n 3, 1) := by decide +kernel
theorem dL_law_741 : decode cL_law 741 = .ok (.iconst 2, 1) := by decide +kernel
theorem dL_law_742 : decode cL_law 742 = .ok (.iadd, 1) := by decide +kernel
theorem dL_law_743 : decode cL_law 743 = .ok (.iaload, 1) := by decide +kernel
theorem dL_law_744 : decode cL_law 744 = .ok (.invokevirtual 95, 3) := by decide +kernel
theorem dL_law_747 : decode cL_law 747 = .ok (.aload_n 2, 1) := by decide +kernel
theorem dL_law_748 : decode cL_law 748 = .ok (.aload_n 0, 1) := by decide +kernel
theorem dL_law_749 : decode cL_law 749 = .ok (.iload_n 3, 1) := by decide +kernel
theorem dL_law_750 : decode cL_law 750 = .ok (.iconst 1, 1) := by decide +kernel
theorem dL_law_751 : decode cL_law 751 = .ok (.iadd, 1) := by decide +kernel
theorem dL_law_752 : decode cL_law 752 = .ok (.iaload, 1) := by decide +kernel
theorem dL_law_753 : decode cL_law 753 = .ok (.aload_n 0, 1) := by decide +kernel
theorem dL_law_754 : decode cL_law 754 = .ok (.iload_n 3, 1) := by decide +kernel
theorem dL_law_755 : decode cL_law 755 = .ok (.iconst 2, 1) := by decide +kernel
theorem dL_law_756 : decode cL_law 756 = .ok (.iadd, 1) := by decide +kernel
theorem dL_law_757 : decode cL_law 757 = .ok (.iaload, 1) := by decide +kernel
theorem dL_law_758 : decode cL_law 758 = .ok (.invokevirtual 98, 3) := by decide +kernel
theorem dL_law_761 : decode cL_law 761 = .ok (.if_icmp .eq 77, 3) := by decide +kernel
theorem dL_law_764 : decode cL_law 764 = .ok (.iconst 0, 1) := by decide +kernel
theorem dL_law_765 : decode cL_law 765 = .ok (.ireturn, 1) := by decide +kernel
theorem dL_law_766 : decode cL_law 766 = .ok (.aload_n 1, 1) := by decide +kernel
theorem dL_law_767 : decode cL_law 767 = .ok (.invokevirtual 99, 3) := by decide +kernel
theorem dL_law_770 : decode cL_law 770 = .ok (.aload_n 2, 1) := by decide +kernel
theorem dL_law_771 : decode cL_law 771 = .ok (.invokevirtual 102, 3) := by decide +kernel
theorem dL_law_774 : decode cL_law 774 = .ok (.if_icmp .eq 64, 3) := by decide +kernel
theorem dL_law_777 : decode cL_law 777 = .ok (.iconst 0, 1) := by decide +kernel
theorem dL_law_778 : decode cL_law 778 = .ok (.ireturn, 1) := by decide +kernel
theorem dL_law_779 : decode cL_law 779 = .ok (.aload_n 1, 1) := by decide +kernel
theorem dL_law_780 : decode cL_law 780 = .ok (.aload_n 0, 1) := by decide +kernel
theorem dL_law_781 : decode cL_law 781 = .ok (.iload_n 3, 1) := by decide +kernel
theorem dL_law_782 : decode cL_law 782 = .ok (.iconst 1, 1) := by decide +kernel
theorem dL_law_783 : decode cL_law 783 = .ok (.iadd, 1) := by decide +kernel
theorem dL_law_784 : decode cL_law 784 = .ok (.iaload, 1) := by decide +kernel
theorem dL_law_785 : decode cL_law 785 = .ok (.invokevirtual 103, 3) := by decide +kernel
theorem dL_law_788 : decode cL_law 788 = .ok (.aload_n 2, 1) := by decide +kernel
theorem dL_law_789 : decode cL_law 789 = .ok (.aload_n 0, 1) := by decide +kernel
theorem dL_law_790 : decode cL_law 790 = .ok (.iload_n 3, 1) := by decide +kernel
theorem dL_law_791 : decode cL_law 791 = .ok (.iconst 1, 1) := by decide +kernel
theorem dL_law_792 : decode cL_law 792 = .ok (.iadd, 1) := by decide +kernel
theorem dL_law_793 : decode cL_law 793 = .ok (.iaload, 1) := by decide +kernel
theorem dL_law_794 : decode cL_law 794 = .ok (.invokevirtual 106, 3) := by decide +kernel
theorem dL_law_797 : decode cL_law 797 = .ok (.if_icmp .eq 41, 3) := by decide +kernel
theorem dL_law_800 : decode cL_law 800 = .ok (.iconst 0, 1) := by decide +kernel
theorem dL_law_801 : decode cL_law 801 = .ok (.ireturn, 1) := by decide +kernel
theorem dL_law_802 : decode cL_law 802 = .ok (.aload_n 1, 1) := by decide +kernel
theorem dL_law_803 : decode cL_law 803 = .ok (.invokevirtual 107, 3) := by decide +kernel
theorem dL_law_806 : decode cL_law 806 = .ok (.aload_n 2, 1) := by decide +kernel
theorem dL_law_807 : decode cL_law 807 = .ok (.invokevirtual 110, 3) := by decide +kernel
theorem dL_law_810 : decode cL_law 810 = .ok (.if_icmp .eq 28, 3) := by decide +kernel
theorem dL_law_813 : decode cL_law 813 = .ok (.iconst 0, 1) := by decide +kernel
theorem dL_law_814 : decode cL_law 814 = .ok (.ireturn, 1) := by decide +kernel
theorem dL_law_815 : decode cL_law 815 = .ok (.aload_n 1, 1) := by decide +kernel
theorem dL_law_816 : decode cL_law 816 = .ok (.aload_n 0, 1) := by decide +kernel
theorem dL_law_817 : decode cL_law 817 = .ok (.iload_n 3, 1) := by decide +kernel
theorem dL_law_818 : decode cL_law 818 = .ok (.iconst 1, 1) := by decide +kernel
theorem dL_law_819 : decode cL_law 819 = .ok (.iadd, 1) := by decide +kernel
theorem dL_law_820 : decode cL_law 820 = .ok (.iaload, 1) := by decide +kernel
theorem dL_law_821 : decode cL_law 821 = .ok (.invokevirtual 111, 3) := by decide +kernel
theorem dL_law_824 : decode cL_law 824 = .ok (.aload_n 2, 1) := by decide +kernel
theorem dL_law_825 : decode cL_law 825 = .ok (.aload_n 0, 1) := by decide +kernel
theorem dL_law_826 : decode cL_law 826 = .ok (.iload_n 3, 1) := by decide +kernel
theorem dL_law_827 : decode cL_law 827 = .ok (.iconst 1, 1) := by decide +kernel
theorem dL_law_828 : decode cL_law 828 = .ok (.iadd, 1) := by decide +kernel
theorem dL_law_829 : decode cL_law 829 = .ok (.iaload, 1) := by decide +kernel
theorem dL_law_830 : decode cL_law 830 = .ok (.invokevirtual 114, 3) := by decide +kernel
theorem dL_law_833 : decode cL_law 833 = .ok (.if_icmp .eq 5, 3) := by decide +kernel
theorem dL_law_836 : decode cL_law 836 = .ok (.iconst 0, 1) := by decide +kernel
theorem dL_law_837 : decode cL_law 837 = .ok (.ireturn, 1) := by decide +kernel
theorem dL_law_838 : decode cL_law 838 = .ok (.iinc 3 6, 3) := by decide +kernel
theorem dL_law_841 : decode cL_law 841 = .ok (.goto (-823), 3) := by decide +kernel
theorem dL_law_844 : decode cL_law 844 = .ok (.iconst 1, 1) := by decide +kernel
theorem dL_law_845 : decode cL_law 845 = .ok (.ireturn, 1) := by decide +kernel
end
section
/-! THE SMALL MACHINE: one fixed world of cells (Lay), ints and references to them; x a j is what cell a holds at place j -/
abbrev AV : Type := Int32 ⊕ Nat
abbrev XX : Type := Nat → Nat → Int32
abbrev LE : Type := (Nat × List Nat) ⊕ (Nat × Nat)
abbrev GG : Type := (Nat → Nat) × va_G × (Nat → ClassId)
abbrev MM : Type := MethodName × ByteArray × Nat × Option FieldType
/-- the cells: objects (class, its fields: 0 an int, 1 a boolean, r + 2 the cell r) and arrays (0 of ints, 1 of chars, 2 of books; length) -/
def Lay : List LE := [
  .inl (5, [3, 16, 30, 1, 100, 0, 5, 6, 4]),
  .inl (2, [16, 20, 101, 102]),
  .inl (3, [103, 104, 105]),
  .inl (4, [106, 0, 0, 0, 0, 0]),

  .inl (1, [0, 7, 8, 9, 10, 11, 12, 13, 14, 15]), .inr (0, 30), .inr (0, 30), .inr (0, 30), .inr (0, 30), .inr (0, 30), .inr (0, 30), .inr (0, 30), .inr (0, 90), .inr (0, 90),
  .inl (0, [0, 17, 18, 19, 20]), .inr (0, 6), .inr (0, 6), .inr (0, 6),
  .inl (1, [0, 21, 22, 23, 24, 25, 26, 27, 28, 29]), .inr (0, 30), .inr (0, 30), .inr (0, 30), .inr (0, 30), .inr (0, 30), .inr (0, 30), .inr (0, 30), .inr (0, 90), .inr (0, 90),
  .inl (0, [0, 31, 32, 33, 34]), .inr (0, 6), .inr (0, 6), .inr (0, 6),
  .inl (1, [0, 35, 36, 37, 38, 39, 40, 41, 42, 43]), .inr (0, 30), .inr (0, 30), .inr (0, 30), .inr (0, 30), .inr (0, 30), .inr (0, 30), .inr (0, 30), .inr (0, 90), .inr (0, 90),
  .inl (0, [0, 45, 46, 47, 48]), .inr (0, 6), .inr (0, 6), .inr (0, 6),
  .inl (1, [0, 49, 50, 51, 52, 53, 54, 55, 56, 57]), .inr (0, 30), .inr (0, 30), .inr (0, 30), .inr (0, 30), .inr (0, 30), .inr (0, 30), .inr (0, 30), .inr (0, 90), .inr (0, 90),
  .inl (0, [0, 59, 60, 61, 62]), .inr (0, 6), .inr (0, 6), .inr (0, 6),
  .inl (1, [0, 63, 64, 65, 66, 67, 68, 69, 70, 71]), .inr (0, 30), .inr (0, 30), .inr (0, 30), .inr (0, 30), .inr (0, 30), .inr (0, 30), .inr (0, 30), .inr (0, 90), .inr (0, 90),
  .inl (0, [0, 73, 74, 75, 76]), .inr (0, 6), .inr (0, 6), .inr (0, 6),
  .inl (1, [0, 77, 78, 79, 80, 81, 82, 83, 84, 85]), .inr (0, 30), .inr (0, 30), .inr (0, 30), .inr (0, 30), .inr (0, 30), .inr (0, 30), .inr (0, 30), .inr (0, 90), .inr (0, 90),
  .inl (0, [0, 87, 88, 89, 90]), .inr (0, 6), .inr (0, 6), .inr (0, 6),
  .inl (1, [0, 91, 92, 93, 94, 95, 96, 97, 98, 99]), .inr (0, 30), .inr (0, 30), .inr (0, 30), .inr (0, 30), .inr (0, 30), .inr (0, 30), .inr (0, 30), .inr (0, 90), .inr (0, 90),
  .inr (2, 4), .inr (0, 6), .inr (0, 30), .inr (0, 100), .inr (0, 100), .inr (0, 30), .inr (1, 80),
  .inl (6, [108, 109, 0, 110, 1, 111, 0, 112, 113, 0, 1, 1, 0, 0]), .inr (0, 410), .inr (0, 1640), .inr (0, 410), .inr (0, 80), .inr (0, 100), .inr (0, 100)]

def cv (ad : Nat → Nat) : AV → Value
  | .inl v => .int v
  | .inr k => .ref (ad k)
def cf (ad : Nat → Nat) (v : Int32) : Nat → Value
  | 0 => .int v
  | 1 => .int v
  | r + 2 => .ref (ad r)
def ce (G : GG) (f : Nat → Int32) : LE → va_E
  | .inl (ci, fs) => .inr (ci, fs.mapIdx fun j t => cf G.1 (f j) t)
  | .inr (0, n) => .inl (G.2.2 0, n, .inl f)
  | .inr (1, n) => .inl (G.2.2 1, n, .inl f)
  | .inr (_, n) => .inl (G.2.2 2, n, .inr (.inr (.inr (.inr fun j => some (G.1 (f j).toNatClampNeg)))))
def wld (G : GG) (x : XX) : va_W := Lay.mapIdx fun k e => (G.1 k, ce G (x k) e)
def tyw (G : GG) : List (ClassId × FieldType) := [(G.2.2 0, .int), (G.2.2 1, .char), (G.2.2 2, .object RX0)]
def up2 (x : XX) (a k : Nat) (v : Int32) : XX := fun b j => if b = a ∧ j = k then v else x b j
def setR (x : XX) (a : Nat) (f : Nat → Int32) : XX := fun b => if b = a then f else x b
def gw_tbl : List Cond := lw_tbl.filter goodWord
theorem gw_in {w : Cond} (i : Nat) (h : lw_tbl[i]? = some w) (hg : goodWord w = true) : w ∈ gw_tbl := List.mem_filter.mpr ⟨List.mem_of_getElem? h, hg⟩
def wm (M : MM) : List Cond := Cond.code M.1 M.2.1 M.2.2.1 M.2.2.2 :: gw_tbl
/-- the one call of a nest mate's private method (Clauses.has calls isBelow): its word doesn't pass from caller to callee by itself -/
def NW (U : State) : Prop := va_Nw (.methodLinkNest RX1 43 yX5_isBelow "StatuteClauses") U
theorem lay_n : Lay.all (fun e => match e with | .inr (_, n) => decide (n ≤ 1640) | _ => true) = true := by decide +kernel
theorem lay_le {a t n : Nat} (h : Lay[a]? = some (.inr (t, n))) : n < 2 ^ 31 := by
  have h1 := List.all_eq_true.mp lay_n _ (List.mem_of_getElem? h)
  have h2 : n ≤ 1640 := of_decide_eq_true h1
  omega
theorem wld_at {G : GG} {x : XX} {a : Nat} {e : LE} (h : Lay[a]? = some e) : (wld G x)[a]? = some (G.1 a, ce G (x a) e) := by
  simp [wld, List.getElem?_mapIdx, h]
theorem wld_set {G : GG} {x y : XX} {a : Nat} {e : LE} {e' : va_E} (h : Lay[a]? = some e) (he : e' = ce G (y a) e) (ho : ∀ b, b ≠ a → y b = x b) : (wld G x).set a (G.1 a, e') = wld G y := by
  subst he
  apply List.ext_getElem?
  intro i
  have hl : a < (wld G x).length := by
    have := (List.getElem?_eq_some_iff.mp h).1
    simpa [wld] using this
  rw [List.getElem?_set]
  by_cases hi : a = i
  · subst hi
    rw [if_pos rfl, if_pos hl, wld_at h]
  · rw [if_neg hi]
    simp only [wld, List.getElem?_mapIdx]
    rw [ho i (fun q => hi q.symm)]
theorem up2_off {x : XX} {a k : Nat} {v : Int32} {b : Nat} (h : b ≠ a) : up2 x a k v b = x b := by
  funext j
  simp [up2, h]
theorem up2_upd {x : XX} {a k : Nat} {v : Int32} : upd (x a) k v = up2 x a k v a := by
  funext j
  simp [upd, up2]
theorem setR_off {x : XX} {a : Nat} {f : Nat → Int32} {b : Nat} (h : b ≠ a) : setR x a f b = x b := by simp [setR, h]
theorem setR_on {x : XX} {a : Nat} {f : Nat → Int32} : setR x a f a = f := by simp [setR]
/-! the locals -/
def lvr (ad : Nat → Nat) (ls : Array Slot) (n : Nat) (L : List (Option AV)) : Prop := ls.size = n ∧ lv_wf ls ∧ ∀ (i : Nat) (v : AV), L[i]? = some (some v) → ls[i]? = some (.val (cv ad v))
def lvl (ad : Nat → Nat) (L : List (Option AV)) : List (Nat × Value) := (List.range L.length).filterMap fun i => match L[i]? with
  | some (some v) => some (i, cv ad v)
  | _ => none
theorem lvl_in {ad : Nat → Nat} {L : List (Option AV)} {i : Nat} {v : AV} (h : L[i]? = some (some v)) : (i, cv ad v) ∈ lvl ad L := by
  refine List.mem_filterMap.mpr ⟨i, List.mem_range.mpr (List.getElem?_eq_some_iff.mp h).1, ?_⟩
  simp [h]
theorem lvl_of {ad : Nat → Nat} {L : List (Option AV)} {q : Nat × Value} (h : q ∈ lvl ad L) : ∃ v : AV, L[q.1]? = some (some v) ∧ q.2 = cv ad v := by
  obtain ⟨i, -, h2⟩ := List.mem_filterMap.mp h
  cases h3 : L[i]? with
  | none => rw [h3] at h2; cases h2
  | some o =>
    cases o with
    | none => rw [h3] at h2; cases h2
    | some v => rw [h3] at h2; cases h2; exact ⟨v, h3, rfl⟩
theorem cv_cat (ad : Nat → Nat) (v : AV) : (cv ad v).category = 1 := by cases v <;> rfl
theorem lvr.has {ad : Nat → Nat} {ls : Array Slot} {n : Nat} {L : List (Option AV)} (h : lvr ad ls n L) : lv_has ls n (lvl ad L) := by
  refine ⟨h.1, h.2.1, fun q hq => ?_⟩
  obtain ⟨v, h1, h2⟩ := lvl_of hq
  rw [h2]
  exact h.2.2 _ _ h1
theorem lvr.of {ad : Nat → Nat} {ls : Array Slot} {n i : Nat} {a : AV} {L : List (Option AV)} (h : lv_has ls n ((i, cv ad a) :: (lvl ad L).filter (fun q => !(q.1 == i) && !(q.1 + 1 == i && q.2.category == 2)))) : lvr ad ls n (L.set i (some a)) := by
  refine ⟨h.1, h.2.1, fun j v hj => ?_⟩
  rw [List.getElem?_set] at hj
  by_cases hi : i = j
  · subst hi
    rw [if_pos rfl] at hj
    split at hj
    · cases hj
      exact h.2.2 (i, cv ad a) (List.mem_cons_self)
    · cases hj
  · rw [if_neg hi] at hj
    refine h.2.2 (j, cv ad v) (List.mem_cons_of_mem _ (List.mem_filter.mpr ⟨lvl_in hj, ?_⟩))
    have h1 : (j == i) = false := by simpa using fun q : j = i => hi q.symm
    simp [h1, cv_cat]
theorem lv_args_at (ad : Nat → Nat) : ∀ (as : List AV) (k i : Nat) (v : AV), as[i]? = some v → (k + i, cv ad v) ∈ lv_args k (as.map (cv ad))
  | [], k, i, v, h => by simp at h
  | a :: as, k, 0, v, h => by
    simp at h
    subst h
    exact List.mem_cons_self
  | a :: as, k, i + 1, v, h => by
    have h1 : as[i]? = some v := by simpa using h
    have h2 := lv_args_at ad as (k + 1) i v h1
    show _ ∈ (k, cv ad a) :: lv_args (if (cv ad a).category = 2 then k + 2 else k + 1) (as.map (cv ad))
    rw [cv_cat, if_neg (by decide)]
    refine List.mem_cons_of_mem _ ?_
    rw [show k + (i + 1) = k + 1 + i by omega]
    exact h2
theorem lg_sl_len (ad : Nat → Nat) : ∀ as : List AV, (lg_sl (as.map (cv ad))).length = as.length
  | [] => rfl
  | a :: as => by
    have h := lg_sl_len ad as
    simp [lg_sl, cv_cat] at h ⊢
    omega
theorem lvr.entry (ad : Nat → Nat) (as : List AV) {n : Nat} (h : as.length ≤ n) : lvr ad ((lg_sl (as.map (cv ad)) ++ List.replicate (n - (lg_sl (as.map (cv ad))).length) Slot.unset).toArray) n (as.map some ++ List.replicate (n - as.length) none) := by
  have h1 := lv_entry (as.map (cv ad)) (n := n) (by rw [lg_sl_len]; exact h)
  refine ⟨h1.1, h1.2.1, fun i v hi => ?_⟩
  have hi' : as[i]? = some v := by
    rw [List.getElem?_append] at hi
    split at hi
    · rw [List.getElem?_map] at hi
      cases h2 : as[i]? with
      | none => rw [h2] at hi; cases hi
      | some z => rw [h2] at hi; cases hi; rfl
    · rw [List.getElem?_replicate] at hi
      split at hi <;> cases hi
  have h2 := lv_args_at ad as 0 i v hi'
  rw [Nat.zero_add] at h2
  exact h1.2.2 _ h2
theorem cat_sum (ad : Nat → Nat) : ∀ st : List AV, ((st.map (cv ad)).map fun v => v.category).sum = st.length
  | [] => rfl
  | a :: st => by
    have h := cat_sum ad st
    simp only [List.map_cons, List.sum_cons, List.length_cons, cv_cat] at h ⊢
    omega
/-! the judgements -/
def Bs (G : GG) (A : Nat → Prop) (x : XX) (t : State) : Prop := va_P G.2.1 vwCl (wld G x) t.heap ∧ va_K G.2.1 vwCl (tyw G) t ∧ va_D A (wld G x)
def qc (r : Option FieldType) (G : GG) (A : Nat → Prop) (Q : Int32 → XX → Prop) : Array Value → State → Outcome → State → Prop := match r with
  | none => va_Qv (fun u : XX => Q 0 u) (Bs G A) A
  | some _ => va_Qi (fun (r : Int32) (u : XX) => Q r u) (Bs G A) A
def Ctx (M : MM) (d : Nat) (p : Program) (R : Room) (s : State) (m : MethodId) (args : Array Value) (meth : Method) (c : Code) (A : Nat → Prop) : Prop :=
  p.tables.exec = Jvm.exec ∧ c.code = M.2.1 ∧ c.maxLocals = M.2.2.1 ∧ meth.sig.returnType = M.2.2.2 ∧ s.vm.findClass M.1.cls = some m.cls ∧ (∀ w ∈ gw_tbl, w.before args s = true) ∧ meth.locks = false ∧ d ≤ R.frames ∧ 40 * d ≤ R.locals ∧ (∀ q, s.heap.size ≤ q → A q) ∧ NW s
/-- from here the method comes to its end, with an answer and a world that keep Q -/
def Go (M : MM) (d pc : Nat) (L : List (Option AV)) (st : List AV) (x : XX) (Q : Int32 → XX → Prop) : Prop :=
  ∀ (p : Program) (l : Launch) (e : Env) (R : Room) (s : State) (m : MethodId) (args : Array Value) (below : List Frame) (meth : Method) (c : Code) (H : Heap) (locs : List Loc) (ls : Array Slot) (G : GG) (A : Nat → Prop),
    Ctx M d p R s m args meth c A → lvr G.1 ls M.2.2.1 L → va_P G.2.1 vwCl (wld G x) H → va_K G.2.1 vwCl (tyw G) s → va_D A (wld G x) → va_S A s.heap H locs →
    W p l e R s m args below meth c H locs 0 0 (MQ below (qc M.2.2.2 G A Q) args s 0 0 A) (F0 m pc ls (st.map (cv G.1)))
def rmd (d : Nat) : Room := { frames := d, cells := 0, slots := 0, locals := 40 * d }
/-- the method, called with these arguments in this world, comes to its end with an answer and a world that keep Q -/
def Call (M : MM) (d : Nat) (as : List AV) (x : XX) (Q : Int32 → XX → Prop) : Prop :=
  ∀ (l : Launch) (G : GG) (sz : Nat), Met l M.1 (wm M) (rmd d) (va_Pc (as.map (cv G.1)) (fun U => U.heap.size = sz ∧ va_P G.2.1 vwCl (wld G x) U.heap ∧ va_K G.2.1 vwCl (tyw G) U ∧ va_D (fun _ => True) (wld G x) ∧ NW U)) (qc M.2.2.2 G (va_A (wld G x) sz) Q) 0 0 (va_A (wld G x) sz)
def okM (M : MM) (n : Nat) : Prop := Cond.code M.1 M.2.1 M.2.2.1 M.2.2.2 ∈ gw_tbl ∧ Cond.initialized M.1.cls ∈ gw_tbl ∧ (M.1.cls ≠ "java/lang/invoke/MethodHandle" ∧ M.1.cls ≠ "java/lang/invoke/VarHandle" ∧ (parseMethodDescriptor M.1.desc).map (fun d => d.parameters.length) = some n) ∧ M.2.2.1 ≤ 15 ∧ plainName M.1.cls = true
def okV (M : MM) (n : Nat) : Prop := okM M n ∧ Cond.instanceMethod M.1 ∈ gw_tbl ∧ Cond.selects M.1.cls M.1 M.1 ∈ gw_tbl
def okS (M : MM) (n : Nat) : Prop := okM M n ∧ Cond.static M.1 ∈ gw_tbl
def okC (ci : Nat) (C : String) (T : u_T) (N : Nat) : Prop := vwCl[ci]? = some (C, T, N) ∧ (∀ w ∈ u_ws C T N, w ∈ gw_tbl) ∧ (∃ ty0 : Nat → FieldType, ∀ k, k < N → parseFieldDescriptor (T k).2.2.1 = some (ty0 k)) ∧ ∀ a, a < N → ∀ b, b < N → a ≠ b → (T a).2.1 ≠ (T b).2.1
theorem gi_wm (M : MM) {n : Nat} (h : okM M n) : GoodIn gw_tbl (wm M) := fun w hw => by
  have g : ∀ w ∈ gw_tbl, w ∈ gw_tbl ∧ ((w.onTables && w.keeps) = true ∨ ∃ ty, w = .arrayClass ty) := fun w h => ⟨h, good_of_word (List.mem_filter.mp h).2⟩
  rcases List.mem_cons.mp hw with e | h1
  · rw [e]
    exact g _ h.1
  · exact g _ h1
theorem gi_of {ws : List Cond} (h : ∀ w ∈ ws, w ∈ gw_tbl) : GoodIn gw_tbl ws := fun w hw => ⟨h w hw, good_of_word (List.mem_filter.mp (h w hw)).2⟩
theorem call_of_go {M : MM} {d n : Nat} {as : List AV} {x : XX} {Q : Int32 → XX → Prop} {L : List (Option AV)} (hok : okM M n) (hlen : as.length ≤ M.2.2.1) (hL : as.map some ++ List.replicate (M.2.2.1 - as.length) none = L) (k : Go M d 0 L [] x Q) : Call M d as x Q := by
  intro l G sz
  refine Met.ofW (cc := M.2.1) (maxL := M.2.2.1) (ret := M.2.2.2) hok.2.2.2.2 rfl ?_
  intro p e s m args below meth c s₁ B hml hv
  obtain ⟨rfl, hsz, hP, hK, hD0, hN⟩ := hv
  subst hsz
  have hts := atoms_spec (ws := wm M) B.pre
  have hD := hD0.self (sz := s.heap.size)
  rw [lg_entry_eq]
  subst hL
  exact k p l e _ s m _ below meth c s.heap [] _ G _ ⟨B.exec, B.bytes, hml, B.returns, findClass_of_methodNamed B.named, fun w hw => hts w (List.mem_cons_of_mem _ hw), B.notSynchronized, Nat.le_refl d, Nat.le_refl (40 * d), fun q h => Or.inr h, hN⟩ (lvr.entry G.1 as hlen) hP hK hD va_S.rf
theorem w_ac1 : Cond.native arraycopyName ∈ gw_tbl := gw_in 277 (by decide +kernel) (by decide +kernel)
theorem w_ac2 : Cond.static arraycopyName ∈ gw_tbl := gw_in 276 (by decide +kernel) (by decide +kernel)
theorem w_ac3 : Cond.initialized "java/lang/System" ∈ gw_tbl := gw_in 50 (by decide +kernel) (by decide +kernel)
theorem w_ma : Cond.initialized "java/lang/Math" ∈ gw_tbl := gw_in 52 (by decide +kernel) (by decide +kernel)
theorem w_max1 : Cond.static Lib.Math.max.name ∈ gw_tbl := gw_in 497 (by decide +kernel) (by decide +kernel)
theorem w_max2 : Cond.code Lib.Math.max.name Lib.Math.max.code 2 (some .int) ∈ gw_tbl := gw_in 498 (by decide +kernel) (by decide +kernel)
theorem w_min1 : Cond.static Lib.Math.min.name ∈ gw_tbl := gw_in 500 (by decide +kernel) (by decide +kernel)
theorem w_min2 : Cond.code Lib.Math.min.name Lib.Math.min.code 2 (some .int) ∈ gw_tbl := gw_in 501 (by decide +kernel) (by decide +kernel)
section RULES
variable {M : MM} {d pc q : Nat} {L : List (Option AV)} {st : List AV} {x : XX} {Q : Int32 → XX → Prop}
theorem Go.to {L' : List (Option AV)} {st' : List AV} (hL : L = L') (hs : st = st') (k : Go M d pc L' st' x Q) : Go M d pc L st x Q := by
  subst hL; subst hs; exact k

theorem go_iconst {n : Int} {v : Int32} (hd : decode M.2.1 pc = .ok (.iconst n, 1)) (hq : pc + 1 = q) (hv : Int32.ofInt n = v) (k : Go M d q L (.inl v :: st) x Q) : Go M d pc L (st) x Q := by
  subst hq
  intro p l e R s m args below meth c H locs ls G A C hl hP hK hD hS
  exact lv_iconst C.1 C.2.1 hd hv (k p l e R s m args below meth c H locs ls G A C hl hP hK hD hS)
theorem go_bipush {n : Int} {v : Int32} (hd : decode M.2.1 pc = .ok (.bipush n, 2)) (hq : pc + 2 = q) (hv : (Int8.ofInt n).toInt32 = v) (k : Go M d q L (.inl v :: st) x Q) : Go M d pc L (st) x Q := by
  subst hq
  intro p l e R s m args below meth c H locs ls G A C hl hP hK hD hS
  exact lv_bipush C.1 C.2.1 hd hv (k p l e R s m args below meth c H locs ls G A C hl hP hK hD hS)
theorem go_sipush {n : Int} {v : Int32} (hd : decode M.2.1 pc = .ok (.sipush n, 3)) (hq : pc + 3 = q) (hv : (Int16.ofInt n).toInt32 = v) (k : Go M d q L (.inl v :: st) x Q) : Go M d pc L (st) x Q := by
  subst hq
  intro p l e R s m args below meth c H locs ls G A C hl hP hK hD hS
  exact lv_sipush C.1 C.2.1 hd hv (k p l e R s m args below meth c H locs ls G A C hl hP hK hD hS)
theorem go_iload_n {i : Fin 4} {v : Int32} (hd : decode M.2.1 pc = .ok (.iload_n i, 1)) (hq : pc + 1 = q) (hL : L[(i : Nat)]? = some (some (.inl v))) (k : Go M d q L (.inl v :: st) x Q) : Go M d pc L (st) x Q := by
  subst hq
  intro p l e R s m args below meth c H locs ls G A C hl hP hK hD hS
  exact lv_iload_n C.1 C.2.1 hd rfl (hl.2.2 _ _ hL) (k p l e R s m args below meth c H locs ls G A C hl hP hK hD hS)
theorem go_iload {i : Nat} {v : Int32} (hd : decode M.2.1 pc = .ok (.iload i, 2)) (hq : pc + 2 = q) (hL : L[i]? = some (some (.inl v))) (k : Go M d q L (.inl v :: st) x Q) : Go M d pc L (st) x Q := by
  subst hq
  intro p l e R s m args below meth c H locs ls G A C hl hP hK hD hS
  exact lv_iload C.1 C.2.1 hd (hl.2.2 _ _ hL) (k p l e R s m args below meth c H locs ls G A C hl hP hK hD hS)
theorem go_aload_n {i : Fin 4} {v : Nat} (hd : decode M.2.1 pc = .ok (.aload_n i, 1)) (hq : pc + 1 = q) (hL : L[(i : Nat)]? = some (some (.inr v))) (k : Go M d q L (.inr v :: st) x Q) : Go M d pc L (st) x Q := by
  subst hq
  intro p l e R s m args below meth c H locs ls G A C hl hP hK hD hS
  exact lv_aload_n C.1 C.2.1 hd rfl (hl.2.2 _ _ hL) (k p l e R s m args below meth c H locs ls G A C hl hP hK hD hS)
theorem go_aload {i v : Nat} (hd : decode M.2.1 pc = .ok (.aload i, 2)) (hq : pc + 2 = q) (hL : L[i]? = some (some (.inr v))) (k : Go M d q L (.inr v :: st) x Q) : Go M d pc L (st) x Q := by
  subst hq
  intro p l e R s m args below meth c H locs ls G A C hl hP hK hD hS
  exact lv_aload C.1 C.2.1 hd (hl.2.2 _ _ hL) (k p l e R s m args below meth c H locs ls G A C hl hP hK hD hS)
theorem go_istore_n {i : Fin 4} {v : Int32} {L' : List (Option AV)} (hd : decode M.2.1 pc = .ok (.istore_n i, 1)) (hq : pc + 1 = q) (hi : (i : Nat) < M.2.2.1) (hL : L.set (i : Nat) (some (.inl v)) = L') (k : Go M d q L' st x Q) : Go M d pc L (.inl v :: st) x Q := by
  subst hq; subst hL
  intro p l e R s m args below meth c H locs ls G A C hl hP hK hD hS
  exact lv_istore_n C.1 C.2.1 hd rfl hl.has hi rfl (fun ls hl => k p l e R s m args below meth c H locs ls G A C (lvr.of (a := .inl v) hl) hP hK hD hS)
theorem go_istore {i : Nat} {v : Int32} {L' : List (Option AV)} (hd : decode M.2.1 pc = .ok (.istore i, 2)) (hq : pc + 2 = q) (hi : i < M.2.2.1) (hL : L.set i (some (.inl v)) = L') (k : Go M d q L' st x Q) : Go M d pc L (.inl v :: st) x Q := by
  subst hq; subst hL
  intro p l e R s m args below meth c H locs ls G A C hl hP hK hD hS
  exact lv_istore C.1 C.2.1 hd hl.has hi rfl (fun ls hl => k p l e R s m args below meth c H locs ls G A C (lvr.of (a := .inl v) hl) hP hK hD hS)
theorem go_astore_n {i : Fin 4} {v : Nat} {L' : List (Option AV)} (hd : decode M.2.1 pc = .ok (.astore_n i, 1)) (hq : pc + 1 = q) (hi : (i : Nat) < M.2.2.1) (hL : L.set (i : Nat) (some (.inr v)) = L') (k : Go M d q L' st x Q) : Go M d pc L (.inr v :: st) x Q := by
  subst hq; subst hL
  intro p l e R s m args below meth c H locs ls G A C hl hP hK hD hS
  exact lv_astore_n C.1 C.2.1 hd rfl hl.has hi rfl (fun ls hl => k p l e R s m args below meth c H locs ls G A C (lvr.of (a := .inr v) hl) hP hK hD hS)
theorem go_astore {i : Nat} {v : Nat} {L' : List (Option AV)} (hd : decode M.2.1 pc = .ok (.astore i, 2)) (hq : pc + 2 = q) (hi : i < M.2.2.1) (hL : L.set i (some (.inr v)) = L') (k : Go M d q L' st x Q) : Go M d pc L (.inr v :: st) x Q := by
  subst hq; subst hL
  intro p l e R s m args below meth c H locs ls G A C hl hP hK hD hS
  exact lv_astore C.1 C.2.1 hd hl.has hi rfl (fun ls hl => k p l e R s m args below meth c H locs ls G A C (lvr.of (a := .inr v) hl) hP hK hD hS)
theorem go_iinc {i : Nat} {n : Int} {u v : Int32} {L' : List (Option AV)} (hd : decode M.2.1 pc = .ok (.iinc i n, 3)) (hq : pc + 3 = q) (hi : i < M.2.2.1) (hu : L[i]? = some (some (.inl u))) (hv : u + Int32.ofInt n = v) (hL : L.set i (some (.inl v)) = L') (k : Go M d q L' st x Q) : Go M d pc L st x Q := by
  subst hq; subst hL
  intro p l e R s m args below meth c H locs ls G A C hl hP hK hD hS
  obtain ⟨j, hj⟩ := List.getElem?_of_mem (lvl_in (ad := G.1) hu)
  exact lv_iinc C.1 C.2.1 hd hl.has hj hv hi rfl (fun ls hl => k p l e R s m args below meth c H locs ls G A C (lvr.of (a := .inl v) hl) hP hK hD hS)
theorem go_iadd {u v : Int32} (hd : decode M.2.1 pc = .ok (.iadd, 1)) (hq : pc + 1 = q) (k : Go M d q L (.inl (u + v) :: st) x Q) : Go M d pc L (.inl v :: .inl u :: st) x Q := by
  subst hq
  intro p l e R s m args below meth c H locs ls G A C hl hP hK hD hS
  exact lv_iadd C.1 C.2.1 hd (k p l e R s m args below meth c H locs ls G A C hl hP hK hD hS)
theorem go_isub {u v : Int32} (hd : decode M.2.1 pc = .ok (.isub, 1)) (hq : pc + 1 = q) (k : Go M d q L (.inl (u - v) :: st) x Q) : Go M d pc L (.inl v :: .inl u :: st) x Q := by
  subst hq
  intro p l e R s m args below meth c H locs ls G A C hl hP hK hD hS
  exact lv_isub C.1 C.2.1 hd (k p l e R s m args below meth c H locs ls G A C hl hP hK hD hS)
theorem go_imul {u v : Int32} (hd : decode M.2.1 pc = .ok (.imul, 1)) (hq : pc + 1 = q) (k : Go M d q L (.inl (u * v) :: st) x Q) : Go M d pc L (.inl v :: .inl u :: st) x Q := by
  subst hq
  intro p l e R s m args below meth c H locs ls G A C hl hP hK hD hS
  exact lv_imul C.1 C.2.1 hd (k p l e R s m args below meth c H locs ls G A C hl hP hK hD hS)
theorem go_iand {u v : Int32} (hd : decode M.2.1 pc = .ok (.iand, 1)) (hq : pc + 1 = q) (k : Go M d q L (.inl (u &&& v) :: st) x Q) : Go M d pc L (.inl v :: .inl u :: st) x Q := by
  subst hq
  intro p l e R s m args below meth c H locs ls G A C hl hP hK hD hS
  exact lv_iand C.1 C.2.1 hd (k p l e R s m args below meth c H locs ls G A C hl hP hK hD hS)
theorem go_ior {u v : Int32} (hd : decode M.2.1 pc = .ok (.ior, 1)) (hq : pc + 1 = q) (k : Go M d q L (.inl (u ||| v) :: st) x Q) : Go M d pc L (.inl v :: .inl u :: st) x Q := by
  subst hq
  intro p l e R s m args below meth c H locs ls G A C hl hP hK hD hS
  exact lv_ior C.1 C.2.1 hd (k p l e R s m args below meth c H locs ls G A C hl hP hK hD hS)
theorem go_ixor {u v : Int32} (hd : decode M.2.1 pc = .ok (.ixor, 1)) (hq : pc + 1 = q) (k : Go M d q L (.inl (u ^^^ v) :: st) x Q) : Go M d pc L (.inl v :: .inl u :: st) x Q := by
  subst hq
  intro p l e R s m args below meth c H locs ls G A C hl hP hK hD hS
  exact lv_ixor C.1 C.2.1 hd (k p l e R s m args below meth c H locs ls G A C hl hP hK hD hS)
theorem go_ishl {u v : Int32} (hd : decode M.2.1 pc = .ok (.ishl, 1)) (hq : pc + 1 = q) (k : Go M d q L (.inl (u <<< (v &&& 31)) :: st) x Q) : Go M d pc L (.inl v :: .inl u :: st) x Q := by
  subst hq
  intro p l e R s m args below meth c H locs ls G A C hl hP hK hD hS
  exact lv_ishl C.1 C.2.1 hd (k p l e R s m args below meth c H locs ls G A C hl hP hK hD hS)
theorem go_idiv {u v : Int32} (hd : decode M.2.1 pc = .ok (.idiv, 1)) (hq : pc + 1 = q) (hv : ¬ v = 0) (k : Go M d q L (.inl (u / v) :: st) x Q) : Go M d pc L (.inl v :: .inl u :: st) x Q := by
  subst hq
  intro p l e R s m args below meth c H locs ls G A C hl hP hK hD hS
  exact lv_idiv C.1 C.2.1 hd hv (k p l e R s m args below meth c H locs ls G A C hl hP hK hD hS)
theorem go_irem {u v : Int32} (hd : decode M.2.1 pc = .ok (.irem, 1)) (hq : pc + 1 = q) (hv : ¬ v = 0) (k : Go M d q L (.inl (u - u / v * v) :: st) x Q) : Go M d pc L (.inl v :: .inl u :: st) x Q := by
  subst hq
  intro p l e R s m args below meth c H locs ls G A C hl hP hK hD hS
  exact lv_irem C.1 C.2.1 hd hv (k p l e R s m args below meth c H locs ls G A C hl hP hK hD hS)
theorem go_dup {a : AV} (hd : decode M.2.1 pc = .ok (.dup, 1)) (hq : pc + 1 = q) (k : Go M d q L (a :: a :: st) x Q) : Go M d pc L (a :: st) x Q := by
  subst hq
  intro p l e R s m args below meth c H locs ls G A C hl hP hK hD hS
  exact lv_dup C.1 C.2.1 hd (cv_cat _ _) (k p l e R s m args below meth c H locs ls G A C hl hP hK hD hS)
theorem go_dup2 {a b : AV} (hd : decode M.2.1 pc = .ok (.dup2, 1)) (hq : pc + 1 = q) (k : Go M d q L (a :: b :: a :: b :: st) x Q) : Go M d pc L (a :: b :: st) x Q := by
  subst hq
  intro p l e R s m args below meth c H locs ls G A C hl hP hK hD hS
  exact lv_dup2_11 C.1 C.2.1 hd (cv_cat _ _) (cv_cat _ _) (k p l e R s m args below meth c H locs ls G A C hl hP hK hD hS)
theorem go_if_eq {u : Int32} {off : Int} {t : Nat} (hd : decode M.2.1 pc = .ok (.ifCond .eq off, 3)) (hq : pc + 3 = q) (ht : (pc : Int) + off = (t : Int)) (kt : u = 0 → Go M d t L st x Q) (kf : ¬ u = 0 → Go M d q L st x Q) : Go M d pc L (.inl u :: st) x Q := by
  subst hq
  intro p l e R s m args below meth c H locs ls G A C hl hP hK hD hS
  exact lv_if_eq C.1 C.2.1 hd ht (fun z => kt z p l e R s m args below meth c H locs ls G A C hl hP hK hD hS) (fun z => kf z p l e R s m args below meth c H locs ls G A C hl hP hK hD hS)
theorem go_icmp_eq {u v : Int32} {off : Int} {t : Nat} (hd : decode M.2.1 pc = .ok (.if_icmp .eq off, 3)) (hq : pc + 3 = q) (ht : (pc : Int) + off = (t : Int)) (kt : u = v → Go M d t L st x Q) (kf : ¬ u = v → Go M d q L st x Q) : Go M d pc L (.inl v :: .inl u :: st) x Q := by
  subst hq
  intro p l e R s m args below meth c H locs ls G A C hl hP hK hD hS
  exact lv_icmp_eq C.1 C.2.1 hd ht (fun z => kt z p l e R s m args below meth c H locs ls G A C hl hP hK hD hS) (fun z => kf z p l e R s m args below meth c H locs ls G A C hl hP hK hD hS)
theorem go_if_ne {u : Int32} {off : Int} {t : Nat} (hd : decode M.2.1 pc = .ok (.ifCond .ne off, 3)) (hq : pc + 3 = q) (ht : (pc : Int) + off = (t : Int)) (kt : ¬ u = 0 → Go M d t L st x Q) (kf : u = 0 → Go M d q L st x Q) : Go M d pc L (.inl u :: st) x Q := by
  subst hq
  intro p l e R s m args below meth c H locs ls G A C hl hP hK hD hS
  exact lv_if_ne C.1 C.2.1 hd ht (fun z => kt z p l e R s m args below meth c H locs ls G A C hl hP hK hD hS) (fun z => kf z p l e R s m args below meth c H locs ls G A C hl hP hK hD hS)
theorem go_icmp_ne {u v : Int32} {off : Int} {t : Nat} (hd : decode M.2.1 pc = .ok (.if_icmp .ne off, 3)) (hq : pc + 3 = q) (ht : (pc : Int) + off = (t : Int)) (kt : ¬ u = v → Go M d t L st x Q) (kf : u = v → Go M d q L st x Q) : Go M d pc L (.inl v :: .inl u :: st) x Q := by
  subst hq
  intro p l e R s m args below meth c H locs ls G A C hl hP hK hD hS
  exact lv_icmp_ne C.1 C.2.1 hd ht (fun z => kt z p l e R s m args below meth c H locs ls G A C hl hP hK hD hS) (fun z => kf z p l e R s m args below meth c H locs ls G A C hl hP hK hD hS)
theorem go_if_lt {u : Int32} {off : Int} {t : Nat} (hd : decode M.2.1 pc = .ok (.ifCond .lt off, 3)) (hq : pc + 3 = q) (ht : (pc : Int) + off = (t : Int)) (kt : u < 0 → Go M d t L st x Q) (kf : ¬ u < 0 → Go M d q L st x Q) : Go M d pc L (.inl u :: st) x Q := by
  subst hq
  intro p l e R s m args below meth c H locs ls G A C hl hP hK hD hS
  exact lv_if_lt C.1 C.2.1 hd ht (fun z => kt z p l e R s m args below meth c H locs ls G A C hl hP hK hD hS) (fun z => kf z p l e R s m args below meth c H locs ls G A C hl hP hK hD hS)
theorem go_icmp_lt {u v : Int32} {off : Int} {t : Nat} (hd : decode M.2.1 pc = .ok (.if_icmp .lt off, 3)) (hq : pc + 3 = q) (ht : (pc : Int) + off = (t : Int)) (kt : u < v → Go M d t L st x Q) (kf : ¬ u < v → Go M d q L st x Q) : Go M d pc L (.inl v :: .inl u :: st) x Q := by
  subst hq
  intro p l e R s m args below meth c H locs ls G A C hl hP hK hD hS
  exact lv_icmp_lt C.1 C.2.1 hd ht (fun z => kt z p l e R s m args below meth c H locs ls G A C hl hP hK hD hS) (fun z => kf z p l e R s m args below meth c H locs ls G A C hl hP hK hD hS)
theorem go_if_ge {u : Int32} {off : Int} {t : Nat} (hd : decode M.2.1 pc = .ok (.ifCond .ge off, 3)) (hq : pc + 3 = q) (ht : (pc : Int) + off = (t : Int)) (kt : 0 ≤ u → Go M d t L st x Q) (kf : ¬ 0 ≤ u → Go M d q L st x Q) : Go M d pc L (.inl u :: st) x Q := by
  subst hq
  intro p l e R s m args below meth c H locs ls G A C hl hP hK hD hS
  exact lv_if_ge C.1 C.2.1 hd ht (fun z => kt z p l e R s m args below meth c H locs ls G A C hl hP hK hD hS) (fun z => kf z p l e R s m args below meth c H locs ls G A C hl hP hK hD hS)
theorem go_icmp_ge {u v : Int32} {off : Int} {t : Nat} (hd : decode M.2.1 pc = .ok (.if_icmp .ge off, 3)) (hq : pc + 3 = q) (ht : (pc : Int) + off = (t : Int)) (kt : v ≤ u → Go M d t L st x Q) (kf : ¬ v ≤ u → Go M d q L st x Q) : Go M d pc L (.inl v :: .inl u :: st) x Q := by
  subst hq
  intro p l e R s m args below meth c H locs ls G A C hl hP hK hD hS
  exact lv_icmp_ge C.1 C.2.1 hd ht (fun z => kt z p l e R s m args below meth c H locs ls G A C hl hP hK hD hS) (fun z => kf z p l e R s m args below meth c H locs ls G A C hl hP hK hD hS)
theorem go_if_gt {u : Int32} {off : Int} {t : Nat} (hd : decode M.2.1 pc = .ok (.ifCond .gt off, 3)) (hq : pc + 3 = q) (ht : (pc : Int) + off = (t : Int)) (kt : 0 < u → Go M d t L st x Q) (kf : ¬ 0 < u → Go M d q L st x Q) : Go M d pc L (.inl u :: st) x Q := by
  subst hq
  intro p l e R s m args below meth c H locs ls G A C hl hP hK hD hS
  exact lv_if_gt C.1 C.2.1 hd ht (fun z => kt z p l e R s m args below meth c H locs ls G A C hl hP hK hD hS) (fun z => kf z p l e R s m args below meth c H locs ls G A C hl hP hK hD hS)
theorem go_icmp_gt {u v : Int32} {off : Int} {t : Nat} (hd : decode M.2.1 pc = .ok (.if_icmp .gt off, 3)) (hq : pc + 3 = q) (ht : (pc : Int) + off = (t : Int)) (kt : v < u → Go M d t L st x Q) (kf : ¬ v < u → Go M d q L st x Q) : Go M d pc L (.inl v :: .inl u :: st) x Q := by
  subst hq
  intro p l e R s m args below meth c H locs ls G A C hl hP hK hD hS
  exact lv_icmp_gt C.1 C.2.1 hd ht (fun z => kt z p l e R s m args below meth c H locs ls G A C hl hP hK hD hS) (fun z => kf z p l e R s m args below meth c H locs ls G A C hl hP hK hD hS)
theorem go_if_le {u : Int32} {off : Int} {t : Nat} (hd : decode M.2.1 pc = .ok (.ifCond .le off, 3)) (hq : pc + 3 = q) (ht : (pc : Int) + off = (t : Int)) (kt : u ≤ 0 → Go M d t L st x Q) (kf : ¬ u ≤ 0 → Go M d q L st x Q) : Go M d pc L (.inl u :: st) x Q := by
  subst hq
  intro p l e R s m args below meth c H locs ls G A C hl hP hK hD hS
  exact lv_if_le C.1 C.2.1 hd ht (fun z => kt z p l e R s m args below meth c H locs ls G A C hl hP hK hD hS) (fun z => kf z p l e R s m args below meth c H locs ls G A C hl hP hK hD hS)
theorem go_icmp_le {u v : Int32} {off : Int} {t : Nat} (hd : decode M.2.1 pc = .ok (.if_icmp .le off, 3)) (hq : pc + 3 = q) (ht : (pc : Int) + off = (t : Int)) (kt : u ≤ v → Go M d t L st x Q) (kf : ¬ u ≤ v → Go M d q L st x Q) : Go M d pc L (.inl v :: .inl u :: st) x Q := by
  subst hq
  intro p l e R s m args below meth c H locs ls G A C hl hP hK hD hS
  exact lv_icmp_le C.1 C.2.1 hd ht (fun z => kt z p l e R s m args below meth c H locs ls G A C hl hP hK hD hS) (fun z => kf z p l e R s m args below meth c H locs ls G A C hl hP hK hD hS)
theorem go_goto {off : Int} {t : Nat} (hd : decode M.2.1 pc = .ok (.goto off, 3)) (ht : (pc : Int) + off = (t : Int)) (k : Go M d t L st x Q) : Go M d pc L st x Q := by
  intro p l e R s m args below meth c H locs ls G A C hl hP hK hD hS
  exact lv_goto C.1 C.2.1 hd ht (k p l e R s m args below meth c H locs ls G A C hl hP hK hD hS)
theorem go_tsIn {u : Int32} {dflt lo hi off : Int} {offs : Array Int} {len t : Nat} (hd : decode M.2.1 pc = .ok (.tableswitch dflt lo hi offs, len)) (h1 : ¬ u.toInt < lo) (h2 : ¬ hi < u.toInt) (ho : offs[(u.toInt - lo).toNat]? = some off) (ht : (pc : Int) + off = (t : Int)) (k : Go M d t L st x Q) : Go M d pc L (.inl u :: st) x Q := by
  intro p l e R s m args below meth c H locs ls G A C hl hP hK hD hS
  exact lv_tableIn C.1 C.2.1 hd h1 h2 ho ht (k p l e R s m args below meth c H locs ls G A C hl hP hK hD hS)
theorem go_tsOut {u : Int32} {dflt lo hi : Int} {offs : Array Int} {len t : Nat} (hd : decode M.2.1 pc = .ok (.tableswitch dflt lo hi offs, len)) (h : u.toInt < lo ∨ hi < u.toInt) (ht : (pc : Int) + dflt = (t : Int)) (k : Go M d t L st x Q) : Go M d pc L (.inl u :: st) x Q := by
  intro p l e R s m args below meth c H locs ls G A C hl hP hK hD hS
  exact lv_tableOut C.1 C.2.1 hd h ht (k p l e R s m args below meth c H locs ls G A C hl hP hK hD hS)
theorem go_getI {idx a ci k N t : Nat} {fs : List Nat} {C0 : String} {T : u_T} (hd : decode M.2.1 pc = .ok (.getfield idx, 3)) (hq : pc + 3 = q) (hC : okC ci C0 T N) (hlk : Cond.fieldLink M.1.cls idx (T k).1 (T k).2.1 (T k).2.2.1 ∈ gw_tbl) (ha : Lay[a]? = some (.inl (ci, fs))) (hk : k < N) (hf : fs[k]? = some t) (ht : t < 2) (kk : Go M d q L (.inl (x a k) :: st) x Q) : Go M d pc L (.inr a :: st) x Q := by
  subst hq
  intro p l e R s m args below meth c H locs ls G A C hl hP hK hD hS
  have hv : (fs.mapIdx fun j t => cf G.1 (x a j) t)[k]? = some (.int (x a k)) := by
    rw [List.getElem?_mapIdx, hf]
    rcases (show t = 0 ∨ t = 1 by omega) with rfl | rfl <;> rfl
  exact va_get (D := G.2.1) (cl := vwCl) C.1 C.2.1 C.2.2.2.2.2.1 hC.2.1 C.2.2.2.2.1 hK hP a (wld_at ha) hC.1 k hk (C.2.2.2.2.2.1 _ hlk) (fun _ h => h) hv hd (kk p l e R s m args below meth c H locs ls G A C hl hP hK hD hS)
theorem go_getR {idx a ci k N r : Nat} {fs : List Nat} {C0 : String} {T : u_T} (hd : decode M.2.1 pc = .ok (.getfield idx, 3)) (hq : pc + 3 = q) (hC : okC ci C0 T N) (hlk : Cond.fieldLink M.1.cls idx (T k).1 (T k).2.1 (T k).2.2.1 ∈ gw_tbl) (ha : Lay[a]? = some (.inl (ci, fs))) (hk : k < N) (hf : fs[k]? = some (r + 2)) (kk : Go M d q L (.inr r :: st) x Q) : Go M d pc L (.inr a :: st) x Q := by
  subst hq
  intro p l e R s m args below meth c H locs ls G A C hl hP hK hD hS
  have hv : (fs.mapIdx fun j t => cf G.1 (x a j) t)[k]? = some (.ref (G.1 r)) := by
    rw [List.getElem?_mapIdx, hf]
    rfl
  exact va_get (D := G.2.1) (cl := vwCl) C.1 C.2.1 C.2.2.2.2.2.1 hC.2.1 C.2.2.2.2.1 hK hP a (wld_at ha) hC.1 k hk (C.2.2.2.2.2.1 _ hlk) (fun _ h => h) hv hd (kk p l e R s m args below meth c H locs ls G A C hl hP hK hD hS)
theorem fld_set {ad : Nat → Nat} {x : XX} {a k t : Nat} {fs : List Nat} {v : Int32} (hf : fs[k]? = some t) (ht : t < 2) : (fs.mapIdx fun j t => cf ad (x a j) t).set k (.int v) = fs.mapIdx fun j t => cf ad (up2 x a k v a j) t := by
  apply List.ext_getElem?
  intro i
  have hl : k < (fs.mapIdx fun j t => cf ad (x a j) t).length := by
    have := (List.getElem?_eq_some_iff.mp hf).1
    simpa using this
  rw [List.getElem?_set]
  by_cases hi : k = i
  · subst hi
    rw [if_pos rfl, if_pos hl, List.getElem?_mapIdx, hf]
    have e : up2 x a k v a k = v := by simp [up2]
    rcases (show t = 0 ∨ t = 1 by omega) with rfl | rfl <;> simp [cf, e]
  · rw [if_neg hi]
    simp only [List.getElem?_mapIdx]
    have e : up2 x a k v a i = x a i := by
      unfold up2
      rw [if_neg (fun h => hi h.2.symm)]
    rw [e]
theorem go_put {idx a ci k N t : Nat} {fs : List Nat} {C0 : String} {T : u_T} {v : Int32} {ty : FieldType} (hd : decode M.2.1 pc = .ok (.putfield idx, 3)) (hq : pc + 3 = q) (hC : okC ci C0 T N) (hlk : Cond.fieldLink M.1.cls idx (T k).1 (T k).2.1 (T k).2.2.1 ∈ gw_tbl) (ha : Lay[a]? = some (.inl (ci, fs))) (hk : k < N) (hf : fs[k]? = some t) (ht : t < 2) (hfin : (T k).2.2.2 = false) (hty : parseFieldDescriptor (T k).2.2.1 = some ty) (hn : narrow ty (.int v) = .int v) (hfit : fits ty (.int v) = true) (kk : ∀ y : XX, y = up2 x a k v → Go M d q L st y Q) : Go M d pc L (.inl v :: .inr a :: st) x Q := by
  subst hq
  intro p l e R s m args below meth c H locs ls G A C hl hP hK hD hS
  obtain ⟨ty0, hty0⟩ := hC.2.2.1
  refine va_put (D := G.2.1) (cl := vwCl) C.1 C.2.1 C.2.2.2.2.2.1 hC.2.1 ty0 hty0 hC.2.2.2 C.2.2.2.2.1 hK hP hD hS a (wld_at ha) hC.1 k hk (C.2.2.2.2.2.1 _ hlk) (fun _ h => h) hfin hty hn hfit (by simpa using (List.getElem?_eq_some_iff.mp hf).1) hd (fun H locs hP hD hS => ?_)
  rw [show cv G.1 (.inl v) = .int v from rfl, wld_set (y := up2 x a k v) ha (e' := .inr (ci, (fs.mapIdx fun j t => cf G.1 (x a j) t).set k (.int v))) (by rw [fld_set hf ht]; rfl) (fun b hb => up2_off hb)] at hP hD
  exact kk _ rfl p l e R s m args below meth c H locs ls G A C hl hP hK hD hS
theorem go_putI {idx a ci k N : Nat} {fs : List Nat} {C0 : String} {T : u_T} {v : Int32} (hd : decode M.2.1 pc = .ok (.putfield idx, 3)) (hq : pc + 3 = q) (hC : okC ci C0 T N) (hlk : Cond.fieldLink M.1.cls idx (T k).1 (T k).2.1 (T k).2.2.1 ∈ gw_tbl) (ha : Lay[a]? = some (.inl (ci, fs))) (hk : k < N) (hf : fs[k]? = some 0) (hfin : (T k).2.2.2 = false) (hty : parseFieldDescriptor (T k).2.2.1 = some .int) (kk : ∀ y : XX, y = up2 x a k v → Go M d q L st y Q) : Go M d pc L (.inl v :: .inr a :: st) x Q :=
  go_put hd hq hC hlk ha hk hf (by decide) hfin hty rfl rfl kk
theorem go_putZ {idx a ci k N : Nat} {fs : List Nat} {C0 : String} {T : u_T} {v : Int32} (hd : decode M.2.1 pc = .ok (.putfield idx, 3)) (hq : pc + 3 = q) (hC : okC ci C0 T N) (hlk : Cond.fieldLink M.1.cls idx (T k).1 (T k).2.1 (T k).2.2.1 ∈ gw_tbl) (ha : Lay[a]? = some (.inl (ci, fs))) (hk : k < N) (hf : fs[k]? = some 1) (hfin : (T k).2.2.2 = false) (hty : parseFieldDescriptor (T k).2.2.1 = some .boolean) (hv : v = 0 ∨ v = 1) (kk : ∀ y : XX, y = up2 x a k v → Go M d q L st y Q) : Go M d pc L (.inl v :: .inr a :: st) x Q :=
  go_put hd hq hC hlk ha hk hf (by decide) hfin hty (by rcases hv with rfl | rfl <;> decide) (by rcases hv with rfl | rfl <;> decide) kk
theorem go_iaload {a n i : Nat} {u : Int32} (hd : decode M.2.1 pc = .ok (.iaload, 1)) (hq : pc + 1 = q) (ha : Lay[a]? = some (.inr (0, n))) (hi : i < n) (hu : u = nI i) (k : Go M d q L (.inl (x a i) :: st) x Q) : Go M d pc L (.inl u :: .inr a :: st) x Q := by
  subst hq; subst hu
  intro p l e R s m args below meth c H locs ls G A C hl hP hK hD hS
  have ei : (nI i).toNatClampNeg = i := nI_clamp (Nat.lt_trans hi (lay_le ha))
  have k1 := k p l e R s m args below meth c H locs ls G A C hl hP hK hD hS
  refine va_iald (D := G.2.1) (cl := vwCl) C.1 C.2.1 hK hP a 0 (wld_at ha) rfl (vp_in_nI hi (lay_le ha)) hd ?_
  rw [ei]
  exact k1
theorem go_caload {a n i : Nat} {u : Int32} (hd : decode M.2.1 pc = .ok (.caload, 1)) (hq : pc + 1 = q) (ha : Lay[a]? = some (.inr (1, n))) (hi : i < n) (hu : u = nI i) (k : Go M d q L (.inl (x a i) :: st) x Q) : Go M d pc L (.inl u :: .inr a :: st) x Q := by
  subst hq; subst hu
  intro p l e R s m args below meth c H locs ls G A C hl hP hK hD hS
  have ei : (nI i).toNatClampNeg = i := nI_clamp (Nat.lt_trans hi (lay_le ha))
  have k1 := k p l e R s m args below meth c H locs ls G A C hl hP hK hD hS
  refine va_cald (D := G.2.1) (cl := vwCl) C.1 C.2.1 hK hP a 1 (wld_at ha) rfl (vp_in_nI hi (lay_le ha)) hd ?_
  rw [ei]
  exact k1
theorem go_iastore {a n i : Nat} {u v : Int32} (hd : decode M.2.1 pc = .ok (.iastore, 1)) (hq : pc + 1 = q) (ha : Lay[a]? = some (.inr (0, n))) (hi : i < n) (hu : u = nI i) (k : ∀ y : XX, y = up2 x a i v → Go M d q L st y Q) : Go M d pc L (.inl v :: .inl u :: .inr a :: st) x Q := by
  subst hq; subst hu
  intro p l e R s m args below meth c H locs ls G A C hl hP hK hD hS
  have ei : (nI i).toNatClampNeg = i := nI_clamp (Nat.lt_trans hi (lay_le ha))
  refine va_iast (D := G.2.1) (cl := vwCl) C.1 C.2.1 hK hP hD hS a 0 (wld_at ha) rfl (vp_in_nI hi (lay_le ha)) hd (fun H locs hP hD hS => ?_)
  rw [ei, up2_upd, wld_set (e' := .inl (G.2.2 0, n, .inl (up2 x a i v a))) (y := up2 x a i v) ha rfl (fun b hb => up2_off hb)] at hP hD
  exact k _ rfl p l e R s m args below meth c H locs ls G A C hl hP hK hD hS
theorem go_castore {a n i : Nat} {u v : Int32} (hd : decode M.2.1 pc = .ok (.castore, 1)) (hq : pc + 1 = q) (ha : Lay[a]? = some (.inr (1, n))) (hi : i < n) (hu : u = nI i) (k : ∀ y : XX, y = up2 x a i (vp_nar .char v) → Go M d q L st y Q) : Go M d pc L (.inl v :: .inl u :: .inr a :: st) x Q := by
  subst hq; subst hu
  intro p l e R s m args below meth c H locs ls G A C hl hP hK hD hS
  have ei : (nI i).toNatClampNeg = i := nI_clamp (Nat.lt_trans hi (lay_le ha))
  refine va_cast (D := G.2.1) (cl := vwCl) C.1 C.2.1 hK hP hD hS a 1 (wld_at ha) rfl (vp_in_nI hi (lay_le ha)) hd (fun H locs hP hD hS => ?_)
  rw [ei, up2_upd, wld_set (e' := .inl (G.2.2 1, n, .inl (up2 x a i (vp_nar .char v) a))) (y := up2 x a i (vp_nar .char v)) ha rfl (fun b hb => up2_off hb)] at hP hD
  exact k _ rfl p l e R s m args below meth c H locs ls G A C hl hP hK hD hS
theorem go_aaload {a n i b : Nat} {u : Int32} (hd : decode M.2.1 pc = .ok (.aaload, 1)) (hq : pc + 1 = q) (ha : Lay[a]? = some (.inr (2, n))) (hi : i < n) (hu : u = nI i) (hb : x a i = nI b) (hb2 : b < 2 ^ 31) (k : Go M d q L (.inr b :: st) x Q) : Go M d pc L (.inl u :: .inr a :: st) x Q := by
  subst hq; subst hu
  intro p l e R s m args below meth c H locs ls G A C hl hP hK hD hS
  have ei : (nI i).toNatClampNeg = i := nI_clamp (Nat.lt_trans hi (lay_le ha))
  have k1 := k p l e R s m args below meth c H locs ls G A C hl hP hK hD hS
  refine va_aldq (D := G.2.1) (cl := vwCl) C.1 C.2.1 hK hP a 2 (wld_at ha) rfl (vp_in_nI hi (lay_le ha)) hd ?_
  rw [ei, hb, nI_clamp hb2]
  exact k1
theorem go_aastore {a n i b : Nat} {u : Int32} {fs : List Nat} (hd : decode M.2.1 pc = .ok (.aastore, 1)) (hq : pc + 1 = q) (ha : Lay[a]? = some (.inr (2, n))) (hi : i < n) (hu : u = nI i) (hb : Lay[b]? = some (.inl (0, fs))) (hb2 : b < 2 ^ 31) (k : ∀ y : XX, y = up2 x a i (nI b) → Go M d q L st y Q) : Go M d pc L (.inr b :: .inl u :: .inr a :: st) x Q := by
  subst hq; subst hu
  intro p l e R s m args below meth c H locs ls G A C hl hP hK hD hS
  have ei : (nI i).toNatClampNeg = i := nI_clamp (Nat.lt_trans hi (lay_le ha))
  refine va_astq (D := G.2.1) (cl := vwCl) (r := (RX0, TX0, 5)) C.1 C.2.1 hK hP hD hS a 2 b 0 (wld_at ha) rfl (wld_at hb) rfl (vp_in_nI hi (lay_le ha)) hd (fun H locs hP hD hS => ?_)
  have e2 : va_up (fun j => some (G.1 (x a j).toNatClampNeg)) i (some (G.1 b)) = fun j => some (G.1 (up2 x a i (nI b) a j).toNatClampNeg) := by
    funext j
    by_cases hj : j = i
    · simp [va_up, up2, hj, nI_clamp hb2]
    · simp [va_up, up2, hj]
  rw [ei, e2, wld_set (e' := .inl (G.2.2 2, n, .inr (.inr (.inr (.inr fun j => some (G.1 (up2 x a i (nI b) a j).toNatClampNeg)))))) (y := up2 x a i (nI b)) ha rfl (fun b hb => up2_off hb)] at hP hD
  exact k _ rfl p l e R s m args below meth c H locs ls G A C hl hP hK hD hS
theorem go_alen {a n : Nat} (hd : decode M.2.1 pc = .ok (.arraylength, 1)) (hq : pc + 1 = q) (ha : Lay[a]? = some (.inr (0, n))) (k : Go M d q L (.inl (nI n) :: st) x Q) : Go M d pc L (.inr a :: st) x Q := by
  subst hq
  intro p l e R s m args below meth c H locs ls G A C hl hP hK hD hS
  exact va_alen (D := G.2.1) (cl := vwCl) C.1 C.2.1 hK hP a 0 (wld_at ha) rfl rfl hd (k p l e R s m args below meth c H locs ls G A C hl hP hK hD hS)
/-- System.arraycopy from place 0 to place 0 of ints -/
theorem go_copy {idx a a0 n0 n1 n : Nat} {u : Int32} (hd : decode M.2.1 pc = .ok (.invokestatic idx, 3)) (hq : pc + 3 = q) (hlk : Cond.methodLink M.1.cls idx arraycopyName ∈ gw_tbl) (h0 : Lay[a0]? = some (.inr (0, n0))) (h1 : Lay[a]? = some (.inr (0, n1))) (hn0 : n ≤ n0) (hn1 : n ≤ n1) (hu : u = nI n) (hrest : st.length ≤ 8) (k : ∀ y : XX, y = setR x a (fun j => if j < n then x a0 j else x a j) → Go M (d + 1) q L st y Q) : Go M (d + 1) pc L (.inl u :: .inl 0 :: .inr a :: .inl 0 :: .inr a0 :: st) x Q := by
  subst hq; subst hu
  intro p l e R s m args below meth c H locs ls G A C hl hP hK hD hS
  have hn : n < 2 ^ 31 := Nat.lt_of_le_of_lt hn0 (lay_le h0)
  have en : (nI n).toNatClampNeg = n := nI_clamp hn
  have e0 : (0 : Int32).toNatClampNeg = 0 := by decide
  have e1 : va_cpy (x a0) (x a) (0 : Int32).toNatClampNeg (0 : Int32).toNatClampNeg (nI n).toNatClampNeg = setR x a (fun j => if j < n then x a0 j else x a j) a := by
    rw [en, e0, setR_on]
    funext j
    by_cases hj : j < n
    · simp [va_cpy, hj]
    · simp [va_cpy, hj]
  have hts := C.2.2.2.2.2.1
  refine va_copyi (D := G.2.1) (cl := vwCl) (ty := .int) C.1 C.2.1 (by rw [C.2.2.1]; exact hl.1.symm) C.2.2.2.2.1 (hts _ hlk) (hts _ w_ac1) (hts _ w_ac2) (hts _ w_ac3) hK hP hD hS a0 a 0 0 (wld_at h0) (wld_at h1) rfl rfl rfl (by decide) (by decide) (nI_pos hn) (by rw [en, e0]; omega) (by rw [en, e0]; omega) (fun _ _ => rfl) (by have := C.2.2.2.2.2.2.2.1; omega) (by
    rw [cat_sum]
    have h9 := C.2.2.2.2.2.2.2.2.1
    have h8 : nativeFrameWords "java/lang/System" "arraycopy" 5 = 7 := by decide +kernel
    omega) hd (fun H locs hP hD hS => ?_)
  rw [e1, wld_set (e' := .inl (G.2.2 0, n1, .inl (setR x a (fun j => if j < n then x a0 j else x a j) a))) (y := setR x a (fun j => if j < n then x a0 j else x a j)) h1 rfl (fun b hb => setR_off hb)] at hP hD
  exact k _ rfl p l e R s m args below meth c H locs ls G A C hl hP hK hD hS
theorem go_ret {ty : FieldType} {v : Int32} (hd : decode M.2.1 pc = .ok (.ireturn, 1)) (hr : M.2.2.2 = some ty) (hn : narrow ty (.int v) = .int v) (k : Q v x) : Go M d pc L [.inl v] x Q := by
  intro p l e R s m args below meth c H locs ls G A C hl hP hK hD hS
  refine W.zret (v := v) (ty := ty) C.1 C.2.1 (by rw [C.2.2.2.1]; exact hr) hn (fun t ht hW => ?_) hS.2.2 hd C.2.2.2.2.2.2.1
  rw [hr]
  exact ⟨⟨v, x, rfl, k, by rw [ht]; exact hP, va_K.moved hW.alike hK, hD⟩, hS.F ht⟩
theorem go_iret {v : Int32} (hd : decode M.2.1 pc = .ok (.ireturn, 1)) (hr : M.2.2.2 = some .int) (k : Q v x) : Go M d pc L [.inl v] x Q := go_ret hd hr rfl k
theorem go_zret {v : Int32} (hd : decode M.2.1 pc = .ok (.ireturn, 1)) (hr : M.2.2.2 = some .boolean) (hv : v = 0 ∨ v = 1) (k : Q v x) : Go M d pc L [.inl v] x Q := go_ret hd hr (by rcases hv with rfl | rfl <;> decide) k
theorem go_vret (hd : decode M.2.1 pc = .ok (.return_, 1)) (hr : M.2.2.2 = none) (k : Q 0 x) : Go M d pc L [] x Q := by
  intro p l e R s m args below meth c H locs ls G A C hl hP hK hD hS
  refine W.vret C.1 C.2.1 (by rw [C.2.2.2.1]; exact hr) (fun t ht hW => ?_) hS.2.2 hd C.2.2.2.2.2.2.1
  rw [hr]
  exact ⟨⟨x, rfl, k, by rw [ht]; exact hP, va_K.moved hW.alike hK, hD⟩, hS.F ht⟩
/-! calls -/
theorem fr_in {G : GG} {A : Nat → Prop} {H0 H : Heap} {locs : List Loc} (hD : va_D A (wld G x)) (hS : va_S A H0 H locs) (hA : ∀ q, H0.size ≤ q → A q) : ∀ q, va_A (wld G x) H.size q → A q := by
  intro q h
  rcases h with ⟨k, e, h⟩ | h
  · exact hD.2 k _ h
  · exact hA q (Nat.le_trans hS.1 h)
theorem bl_pc {G : GG} {as : List Value} {sz : Nat} : FrameBlind (va_Pc as (fun U => U.heap.size = sz ∧ va_P G.2.1 vwCl (wld G x) U.heap ∧ va_K G.2.1 vwCl (tyw G) U ∧ va_D (fun _ => True) (wld G x) ∧ NW U)) :=
  fun a U g mk q => by
    obtain ⟨q0, q1, qP, qK, qD, qN⟩ := q
    exact ⟨q0, q1, qP, va_K.moved (u := U) (U := U.calling g mk a) (Vm.Alike.refl U.vm) qK, qD, va_Nw.same (U := U.calling g mk a) rfl rfl qN⟩
theorem st_map {ad : Nat → Nat} {as rest : List AV} {b : Nat} : (as.reverse ++ .inr b :: rest).map (cv ad) = (as.map (cv ad)).reverse ++ .ref (ad b) :: rest.map (cv ad) := by
  simp [cv]
theorem st_maps {ad : Nat → Nat} {as rest : List AV} : (as.reverse ++ rest).map (cv ad) = (as.map (cv ad)).reverse ++ rest.map (cv ad) := by
  simp

theorem go_callV {idx b n ci : Nat} {M' : MM} {as rest : List AV} {fs : List Nat} {r0 : vw_C} (hd : decode M.2.1 pc = .ok (.invokevirtual idx, 3)) (hq : pc + 3 = q) (hlk : Cond.methodLink M.1.cls idx M'.1 ∈ gw_tbl) (hok : okV M' n) (hb : Lay[b]? = some (.inl (ci, fs))) (hc : vwCl[ci]? = some r0) (hcl : r0.1 = M'.1.cls) (hn : as.length = n) (hst : st = as.reverse ++ .inr b :: rest) (hrest : rest.length ≤ 8) {ty : FieldType} (hr : M'.2.2.2 = some ty) (k : Call M' d (.inr b :: as) x (fun r y => Go M (d + 1) q L (.inl r :: rest) y Q)) : Go M (d + 1) pc L st x Q := by
  subst hq; subst hst
  intro p l e R s m args below meth c H locs ls G A C hl hP hK hD hS

  have hM := k l G H.size
  rw [hr] at hM
  have hts := C.2.2.2.2.2.1
  have hfr := C.2.2.2.2.2.2.2.1
  have hlo := C.2.2.2.2.2.2.2.2.1
  have hA := C.2.2.2.2.2.2.2.2.2.1
  have hN := C.2.2.2.2.2.2.2.2.2.2
  have hF := fr_in hD hS hA
  have hml : M'.2.2.1 ≤ 15 := hok.1.2.2.2.1
  have hR : (rmd d).frames + 1 ≤ R.frames ∧ 8 + (M'.2.2.1 + 11) + (rmd d).locals ≤ R.locals := ⟨hfr, by show 8 + (M'.2.2.1 + 11) + 40 * d ≤ R.locals; omega⟩
  have hsum : 2 * (F0 m pc ls []).monitorRoom + ((rest.map (cv G.1)).map fun v => v.category).sum ≤ 8 := by
    rw [cat_sum]
    show 2 * 0 + _ ≤ 8
    omega
  have hcw : CallW R s args M.1.cls M'.1.cls idx M'.1 M'.2.1 M'.2.2.1 M'.2.2.2 (wm M') (rmd d) 0 0 n := cwV n hts (gi_of (fun w hw => by
    rcases List.mem_append.mp hw with h | h
    · simp only [List.mem_cons, List.not_mem_nil, or_false] at h
      rcases h with rfl | rfl | rfl | rfl
      · exact hlk
      · exact hok.2.1
      · exact hok.2.2
      · exact hok.1.2.1
    · exact (gi_wm M' hok.1 w h).1)) rfl rfl rfl ⟨rfl, hok.1.2.2.1⟩ hR
  have hre : ∃ cell : Cell, H[G.1 b]? = some cell ∧ cell.vm.isStatics = false ∧ s.vm.findClass M'.1.cls = some cell.cls := by
    rw [← hcl]
    exact va_recv hK hP hc (wld_at hb)
  have hrun := va_runV (e := e) (locs := locs) (meth := meth) (below := below) (C := M'.1.cls) (As := as.map (cv G.1)) (rest := rest.map (cv G.1)) (b := G.1 b) (g := F0 m pc ls ((as.reverse ++ .inr b :: rest).map (cv G.1))) ⟨C.1, C.2.1, C.2.2.1, C.2.2.2.2.1, hts⟩ hM hcw ⟨bl_pc, hre, fun U hU hW => ⟨rfl, by rw [hU], by rw [hU]; exact hP, va_K.moved hW.alike hK, hD.weaken (fun _ _ _ _ => trivial), va_Nw.warmM hW hN⟩⟩ rfl (by rw [List.length_map]; exact hn) hl.1 st_map hsum hd ⟨Nat.zero_le _, Nat.zero_le _⟩
  refine va_calli (A1 := va_A (wld G x) H.size) (A0 := A) (a := (Value.ref (G.1 b) :: as.map (cv G.1)).toArray) (post := fun r y => Go M (d + 1) (pc + 3) L (.inl r :: rest) y Q) (B := Bs G (va_A (wld G x) H.size)) hrun hS (fun q _ h => hF q h) hF (fun r u t H1 locs1 ht hvm hpost hB hz hk hS1 => ?_)
  exact hpost p l e R s m args below meth c H1 locs1 ls G A C hl (by rw [← ht]; exact hB.1) hK (hB.2.2.weaken (fun _ q h1 h => hF _ h)) hS1
theorem go_callS {idx n : Nat} {M' : MM} {as rest : List AV} (hd : decode M.2.1 pc = .ok (.invokestatic idx, 3)) (hq : pc + 3 = q) (hlk : Cond.methodLink M.1.cls idx M'.1 ∈ gw_tbl) (hok : okS M' n) (hn : as.length = n) (hst : st = as.reverse ++ rest) (hrest : rest.length ≤ 8) {ty : FieldType} (hr : M'.2.2.2 = some ty) (k : Call M' d (as) x (fun r y => Go M (d + 1) q L (.inl r :: rest) y Q)) : Go M (d + 1) pc L st x Q := by
  subst hq; subst hst
  intro p l e R s m args below meth c H locs ls G A C hl hP hK hD hS

  have hM := k l G H.size
  rw [hr] at hM
  have hts := C.2.2.2.2.2.1
  have hfr := C.2.2.2.2.2.2.2.1
  have hlo := C.2.2.2.2.2.2.2.2.1
  have hA := C.2.2.2.2.2.2.2.2.2.1
  have hN := C.2.2.2.2.2.2.2.2.2.2
  have hF := fr_in hD hS hA
  have hml : M'.2.2.1 ≤ 15 := hok.1.2.2.2.1
  have hR : (rmd d).frames + 1 ≤ R.frames ∧ 8 + (M'.2.2.1 + 11) + (rmd d).locals ≤ R.locals := ⟨hfr, by show 8 + (M'.2.2.1 + 11) + 40 * d ≤ R.locals; omega⟩
  have hsum : 2 * (F0 m pc ls []).monitorRoom + ((rest.map (cv G.1)).map fun v => v.category).sum ≤ 8 := by
    rw [cat_sum]
    show 2 * 0 + _ ≤ 8
    omega
  have hcw : CallB R s args M.1.cls idx M'.1 M'.2.1 M'.2.2.1 M'.2.2.2 (wm M') (rmd d) 0 0 n ∧ (Cond.static M'.1).before args s = true := va_cwS n hts (gi_of (fun w hw => by
    rcases List.mem_append.mp hw with h | h
    · simp only [List.mem_cons, List.not_mem_nil, or_false] at h
      rcases h with rfl | rfl | rfl
      · exact hlk
      · exact hok.2
      · exact hok.1.2.1
    · exact (gi_wm M' hok.1 w h).1)) rfl rfl rfl hok.1.2.2.1 hR
  have hrun := va_runS (e := e) (locs := locs) (meth := meth) (below := below) (As := as.map (cv G.1)) (rest := rest.map (cv G.1)) (g := F0 m pc ls ((as.reverse ++ rest).map (cv G.1))) ⟨C.1, C.2.1, C.2.2.1, C.2.2.2.2.1, hts⟩ hM hcw ⟨bl_pc, fun U hU hW => ⟨rfl, by rw [hU], by rw [hU]; exact hP, va_K.moved hW.alike hK, hD.weaken (fun _ _ _ _ => trivial), va_Nw.warmM hW hN⟩⟩ rfl (by rw [List.length_map]; exact hn) hl.1 st_maps hsum hd ⟨Nat.zero_le _, Nat.zero_le _⟩
  refine va_calli (A1 := va_A (wld G x) H.size) (A0 := A) (a := (as.map (cv G.1)).toArray) (post := fun r y => Go M (d + 1) (pc + 3) L (.inl r :: rest) y Q) (B := Bs G (va_A (wld G x) H.size)) hrun hS (fun q _ h => hF q h) hF (fun r u t H1 locs1 ht hvm hpost hB hz hk hS1 => ?_)
  exact hpost p l e R s m args below meth c H1 locs1 ls G A C hl (by rw [← ht]; exact hB.1) hK (hB.2.2.weaken (fun _ q h1 h => hF _ h)) hS1
theorem go_callN {idx n : Nat} {M' : MM} {as rest : List AV} (hd : decode M.2.1 pc = .ok (.invokestatic idx, 3)) (hq : pc + 3 = q) (hlk : M.1.cls = RX1 ∧ idx = 43 ∧ M'.1 = yX5_isBelow) (hok : okS M' n) (hn : as.length = n) (hst : st = as.reverse ++ rest) (hrest : rest.length ≤ 8) {ty : FieldType} (hr : M'.2.2.2 = some ty) (k : Call M' d (as) x (fun r y => Go M (d + 1) q L (.inl r :: rest) y Q)) : Go M (d + 1) pc L st x Q := by
  subst hq; subst hst
  intro p l e R s m args below meth c H locs ls G A C hl hP hK hD hS

  have hM := k l G H.size
  rw [hr] at hM
  have hts := C.2.2.2.2.2.1
  have hfr := C.2.2.2.2.2.2.2.1
  have hlo := C.2.2.2.2.2.2.2.2.1
  have hA := C.2.2.2.2.2.2.2.2.2.1
  have hN := C.2.2.2.2.2.2.2.2.2.2
  have hF := fr_in hD hS hA
  have hml : M'.2.2.1 ≤ 15 := hok.1.2.2.2.1
  have hR : (rmd d).frames + 1 ≤ R.frames ∧ 8 + (M'.2.2.1 + 11) + (rmd d).locals ≤ R.locals := ⟨hfr, by show 8 + (M'.2.2.1 + 11) + 40 * d ≤ R.locals; omega⟩
  have hsum : 2 * (F0 m pc ls []).monitorRoom + ((rest.map (cv G.1)).map fun v => v.category).sum ≤ 8 := by
    rw [cat_sum]
    show 2 * 0 + _ ≤ 8
    omega
  have hcw : va_CN R s args M.1.cls idx M'.1 "StatuteClauses" M'.2.1 M'.2.2.1 M'.2.2.2 (wm M') (rmd d) 0 0 n := va_cnB n hts (gi_wm M' hok.1) rfl rfl rfl (by rw [hlk.1, hlk.2.1, hlk.2.2]; exact hN) (hts _ hok.1.2.1) hok.1.2.2.1 hR
  have hrun := va_runSN (e := e) (locs := locs) (meth := meth) (below := below) (As := as.map (cv G.1)) (rest := rest.map (cv G.1)) (g := F0 m pc ls ((as.reverse ++ rest).map (cv G.1))) ⟨C.1, C.2.1, C.2.2.1, C.2.2.2.2.1, hts⟩ hM ⟨hcw, hts _ hok.2, trivial⟩ ⟨bl_pc, fun U hU hW => ⟨rfl, by rw [hU], by rw [hU]; exact hP, va_K.moved hW.alike hK, hD.weaken (fun _ _ _ _ => trivial), va_Nw.warmM hW hN⟩⟩ rfl (by rw [List.length_map]; exact hn) hl.1 st_maps hsum hd ⟨Nat.zero_le _, Nat.zero_le _⟩
  refine va_calli (A1 := va_A (wld G x) H.size) (A0 := A) (a := (as.map (cv G.1)).toArray) (post := fun r y => Go M (d + 1) (pc + 3) L (.inl r :: rest) y Q) (B := Bs G (va_A (wld G x) H.size)) hrun hS (fun q _ h => hF q h) hF (fun r u t H1 locs1 ht hvm hpost hB hz hk hS1 => ?_)
  exact hpost p l e R s m args below meth c H1 locs1 ls G A C hl (by rw [← ht]; exact hB.1) hK (hB.2.2.weaken (fun _ q h1 h => hF _ h)) hS1
theorem go_callVv {idx b n ci : Nat} {M' : MM} {as rest : List AV} {fs : List Nat} {r0 : vw_C} (hd : decode M.2.1 pc = .ok (.invokevirtual idx, 3)) (hq : pc + 3 = q) (hlk : Cond.methodLink M.1.cls idx M'.1 ∈ gw_tbl) (hok : okV M' n) (hb : Lay[b]? = some (.inl (ci, fs))) (hc : vwCl[ci]? = some r0) (hcl : r0.1 = M'.1.cls) (hn : as.length = n) (hst : st = as.reverse ++ .inr b :: rest) (hrest : rest.length ≤ 8) (hr : M'.2.2.2 = none) (k : Call M' d (.inr b :: as) x (fun _ y => Go M (d + 1) q L rest y Q)) : Go M (d + 1) pc L st x Q := by
  subst hq; subst hst
  intro p l e R s m args below meth c H locs ls G A C hl hP hK hD hS

  have hM := k l G H.size
  rw [hr] at hM
  have hts := C.2.2.2.2.2.1
  have hfr := C.2.2.2.2.2.2.2.1
  have hlo := C.2.2.2.2.2.2.2.2.1
  have hA := C.2.2.2.2.2.2.2.2.2.1
  have hN := C.2.2.2.2.2.2.2.2.2.2
  have hF := fr_in hD hS hA
  have hml : M'.2.2.1 ≤ 15 := hok.1.2.2.2.1
  have hR : (rmd d).frames + 1 ≤ R.frames ∧ 8 + (M'.2.2.1 + 11) + (rmd d).locals ≤ R.locals := ⟨hfr, by show 8 + (M'.2.2.1 + 11) + 40 * d ≤ R.locals; omega⟩
  have hsum : 2 * (F0 m pc ls []).monitorRoom + ((rest.map (cv G.1)).map fun v => v.category).sum ≤ 8 := by
    rw [cat_sum]
    show 2 * 0 + _ ≤ 8
    omega
  have hcw : CallW R s args M.1.cls M'.1.cls idx M'.1 M'.2.1 M'.2.2.1 M'.2.2.2 (wm M') (rmd d) 0 0 n := cwV n hts (gi_of (fun w hw => by
    rcases List.mem_append.mp hw with h | h
    · simp only [List.mem_cons, List.not_mem_nil, or_false] at h
      rcases h with rfl | rfl | rfl | rfl
      · exact hlk
      · exact hok.2.1
      · exact hok.2.2
      · exact hok.1.2.1
    · exact (gi_wm M' hok.1 w h).1)) rfl rfl rfl ⟨rfl, hok.1.2.2.1⟩ hR
  have hre : ∃ cell : Cell, H[G.1 b]? = some cell ∧ cell.vm.isStatics = false ∧ s.vm.findClass M'.1.cls = some cell.cls := by
    rw [← hcl]
    exact va_recv hK hP hc (wld_at hb)
  have hrun := va_runV (e := e) (locs := locs) (meth := meth) (below := below) (C := M'.1.cls) (As := as.map (cv G.1)) (rest := rest.map (cv G.1)) (b := G.1 b) (g := F0 m pc ls ((as.reverse ++ .inr b :: rest).map (cv G.1))) ⟨C.1, C.2.1, C.2.2.1, C.2.2.2.2.1, hts⟩ hM hcw ⟨bl_pc, hre, fun U hU hW => ⟨rfl, by rw [hU], by rw [hU]; exact hP, va_K.moved hW.alike hK, hD.weaken (fun _ _ _ _ => trivial), va_Nw.warmM hW hN⟩⟩ rfl (by rw [List.length_map]; exact hn) hl.1 st_map hsum hd ⟨Nat.zero_le _, Nat.zero_le _⟩
  refine va_callv (A1 := va_A (wld G x) H.size) (A0 := A) (a := (Value.ref (G.1 b) :: as.map (cv G.1)).toArray) (post := fun y => Go M (d + 1) (pc + 3) L rest y Q) (B := Bs G (va_A (wld G x) H.size)) hrun hS (fun q _ h => hF q h) hF (fun u t H1 locs1 ht hvm hpost hB hz hk hS1 => ?_)
  exact hpost p l e R s m args below meth c H1 locs1 ls G A C hl (by rw [← ht]; exact hB.1) hK (hB.2.2.weaken (fun _ q h1 h => hF _ h)) hS1
theorem go_callSv {idx n : Nat} {M' : MM} {as rest : List AV} (hd : decode M.2.1 pc = .ok (.invokestatic idx, 3)) (hq : pc + 3 = q) (hlk : Cond.methodLink M.1.cls idx M'.1 ∈ gw_tbl) (hok : okS M' n) (hn : as.length = n) (hst : st = as.reverse ++ rest) (hrest : rest.length ≤ 8) (hr : M'.2.2.2 = none) (k : Call M' d (as) x (fun _ y => Go M (d + 1) q L rest y Q)) : Go M (d + 1) pc L st x Q := by
  subst hq; subst hst
  intro p l e R s m args below meth c H locs ls G A C hl hP hK hD hS

  have hM := k l G H.size
  rw [hr] at hM
  have hts := C.2.2.2.2.2.1
  have hfr := C.2.2.2.2.2.2.2.1
  have hlo := C.2.2.2.2.2.2.2.2.1
  have hA := C.2.2.2.2.2.2.2.2.2.1
  have hN := C.2.2.2.2.2.2.2.2.2.2
  have hF := fr_in hD hS hA
  have hml : M'.2.2.1 ≤ 15 := hok.1.2.2.2.1
  have hR : (rmd d).frames + 1 ≤ R.frames ∧ 8 + (M'.2.2.1 + 11) + (rmd d).locals ≤ R.locals := ⟨hfr, by show 8 + (M'.2.2.1 + 11) + 40 * d ≤ R.locals; omega⟩
  have hsum : 2 * (F0 m pc ls []).monitorRoom + ((rest.map (cv G.1)).map fun v => v.category).sum ≤ 8 := by
    rw [cat_sum]
    show 2 * 0 + _ ≤ 8
    omega
  have hcw : CallB R s args M.1.cls idx M'.1 M'.2.1 M'.2.2.1 M'.2.2.2 (wm M') (rmd d) 0 0 n ∧ (Cond.static M'.1).before args s = true := va_cwS n hts (gi_of (fun w hw => by
    rcases List.mem_append.mp hw with h | h
    · simp only [List.mem_cons, List.not_mem_nil, or_false] at h
      rcases h with rfl | rfl | rfl
      · exact hlk
      · exact hok.2
      · exact hok.1.2.1
    · exact (gi_wm M' hok.1 w h).1)) rfl rfl rfl hok.1.2.2.1 hR
  have hrun := va_runS (e := e) (locs := locs) (meth := meth) (below := below) (As := as.map (cv G.1)) (rest := rest.map (cv G.1)) (g := F0 m pc ls ((as.reverse ++ rest).map (cv G.1))) ⟨C.1, C.2.1, C.2.2.1, C.2.2.2.2.1, hts⟩ hM hcw ⟨bl_pc, fun U hU hW => ⟨rfl, by rw [hU], by rw [hU]; exact hP, va_K.moved hW.alike hK, hD.weaken (fun _ _ _ _ => trivial), va_Nw.warmM hW hN⟩⟩ rfl (by rw [List.length_map]; exact hn) hl.1 st_maps hsum hd ⟨Nat.zero_le _, Nat.zero_le _⟩
  refine va_callv (A1 := va_A (wld G x) H.size) (A0 := A) (a := (as.map (cv G.1)).toArray) (post := fun y => Go M (d + 1) (pc + 3) L rest y Q) (B := Bs G (va_A (wld G x) H.size)) hrun hS (fun q _ h => hF q h) hF (fun u t H1 locs1 ht hvm hpost hB hz hk hS1 => ?_)
  exact hpost p l e R s m args below meth c H1 locs1 ls G A C hl (by rw [← ht]; exact hB.1) hK (hB.2.2.weaken (fun _ q h1 h => hF _ h)) hS1
theorem go_max {idx : Nat} {u v : Int32} (hd : decode M.2.1 pc = .ok (.invokestatic idx, 3)) (hq : pc + 3 = q) (hlk : Cond.methodLink M.1.cls idx Lib.Math.max.name ∈ gw_tbl) (hrest : st.length ≤ 8) (k : Go M (d + 1) q L (.inl (if u < v then v else u) :: st) x Q) : Go M (d + 1) pc L (.inl v :: .inl u :: st) x Q := by
  subst hq
  intro p l e R s m args below meth c H locs ls G A C hl hP hK hD hS
  have hts := C.2.2.2.2.2.1
  have hfr := C.2.2.2.2.2.2.2.1
  have hlo := C.2.2.2.2.2.2.2.2.1
  exact va_mmax C.1 C.2.1 (by rw [C.2.2.1]; exact hl.1.symm) C.2.2.2.2.1 (hts _ hlk) (hts _ w_max1) (hts _ w_ma) (hts _ w_max2) (by omega) (by rw [cat_sum]; omega) (Nat.zero_le _) (Nat.zero_le _) hd (k p l e R s m args below meth c H locs ls G A C hl hP hK hD hS)
theorem go_min {idx : Nat} {u v : Int32} (hd : decode M.2.1 pc = .ok (.invokestatic idx, 3)) (hq : pc + 3 = q) (hlk : Cond.methodLink M.1.cls idx Lib.Math.min.name ∈ gw_tbl) (hrest : st.length ≤ 8) (k : Go M (d + 1) q L (.inl (if v < u then v else u) :: st) x Q) : Go M (d + 1) pc L (.inl v :: .inl u :: st) x Q := by
  subst hq
  intro p l e R s m args below meth c H locs ls G A C hl hP hK hD hS
  have hts := C.2.2.2.2.2.1
  have hfr := C.2.2.2.2.2.2.2.1
  have hlo := C.2.2.2.2.2.2.2.2.1
  exact va_mmin C.1 C.2.1 (by rw [C.2.2.1]; exact hl.1.symm) C.2.2.2.2.1 (hts _ hlk) (hts _ w_min1) (hts _ w_ma) (hts _ w_min2) (by omega) (by rw [cat_sum]; omega) (Nat.zero_le _) (Nat.zero_le _) hd (k p l e R s m args below meth c H locs ls G A C hl hP hK hD hS)
theorem qc_mono {r : Option FieldType} {G : GG} {A : Nat → Prop} {Q Q' : Int32 → XX → Prop} (hQ : ∀ r y, Q r y → Q' r y) {a : Array Value} {s t : State} {o : Outcome} (h : qc r G A Q a s o t) : qc r G A Q' a s o t := by
  cases r with
  | none =>
    obtain ⟨⟨u, h1, h2, h3⟩, h4⟩ := h
    exact ⟨⟨u, h1, hQ _ _ h2, h3⟩, h4⟩
  | some ty =>
    obtain ⟨⟨r, u, h1, h2, h3⟩, h4⟩ := h
    exact ⟨⟨r, u, h1, hQ _ _ h2, h3⟩, h4⟩
theorem call_mono {as : List AV} {Q' : Int32 → XX → Prop} (h : Call M d as x Q) (hQ : ∀ r y, Q r y → Q' r y) : Call M d as x Q' := by
  intro l G sz p e h1 h2 h3 s m args below hf happ hP hK
  obtain ⟨n, o, a, b, c, q⟩ := h l G sz p e h1 h2 h3 s m args below hf happ hP hK
  exact ⟨n, o, a, b, c, qc_mono hQ q.1, q.2⟩
theorem go_forget (i : Nat) {L' : List (Option AV)} (hL : L.set i none = L') (k : Go M d pc L' st x Q) : Go M d pc L st x Q := by
  subst hL
  intro p l e R s m args below meth c H locs ls G A C hl hP hK hD hS
  refine k p l e R s m args below meth c H locs ls G A C ⟨hl.1, hl.2.1, fun j v hj => hl.2.2 j v ?_⟩ hP hK hD hS
  rw [List.getElem?_set] at hj
  split at hj
  · split at hj <;> cases hj
  · exact hj
theorem ts_out {u : Int32} (n : Nat) (h : ∀ k, k < n → ¬ u = nI k) : u.toInt < 0 ∨ (n : Int) - 1 < u.toInt := by
  rcases Int.lt_or_le u.toInt 0 with h1 | h1
  · exact Or.inl h1
  · refine Or.inr (Int.not_le.mp fun h2 => h u.toInt.toNat (by omega) ?_)
    have h3 : u.toInt < 2 ^ 31 := u.toInt_lt
    apply Int32.toInt_inj.mp
    rw [nI_toInt (by omega)]
    omega
end RULES
end
section
theorem lay_0 : Lay[0]? = some (.inl (5, [3, 16, 30, 1, 100, 0, 5, 6, 4])) := rfl
theorem lay_1 : Lay[1]? = some (.inl (2, [16, 20, 101, 102])) := rfl
theorem lay_2 : Lay[2]? = some (.inl (3, [103, 104, 105])) := rfl
theorem lay_3 : Lay[3]? = some (.inl (4, [106, 0, 0, 0, 0, 0])) := rfl
theorem lay_4 : Lay[4]? = some (.inl (1, [0, 7, 8, 9, 10, 11, 12, 13, 14, 15])) := rfl
theorem lay_5 : Lay[5]? = some (.inr (0, 30)) := rfl
theorem lay_6 : Lay[6]? = some (.inr (0, 30)) := rfl
theorem lay_7 : Lay[7]? = some (.inr (0, 30)) := rfl
theorem lay_8 : Lay[8]? = some (.inr (0, 30)) := rfl
theorem lay_9 : Lay[9]? = some (.inr (0, 30)) := rfl
theorem lay_10 : Lay[10]? = some (.inr (0, 30)) := rfl
theorem lay_11 : Lay[11]? = some (.inr (0, 30)) := rfl
theorem lay_12 : Lay[12]? = some (.inr (0, 90)) := rfl
theorem lay_13 : Lay[13]? = some (.inr (0, 90)) := rfl
theorem lay_14 : Lay[14]? = some (.inl (0, [0, 17, 18, 19, 20])) := rfl
theorem lay_15 : Lay[15]? = some (.inr (0, 6)) := rfl
theorem lay_16 : Lay[16]? = some (.inr (0, 6)) := rfl
theorem lay_17 : Lay[17]? = some (.inr (0, 6)) := rfl
theorem lay_18 : Lay[18]? = some (.inl (1, [0, 21, 22, 23, 24, 25, 26, 27, 28, 29])) := rfl
theorem lay_19 : Lay[19]? = some (.inr (0, 30)) := rfl
theorem lay_20 : Lay[20]? = some (.inr (0, 30)) := rfl
theorem lay_21 : Lay[21]? = some (.inr (0, 30)) := rfl
theorem lay_22 : Lay[22]? = some (.inr (0, 30)) := rfl
theorem lay_23 : Lay[23]? = some (.inr (0, 30)) := rfl
theorem lay_24 : Lay[24]? = some (.inr (0, 30)) := rfl
theorem lay_25 : Lay[25]? = some (.inr (0, 30)) := rfl
theorem lay_26 : Lay[26]? = some (.inr (0, 90)) := rfl
theorem lay_27 : Lay[27]? = some (.inr (0, 90)) := rfl
theorem lay_28 : Lay[28]? = some (.inl (0, [0, 31, 32, 33, 34])) := rfl
theorem lay_29 : Lay[29]? = some (.inr (0, 6)) := rfl
theorem lay_30 : Lay[30]? = some (.inr (0, 6)) := rfl
theorem lay_31 : Lay[31]? = some (.inr (0, 6)) := rfl
theorem lay_32 : Lay[32]? = some (.inl (1, [0, 35, 36, 37, 38, 39, 40, 41, 42, 43])) := rfl
theorem lay_33 : Lay[33]? = some (.inr (0, 30)) := rfl
theorem lay_34 : Lay[34]? = some (.inr (0, 30)) := rfl
theorem lay_35 : Lay[35]? = some (.inr (0, 30)) := rfl
theorem lay_36 : Lay[36]? = some (.inr (0, 30)) := rfl
theorem lay_37 : Lay[37]? = some (.inr (0, 30)) := rfl
theorem lay_38 : Lay[38]? = some (.inr (0, 30)) := rfl
theorem lay_39 : Lay[39]? = some (.inr (0, 30)) := rfl
theorem lay_40 : Lay[40]? = some (.inr (0, 90)) := rfl
theorem lay_41 : Lay[41]? = some (.inr (0, 90)) := rfl
theorem lay_42 : Lay[42]? = some (.inl (0, [0, 45, 46, 47, 48])) := rfl
theorem lay_43 : Lay[43]? = some (.inr (0, 6)) := rfl
theorem lay_44 : Lay[44]? = some (.inr (0, 6)) := rfl
theorem lay_45 : Lay[45]? = some (.inr (0, 6)) := rfl
theorem lay_46 : Lay[46]? = some (.inl (1, [0, 49, 50, 51, 52, 53, 54, 55, 56, 57])) := rfl
theorem lay_47 : Lay[47]? = some (.inr (0, 30)) := rfl
theorem lay_48 : Lay[48]? = some (.inr (0, 30)) := rfl
theorem lay_49 : Lay[49]? = some (.inr (0, 30)) := rfl
theorem lay_50 : Lay[50]? = some (.inr (0, 30)) := rfl
theorem lay_51 : Lay[51]? = some (.inr (0, 30)) := rfl
theorem lay_52 : Lay[52]? = some (.inr (0, 30)) := rfl
theorem lay_53 : Lay[53]? = some (.inr (0, 30)) := rfl
theorem lay_54 : Lay[54]? = some (.inr (0, 90)) := rfl
theorem lay_55 : Lay[55]? = some (.inr (0, 90)) := rfl
theorem lay_56 : Lay[56]? = some (.inl (0, [0, 59, 60, 61, 62])) := rfl
theorem lay_57 : Lay[57]? = some (.inr (0, 6)) := rfl
theorem lay_58 : Lay[58]? = some (.inr (0, 6)) := rfl
theorem lay_59 : Lay[59]? = some (.inr (0, 6)) := rfl
theorem lay_60 : Lay[60]? = some (.inl (1, [0, 63, 64, 65, 66, 67, 68, 69, 70, 71])) := rfl
theorem lay_61 : Lay[61]? = some (.inr (0, 30)) := rfl
theorem lay_62 : Lay[62]? = some (.inr (0, 30)) := rfl
theorem lay_63 : Lay[63]? = some (.inr (0, 30)) := rfl
theorem lay_64 : Lay[64]? = some (.inr (0, 30)) := rfl
theorem lay_65 : Lay[65]? = some (.inr (0, 30)) := rfl
theorem lay_66 : Lay[66]? = some (.inr (0, 30)) := rfl
theorem lay_67 : Lay[67]? = some (.inr (0, 30)) := rfl
theorem lay_68 : Lay[68]? = some (.inr (0, 90)) := rfl
theorem lay_69 : Lay[69]? = some (.inr (0, 90)) := rfl
theorem lay_70 : Lay[70]? = some (.inl (0, [0, 73, 74, 75, 76])) := rfl
theorem lay_71 : Lay[71]? = some (.inr (0, 6)) := rfl
theorem lay_72 : Lay[72]? = some (.inr (0, 6)) := rfl
theorem lay_73 : Lay[73]? = some (.inr (0, 6)) := rfl
theorem lay_74 : Lay[74]? = some (.inl (1, [0, 77, 78, 79, 80, 81, 82, 83, 84, 85])) := rfl
theorem lay_75 : Lay[75]? = some (.inr (0, 30)) := rfl
theorem lay_76 : Lay[76]? = some (.inr (0, 30)) := rfl
theorem lay_77 : Lay[77]? = some (.inr (0, 30)) := rfl
theorem lay_78 : Lay[78]? = some (.inr (0, 30)) := rfl
theorem lay_79 : Lay[79]? = some (.inr (0, 30)) := rfl
theorem lay_80 : Lay[80]? = some (.inr (0, 30)) := rfl
theorem lay_81 : Lay[81]? = some (.inr (0, 30)) := rfl
theorem lay_82 : Lay[82]? = some (.inr (0, 90)) := rfl
theorem lay_83 : Lay[83]? = some (.inr (0, 90)) := rfl
theorem lay_84 : Lay[84]? = some (.inl (0, [0, 87, 88, 89, 90])) := rfl
theorem lay_85 : Lay[85]? = some (.inr (0, 6)) := rfl
theorem lay_86 : Lay[86]? = some (.inr (0, 6)) := rfl
theorem lay_87 : Lay[87]? = some (.inr (0, 6)) := rfl
theorem lay_88 : Lay[88]? = some (.inl (1, [0, 91, 92, 93, 94, 95, 96, 97, 98, 99])) := rfl
theorem lay_89 : Lay[89]? = some (.inr (0, 30)) := rfl
theorem lay_90 : Lay[90]? = some (.inr (0, 30)) := rfl
theorem lay_91 : Lay[91]? = some (.inr (0, 30)) := rfl
theorem lay_92 : Lay[92]? = some (.inr (0, 30)) := rfl
theorem lay_93 : Lay[93]? = some (.inr (0, 30)) := rfl
theorem lay_94 : Lay[94]? = some (.inr (0, 30)) := rfl
theorem lay_95 : Lay[95]? = some (.inr (0, 30)) := rfl
theorem lay_96 : Lay[96]? = some (.inr (0, 90)) := rfl
theorem lay_97 : Lay[97]? = some (.inr (0, 90)) := rfl
theorem lay_98 : Lay[98]? = some (.inr (2, 4)) := rfl
theorem lay_99 : Lay[99]? = some (.inr (0, 6)) := rfl
theorem lay_100 : Lay[100]? = some (.inr (0, 30)) := rfl
theorem lay_101 : Lay[101]? = some (.inr (0, 100)) := rfl
theorem lay_102 : Lay[102]? = some (.inr (0, 100)) := rfl
theorem lay_103 : Lay[103]? = some (.inr (0, 30)) := rfl
theorem lay_104 : Lay[104]? = some (.inr (1, 80)) := rfl
theorem lay_105 : Lay[105]? = some (.inl (6, [108, 109, 0, 110, 1, 111, 0, 112, 113, 0, 1, 1, 0, 0])) := rfl
theorem lay_106 : Lay[106]? = some (.inr (0, 410)) := rfl
theorem lay_107 : Lay[107]? = some (.inr (0, 1640)) := rfl
theorem lay_108 : Lay[108]? = some (.inr (0, 410)) := rfl
theorem lay_109 : Lay[109]? = some (.inr (0, 80)) := rfl
theorem lay_110 : Lay[110]? = some (.inr (0, 100)) := rfl
theorem lay_111 : Lay[111]? = some (.inr (0, 100)) := rfl
theorem pf_I : parseFieldDescriptor "I" = some .int := by decide +kernel
theorem pf_Z : parseFieldDescriptor "Z" = some .boolean := by decide +kernel
theorem okC0 : okC 0 RX0 TX0 5 := ⟨rfl, fun w hw => List.mem_filter.mpr ⟨(by decide +kernel : ∀ w ∈ u_ws RX0 TX0 5, w ∈ lw_tbl) w hw, (by decide +kernel : ∀ w ∈ u_ws RX0 TX0 5, goodWord w = true) w hw⟩, ⟨tyX0, tyX0_ok⟩, nmX0⟩
theorem okC1 : okC 1 RX1 TX1 10 := ⟨rfl, fun w hw => List.mem_filter.mpr ⟨(by decide +kernel : ∀ w ∈ u_ws RX1 TX1 10, w ∈ lw_tbl) w hw, (by decide +kernel : ∀ w ∈ u_ws RX1 TX1 10, goodWord w = true) w hw⟩, ⟨tyX1, tyX1_ok⟩, nmX1⟩
theorem okC2 : okC 2 RX2 TX2 4 := ⟨rfl, fun w hw => List.mem_filter.mpr ⟨(by decide +kernel : ∀ w ∈ u_ws RX2 TX2 4, w ∈ lw_tbl) w hw, (by decide +kernel : ∀ w ∈ u_ws RX2 TX2 4, goodWord w = true) w hw⟩, ⟨tyX2, tyX2_ok⟩, nmX2⟩
theorem okC3 : okC 3 RX3 TX3 3 := ⟨rfl, fun w hw => List.mem_filter.mpr ⟨(by decide +kernel : ∀ w ∈ u_ws RX3 TX3 3, w ∈ lw_tbl) w hw, (by decide +kernel : ∀ w ∈ u_ws RX3 TX3 3, goodWord w = true) w hw⟩, ⟨tyX3, tyX3_ok⟩, nmX3⟩
theorem okC4 : okC 4 RX4 TX4 6 := ⟨rfl, fun w hw => List.mem_filter.mpr ⟨(by decide +kernel : ∀ w ∈ u_ws RX4 TX4 6, w ∈ lw_tbl) w hw, (by decide +kernel : ∀ w ∈ u_ws RX4 TX4 6, goodWord w = true) w hw⟩, ⟨tyX4, tyX4_ok⟩, nmX4⟩
theorem okC5 : okC 5 RX5 TX5 9 := ⟨rfl, fun w hw => List.mem_filter.mpr ⟨(by decide +kernel : ∀ w ∈ u_ws RX5 TX5 9, w ∈ lw_tbl) w hw, (by decide +kernel : ∀ w ∈ u_ws RX5 TX5 9, goodWord w = true) w hw⟩, ⟨tyX5, tyX5_ok⟩, nmX5⟩
theorem okC6 : okC 6 RX6 TX6 14 := ⟨rfl, fun w hw => List.mem_filter.mpr ⟨(by decide +kernel : ∀ w ∈ u_ws RX6 TX6 14, w ∈ lw_tbl) w hw, (by decide +kernel : ∀ w ∈ u_ws RX6 TX6 14, goodWord w = true) w hw⟩, ⟨tyX6, tyX6_ok⟩, nmX6⟩
abbrev mX0_init : MM := (yX0_init, cX0_init, 2, none)
theorem ok_X0_init : okM mX0_init 0 := ⟨gw_in 71 (by decide +kernel) (by decide +kernel), gw_in 45 (by decide +kernel) (by decide +kernel), ⟨by decide +kernel, by decide +kernel, by decide +kernel⟩, by decide, by decide +kernel⟩
abbrev mX0_copyFrom : MM := (yX0_copyFrom, cX0_copyFrom, 2, none)
theorem ok_X0_copyFrom : okV mX0_copyFrom 1 := ⟨⟨gw_in 274 (by decide +kernel) (by decide +kernel), gw_in 45 (by decide +kernel) (by decide +kernel), ⟨by decide +kernel, by decide +kernel, by decide +kernel⟩, by decide, by decide +kernel⟩, gw_in 272 (by decide +kernel) (by decide +kernel), gw_in 273 (by decide +kernel) (by decide +kernel)⟩
abbrev mX0_reaches : MM := (yX0_reaches, cX0_reaches, 3, some .boolean)
theorem ok_X0_reaches : okV mX0_reaches 2 := ⟨⟨gw_in 354 (by decide +kernel) (by decide +kernel), gw_in 45 (by decide +kernel) (by decide +kernel), ⟨by decide +kernel, by decide +kernel, by decide +kernel⟩, by decide, by decide +kernel⟩, gw_in 352 (by decide +kernel) (by decide +kernel), gw_in 353 (by decide +kernel) (by decide +kernel)⟩
abbrev mX0_meets : MM := (yX0_meets, cX0_meets, 3, some .boolean)
theorem ok_X0_meets : okV mX0_meets 2 := ⟨⟨gw_in 346 (by decide +kernel) (by decide +kernel), gw_in 45 (by decide +kernel) (by decide +kernel), ⟨by decide +kernel, by decide +kernel, by decide +kernel⟩, by decide, by decide +kernel⟩, gw_in 344 (by decide +kernel) (by decide +kernel), gw_in 345 (by decide +kernel) (by decide +kernel)⟩
abbrev mX1_init : MM := (yX1_init, cX1_init, 1, none)
theorem ok_X1_init : okM mX1_init 0 := ⟨gw_in 77 (by decide +kernel) (by decide +kernel), gw_in 46 (by decide +kernel) (by decide +kernel), ⟨by decide +kernel, by decide +kernel, by decide +kernel⟩, by decide, by decide +kernel⟩
abbrev mX1_has : MM := (yX1_has, cX1_has, 2, some .boolean)
theorem ok_X1_has : okV mX1_has 1 := ⟨⟨gw_in 305 (by decide +kernel) (by decide +kernel), gw_in 46 (by decide +kernel) (by decide +kernel), ⟨by decide +kernel, by decide +kernel, by decide +kernel⟩, by decide, by decide +kernel⟩, gw_in 303 (by decide +kernel) (by decide +kernel), gw_in 304 (by decide +kernel) (by decide +kernel)⟩
abbrev mX1_add : MM := (yX1_add, cX1_add, 7, some .int)
theorem ok_X1_add : okV mX1_add 5 := ⟨⟨gw_in 297 (by decide +kernel) (by decide +kernel), gw_in 46 (by decide +kernel) (by decide +kernel), ⟨by decide +kernel, by decide +kernel, by decide +kernel⟩, by decide, by decide +kernel⟩, gw_in 295 (by decide +kernel) (by decide +kernel), gw_in 296 (by decide +kernel) (by decide +kernel)⟩
abbrev mX1_addException : MM := (yX1_addException, cX1_addException, 5, none)
theorem ok_X1_addException : okV mX1_addException 3 := ⟨⟨gw_in 310 (by decide +kernel) (by decide +kernel), gw_in 46 (by decide +kernel) (by decide +kernel), ⟨by decide +kernel, by decide +kernel, by decide +kernel⟩, by decide, by decide +kernel⟩, gw_in 308 (by decide +kernel) (by decide +kernel), gw_in 309 (by decide +kernel) (by decide +kernel)⟩
abbrev mX1_addAll : MM := (yX1_addAll, cX1_addAll, 6, none)
theorem ok_X1_addAll : okV mX1_addAll 1 := ⟨⟨gw_in 424 (by decide +kernel) (by decide +kernel), gw_in 46 (by decide +kernel) (by decide +kernel), ⟨by decide +kernel, by decide +kernel, by decide +kernel⟩, by decide, by decide +kernel⟩, gw_in 422 (by decide +kernel) (by decide +kernel), gw_in 423 (by decide +kernel) (by decide +kernel)⟩
abbrev mX1_copyFrom : MM := (yX1_copyFrom, cX1_copyFrom, 2, none)
theorem ok_X1_copyFrom : okV mX1_copyFrom 1 := ⟨⟨gw_in 281 (by decide +kernel) (by decide +kernel), gw_in 46 (by decide +kernel) (by decide +kernel), ⟨by decide +kernel, by decide +kernel, by decide +kernel⟩, by decide, by decide +kernel⟩, gw_in 279 (by decide +kernel) (by decide +kernel), gw_in 280 (by decide +kernel) (by decide +kernel)⟩
abbrev mX1_isInForce : MM := (yX1_isInForce, cX1_isInForce, 3, some .boolean)
theorem ok_X1_isInForce : okV mX1_isInForce 2 := ⟨⟨gw_in 342 (by decide +kernel) (by decide +kernel), gw_in 46 (by decide +kernel) (by decide +kernel), ⟨by decide +kernel, by decide +kernel, by decide +kernel⟩, by decide, by decide +kernel⟩, gw_in 340 (by decide +kernel) (by decide +kernel), gw_in 341 (by decide +kernel) (by decide +kernel)⟩
abbrev mX1_isInSpan : MM := (yX1_isInSpan, cX1_isInSpan, 3, some .boolean)
theorem ok_X1_isInSpan : okV mX1_isInSpan 2 := ⟨⟨gw_in 350 (by decide +kernel) (by decide +kernel), gw_in 46 (by decide +kernel) (by decide +kernel), ⟨by decide +kernel, by decide +kernel, by decide +kernel⟩, by decide, by decide +kernel⟩, gw_in 348 (by decide +kernel) (by decide +kernel), gw_in 349 (by decide +kernel) (by decide +kernel)⟩
abbrev mX1_isExcepted : MM := (yX1_isExcepted, cX1_isExcepted, 5, some .boolean)
theorem ok_X1_isExcepted : okV mX1_isExcepted 2 := ⟨⟨gw_in 358 (by decide +kernel) (by decide +kernel), gw_in 46 (by decide +kernel) (by decide +kernel), ⟨by decide +kernel, by decide +kernel, by decide +kernel⟩, by decide, by decide +kernel⟩, gw_in 356 (by decide +kernel) (by decide +kernel), gw_in 357 (by decide +kernel) (by decide +kernel)⟩
abbrev mX1_speaksAtAll : MM := (yX1_speaksAtAll, cX1_speaksAtAll, 2, some .boolean)
theorem ok_X1_speaksAtAll : okV mX1_speaksAtAll 1 := ⟨⟨gw_in 370 (by decide +kernel) (by decide +kernel), gw_in 46 (by decide +kernel) (by decide +kernel), ⟨by decide +kernel, by decide +kernel, by decide +kernel⟩, by decide, by decide +kernel⟩, gw_in 368 (by decide +kernel) (by decide +kernel), gw_in 369 (by decide +kernel) (by decide +kernel)⟩
abbrev mX1_hasReversedSpan : MM := (yX1_hasReversedSpan, cX1_hasReversedSpan, 4, some .boolean)
theorem ok_X1_hasReversedSpan : okV mX1_hasReversedSpan 0 := ⟨⟨gw_in 420 (by decide +kernel) (by decide +kernel), gw_in 46 (by decide +kernel) (by decide +kernel), ⟨by decide +kernel, by decide +kernel, by decide +kernel⟩, by decide, by decide +kernel⟩, gw_in 418 (by decide +kernel) (by decide +kernel), gw_in 419 (by decide +kernel) (by decide +kernel)⟩
abbrev mX1_nextTurn : MM := (yX1_nextTurn, cX1_nextTurn, 4, some .int)
theorem ok_X1_nextTurn : okV mX1_nextTurn 1 := ⟨⟨gw_in 542 (by decide +kernel) (by decide +kernel), gw_in 46 (by decide +kernel) (by decide +kernel), ⟨by decide +kernel, by decide +kernel, by decide +kernel⟩, by decide, by decide +kernel⟩, gw_in 540 (by decide +kernel) (by decide +kernel), gw_in 541 (by decide +kernel) (by decide +kernel)⟩
abbrev mX1_countOfChapter : MM := (yX1_countOfChapter, cX1_countOfChapter, 4, some .int)
theorem ok_X1_countOfChapter : okV mX1_countOfChapter 1 := ⟨⟨gw_in 446 (by decide +kernel) (by decide +kernel), gw_in 46 (by decide +kernel) (by decide +kernel), ⟨by decide +kernel, by decide +kernel, by decide +kernel⟩, by decide, by decide +kernel⟩, gw_in 444 (by decide +kernel) (by decide +kernel), gw_in 445 (by decide +kernel) (by decide +kernel)⟩
abbrev mX1_countInForceOfChapter : MM := (yX1_countInForceOfChapter, cX1_countInForceOfChapter, 5, some .int)
theorem ok_X1_countInForceOfChapter : okV mX1_countInForceOfChapter 2 := ⟨⟨gw_in 450 (by decide +kernel) (by decide +kernel), gw_in 46 (by decide +kernel) (by decide +kernel), ⟨by decide +kernel, by decide +kernel, by decide +kernel⟩, by decide, by decide +kernel⟩, gw_in 448 (by decide +kernel) (by decide +kernel), gw_in 449 (by decide +kernel) (by decide +kernel)⟩
abbrev mX1_countInForce : MM := (yX1_countInForce, cX1_countInForce, 4, some .int)
theorem ok_X1_countInForce : okV mX1_countInForce 1 := ⟨⟨gw_in 583 (by decide +kernel) (by decide +kernel), gw_in 46 (by decide +kernel) (by decide +kernel), ⟨by decide +kernel, by decide +kernel, by decide +kernel⟩, by decide, by decide +kernel⟩, gw_in 581 (by decide +kernel) (by decide +kernel), gw_in 582 (by decide +kernel) (by decide +kernel)⟩
abbrev mX1_countExceptions : MM := (yX1_countExceptions, cX1_countExceptions, 3, some .int)
theorem ok_X1_countExceptions : okV mX1_countExceptions 0 := ⟨⟨gw_in 595 (by decide +kernel) (by decide +kernel), gw_in 46 (by decide +kernel) (by decide +kernel), ⟨by decide +kernel, by decide +kernel, by decide +kernel⟩, by decide, by decide +kernel⟩, gw_in 593 (by decide +kernel) (by decide +kernel), gw_in 594 (by decide +kernel) (by decide +kernel)⟩
abbrev mX1_countSilent : MM := (yX1_countSilent, cX1_countSilent, 3, some .int)
theorem ok_X1_countSilent : okV mX1_countSilent 0 := ⟨⟨gw_in 599 (by decide +kernel) (by decide +kernel), gw_in 46 (by decide +kernel) (by decide +kernel), ⟨by decide +kernel, by decide +kernel, by decide +kernel⟩, by decide, by decide +kernel⟩, gw_in 597 (by decide +kernel) (by decide +kernel), gw_in 598 (by decide +kernel) (by decide +kernel)⟩
abbrev mX2_init : MM := (yX2_init, cX2_init, 1, none)
theorem ok_X2_init : okM mX2_init 0 := ⟨gw_in 65 (by decide +kernel) (by decide +kernel), gw_in 44 (by decide +kernel) (by decide +kernel), ⟨by decide +kernel, by decide +kernel, by decide +kernel⟩, by decide, by decide +kernel⟩
abbrev mX2_findTops : MM := (yX2_findTops, cX2_findTops, 7, none)
theorem ok_X2_findTops : okV mX2_findTops 3 := ⟨⟨gw_in 335 (by decide +kernel) (by decide +kernel), gw_in 44 (by decide +kernel) (by decide +kernel), ⟨by decide +kernel, by decide +kernel, by decide +kernel⟩, by decide, by decide +kernel⟩, gw_in 333 (by decide +kernel) (by decide +kernel), gw_in 334 (by decide +kernel) (by decide +kernel)⟩
abbrev mX2_topSpeaks : MM := (yX2_topSpeaks, cX2_topSpeaks, 3, some .boolean)
theorem ok_X2_topSpeaks : okV mX2_topSpeaks 1 := ⟨⟨gw_in 366 (by decide +kernel) (by decide +kernel), gw_in 44 (by decide +kernel) (by decide +kernel), ⟨by decide +kernel, by decide +kernel, by decide +kernel⟩, by decide, by decide +kernel⟩, gw_in 364 (by decide +kernel) (by decide +kernel), gw_in 365 (by decide +kernel) (by decide +kernel)⟩
abbrev mX2_rulerOfTops : MM := (yX2_rulerOfTops, cX2_rulerOfTops, 4, some .int)
theorem ok_X2_rulerOfTops : okV mX2_rulerOfTops 0 := ⟨⟨gw_in 362 (by decide +kernel) (by decide +kernel), gw_in 44 (by decide +kernel) (by decide +kernel), ⟨by decide +kernel, by decide +kernel, by decide +kernel⟩, by decide, by decide +kernel⟩, gw_in 360 (by decide +kernel) (by decide +kernel), gw_in 361 (by decide +kernel) (by decide +kernel)⟩
abbrev mX2_ruler : MM := (yX2_ruler, cX2_ruler, 3, some .int)
theorem ok_X2_ruler : okV mX2_ruler 2 := ⟨⟨gw_in 327 (by decide +kernel) (by decide +kernel), gw_in 44 (by decide +kernel) (by decide +kernel), ⟨by decide +kernel, by decide +kernel, by decide +kernel⟩, by decide, by decide +kernel⟩, gw_in 325 (by decide +kernel) (by decide +kernel), gw_in 326 (by decide +kernel) (by decide +kernel)⟩
abbrev mX2_rulerWithout : MM := (yX2_rulerWithout, cX2_rulerWithout, 4, some .int)
theorem ok_X2_rulerWithout : okV mX2_rulerWithout 3 := ⟨⟨gw_in 331 (by decide +kernel) (by decide +kernel), gw_in 44 (by decide +kernel) (by decide +kernel), ⟨by decide +kernel, by decide +kernel, by decide +kernel⟩, by decide, by decide +kernel⟩, gw_in 329 (by decide +kernel) (by decide +kernel), gw_in 330 (by decide +kernel) (by decide +kernel)⟩
abbrev mX2_silencer : MM := (yX2_silencer, cX2_silencer, 5, some .int)
theorem ok_X2_silencer : okV mX2_silencer 3 := ⟨⟨gw_in 519 (by decide +kernel) (by decide +kernel), gw_in 44 (by decide +kernel) (by decide +kernel), ⟨by decide +kernel, by decide +kernel, by decide +kernel⟩, by decide, by decide +kernel⟩, gw_in 517 (by decide +kernel) (by decide +kernel), gw_in 518 (by decide +kernel) (by decide +kernel)⟩
abbrev mX2_whyNotRuling : MM := (yX2_whyNotRuling, cX2_whyNotRuling, 5, some .int)
theorem ok_X2_whyNotRuling : okV mX2_whyNotRuling 3 := ⟨⟨gw_in 527 (by decide +kernel) (by decide +kernel), gw_in 44 (by decide +kernel) (by decide +kernel), ⟨by decide +kernel, by decide +kernel, by decide +kernel⟩, by decide, by decide +kernel⟩, gw_in 525 (by decide +kernel) (by decide +kernel), gw_in 526 (by decide +kernel) (by decide +kernel)⟩
abbrev mX2_nextChange : MM := (yX2_nextChange, cX2_nextChange, 6, some .int)
theorem ok_X2_nextChange : okV mX2_nextChange 2 := ⟨⟨gw_in 538 (by decide +kernel) (by decide +kernel), gw_in 44 (by decide +kernel) (by decide +kernel), ⟨by decide +kernel, by decide +kernel, by decide +kernel⟩, by decide, by decide +kernel⟩, gw_in 536 (by decide +kernel) (by decide +kernel), gw_in 537 (by decide +kernel) (by decide +kernel)⟩
abbrev mX2_busyClauses : MM := (yX2_busyClauses, cX2_busyClauses, 6, some .int)
theorem ok_X2_busyClauses : okV mX2_busyClauses 0 := ⟨⟨gw_in 559 (by decide +kernel) (by decide +kernel), gw_in 44 (by decide +kernel) (by decide +kernel), ⟨by decide +kernel, by decide +kernel, by decide +kernel⟩, by decide, by decide +kernel⟩, gw_in 557 (by decide +kernel) (by decide +kernel), gw_in 558 (by decide +kernel) (by decide +kernel)⟩
abbrev mX2_casesChangedBetween : MM := (yX2_casesChangedBetween, cX2_casesChangedBetween, 5, some .int)
theorem ok_X2_casesChangedBetween : okV mX2_casesChangedBetween 2 := ⟨⟨gw_in 323 (by decide +kernel) (by decide +kernel), gw_in 44 (by decide +kernel) (by decide +kernel), ⟨by decide +kernel, by decide +kernel, by decide +kernel⟩, by decide, by decide +kernel⟩, gw_in 321 (by decide +kernel) (by decide +kernel), gw_in 322 (by decide +kernel) (by decide +kernel)⟩
abbrev mX2_casesChangedWithout : MM := (yX2_casesChangedWithout, cX2_casesChangedWithout, 4, some .int)
theorem ok_X2_casesChangedWithout : okV mX2_casesChangedWithout 1 := ⟨⟨gw_in 567 (by decide +kernel) (by decide +kernel), gw_in 44 (by decide +kernel) (by decide +kernel), ⟨by decide +kernel, by decide +kernel, by decide +kernel⟩, by decide, by decide +kernel⟩, gw_in 565 (by decide +kernel) (by decide +kernel), gw_in 566 (by decide +kernel) (by decide +kernel)⟩
abbrev mX2_tallyToday : MM := (yX2_tallyToday, cX2_tallyToday, 3, none)
theorem ok_X2_tallyToday : okV mX2_tallyToday 0 := ⟨⟨gw_in 459 (by decide +kernel) (by decide +kernel), gw_in 44 (by decide +kernel) (by decide +kernel), ⟨by decide +kernel, by decide +kernel, by decide +kernel⟩, by decide, by decide +kernel⟩, gw_in 457 (by decide +kernel) (by decide +kernel), gw_in 458 (by decide +kernel) (by decide +kernel)⟩
abbrev mX2_casesRuled : MM := (yX2_casesRuled, cX2_casesRuled, 3, some .int)
theorem ok_X2_casesRuled : okV mX2_casesRuled 0 := ⟨⟨gw_in 587 (by decide +kernel) (by decide +kernel), gw_in 44 (by decide +kernel) (by decide +kernel), ⟨by decide +kernel, by decide +kernel, by decide +kernel⟩, by decide, by decide +kernel⟩, gw_in 585 (by decide +kernel) (by decide +kernel), gw_in 586 (by decide +kernel) (by decide +kernel)⟩
abbrev mX2_casesRuledByClause : MM := (yX2_casesRuledByClause, cX2_casesRuledByClause, 2, some .int)
theorem ok_X2_casesRuledByClause : okV mX2_casesRuledByClause 1 := ⟨⟨gw_in 472 (by decide +kernel) (by decide +kernel), gw_in 44 (by decide +kernel) (by decide +kernel), ⟨by decide +kernel, by decide +kernel, by decide +kernel⟩, by decide, by decide +kernel⟩, gw_in 470 (by decide +kernel) (by decide +kernel), gw_in 471 (by decide +kernel) (by decide +kernel)⟩
abbrev mX2_casesRuledByChapter : MM := (yX2_casesRuledByChapter, cX2_casesRuledByChapter, 4, some .int)
theorem ok_X2_casesRuledByChapter : okV mX2_casesRuledByChapter 1 := ⟨⟨gw_in 455 (by decide +kernel) (by decide +kernel), gw_in 44 (by decide +kernel) (by decide +kernel), ⟨by decide +kernel, by decide +kernel, by decide +kernel⟩, by decide, by decide +kernel⟩, gw_in 453 (by decide +kernel) (by decide +kernel), gw_in 454 (by decide +kernel) (by decide +kernel)⟩
abbrev mX2_rulerOfMost : MM := (yX2_rulerOfMost, cX2_rulerOfMost, 4, some .int)
theorem ok_X2_rulerOfMost : okV mX2_rulerOfMost 0 := ⟨⟨gw_in 575 (by decide +kernel) (by decide +kernel), gw_in 44 (by decide +kernel) (by decide +kernel), ⟨by decide +kernel, by decide +kernel, by decide +kernel⟩, by decide, by decide +kernel⟩, gw_in 573 (by decide +kernel) (by decide +kernel), gw_in 574 (by decide +kernel) (by decide +kernel)⟩
abbrev mX2_casesSpokenOf : MM := (yX2_casesSpokenOf, cX2_casesSpokenOf, 5, some .int)
theorem ok_X2_casesSpokenOf : okV mX2_casesSpokenOf 1 := ⟨⟨gw_in 468 (by decide +kernel) (by decide +kernel), gw_in 44 (by decide +kernel) (by decide +kernel), ⟨by decide +kernel, by decide +kernel, by decide +kernel⟩, by decide, by decide +kernel⟩, gw_in 466 (by decide +kernel) (by decide +kernel), gw_in 467 (by decide +kernel) (by decide +kernel)⟩
abbrev mX2_timesSpoken : MM := (yX2_timesSpoken, cX2_timesSpoken, 4, some .int)
theorem ok_X2_timesSpoken : okV mX2_timesSpoken 0 := ⟨⟨gw_in 591 (by decide +kernel) (by decide +kernel), gw_in 44 (by decide +kernel) (by decide +kernel), ⟨by decide +kernel, by decide +kernel, by decide +kernel⟩, by decide, by decide +kernel⟩, gw_in 589 (by decide +kernel) (by decide +kernel), gw_in 590 (by decide +kernel) (by decide +kernel)⟩
abbrev mX2_casesOfUnlikeVerdicts : MM := (yX2_casesOfUnlikeVerdicts, cX2_casesOfUnlikeVerdicts, 5, some .int)
theorem ok_X2_casesOfUnlikeVerdicts : okV mX2_casesOfUnlikeVerdicts 2 := ⟨⟨gw_in 551 (by decide +kernel) (by decide +kernel), gw_in 44 (by decide +kernel) (by decide +kernel), ⟨by decide +kernel, by decide +kernel, by decide +kernel⟩, by decide, by decide +kernel⟩, gw_in 549 (by decide +kernel) (by decide +kernel), gw_in 550 (by decide +kernel) (by decide +kernel)⟩
abbrev mX3_init : MM := (yX3_init, cX3_init, 1, none)
theorem ok_X3_init : okM mX3_init 0 := ⟨gw_in 210 (by decide +kernel) (by decide +kernel), gw_in 48 (by decide +kernel) (by decide +kernel), ⟨by decide +kernel, by decide +kernel, by decide +kernel⟩, by decide, by decide +kernel⟩
abbrev mX3_paint : MM := (yX3_paint, cX3_paint, 5, none)
theorem ok_X3_paint : okV mX3_paint 2 := ⟨⟨gw_in 485 (by decide +kernel) (by decide +kernel), gw_in 48 (by decide +kernel) (by decide +kernel), ⟨by decide +kernel, by decide +kernel, by decide +kernel⟩, by decide, by decide +kernel⟩, gw_in 483 (by decide +kernel) (by decide +kernel), gw_in 484 (by decide +kernel) (by decide +kernel)⟩
abbrev mX3_sortByDates : MM := (yX3_sortByDates, cX3_sortByDates, 4, none)
theorem ok_X3_sortByDates : okV mX3_sortByDates 1 := ⟨⟨gw_in 489 (by decide +kernel) (by decide +kernel), gw_in 48 (by decide +kernel) (by decide +kernel), ⟨by decide +kernel, by decide +kernel, by decide +kernel⟩, by decide, by decide +kernel⟩, gw_in 488 (by decide +kernel) (by decide +kernel), gw_in 7 (by decide +kernel) (by decide +kernel)⟩
abbrev mX3_paintCoat : MM := (yX3_paintCoat, cX3_paintCoat, 9, none)
theorem ok_X3_paintCoat : okV mX3_paintCoat 3 := ⟨⟨gw_in 494 (by decide +kernel) (by decide +kernel), gw_in 48 (by decide +kernel) (by decide +kernel), ⟨by decide +kernel, by decide +kernel, by decide +kernel⟩, by decide, by decide +kernel⟩, gw_in 493 (by decide +kernel) (by decide +kernel), gw_in 8 (by decide +kernel) (by decide +kernel)⟩
abbrev mX3_paintClause : MM := (yX3_paintClause, cX3_paintClause, 6, none)
theorem ok_X3_paintClause : okV mX3_paintClause 4 := ⟨⟨gw_in 505 (by decide +kernel) (by decide +kernel), gw_in 48 (by decide +kernel) (by decide +kernel), ⟨by decide +kernel, by decide +kernel, by decide +kernel⟩, by decide, by decide +kernel⟩, gw_in 504 (by decide +kernel) (by decide +kernel), gw_in 9 (by decide +kernel) (by decide +kernel)⟩
abbrev mX3_layCoat : MM := (yX3_layCoat, cX3_layCoat, 4, none)
theorem ok_X3_layCoat : okV mX3_layCoat 1 := ⟨⟨gw_in 510 (by decide +kernel) (by decide +kernel), gw_in 48 (by decide +kernel) (by decide +kernel), ⟨by decide +kernel, by decide +kernel, by decide +kernel⟩, by decide, by decide +kernel⟩, gw_in 509 (by decide +kernel) (by decide +kernel), gw_in 10 (by decide +kernel) (by decide +kernel)⟩
abbrev mX4_init : MM := (yX4_init, cX4_init, 1, none)
theorem ok_X4_init : okM mX4_init 0 := ⟨gw_in 180 (by decide +kernel) (by decide +kernel), gw_in 47 (by decide +kernel) (by decide +kernel), ⟨by decide +kernel, by decide +kernel, by decide +kernel⟩, by decide, by decide +kernel⟩
abbrev mX4_add : MM := (yX4_add, cX4_add, 2, none)
theorem ok_X4_add : okV mX4_add 1 := ⟨⟨gw_in 378 (by decide +kernel) (by decide +kernel), gw_in 47 (by decide +kernel) (by decide +kernel), ⟨by decide +kernel, by decide +kernel, by decide +kernel⟩, by decide, by decide +kernel⟩, gw_in 376 (by decide +kernel) (by decide +kernel), gw_in 377 (by decide +kernel) (by decide +kernel)⟩
abbrev mX4_readClauses : MM := (yX4_readClauses, cX4_readClauses, 3, some .boolean)
theorem ok_X4_readClauses : okV mX4_readClauses 1 := ⟨⟨gw_in 390 (by decide +kernel) (by decide +kernel), gw_in 47 (by decide +kernel) (by decide +kernel), ⟨by decide +kernel, by decide +kernel, by decide +kernel⟩, by decide, by decide +kernel⟩, gw_in 388 (by decide +kernel) (by decide +kernel), gw_in 389 (by decide +kernel) (by decide +kernel)⟩
abbrev mX4_readClause : MM := (yX4_readClause, cX4_readClause, 5, some .boolean)
theorem ok_X4_readClause : okV mX4_readClause 1 := ⟨⟨gw_in 394 (by decide +kernel) (by decide +kernel), gw_in 47 (by decide +kernel) (by decide +kernel), ⟨by decide +kernel, by decide +kernel, by decide +kernel⟩, by decide, by decide +kernel⟩, gw_in 393 (by decide +kernel) (by decide +kernel), gw_in 1 (by decide +kernel) (by decide +kernel)⟩
abbrev mX4_readExceptions : MM := (yX4_readExceptions, cX4_readExceptions, 4, some .boolean)
theorem ok_X4_readExceptions : okV mX4_readExceptions 2 := ⟨⟨gw_in 415 (by decide +kernel) (by decide +kernel), gw_in 47 (by decide +kernel) (by decide +kernel), ⟨by decide +kernel, by decide +kernel, by decide +kernel⟩, by decide, by decide +kernel⟩, gw_in 414 (by decide +kernel) (by decide +kernel), gw_in 6 (by decide +kernel) (by decide +kernel)⟩
abbrev mX4_readSpan : MM := (yX4_readSpan, cX4_readSpan, 1, some .boolean)
theorem ok_X4_readSpan : okV mX4_readSpan 0 := ⟨⟨gw_in 410 (by decide +kernel) (by decide +kernel), gw_in 47 (by decide +kernel) (by decide +kernel), ⟨by decide +kernel, by decide +kernel, by decide +kernel⟩, by decide, by decide +kernel⟩, gw_in 409 (by decide +kernel) (by decide +kernel), gw_in 5 (by decide +kernel) (by decide +kernel)⟩
abbrev mX4_readSign : MM := (yX4_readSign, cX4_readSign, 2, some .boolean)
theorem ok_X4_readSign : okV mX4_readSign 1 := ⟨⟨gw_in 406 (by decide +kernel) (by decide +kernel), gw_in 47 (by decide +kernel) (by decide +kernel), ⟨by decide +kernel, by decide +kernel, by decide +kernel⟩, by decide, by decide +kernel⟩, gw_in 405 (by decide +kernel) (by decide +kernel), gw_in 4 (by decide +kernel) (by decide +kernel)⟩
abbrev mX4_readNumber : MM := (yX4_readNumber, cX4_readNumber, 3, some .boolean)
theorem ok_X4_readNumber : okV mX4_readNumber 1 := ⟨⟨gw_in 398 (by decide +kernel) (by decide +kernel), gw_in 47 (by decide +kernel) (by decide +kernel), ⟨by decide +kernel, by decide +kernel, by decide +kernel⟩, by decide, by decide +kernel⟩, gw_in 397 (by decide +kernel) (by decide +kernel), gw_in 2 (by decide +kernel) (by decide +kernel)⟩
abbrev mX4_digitHere : MM := (yX4_digitHere, cX4_digitHere, 2, some .int)
theorem ok_X4_digitHere : okV mX4_digitHere 0 := ⟨⟨gw_in 402 (by decide +kernel) (by decide +kernel), gw_in 47 (by decide +kernel) (by decide +kernel), ⟨by decide +kernel, by decide +kernel, by decide +kernel⟩, by decide, by decide +kernel⟩, gw_in 401 (by decide +kernel) (by decide +kernel), gw_in 3 (by decide +kernel) (by decide +kernel)⟩
abbrev mX5_init : MM := (yX5_init, cX5_init, 2, none)
theorem ok_X5_init : okM mX5_init 0 := ⟨gw_in 57 (by decide +kernel) (by decide +kernel), gw_in 43 (by decide +kernel) (by decide +kernel), ⟨by decide +kernel, by decide +kernel, by decide +kernel⟩, by decide, by decide +kernel⟩
abbrev mX5_setReach : MM := (yX5_setReach, cX5_setReach, 6, some .int)
theorem ok_X5_setReach : okV mX5_setReach 3 := ⟨⟨gw_in 254 (by decide +kernel) (by decide +kernel), gw_in 43 (by decide +kernel) (by decide +kernel), ⟨by decide +kernel, by decide +kernel, by decide +kernel⟩, by decide, by decide +kernel⟩, gw_in 252 (by decide +kernel) (by decide +kernel), gw_in 253 (by decide +kernel) (by decide +kernel)⟩
abbrev mX5_exchange : MM := (yX5_exchange, cX5_exchange, 4, some .int)
theorem ok_X5_exchange : okV mX5_exchange 2 := ⟨⟨gw_in 286 (by decide +kernel) (by decide +kernel), gw_in 43 (by decide +kernel) (by decide +kernel), ⟨by decide +kernel, by decide +kernel, by decide +kernel⟩, by decide, by decide +kernel⟩, gw_in 284 (by decide +kernel) (by decide +kernel), gw_in 285 (by decide +kernel) (by decide +kernel)⟩
abbrev mX5_write : MM := (yX5_write, cX5_write, 6, some .int)
theorem ok_X5_write : okV mX5_write 5 := ⟨⟨gw_in 290 (by decide +kernel) (by decide +kernel), gw_in 43 (by decide +kernel) (by decide +kernel), ⟨by decide +kernel, by decide +kernel, by decide +kernel⟩, by decide, by decide +kernel⟩, gw_in 288 (by decide +kernel) (by decide +kernel), gw_in 289 (by decide +kernel) (by decide +kernel)⟩
abbrev mX5_except : MM := (yX5_except, cX5_except, 4, some .int)
theorem ok_X5_except : okV mX5_except 3 := ⟨⟨gw_in 301 (by decide +kernel) (by decide +kernel), gw_in 43 (by decide +kernel) (by decide +kernel), ⟨by decide +kernel, by decide +kernel, by decide +kernel⟩, by decide, by decide +kernel⟩, gw_in 299 (by decide +kernel) (by decide +kernel), gw_in 300 (by decide +kernel) (by decide +kernel)⟩
abbrev mX5_end : MM := (yX5_end, cX5_end, 4, some .int)
theorem ok_X5_end : okV mX5_end 2 := ⟨⟨gw_in 315 (by decide +kernel) (by decide +kernel), gw_in 43 (by decide +kernel) (by decide +kernel), ⟨by decide +kernel, by decide +kernel, by decide +kernel⟩, by decide, by decide +kernel⟩, gw_in 313 (by decide +kernel) (by decide +kernel), gw_in 314 (by decide +kernel) (by decide +kernel)⟩
abbrev mX5_setDay : MM := (yX5_setDay, cX5_setDay, 3, some .int)
theorem ok_X5_setDay : okV mX5_setDay 1 := ⟨⟨gw_in 319 (by decide +kernel) (by decide +kernel), gw_in 43 (by decide +kernel) (by decide +kernel), ⟨by decide +kernel, by decide +kernel, by decide +kernel⟩, by decide, by decide +kernel⟩, gw_in 317 (by decide +kernel) (by decide +kernel), gw_in 318 (by decide +kernel) (by decide +kernel)⟩
abbrev mX5_type : MM := (yX5_type, cX5_type, 2, some .int)
theorem ok_X5_type : okV mX5_type 1 := ⟨⟨gw_in 374 (by decide +kernel) (by decide +kernel), gw_in 43 (by decide +kernel) (by decide +kernel), ⟨by decide +kernel, by decide +kernel, by decide +kernel⟩, by decide, by decide +kernel⟩, gw_in 372 (by decide +kernel) (by decide +kernel), gw_in 373 (by decide +kernel) (by decide +kernel)⟩
abbrev mX5_clearText : MM := (yX5_clearText, cX5_clearText, 2, some .int)
theorem ok_X5_clearText : okV mX5_clearText 0 := ⟨⟨gw_in 382 (by decide +kernel) (by decide +kernel), gw_in 43 (by decide +kernel) (by decide +kernel), ⟨by decide +kernel, by decide +kernel, by decide +kernel⟩, by decide, by decide +kernel⟩, gw_in 380 (by decide +kernel) (by decide +kernel), gw_in 381 (by decide +kernel) (by decide +kernel)⟩
abbrev mX5_writeAll : MM := (yX5_writeAll, cX5_writeAll, 1, some .int)
theorem ok_X5_writeAll : okV mX5_writeAll 0 := ⟨⟨gw_in 386 (by decide +kernel) (by decide +kernel), gw_in 43 (by decide +kernel) (by decide +kernel), ⟨by decide +kernel, by decide +kernel, by decide +kernel⟩, by decide, by decide +kernel⟩, gw_in 384 (by decide +kernel) (by decide +kernel), gw_in 385 (by decide +kernel) (by decide +kernel)⟩
abbrev mX5_undo : MM := (yX5_undo, cX5_undo, 1, some .int)
theorem ok_X5_undo : okV mX5_undo 0 := ⟨⟨gw_in 430 (by decide +kernel) (by decide +kernel), gw_in 43 (by decide +kernel) (by decide +kernel), ⟨by decide +kernel, by decide +kernel, by decide +kernel⟩, by decide, by decide +kernel⟩, gw_in 428 (by decide +kernel) (by decide +kernel), gw_in 429 (by decide +kernel) (by decide +kernel)⟩
abbrev mX5_keep : MM := (yX5_keep, cX5_keep, 1, some .int)
theorem ok_X5_keep : okV mX5_keep 0 := ⟨⟨gw_in 434 (by decide +kernel) (by decide +kernel), gw_in 43 (by decide +kernel) (by decide +kernel), ⟨by decide +kernel, by decide +kernel, by decide +kernel⟩, by decide, by decide +kernel⟩, gw_in 432 (by decide +kernel) (by decide +kernel), gw_in 433 (by decide +kernel) (by decide +kernel)⟩
abbrev mX5_restore : MM := (yX5_restore, cX5_restore, 1, some .int)
theorem ok_X5_restore : okV mX5_restore 0 := ⟨⟨gw_in 438 (by decide +kernel) (by decide +kernel), gw_in 43 (by decide +kernel) (by decide +kernel), ⟨by decide +kernel, by decide +kernel, by decide +kernel⟩, by decide, by decide +kernel⟩, gw_in 436 (by decide +kernel) (by decide +kernel), gw_in 437 (by decide +kernel) (by decide +kernel)⟩
abbrev mX5_chapter : MM := (yX5_chapter, cX5_chapter, 3, some .int)
theorem ok_X5_chapter : okV mX5_chapter 2 := ⟨⟨gw_in 442 (by decide +kernel) (by decide +kernel), gw_in 43 (by decide +kernel) (by decide +kernel), ⟨by decide +kernel, by decide +kernel, by decide +kernel⟩, by decide, by decide +kernel⟩, gw_in 440 (by decide +kernel) (by decide +kernel), gw_in 441 (by decide +kernel) (by decide +kernel)⟩
abbrev mX5_clause : MM := (yX5_clause, cX5_clause, 4, some .int)
theorem ok_X5_clause : okV mX5_clause 2 := ⟨⟨gw_in 463 (by decide +kernel) (by decide +kernel), gw_in 43 (by decide +kernel) (by decide +kernel), ⟨by decide +kernel, by decide +kernel, by decide +kernel⟩, by decide, by decide +kernel⟩, gw_in 461 (by decide +kernel) (by decide +kernel), gw_in 462 (by decide +kernel) (by decide +kernel)⟩
abbrev mX5_ruling : MM := (yX5_ruling, cX5_ruling, 5, some .int)
theorem ok_X5_ruling : okV mX5_ruling 3 := ⟨⟨gw_in 476 (by decide +kernel) (by decide +kernel), gw_in 43 (by decide +kernel) (by decide +kernel), ⟨by decide +kernel, by decide +kernel, by decide +kernel⟩, by decide, by decide +kernel⟩, gw_in 474 (by decide +kernel) (by decide +kernel), gw_in 475 (by decide +kernel) (by decide +kernel)⟩
abbrev mX5_painted : MM := (yX5_painted, cX5_painted, 4, some .int)
theorem ok_X5_painted : okV mX5_painted 2 := ⟨⟨gw_in 481 (by decide +kernel) (by decide +kernel), gw_in 43 (by decide +kernel) (by decide +kernel), ⟨by decide +kernel, by decide +kernel, by decide +kernel⟩, by decide, by decide +kernel⟩, gw_in 479 (by decide +kernel) (by decide +kernel), gw_in 480 (by decide +kernel) (by decide +kernel)⟩
abbrev mX5_silencedBy : MM := (yX5_silencedBy, cX5_silencedBy, 5, some .int)
theorem ok_X5_silencedBy : okV mX5_silencedBy 3 := ⟨⟨gw_in 515 (by decide +kernel) (by decide +kernel), gw_in 43 (by decide +kernel) (by decide +kernel), ⟨by decide +kernel, by decide +kernel, by decide +kernel⟩, by decide, by decide +kernel⟩, gw_in 513 (by decide +kernel) (by decide +kernel), gw_in 514 (by decide +kernel) (by decide +kernel)⟩
abbrev mX5_reason : MM := (yX5_reason, cX5_reason, 4, some .int)
theorem ok_X5_reason : okV mX5_reason 3 := ⟨⟨gw_in 523 (by decide +kernel) (by decide +kernel), gw_in 43 (by decide +kernel) (by decide +kernel), ⟨by decide +kernel, by decide +kernel, by decide +kernel⟩, by decide, by decide +kernel⟩, gw_in 521 (by decide +kernel) (by decide +kernel), gw_in 522 (by decide +kernel) (by decide +kernel)⟩
abbrev mX5_changesOn : MM := (yX5_changesOn, cX5_changesOn, 3, some .int)
theorem ok_X5_changesOn : okV mX5_changesOn 2 := ⟨⟨gw_in 534 (by decide +kernel) (by decide +kernel), gw_in 43 (by decide +kernel) (by decide +kernel), ⟨by decide +kernel, by decide +kernel, by decide +kernel⟩, by decide, by decide +kernel⟩, gw_in 532 (by decide +kernel) (by decide +kernel), gw_in 533 (by decide +kernel) (by decide +kernel)⟩
abbrev mX5_unlike : MM := (yX5_unlike, cX5_unlike, 3, some .int)
theorem ok_X5_unlike : okV mX5_unlike 2 := ⟨⟨gw_in 547 (by decide +kernel) (by decide +kernel), gw_in 43 (by decide +kernel) (by decide +kernel), ⟨by decide +kernel, by decide +kernel, by decide +kernel⟩, by decide, by decide +kernel⟩, gw_in 545 (by decide +kernel) (by decide +kernel), gw_in 546 (by decide +kernel) (by decide +kernel)⟩
abbrev mX5_idle : MM := (yX5_idle, cX5_idle, 2, some .int)
theorem ok_X5_idle : okV mX5_idle 0 := ⟨⟨gw_in 555 (by decide +kernel) (by decide +kernel), gw_in 43 (by decide +kernel) (by decide +kernel), ⟨by decide +kernel, by decide +kernel, by decide +kernel⟩, by decide, by decide +kernel⟩, gw_in 553 (by decide +kernel) (by decide +kernel), gw_in 554 (by decide +kernel) (by decide +kernel)⟩
abbrev mX5_ifGone : MM := (yX5_ifGone, cX5_ifGone, 2, some .int)
theorem ok_X5_ifGone : okV mX5_ifGone 1 := ⟨⟨gw_in 563 (by decide +kernel) (by decide +kernel), gw_in 43 (by decide +kernel) (by decide +kernel), ⟨by decide +kernel, by decide +kernel, by decide +kernel⟩, by decide, by decide +kernel⟩, gw_in 561 (by decide +kernel) (by decide +kernel), gw_in 562 (by decide +kernel) (by decide +kernel)⟩
abbrev mX5_weightiest : MM := (yX5_weightiest, cX5_weightiest, 2, some .int)
theorem ok_X5_weightiest : okV mX5_weightiest 0 := ⟨⟨gw_in 571 (by decide +kernel) (by decide +kernel), gw_in 43 (by decide +kernel) (by decide +kernel), ⟨by decide +kernel, by decide +kernel, by decide +kernel⟩, by decide, by decide +kernel⟩, gw_in 569 (by decide +kernel) (by decide +kernel), gw_in 570 (by decide +kernel) (by decide +kernel)⟩
abbrev mX5_count : MM := (yX5_count, cX5_count, 2, some .int)
theorem ok_X5_count : okV mX5_count 1 := ⟨⟨gw_in 579 (by decide +kernel) (by decide +kernel), gw_in 43 (by decide +kernel) (by decide +kernel), ⟨by decide +kernel, by decide +kernel, by decide +kernel⟩, by decide, by decide +kernel⟩, gw_in 577 (by decide +kernel) (by decide +kernel), gw_in 578 (by decide +kernel) (by decide +kernel)⟩
abbrev mX5_isBelow : MM := (yX5_isBelow, cX5_isBelow, 2, some .boolean)
theorem ok_X5_isBelow : okS mX5_isBelow 2 := ⟨⟨gw_in 260 (by decide +kernel) (by decide +kernel), gw_in 43 (by decide +kernel) (by decide +kernel), ⟨by decide +kernel, by decide +kernel, by decide +kernel⟩, by decide, by decide +kernel⟩, gw_in 259 (by decide +kernel) (by decide +kernel)⟩
abbrev mX5_isChapter : MM := (yX5_isChapter, cX5_isChapter, 1, some .boolean)
theorem ok_X5_isChapter : okS mX5_isChapter 1 := ⟨⟨gw_in 257 (by decide +kernel) (by decide +kernel), gw_in 43 (by decide +kernel) (by decide +kernel), ⟨by decide +kernel, by decide +kernel, by decide +kernel⟩, by decide, by decide +kernel⟩, gw_in 256 (by decide +kernel) (by decide +kernel)⟩
abbrev mX5_isCase : MM := (yX5_isCase, cX5_isCase, 1, some .boolean)
theorem ok_X5_isCase : okS mX5_isCase 1 := ⟨⟨gw_in 266 (by decide +kernel) (by decide +kernel), gw_in 43 (by decide +kernel) (by decide +kernel), ⟨by decide +kernel, by decide +kernel, by decide +kernel⟩, by decide, by decide +kernel⟩, gw_in 265 (by decide +kernel) (by decide +kernel)⟩
abbrev mX5_isDay : MM := (yX5_isDay, cX5_isDay, 1, some .boolean)
theorem ok_X5_isDay : okS mX5_isDay 1 := ⟨⟨gw_in 293 (by decide +kernel) (by decide +kernel), gw_in 43 (by decide +kernel) (by decide +kernel), ⟨by decide +kernel, by decide +kernel, by decide +kernel⟩, by decide, by decide +kernel⟩, gw_in 292 (by decide +kernel) (by decide +kernel)⟩
abbrev mX5_isSpan : MM := (yX5_isSpan, cX5_isSpan, 2, some .boolean)
theorem ok_X5_isSpan : okS mX5_isSpan 2 := ⟨⟨gw_in 263 (by decide +kernel) (by decide +kernel), gw_in 43 (by decide +kernel) (by decide +kernel), ⟨by decide +kernel, by decide +kernel, by decide +kernel⟩, by decide, by decide +kernel⟩, gw_in 262 (by decide +kernel) (by decide +kernel)⟩
abbrev mX5_record : MM := (yX5_record, cX5_record, 3, none)
theorem ok_X5_record : okV mX5_record 0 := ⟨⟨gw_in 270 (by decide +kernel) (by decide +kernel), gw_in 43 (by decide +kernel) (by decide +kernel), ⟨by decide +kernel, by decide +kernel, by decide +kernel⟩, by decide, by decide +kernel⟩, gw_in 269 (by decide +kernel) (by decide +kernel), gw_in 0 (by decide +kernel) (by decide +kernel)⟩
abbrev mX6_init : MM := (yX6_init, cX6_init, 2, none)
theorem ok_X6_init : okM mX6_init 0 := ⟨gw_in 605 (by decide +kernel) (by decide +kernel), gw_in 49 (by decide +kernel) (by decide +kernel), ⟨by decide +kernel, by decide +kernel, by decide +kernel⟩, by decide, by decide +kernel⟩
abbrev mX6_in : MM := (yX6_in, cX6_in, 3, some .boolean)
theorem ok_X6_in : okS mX6_in 3 := ⟨⟨gw_in 662 (by decide +kernel) (by decide +kernel), gw_in 49 (by decide +kernel) (by decide +kernel), ⟨by decide +kernel, by decide +kernel, by decide +kernel⟩, by decide, by decide +kernel⟩, gw_in 661 (by decide +kernel) (by decide +kernel)⟩
abbrev mX6_isChapter : MM := (yX6_isChapter, cX6_isChapter, 1, some .boolean)
theorem ok_X6_isChapter : okS mX6_isChapter 1 := ⟨⟨gw_in 659 (by decide +kernel) (by decide +kernel), gw_in 49 (by decide +kernel) (by decide +kernel), ⟨by decide +kernel, by decide +kernel, by decide +kernel⟩, by decide, by decide +kernel⟩, gw_in 658 (by decide +kernel) (by decide +kernel)⟩
abbrev mX6_isCase : MM := (yX6_isCase, cX6_isCase, 1, some .boolean)
theorem ok_X6_isCase : okS mX6_isCase 1 := ⟨⟨gw_in 668 (by decide +kernel) (by decide +kernel), gw_in 49 (by decide +kernel) (by decide +kernel), ⟨by decide +kernel, by decide +kernel, by decide +kernel⟩, by decide, by decide +kernel⟩, gw_in 667 (by decide +kernel) (by decide +kernel)⟩
abbrev mX6_isDay : MM := (yX6_isDay, cX6_isDay, 1, some .boolean)
theorem ok_X6_isDay : okS mX6_isDay 1 := ⟨⟨gw_in 683 (by decide +kernel) (by decide +kernel), gw_in 49 (by decide +kernel) (by decide +kernel), ⟨by decide +kernel, by decide +kernel, by decide +kernel⟩, by decide, by decide +kernel⟩, gw_in 682 (by decide +kernel) (by decide +kernel)⟩
abbrev mX6_isSpan : MM := (yX6_isSpan, cX6_isSpan, 2, some .boolean)
theorem ok_X6_isSpan : okS mX6_isSpan 2 := ⟨⟨gw_in 665 (by decide +kernel) (by decide +kernel), gw_in 49 (by decide +kernel) (by decide +kernel), ⟨by decide +kernel, by decide +kernel, by decide +kernel⟩, by decide, by decide +kernel⟩, gw_in 664 (by decide +kernel) (by decide +kernel)⟩
abbrev mX6_isClause : MM := (yX6_isClause, cX6_isClause, 2, some .boolean)
theorem ok_X6_isClause : okV mX6_isClause 1 := ⟨⟨gw_in 698 (by decide +kernel) (by decide +kernel), gw_in 49 (by decide +kernel) (by decide +kernel), ⟨by decide +kernel, by decide +kernel, by decide +kernel⟩, by decide, by decide +kernel⟩, gw_in 697 (by decide +kernel) (by decide +kernel), gw_in 13 (by decide +kernel) (by decide +kernel)⟩
abbrev mX6_ofChapter : MM := (yX6_ofChapter, cX6_ofChapter, 2, some .int)
theorem ok_X6_ofChapter : okS mX6_ofChapter 2 := ⟨⟨gw_in 609 (by decide +kernel) (by decide +kernel), gw_in 49 (by decide +kernel) (by decide +kernel), ⟨by decide +kernel, by decide +kernel, by decide +kernel⟩, by decide, by decide +kernel⟩, gw_in 608 (by decide +kernel) (by decide +kernel)⟩
abbrev mX6_of : MM := (yX6_of, cX6_of, 2, some .int)
theorem ok_X6_of : okS mX6_of 2 := ⟨⟨gw_in 690 (by decide +kernel) (by decide +kernel), gw_in 49 (by decide +kernel) (by decide +kernel), ⟨by decide +kernel, by decide +kernel, by decide +kernel⟩, by decide, by decide +kernel⟩, gw_in 689 (by decide +kernel) (by decide +kernel)⟩
abbrev mX6_get : MM := (yX6_get, cX6_get, 3, some .int)
theorem ok_X6_get : okV mX6_get 2 := ⟨⟨gw_in 702 (by decide +kernel) (by decide +kernel), gw_in 49 (by decide +kernel) (by decide +kernel), ⟨by decide +kernel, by decide +kernel, by decide +kernel⟩, by decide, by decide +kernel⟩, gw_in 701 (by decide +kernel) (by decide +kernel), gw_in 14 (by decide +kernel) (by decide +kernel)⟩
abbrev mX6_record : MM := (yX6_record, cX6_record, 2, none)
theorem ok_X6_record : okV mX6_record 0 := ⟨⟨gw_in 672 (by decide +kernel) (by decide +kernel), gw_in 49 (by decide +kernel) (by decide +kernel), ⟨by decide +kernel, by decide +kernel, by decide +kernel⟩, by decide, by decide +kernel⟩, gw_in 671 (by decide +kernel) (by decide +kernel), gw_in 11 (by decide +kernel) (by decide +kernel)⟩
abbrev mX6_isInForce : MM := (yX6_isInForce, cX6_isInForce, 3, some .boolean)
theorem ok_X6_isInForce : okV mX6_isInForce 2 := ⟨⟨gw_in 738 (by decide +kernel) (by decide +kernel), gw_in 49 (by decide +kernel) (by decide +kernel), ⟨by decide +kernel, by decide +kernel, by decide +kernel⟩, by decide, by decide +kernel⟩, gw_in 737 (by decide +kernel) (by decide +kernel), gw_in 21 (by decide +kernel) (by decide +kernel)⟩
abbrev mX6_reaches : MM := (yX6_reaches, cX6_reaches, 3, some .boolean)
theorem ok_X6_reaches : okV mX6_reaches 2 := ⟨⟨gw_in 746 (by decide +kernel) (by decide +kernel), gw_in 49 (by decide +kernel) (by decide +kernel), ⟨by decide +kernel, by decide +kernel, by decide +kernel⟩, by decide, by decide +kernel⟩, gw_in 745 (by decide +kernel) (by decide +kernel), gw_in 23 (by decide +kernel) (by decide +kernel)⟩
abbrev mX6_isExcepted : MM := (yX6_isExcepted, cX6_isExcepted, 5, some .boolean)
theorem ok_X6_isExcepted : okV mX6_isExcepted 2 := ⟨⟨gw_in 750 (by decide +kernel) (by decide +kernel), gw_in 49 (by decide +kernel) (by decide +kernel), ⟨by decide +kernel, by decide +kernel, by decide +kernel⟩, by decide, by decide +kernel⟩, gw_in 749 (by decide +kernel) (by decide +kernel), gw_in 24 (by decide +kernel) (by decide +kernel)⟩
abbrev mX6_meets : MM := (yX6_meets, cX6_meets, 3, some .boolean)
theorem ok_X6_meets : okV mX6_meets 2 := ⟨⟨gw_in 742 (by decide +kernel) (by decide +kernel), gw_in 49 (by decide +kernel) (by decide +kernel), ⟨by decide +kernel, by decide +kernel, by decide +kernel⟩, by decide, by decide +kernel⟩, gw_in 741 (by decide +kernel) (by decide +kernel), gw_in 22 (by decide +kernel) (by decide +kernel)⟩
abbrev mX6_latestOf : MM := (yX6_latestOf, cX6_latestOf, 8, some .int)
theorem ok_X6_latestOf : okV mX6_latestOf 4 := ⟨⟨gw_in 734 (by decide +kernel) (by decide +kernel), gw_in 49 (by decide +kernel) (by decide +kernel), ⟨by decide +kernel, by decide +kernel, by decide +kernel⟩, by decide, by decide +kernel⟩, gw_in 733 (by decide +kernel) (by decide +kernel), gw_in 20 (by decide +kernel) (by decide +kernel)⟩
abbrev mX6_speaksIn : MM := (yX6_speaksIn, cX6_speaksIn, 6, some .int)
theorem ok_X6_speaksIn : okV mX6_speaksIn 4 := ⟨⟨gw_in 730 (by decide +kernel) (by decide +kernel), gw_in 49 (by decide +kernel) (by decide +kernel), ⟨by decide +kernel, by decide +kernel, by decide +kernel⟩, by decide, by decide +kernel⟩, gw_in 729 (by decide +kernel) (by decide +kernel), gw_in 19 (by decide +kernel) (by decide +kernel)⟩
abbrev mX6_rules : MM := (yX6_rules, cX6_rules, 9, some .int)
theorem ok_X6_rules : okV mX6_rules 3 := ⟨⟨gw_in 726 (by decide +kernel) (by decide +kernel), gw_in 49 (by decide +kernel) (by decide +kernel), ⟨by decide +kernel, by decide +kernel, by decide +kernel⟩, by decide, by decide +kernel⟩, gw_in 725 (by decide +kernel) (by decide +kernel), gw_in 18 (by decide +kernel) (by decide +kernel)⟩
abbrev mX6_worksOut : MM := (yX6_worksOut, cX6_worksOut, 3, none)
theorem ok_X6_worksOut : okV mX6_worksOut 1 := ⟨⟨gw_in 722 (by decide +kernel) (by decide +kernel), gw_in 49 (by decide +kernel) (by decide +kernel), ⟨by decide +kernel, by decide +kernel, by decide +kernel⟩, by decide, by decide +kernel⟩, gw_in 721 (by decide +kernel) (by decide +kernel), gw_in 17 (by decide +kernel) (by decide +kernel)⟩
abbrev mX6_putAside : MM := (yX6_putAside, cX6_putAside, 2, none)
theorem ok_X6_putAside : okV mX6_putAside 0 := ⟨⟨gw_in 718 (by decide +kernel) (by decide +kernel), gw_in 49 (by decide +kernel) (by decide +kernel), ⟨by decide +kernel, by decide +kernel, by decide +kernel⟩, by decide, by decide +kernel⟩, gw_in 717 (by decide +kernel) (by decide +kernel), gw_in 16 (by decide +kernel) (by decide +kernel)⟩
abbrev mX6_changed : MM := (yX6_changed, cX6_changed, 3, some .int)
theorem ok_X6_changed : okV mX6_changed 0 := ⟨⟨gw_in 754 (by decide +kernel) (by decide +kernel), gw_in 49 (by decide +kernel) (by decide +kernel), ⟨by decide +kernel, by decide +kernel, by decide +kernel⟩, by decide, by decide +kernel⟩, gw_in 753 (by decide +kernel) (by decide +kernel), gw_in 25 (by decide +kernel) (by decide +kernel)⟩
abbrev mX6_setReach : MM := (yX6_setReach, cX6_setReach, 6, some .int)
theorem ok_X6_setReach : okV mX6_setReach 3 := ⟨⟨gw_in 656 (by decide +kernel) (by decide +kernel), gw_in 49 (by decide +kernel) (by decide +kernel), ⟨by decide +kernel, by decide +kernel, by decide +kernel⟩, by decide, by decide +kernel⟩, gw_in 654 (by decide +kernel) (by decide +kernel), gw_in 655 (by decide +kernel) (by decide +kernel)⟩
abbrev mX6_exchange : MM := (yX6_exchange, cX6_exchange, 4, some .int)
theorem ok_X6_exchange : okV mX6_exchange 2 := ⟨⟨gw_in 676 (by decide +kernel) (by decide +kernel), gw_in 49 (by decide +kernel) (by decide +kernel), ⟨by decide +kernel, by decide +kernel, by decide +kernel⟩, by decide, by decide +kernel⟩, gw_in 674 (by decide +kernel) (by decide +kernel), gw_in 675 (by decide +kernel) (by decide +kernel)⟩
abbrev mX6_writes : MM := (yX6_writes, cX6_writes, 7, none)
theorem ok_X6_writes : okV mX6_writes 5 := ⟨⟨gw_in 687 (by decide +kernel) (by decide +kernel), gw_in 49 (by decide +kernel) (by decide +kernel), ⟨by decide +kernel, by decide +kernel, by decide +kernel⟩, by decide, by decide +kernel⟩, gw_in 686 (by decide +kernel) (by decide +kernel), gw_in 12 (by decide +kernel) (by decide +kernel)⟩
abbrev mX6_excepts : MM := (yX6_excepts, cX6_excepts, 5, some .int)
theorem ok_X6_excepts : okV mX6_excepts 3 := ⟨⟨gw_in 706 (by decide +kernel) (by decide +kernel), gw_in 49 (by decide +kernel) (by decide +kernel), ⟨by decide +kernel, by decide +kernel, by decide +kernel⟩, by decide, by decide +kernel⟩, gw_in 705 (by decide +kernel) (by decide +kernel), gw_in 15 (by decide +kernel) (by decide +kernel)⟩
abbrev mX6_write : MM := (yX6_write, cX6_write, 6, some .int)
theorem ok_X6_write : okV mX6_write 5 := ⟨⟨gw_in 680 (by decide +kernel) (by decide +kernel), gw_in 49 (by decide +kernel) (by decide +kernel), ⟨by decide +kernel, by decide +kernel, by decide +kernel⟩, by decide, by decide +kernel⟩, gw_in 678 (by decide +kernel) (by decide +kernel), gw_in 679 (by decide +kernel) (by decide +kernel)⟩
abbrev mX6_except : MM := (yX6_except, cX6_except, 4, some .int)
theorem ok_X6_except : okV mX6_except 3 := ⟨⟨gw_in 694 (by decide +kernel) (by decide +kernel), gw_in 49 (by decide +kernel) (by decide +kernel), ⟨by decide +kernel, by decide +kernel, by decide +kernel⟩, by decide, by decide +kernel⟩, gw_in 692 (by decide +kernel) (by decide +kernel), gw_in 693 (by decide +kernel) (by decide +kernel)⟩
abbrev mX6_end : MM := (yX6_end, cX6_end, 4, some .int)
theorem ok_X6_end : okV mX6_end 2 := ⟨⟨gw_in 710 (by decide +kernel) (by decide +kernel), gw_in 49 (by decide +kernel) (by decide +kernel), ⟨by decide +kernel, by decide +kernel, by decide +kernel⟩, by decide, by decide +kernel⟩, gw_in 708 (by decide +kernel) (by decide +kernel), gw_in 709 (by decide +kernel) (by decide +kernel)⟩
abbrev mX6_setDay : MM := (yX6_setDay, cX6_setDay, 2, some .int)
theorem ok_X6_setDay : okV mX6_setDay 1 := ⟨⟨gw_in 714 (by decide +kernel) (by decide +kernel), gw_in 49 (by decide +kernel) (by decide +kernel), ⟨by decide +kernel, by decide +kernel, by decide +kernel⟩, by decide, by decide +kernel⟩, gw_in 712 (by decide +kernel) (by decide +kernel), gw_in 713 (by decide +kernel) (by decide +kernel)⟩
abbrev mX6_type : MM := (yX6_type, cX6_type, 2, some .int)
theorem ok_X6_type : okV mX6_type 1 := ⟨⟨gw_in 758 (by decide +kernel) (by decide +kernel), gw_in 49 (by decide +kernel) (by decide +kernel), ⟨by decide +kernel, by decide +kernel, by decide +kernel⟩, by decide, by decide +kernel⟩, gw_in 756 (by decide +kernel) (by decide +kernel), gw_in 757 (by decide +kernel) (by decide +kernel)⟩
abbrev mX6_clearText : MM := (yX6_clearText, cX6_clearText, 2, some .int)
theorem ok_X6_clearText : okV mX6_clearText 0 := ⟨⟨gw_in 762 (by decide +kernel) (by decide +kernel), gw_in 49 (by decide +kernel) (by decide +kernel), ⟨by decide +kernel, by decide +kernel, by decide +kernel⟩, by decide, by decide +kernel⟩, gw_in 760 (by decide +kernel) (by decide +kernel), gw_in 761 (by decide +kernel) (by decide +kernel)⟩
abbrev mX6_isNext : MM := (yX6_isNext, cX6_isNext, 3, some .boolean)
theorem ok_X6_isNext : okV mX6_isNext 2 := ⟨⟨gw_in 782 (by decide +kernel) (by decide +kernel), gw_in 49 (by decide +kernel) (by decide +kernel), ⟨by decide +kernel, by decide +kernel, by decide +kernel⟩, by decide, by decide +kernel⟩, gw_in 781 (by decide +kernel) (by decide +kernel), gw_in 29 (by decide +kernel) (by decide +kernel)⟩
abbrev mX6_takes : MM := (yX6_takes, cX6_takes, 5, some .int)
theorem ok_X6_takes : okV mX6_takes 2 := ⟨⟨gw_in 778 (by decide +kernel) (by decide +kernel), gw_in 49 (by decide +kernel) (by decide +kernel), ⟨by decide +kernel, by decide +kernel, by decide +kernel⟩, by decide, by decide +kernel⟩, gw_in 777 (by decide +kernel) (by decide +kernel), gw_in 28 (by decide +kernel) (by decide +kernel)⟩
abbrev mX6_number : MM := (yX6_number, cX6_number, 3, some .int)
theorem ok_X6_number : okV mX6_number 1 := ⟨⟨gw_in 786 (by decide +kernel) (by decide +kernel), gw_in 49 (by decide +kernel) (by decide +kernel), ⟨by decide +kernel, by decide +kernel, by decide +kernel⟩, by decide, by decide +kernel⟩, gw_in 785 (by decide +kernel) (by decide +kernel), gw_in 30 (by decide +kernel) (by decide +kernel)⟩
abbrev mX6_readSpan : MM := (yX6_readSpan, cX6_readSpan, 2, none)
theorem ok_X6_readSpan : okV mX6_readSpan 0 := ⟨⟨gw_in 790 (by decide +kernel) (by decide +kernel), gw_in 49 (by decide +kernel) (by decide +kernel), ⟨by decide +kernel, by decide +kernel, by decide +kernel⟩, by decide, by decide +kernel⟩, gw_in 789 (by decide +kernel) (by decide +kernel), gw_in 31 (by decide +kernel) (by decide +kernel)⟩
abbrev mX6_readClause : MM := (yX6_readClause, cX6_readClause, 11, none)
theorem ok_X6_readClause : okV mX6_readClause 1 := ⟨⟨gw_in 774 (by decide +kernel) (by decide +kernel), gw_in 49 (by decide +kernel) (by decide +kernel), ⟨by decide +kernel, by decide +kernel, by decide +kernel⟩, by decide, by decide +kernel⟩, gw_in 773 (by decide +kernel) (by decide +kernel), gw_in 27 (by decide +kernel) (by decide +kernel)⟩
abbrev mX6_reads : MM := (yX6_reads, cX6_reads, 5, some .int)
theorem ok_X6_reads : okV mX6_reads 1 := ⟨⟨gw_in 770 (by decide +kernel) (by decide +kernel), gw_in 49 (by decide +kernel) (by decide +kernel), ⟨by decide +kernel, by decide +kernel, by decide +kernel⟩, by decide, by decide +kernel⟩, gw_in 769 (by decide +kernel) (by decide +kernel), gw_in 26 (by decide +kernel) (by decide +kernel)⟩
abbrev mX6_writeAll : MM := (yX6_writeAll, cX6_writeAll, 2, some .int)
theorem ok_X6_writeAll : okV mX6_writeAll 0 := ⟨⟨gw_in 766 (by decide +kernel) (by decide +kernel), gw_in 49 (by decide +kernel) (by decide +kernel), ⟨by decide +kernel, by decide +kernel, by decide +kernel⟩, by decide, by decide +kernel⟩, gw_in 764 (by decide +kernel) (by decide +kernel), gw_in 765 (by decide +kernel) (by decide +kernel)⟩
abbrev mX6_undo : MM := (yX6_undo, cX6_undo, 2, some .int)
theorem ok_X6_undo : okV mX6_undo 0 := ⟨⟨gw_in 794 (by decide +kernel) (by decide +kernel), gw_in 49 (by decide +kernel) (by decide +kernel), ⟨by decide +kernel, by decide +kernel, by decide +kernel⟩, by decide, by decide +kernel⟩, gw_in 792 (by decide +kernel) (by decide +kernel), gw_in 793 (by decide +kernel) (by decide +kernel)⟩
abbrev mX6_keep : MM := (yX6_keep, cX6_keep, 2, some .int)
theorem ok_X6_keep : okV mX6_keep 0 := ⟨⟨gw_in 798 (by decide +kernel) (by decide +kernel), gw_in 49 (by decide +kernel) (by decide +kernel), ⟨by decide +kernel, by decide +kernel, by decide +kernel⟩, by decide, by decide +kernel⟩, gw_in 796 (by decide +kernel) (by decide +kernel), gw_in 797 (by decide +kernel) (by decide +kernel)⟩
abbrev mX6_restore : MM := (yX6_restore, cX6_restore, 2, some .int)
theorem ok_X6_restore : okV mX6_restore 0 := ⟨⟨gw_in 802 (by decide +kernel) (by decide +kernel), gw_in 49 (by decide +kernel) (by decide +kernel), ⟨by decide +kernel, by decide +kernel, by decide +kernel⟩, by decide, by decide +kernel⟩, gw_in 800 (by decide +kernel) (by decide +kernel), gw_in 801 (by decide +kernel) (by decide +kernel)⟩
abbrev mX6_clausesOf : MM := (yX6_clausesOf, cX6_clausesOf, 6, some .int)
theorem ok_X6_clausesOf : okV mX6_clausesOf 2 := ⟨⟨gw_in 810 (by decide +kernel) (by decide +kernel), gw_in 49 (by decide +kernel) (by decide +kernel), ⟨by decide +kernel, by decide +kernel, by decide +kernel⟩, by decide, by decide +kernel⟩, gw_in 809 (by decide +kernel) (by decide +kernel), gw_in 32 (by decide +kernel) (by decide +kernel)⟩
abbrev mX6_ruledIn : MM := (yX6_ruledIn, cX6_ruledIn, 4, some .int)
theorem ok_X6_ruledIn : okV mX6_ruledIn 1 := ⟨⟨gw_in 814 (by decide +kernel) (by decide +kernel), gw_in 49 (by decide +kernel) (by decide +kernel), ⟨by decide +kernel, by decide +kernel, by decide +kernel⟩, by decide, by decide +kernel⟩, gw_in 813 (by decide +kernel) (by decide +kernel), gw_in 33 (by decide +kernel) (by decide +kernel)⟩
abbrev mX6_chapter : MM := (yX6_chapter, cX6_chapter, 3, some .int)
theorem ok_X6_chapter : okV mX6_chapter 2 := ⟨⟨gw_in 806 (by decide +kernel) (by decide +kernel), gw_in 49 (by decide +kernel) (by decide +kernel), ⟨by decide +kernel, by decide +kernel, by decide +kernel⟩, by decide, by decide +kernel⟩, gw_in 804 (by decide +kernel) (by decide +kernel), gw_in 805 (by decide +kernel) (by decide +kernel)⟩
abbrev mX6_spokenBy : MM := (yX6_spokenBy, cX6_spokenBy, 4, some .int)
theorem ok_X6_spokenBy : okV mX6_spokenBy 1 := ⟨⟨gw_in 826 (by decide +kernel) (by decide +kernel), gw_in 49 (by decide +kernel) (by decide +kernel), ⟨by decide +kernel, by decide +kernel, by decide +kernel⟩, by decide, by decide +kernel⟩, gw_in 825 (by decide +kernel) (by decide +kernel), gw_in 35 (by decide +kernel) (by decide +kernel)⟩
abbrev mX6_ruledBy : MM := (yX6_ruledBy, cX6_ruledBy, 4, some .int)
theorem ok_X6_ruledBy : okV mX6_ruledBy 1 := ⟨⟨gw_in 822 (by decide +kernel) (by decide +kernel), gw_in 49 (by decide +kernel) (by decide +kernel), ⟨by decide +kernel, by decide +kernel, by decide +kernel⟩, by decide, by decide +kernel⟩, gw_in 821 (by decide +kernel) (by decide +kernel), gw_in 34 (by decide +kernel) (by decide +kernel)⟩
abbrev mX6_clause : MM := (yX6_clause, cX6_clause, 3, some .int)
theorem ok_X6_clause : okV mX6_clause 2 := ⟨⟨gw_in 818 (by decide +kernel) (by decide +kernel), gw_in 49 (by decide +kernel) (by decide +kernel), ⟨by decide +kernel, by decide +kernel, by decide +kernel⟩, by decide, by decide +kernel⟩, gw_in 816 (by decide +kernel) (by decide +kernel), gw_in 817 (by decide +kernel) (by decide +kernel)⟩
abbrev mX6_ruling : MM := (yX6_ruling, cX6_ruling, 5, some .int)
theorem ok_X6_ruling : okV mX6_ruling 3 := ⟨⟨gw_in 830 (by decide +kernel) (by decide +kernel), gw_in 49 (by decide +kernel) (by decide +kernel), ⟨by decide +kernel, by decide +kernel, by decide +kernel⟩, by decide, by decide +kernel⟩, gw_in 828 (by decide +kernel) (by decide +kernel), gw_in 829 (by decide +kernel) (by decide +kernel)⟩
abbrev mX6_painted : MM := (yX6_painted, cX6_painted, 3, some .int)
theorem ok_X6_painted : okV mX6_painted 2 := ⟨⟨gw_in 834 (by decide +kernel) (by decide +kernel), gw_in 49 (by decide +kernel) (by decide +kernel), ⟨by decide +kernel, by decide +kernel, by decide +kernel⟩, by decide, by decide +kernel⟩, gw_in 832 (by decide +kernel) (by decide +kernel), gw_in 833 (by decide +kernel) (by decide +kernel)⟩
abbrev mX6_areThere : MM := (yX6_areThere, cX6_areThere, 4, some .boolean)
theorem ok_X6_areThere : okV mX6_areThere 3 := ⟨⟨gw_in 842 (by decide +kernel) (by decide +kernel), gw_in 49 (by decide +kernel) (by decide +kernel), ⟨by decide +kernel, by decide +kernel, by decide +kernel⟩, by decide, by decide +kernel⟩, gw_in 841 (by decide +kernel) (by decide +kernel), gw_in 36 (by decide +kernel) (by decide +kernel)⟩
abbrev mX6_silencer : MM := (yX6_silencer, cX6_silencer, 5, some .int)
theorem ok_X6_silencer : okV mX6_silencer 3 := ⟨⟨gw_in 846 (by decide +kernel) (by decide +kernel), gw_in 49 (by decide +kernel) (by decide +kernel), ⟨by decide +kernel, by decide +kernel, by decide +kernel⟩, by decide, by decide +kernel⟩, gw_in 845 (by decide +kernel) (by decide +kernel), gw_in 37 (by decide +kernel) (by decide +kernel)⟩
abbrev mX6_silencedBy : MM := (yX6_silencedBy, cX6_silencedBy, 4, some .int)
theorem ok_X6_silencedBy : okV mX6_silencedBy 3 := ⟨⟨gw_in 838 (by decide +kernel) (by decide +kernel), gw_in 49 (by decide +kernel) (by decide +kernel), ⟨by decide +kernel, by decide +kernel, by decide +kernel⟩, by decide, by decide +kernel⟩, gw_in 836 (by decide +kernel) (by decide +kernel), gw_in 837 (by decide +kernel) (by decide +kernel)⟩
abbrev mX6_reason : MM := (yX6_reason, cX6_reason, 4, some .int)
theorem ok_X6_reason : okV mX6_reason 3 := ⟨⟨gw_in 850 (by decide +kernel) (by decide +kernel), gw_in 49 (by decide +kernel) (by decide +kernel), ⟨by decide +kernel, by decide +kernel, by decide +kernel⟩, by decide, by decide +kernel⟩, gw_in 848 (by decide +kernel) (by decide +kernel), gw_in 849 (by decide +kernel) (by decide +kernel)⟩
abbrev mX6_changesOn : MM := (yX6_changesOn, cX6_changesOn, 6, some .int)
theorem ok_X6_changesOn : okV mX6_changesOn 2 := ⟨⟨gw_in 854 (by decide +kernel) (by decide +kernel), gw_in 49 (by decide +kernel) (by decide +kernel), ⟨by decide +kernel, by decide +kernel, by decide +kernel⟩, by decide, by decide +kernel⟩, gw_in 852 (by decide +kernel) (by decide +kernel), gw_in 853 (by decide +kernel) (by decide +kernel)⟩
abbrev mX6_unlike : MM := (yX6_unlike, cX6_unlike, 7, some .int)
theorem ok_X6_unlike : okV mX6_unlike 2 := ⟨⟨gw_in 858 (by decide +kernel) (by decide +kernel), gw_in 49 (by decide +kernel) (by decide +kernel), ⟨by decide +kernel, by decide +kernel, by decide +kernel⟩, by decide, by decide +kernel⟩, gw_in 856 (by decide +kernel) (by decide +kernel), gw_in 857 (by decide +kernel) (by decide +kernel)⟩
abbrev mX6_ruleOn : MM := (yX6_ruleOn, cX6_ruleOn, 5, some .int)
theorem ok_X6_ruleOn : okV mX6_ruleOn 1 := ⟨⟨gw_in 866 (by decide +kernel) (by decide +kernel), gw_in 49 (by decide +kernel) (by decide +kernel), ⟨by decide +kernel, by decide +kernel, by decide +kernel⟩, by decide, by decide +kernel⟩, gw_in 865 (by decide +kernel) (by decide +kernel), gw_in 38 (by decide +kernel) (by decide +kernel)⟩
abbrev mX6_idle : MM := (yX6_idle, cX6_idle, 4, some .int)
theorem ok_X6_idle : okV mX6_idle 0 := ⟨⟨gw_in 862 (by decide +kernel) (by decide +kernel), gw_in 49 (by decide +kernel) (by decide +kernel), ⟨by decide +kernel, by decide +kernel, by decide +kernel⟩, by decide, by decide +kernel⟩, gw_in 860 (by decide +kernel) (by decide +kernel), gw_in 861 (by decide +kernel) (by decide +kernel)⟩
abbrev mX6_ifGone : MM := (yX6_ifGone, cX6_ifGone, 2, some .int)
theorem ok_X6_ifGone : okV mX6_ifGone 1 := ⟨⟨gw_in 870 (by decide +kernel) (by decide +kernel), gw_in 49 (by decide +kernel) (by decide +kernel), ⟨by decide +kernel, by decide +kernel, by decide +kernel⟩, by decide, by decide +kernel⟩, gw_in 868 (by decide +kernel) (by decide +kernel), gw_in 869 (by decide +kernel) (by decide +kernel)⟩
abbrev mX6_weightiest : MM := (yX6_weightiest, cX6_weightiest, 5, some .int)
theorem ok_X6_weightiest : okV mX6_weightiest 0 := ⟨⟨gw_in 874 (by decide +kernel) (by decide +kernel), gw_in 49 (by decide +kernel) (by decide +kernel), ⟨by decide +kernel, by decide +kernel, by decide +kernel⟩, by decide, by decide +kernel⟩, gw_in 872 (by decide +kernel) (by decide +kernel), gw_in 873 (by decide +kernel) (by decide +kernel)⟩
abbrev mX6_ruled : MM := (yX6_ruled, cX6_ruled, 1, some .int)
theorem ok_X6_ruled : okV mX6_ruled 0 := ⟨⟨gw_in 882 (by decide +kernel) (by decide +kernel), gw_in 49 (by decide +kernel) (by decide +kernel), ⟨by decide +kernel, by decide +kernel, by decide +kernel⟩, by decide, by decide +kernel⟩, gw_in 881 (by decide +kernel) (by decide +kernel), gw_in 39 (by decide +kernel) (by decide +kernel)⟩
abbrev mX6_spoken : MM := (yX6_spoken, cX6_spoken, 3, some .int)
theorem ok_X6_spoken : okV mX6_spoken 0 := ⟨⟨gw_in 886 (by decide +kernel) (by decide +kernel), gw_in 49 (by decide +kernel) (by decide +kernel), ⟨by decide +kernel, by decide +kernel, by decide +kernel⟩, by decide, by decide +kernel⟩, gw_in 885 (by decide +kernel) (by decide +kernel), gw_in 40 (by decide +kernel) (by decide +kernel)⟩
abbrev mX6_allOf : MM := (yX6_allOf, cX6_allOf, 4, some .int)
theorem ok_X6_allOf : okV mX6_allOf 1 := ⟨⟨gw_in 890 (by decide +kernel) (by decide +kernel), gw_in 49 (by decide +kernel) (by decide +kernel), ⟨by decide +kernel, by decide +kernel, by decide +kernel⟩, by decide, by decide +kernel⟩, gw_in 889 (by decide +kernel) (by decide +kernel), gw_in 41 (by decide +kernel) (by decide +kernel)⟩
abbrev mX6_count : MM := (yX6_count, cX6_count, 2, some .int)
theorem ok_X6_count : okV mX6_count 1 := ⟨⟨gw_in 878 (by decide +kernel) (by decide +kernel), gw_in 49 (by decide +kernel) (by decide +kernel), ⟨by decide +kernel, by decide +kernel, by decide +kernel⟩, by decide, by decide +kernel⟩, gw_in 876 (by decide +kernel) (by decide +kernel), gw_in 877 (by decide +kernel) (by decide +kernel)⟩
abbrev mJ7_fill_53178 : MM := (yJ7_fill_53178, cJ7_fill_53178, 4, none)
theorem ok_J7_fill_53178 : okS mJ7_fill_53178 2 := ⟨⟨gw_in 338 (by decide +kernel) (by decide +kernel), gw_in 51 (by decide +kernel) (by decide +kernel), ⟨by decide +kernel, by decide +kernel, by decide +kernel⟩, by decide, by decide +kernel⟩, gw_in 337 (by decide +kernel) (by decide +kernel)⟩
theorem ml_X2_11 : Cond.methodLink RX2 11 yX0_init ∈ gw_tbl := gw_in 69 (by decide +kernel) (by decide +kernel)
theorem fl_X1_9 : Cond.fieldLink RX1 9 "StatuteClauses$Clauses" "size" "I" ∈ gw_tbl := gw_in 79 (by decide +kernel) (by decide +kernel)
theorem fl_X2_36 : Cond.fieldLink RX2 36 "StatuteClauses$Clauses" "size" "I" ∈ gw_tbl := gw_in 80 (by decide +kernel) (by decide +kernel)
theorem fl_X3_47 : Cond.fieldLink RX3 47 "StatuteClauses$Clauses" "size" "I" ∈ gw_tbl := gw_in 81 (by decide +kernel) (by decide +kernel)
theorem fl_X4_31 : Cond.fieldLink RX4 31 "StatuteClauses$Clauses" "size" "I" ∈ gw_tbl := gw_in 82 (by decide +kernel) (by decide +kernel)
theorem fl_X5_92 : Cond.fieldLink RX5 92 "StatuteClauses$Clauses" "size" "I" ∈ gw_tbl := gw_in 83 (by decide +kernel) (by decide +kernel)
theorem fl_X1_15 : Cond.fieldLink RX1 15 "StatuteClauses$Clauses" "chapterOf" "[I" ∈ gw_tbl := gw_in 84 (by decide +kernel) (by decide +kernel)
theorem fl_X2_49 : Cond.fieldLink RX2 49 "StatuteClauses$Clauses" "chapterOf" "[I" ∈ gw_tbl := gw_in 85 (by decide +kernel) (by decide +kernel)
theorem fl_X0_46 : Cond.fieldLink RX0 46 "StatuteClauses$Clauses" "chapterOf" "[I" ∈ gw_tbl := gw_in 86 (by decide +kernel) (by decide +kernel)
theorem fl_X3_56 : Cond.fieldLink RX3 56 "StatuteClauses$Clauses" "chapterOf" "[I" ∈ gw_tbl := gw_in 87 (by decide +kernel) (by decide +kernel)
theorem fl_X5_157 : Cond.fieldLink RX5 157 "StatuteClauses$Clauses" "chapterOf" "[I" ∈ gw_tbl := gw_in 88 (by decide +kernel) (by decide +kernel)
theorem fl_X1_19 : Cond.fieldLink RX1 19 "StatuteClauses$Clauses" "date" "[I" ∈ gw_tbl := gw_in 89 (by decide +kernel) (by decide +kernel)
theorem fl_X2_52 : Cond.fieldLink RX2 52 "StatuteClauses$Clauses" "date" "[I" ∈ gw_tbl := gw_in 90 (by decide +kernel) (by decide +kernel)
theorem fl_X3_53 : Cond.fieldLink RX3 53 "StatuteClauses$Clauses" "date" "[I" ∈ gw_tbl := gw_in 91 (by decide +kernel) (by decide +kernel)
theorem fl_X5_109 : Cond.fieldLink RX5 109 "StatuteClauses$Clauses" "date" "[I" ∈ gw_tbl := gw_in 92 (by decide +kernel) (by decide +kernel)
theorem fl_X1_22 : Cond.fieldLink RX1 22 "StatuteClauses$Clauses" "endDay" "[I" ∈ gw_tbl := gw_in 93 (by decide +kernel) (by decide +kernel)
theorem fl_X5_112 : Cond.fieldLink RX5 112 "StatuteClauses$Clauses" "endDay" "[I" ∈ gw_tbl := gw_in 94 (by decide +kernel) (by decide +kernel)
theorem fl_X2_77 : Cond.fieldLink RX2 77 "StatuteClauses$Clauses" "endDay" "[I" ∈ gw_tbl := gw_in 95 (by decide +kernel) (by decide +kernel)
theorem fl_X1_25 : Cond.fieldLink RX1 25 "StatuteClauses$Clauses" "first" "[I" ∈ gw_tbl := gw_in 96 (by decide +kernel) (by decide +kernel)
theorem fl_X3_63 : Cond.fieldLink RX3 63 "StatuteClauses$Clauses" "first" "[I" ∈ gw_tbl := gw_in 97 (by decide +kernel) (by decide +kernel)
theorem fl_X5_160 : Cond.fieldLink RX5 160 "StatuteClauses$Clauses" "first" "[I" ∈ gw_tbl := gw_in 98 (by decide +kernel) (by decide +kernel)
theorem fl_X1_28 : Cond.fieldLink RX1 28 "StatuteClauses$Clauses" "last" "[I" ∈ gw_tbl := gw_in 99 (by decide +kernel) (by decide +kernel)
theorem fl_X3_75 : Cond.fieldLink RX3 75 "StatuteClauses$Clauses" "last" "[I" ∈ gw_tbl := gw_in 100 (by decide +kernel) (by decide +kernel)
theorem fl_X5_163 : Cond.fieldLink RX5 163 "StatuteClauses$Clauses" "last" "[I" ∈ gw_tbl := gw_in 101 (by decide +kernel) (by decide +kernel)
theorem fl_X1_31 : Cond.fieldLink RX1 31 "StatuteClauses$Clauses" "verdict" "[I" ∈ gw_tbl := gw_in 102 (by decide +kernel) (by decide +kernel)
theorem fl_X5_166 : Cond.fieldLink RX5 166 "StatuteClauses$Clauses" "verdict" "[I" ∈ gw_tbl := gw_in 103 (by decide +kernel) (by decide +kernel)
theorem fl_X2_103 : Cond.fieldLink RX2 103 "StatuteClauses$Clauses" "verdict" "[I" ∈ gw_tbl := gw_in 104 (by decide +kernel) (by decide +kernel)
theorem fl_X1_34 : Cond.fieldLink RX1 34 "StatuteClauses$Clauses" "exceptions" "[I" ∈ gw_tbl := gw_in 105 (by decide +kernel) (by decide +kernel)
theorem fl_X5_102 : Cond.fieldLink RX5 102 "StatuteClauses$Clauses" "exceptions" "[I" ∈ gw_tbl := gw_in 106 (by decide +kernel) (by decide +kernel)
theorem fl_X1_37 : Cond.fieldLink RX1 37 "StatuteClauses$Clauses" "exceptFirst" "[I" ∈ gw_tbl := gw_in 107 (by decide +kernel) (by decide +kernel)
theorem fl_X1_40 : Cond.fieldLink RX1 40 "StatuteClauses$Clauses" "exceptLast" "[I" ∈ gw_tbl := gw_in 108 (by decide +kernel) (by decide +kernel)
theorem fl_X0_9 : Cond.fieldLink RX0 9 "StatuteClauses$Book" "today" "I" ∈ gw_tbl := gw_in 131 (by decide +kernel) (by decide +kernel)
theorem fl_X5_115 : Cond.fieldLink RX5 115 "StatuteClauses$Book" "today" "I" ∈ gw_tbl := gw_in 132 (by decide +kernel) (by decide +kernel)
theorem fl_X2_97 : Cond.fieldLink RX2 97 "StatuteClauses$Book" "today" "I" ∈ gw_tbl := gw_in 133 (by decide +kernel) (by decide +kernel)
theorem fl_X0_15 : Cond.fieldLink RX0 15 "StatuteClauses$Book" "reachFirst" "[I" ∈ gw_tbl := gw_in 134 (by decide +kernel) (by decide +kernel)
theorem fl_X5_70 : Cond.fieldLink RX5 70 "StatuteClauses$Book" "reachFirst" "[I" ∈ gw_tbl := gw_in 135 (by decide +kernel) (by decide +kernel)
theorem fl_X3_66 : Cond.fieldLink RX3 66 "StatuteClauses$Book" "reachFirst" "[I" ∈ gw_tbl := gw_in 136 (by decide +kernel) (by decide +kernel)
theorem fl_X0_19 : Cond.fieldLink RX0 19 "StatuteClauses$Book" "reachLast" "[I" ∈ gw_tbl := gw_in 137 (by decide +kernel) (by decide +kernel)
theorem fl_X5_74 : Cond.fieldLink RX5 74 "StatuteClauses$Book" "reachLast" "[I" ∈ gw_tbl := gw_in 138 (by decide +kernel) (by decide +kernel)
theorem fl_X3_78 : Cond.fieldLink RX3 78 "StatuteClauses$Book" "reachLast" "[I" ∈ gw_tbl := gw_in 139 (by decide +kernel) (by decide +kernel)
theorem fl_X0_22 : Cond.fieldLink RX0 22 "StatuteClauses$Book" "rankOf" "[I" ∈ gw_tbl := gw_in 140 (by decide +kernel) (by decide +kernel)
theorem fl_X3_37 : Cond.fieldLink RX3 37 "StatuteClauses$Book" "rankOf" "[I" ∈ gw_tbl := gw_in 141 (by decide +kernel) (by decide +kernel)
theorem fl_X5_80 : Cond.fieldLink RX5 80 "StatuteClauses$Book" "rankOf" "[I" ∈ gw_tbl := gw_in 142 (by decide +kernel) (by decide +kernel)
theorem fl_X2_62 : Cond.fieldLink RX2 62 "StatuteClauses$Book" "rankOf" "[I" ∈ gw_tbl := gw_in 143 (by decide +kernel) (by decide +kernel)
theorem fl_X2_18 : Cond.fieldLink RX2 18 "StatuteClauses$Book" "clauses" "LStatuteClauses$Clauses;" ∈ gw_tbl := gw_in 144 (by decide +kernel) (by decide +kernel)
theorem fl_X0_28 : Cond.fieldLink RX0 28 "StatuteClauses$Book" "clauses" "LStatuteClauses$Clauses;" ∈ gw_tbl := gw_in 145 (by decide +kernel) (by decide +kernel)
theorem fl_X3_21 : Cond.fieldLink RX3 21 "StatuteClauses$Book" "clauses" "LStatuteClauses$Clauses;" ∈ gw_tbl := gw_in 146 (by decide +kernel) (by decide +kernel)
theorem fl_X5_89 : Cond.fieldLink RX5 89 "StatuteClauses$Book" "clauses" "LStatuteClauses$Clauses;" ∈ gw_tbl := gw_in 147 (by decide +kernel) (by decide +kernel)
theorem fl_X2_12 : Cond.fieldLink RX2 12 "StatuteClauses$Judge" "book" "LStatuteClauses$Book;" ∈ gw_tbl := gw_in 159 (by decide +kernel) (by decide +kernel)
theorem fl_X5_16 : Cond.fieldLink RX5 16 "StatuteClauses$Judge" "book" "LStatuteClauses$Book;" ∈ gw_tbl := gw_in 160 (by decide +kernel) (by decide +kernel)
theorem fl_X2_22 : Cond.fieldLink RX2 22 "StatuteClauses$Judge" "clauses" "LStatuteClauses$Clauses;" ∈ gw_tbl := gw_in 161 (by decide +kernel) (by decide +kernel)
theorem fl_X2_23 : Cond.fieldLink RX2 23 "StatuteClauses$Judge" "tops" "[I" ∈ gw_tbl := gw_in 162 (by decide +kernel) (by decide +kernel)
theorem fl_X2_27 : Cond.fieldLink RX2 27 "StatuteClauses$Judge" "tally" "[I" ∈ gw_tbl := gw_in 163 (by decide +kernel) (by decide +kernel)
theorem ml_X5_25 : Cond.methodLink RX5 25 yX0_init ∈ gw_tbl := gw_in 174 (by decide +kernel) (by decide +kernel)
theorem fl_X4_9 : Cond.fieldLink RX4 9 "StatuteClauses$Text" "signs" "[C" ∈ gw_tbl := gw_in 182 (by decide +kernel) (by decide +kernel)
theorem fl_X4_15 : Cond.fieldLink RX4 15 "StatuteClauses$Text" "length" "I" ∈ gw_tbl := gw_in 183 (by decide +kernel) (by decide +kernel)
theorem fl_X5_122 : Cond.fieldLink RX5 122 "StatuteClauses$Text" "length" "I" ∈ gw_tbl := gw_in 184 (by decide +kernel) (by decide +kernel)
theorem fl_X4_19 : Cond.fieldLink RX4 19 "StatuteClauses$Text" "at" "I" ∈ gw_tbl := gw_in 185 (by decide +kernel) (by decide +kernel)
theorem fl_X5_132 : Cond.fieldLink RX5 132 "StatuteClauses$Text" "at" "I" ∈ gw_tbl := gw_in 186 (by decide +kernel) (by decide +kernel)
theorem fl_X4_22 : Cond.fieldLink RX4 22 "StatuteClauses$Text" "value" "I" ∈ gw_tbl := gw_in 187 (by decide +kernel) (by decide +kernel)
theorem fl_X4_25 : Cond.fieldLink RX4 25 "StatuteClauses$Text" "first" "I" ∈ gw_tbl := gw_in 188 (by decide +kernel) (by decide +kernel)
theorem fl_X4_28 : Cond.fieldLink RX4 28 "StatuteClauses$Text" "last" "I" ∈ gw_tbl := gw_in 189 (by decide +kernel) (by decide +kernel)
theorem fl_X3_9 : Cond.fieldLink RX3 9 "StatuteClauses$Painter" "canvas" "[I" ∈ gw_tbl := gw_in 212 (by decide +kernel) (by decide +kernel)
theorem fl_X5_188 : Cond.fieldLink RX5 188 "StatuteClauses$Painter" "canvas" "[I" ∈ gw_tbl := gw_in 213 (by decide +kernel) (by decide +kernel)
theorem fl_X3_15 : Cond.fieldLink RX3 15 "StatuteClauses$Painter" "coat" "[I" ∈ gw_tbl := gw_in 214 (by decide +kernel) (by decide +kernel)
theorem fl_X3_18 : Cond.fieldLink RX3 18 "StatuteClauses$Painter" "order" "[I" ∈ gw_tbl := gw_in 215 (by decide +kernel) (by decide +kernel)
theorem fl_X5_10 : Cond.fieldLink RX5 10 "StatuteClauses" "judge" "LStatuteClauses$Judge;" ∈ gw_tbl := gw_in 223 (by decide +kernel) (by decide +kernel)
theorem fl_X5_20 : Cond.fieldLink RX5 20 "StatuteClauses" "now" "LStatuteClauses$Book;" ∈ gw_tbl := gw_in 224 (by decide +kernel) (by decide +kernel)
theorem fl_X5_26 : Cond.fieldLink RX5 26 "StatuteClauses" "snapshot" "LStatuteClauses$Book;" ∈ gw_tbl := gw_in 225 (by decide +kernel) (by decide +kernel)
theorem fl_X5_29 : Cond.fieldLink RX5 29 "StatuteClauses" "hasSnapshot" "Z" ∈ gw_tbl := gw_in 226 (by decide +kernel) (by decide +kernel)
theorem fl_X5_33 : Cond.fieldLink RX5 33 "StatuteClauses" "past" "[LStatuteClauses$Book;" ∈ gw_tbl := gw_in 227 (by decide +kernel) (by decide +kernel)
theorem fl_X5_37 : Cond.fieldLink RX5 37 "StatuteClauses" "pastSize" "I" ∈ gw_tbl := gw_in 228 (by decide +kernel) (by decide +kernel)
theorem fl_X5_44 : Cond.fieldLink RX5 44 "StatuteClauses" "text" "LStatuteClauses$Text;" ∈ gw_tbl := gw_in 229 (by decide +kernel) (by decide +kernel)
theorem fl_X5_51 : Cond.fieldLink RX5 51 "StatuteClauses" "draft" "LStatuteClauses$Clauses;" ∈ gw_tbl := gw_in 230 (by decide +kernel) (by decide +kernel)
theorem fl_X5_58 : Cond.fieldLink RX5 58 "StatuteClauses" "painter" "LStatuteClauses$Painter;" ∈ gw_tbl := gw_in 231 (by decide +kernel) (by decide +kernel)
theorem ml_X5_62 : Cond.methodLink RX5 62 yX5_isChapter ∈ gw_tbl := gw_in 255 (by decide +kernel) (by decide +kernel)
theorem ml_X5_86 : Cond.methodLink RX5 86 yX5_isBelow ∈ gw_tbl := gw_in 258 (by decide +kernel) (by decide +kernel)
theorem ml_X5_66 : Cond.methodLink RX5 66 yX5_isSpan ∈ gw_tbl := gw_in 261 (by decide +kernel) (by decide +kernel)
theorem ml_X5_178 : Cond.methodLink RX5 178 yX5_isCase ∈ gw_tbl := gw_in 264 (by decide +kernel) (by decide +kernel)
theorem ml_X5_77 : Cond.methodLink RX5 77 yX5_record ∈ gw_tbl := gw_in 267 (by decide +kernel) (by decide +kernel)
theorem ml_X5_143 : Cond.methodLink RX5 143 yX0_copyFrom ∈ gw_tbl := gw_in 271 (by decide +kernel) (by decide +kernel)
theorem ml_X0_32 : Cond.methodLink RX0 32 arraycopyName ∈ gw_tbl := gw_in 275 (by decide +kernel) (by decide +kernel)
theorem ml_X0_38 : Cond.methodLink RX0 38 yX1_copyFrom ∈ gw_tbl := gw_in 278 (by decide +kernel) (by decide +kernel)
theorem ml_X1_59 : Cond.methodLink RX1 59 arraycopyName ∈ gw_tbl := gw_in 282 (by decide +kernel) (by decide +kernel)
theorem ml_X5_83 : Cond.methodLink RX5 83 yX5_isDay ∈ gw_tbl := gw_in 291 (by decide +kernel) (by decide +kernel)
theorem ml_X5_95 : Cond.methodLink RX5 95 yX1_add ∈ gw_tbl := gw_in 294 (by decide +kernel) (by decide +kernel)
theorem ml_X5_99 : Cond.methodLink RX5 99 yX1_has ∈ gw_tbl := gw_in 302 (by decide +kernel) (by decide +kernel)
theorem ml_X5_105 : Cond.methodLink RX5 105 yX1_addException ∈ gw_tbl := gw_in 307 (by decide +kernel) (by decide +kernel)
theorem ml_X1_47 : Cond.methodLink RX1 47 yX1_has ∈ gw_tbl := gw_in 311 (by decide +kernel) (by decide +kernel)
theorem ml_X5_118 : Cond.methodLink RX5 118 yX2_casesChangedBetween ∈ gw_tbl := gw_in 320 (by decide +kernel) (by decide +kernel)
theorem ml_X2_89 : Cond.methodLink RX2 89 yX2_ruler ∈ gw_tbl := gw_in 324 (by decide +kernel) (by decide +kernel)
theorem ml_X2_65 : Cond.methodLink RX2 65 yX2_rulerWithout ∈ gw_tbl := gw_in 328 (by decide +kernel) (by decide +kernel)
theorem ml_X2_69 : Cond.methodLink RX2 69 yX2_findTops ∈ gw_tbl := gw_in 332 (by decide +kernel) (by decide +kernel)
theorem ml_X2_30 : Cond.methodLink RX2 30 yJ7_fill_53178 ∈ gw_tbl := gw_in 336 (by decide +kernel) (by decide +kernel)
theorem ml_X2_42 : Cond.methodLink RX2 42 yX1_isInForce ∈ gw_tbl := gw_in 339 (by decide +kernel) (by decide +kernel)
theorem ml_X2_46 : Cond.methodLink RX2 46 yX0_meets ∈ gw_tbl := gw_in 343 (by decide +kernel) (by decide +kernel)
theorem ml_X0_42 : Cond.methodLink RX0 42 yX1_isInSpan ∈ gw_tbl := gw_in 347 (by decide +kernel) (by decide +kernel)
theorem ml_X0_49 : Cond.methodLink RX0 49 yX0_reaches ∈ gw_tbl := gw_in 351 (by decide +kernel) (by decide +kernel)
theorem ml_X0_52 : Cond.methodLink RX0 52 yX1_isExcepted ∈ gw_tbl := gw_in 355 (by decide +kernel) (by decide +kernel)
theorem ml_X2_73 : Cond.methodLink RX2 73 yX2_rulerOfTops ∈ gw_tbl := gw_in 359 (by decide +kernel) (by decide +kernel)
theorem ml_X2_59 : Cond.methodLink RX2 59 yX2_topSpeaks ∈ gw_tbl := gw_in 363 (by decide +kernel) (by decide +kernel)
theorem ml_X2_55 : Cond.methodLink RX2 55 yX1_speaksAtAll ∈ gw_tbl := gw_in 367 (by decide +kernel) (by decide +kernel)
theorem ml_X5_125 : Cond.methodLink RX5 125 yX4_add ∈ gw_tbl := gw_in 375 (by decide +kernel) (by decide +kernel)
theorem ml_X5_128 : Cond.methodLink RX5 128 yX4_readClauses ∈ gw_tbl := gw_in 387 (by decide +kernel) (by decide +kernel)
theorem ml_X4_36 : Cond.methodLink RX4 36 yX4_readClause ∈ gw_tbl := gw_in 391 (by decide +kernel) (by decide +kernel)
theorem ml_X4_44 : Cond.methodLink RX4 44 yX4_readNumber ∈ gw_tbl := gw_in 395 (by decide +kernel) (by decide +kernel)
theorem ml_X4_64 : Cond.methodLink RX4 64 yX4_digitHere ∈ gw_tbl := gw_in 399 (by decide +kernel) (by decide +kernel)
theorem ml_X4_40 : Cond.methodLink RX4 40 yX4_readSign ∈ gw_tbl := gw_in 403 (by decide +kernel) (by decide +kernel)
theorem ml_X4_48 : Cond.methodLink RX4 48 yX4_readSpan ∈ gw_tbl := gw_in 407 (by decide +kernel) (by decide +kernel)
theorem ml_X4_52 : Cond.methodLink RX4 52 yX1_add ∈ gw_tbl := gw_in 411 (by decide +kernel) (by decide +kernel)
theorem ml_X4_56 : Cond.methodLink RX4 56 yX4_readExceptions ∈ gw_tbl := gw_in 412 (by decide +kernel) (by decide +kernel)
theorem ml_X4_60 : Cond.methodLink RX4 60 yX1_addException ∈ gw_tbl := gw_in 416 (by decide +kernel) (by decide +kernel)
theorem ml_X5_135 : Cond.methodLink RX5 135 yX1_hasReversedSpan ∈ gw_tbl := gw_in 417 (by decide +kernel) (by decide +kernel)
theorem ml_X5_139 : Cond.methodLink RX5 139 yX1_addAll ∈ gw_tbl := gw_in 421 (by decide +kernel) (by decide +kernel)
theorem ml_X1_51 : Cond.methodLink RX1 51 yX1_add ∈ gw_tbl := gw_in 425 (by decide +kernel) (by decide +kernel)
theorem ml_X1_55 : Cond.methodLink RX1 55 yX1_addException ∈ gw_tbl := gw_in 426 (by decide +kernel) (by decide +kernel)
theorem ml_X5_147 : Cond.methodLink RX5 147 yX1_countOfChapter ∈ gw_tbl := gw_in 443 (by decide +kernel) (by decide +kernel)
theorem ml_X5_151 : Cond.methodLink RX5 151 yX1_countInForceOfChapter ∈ gw_tbl := gw_in 447 (by decide +kernel) (by decide +kernel)
theorem ml_X1_71 : Cond.methodLink RX1 71 yX1_isInForce ∈ gw_tbl := gw_in 451 (by decide +kernel) (by decide +kernel)
theorem ml_X5_154 : Cond.methodLink RX5 154 yX2_casesRuledByChapter ∈ gw_tbl := gw_in 452 (by decide +kernel) (by decide +kernel)
theorem ml_X2_100 : Cond.methodLink RX2 100 yX2_tallyToday ∈ gw_tbl := gw_in 456 (by decide +kernel) (by decide +kernel)
theorem ml_X5_169 : Cond.methodLink RX5 169 yX1_isInForce ∈ gw_tbl := gw_in 464 (by decide +kernel) (by decide +kernel)
theorem ml_X5_172 : Cond.methodLink RX5 172 yX2_casesSpokenOf ∈ gw_tbl := gw_in 465 (by decide +kernel) (by decide +kernel)
theorem ml_X5_175 : Cond.methodLink RX5 175 yX2_casesRuledByClause ∈ gw_tbl := gw_in 469 (by decide +kernel) (by decide +kernel)
theorem ml_X5_181 : Cond.methodLink RX5 181 yX2_ruler ∈ gw_tbl := gw_in 477 (by decide +kernel) (by decide +kernel)
theorem ml_X5_184 : Cond.methodLink RX5 184 yX3_paint ∈ gw_tbl := gw_in 482 (by decide +kernel) (by decide +kernel)
theorem ml_X3_27 : Cond.methodLink RX3 27 yX3_sortByDates ∈ gw_tbl := gw_in 486 (by decide +kernel) (by decide +kernel)
theorem ml_X3_31 : Cond.methodLink RX3 31 yJ7_fill_53178 ∈ gw_tbl := gw_in 490 (by decide +kernel) (by decide +kernel)
theorem ml_X3_40 : Cond.methodLink RX3 40 yX3_paintCoat ∈ gw_tbl := gw_in 491 (by decide +kernel) (by decide +kernel)
theorem ml_X3_59 : Cond.methodLink RX3 59 yX1_isInForce ∈ gw_tbl := gw_in 495 (by decide +kernel) (by decide +kernel)
theorem ml_X3_69 : Cond.methodLink RX3 69 Lib.Math.max.name ∈ gw_tbl := gw_in 496 (by decide +kernel) (by decide +kernel)
theorem ml_X3_81 : Cond.methodLink RX3 81 Lib.Math.min.name ∈ gw_tbl := gw_in 499 (by decide +kernel) (by decide +kernel)
theorem ml_X3_84 : Cond.methodLink RX3 84 yX3_paintClause ∈ gw_tbl := gw_in 502 (by decide +kernel) (by decide +kernel)
theorem ml_X3_88 : Cond.methodLink RX3 88 yX1_isExcepted ∈ gw_tbl := gw_in 506 (by decide +kernel) (by decide +kernel)
theorem ml_X3_44 : Cond.methodLink RX3 44 yX3_layCoat ∈ gw_tbl := gw_in 507 (by decide +kernel) (by decide +kernel)
theorem ml_X3_91 : Cond.methodLink RX3 91 yX1_speaksAtAll ∈ gw_tbl := gw_in 511 (by decide +kernel) (by decide +kernel)
theorem ml_X5_191 : Cond.methodLink RX5 191 yX2_silencer ∈ gw_tbl := gw_in 516 (by decide +kernel) (by decide +kernel)
theorem ml_X5_195 : Cond.methodLink RX5 195 yX2_whyNotRuling ∈ gw_tbl := gw_in 524 (by decide +kernel) (by decide +kernel)
theorem ml_X2_80 : Cond.methodLink RX2 80 yX0_reaches ∈ gw_tbl := gw_in 528 (by decide +kernel) (by decide +kernel)
theorem ml_X2_83 : Cond.methodLink RX2 83 yX1_isInSpan ∈ gw_tbl := gw_in 529 (by decide +kernel) (by decide +kernel)
theorem ml_X2_86 : Cond.methodLink RX2 86 yX1_isExcepted ∈ gw_tbl := gw_in 530 (by decide +kernel) (by decide +kernel)
theorem ml_X5_198 : Cond.methodLink RX5 198 yX2_nextChange ∈ gw_tbl := gw_in 535 (by decide +kernel) (by decide +kernel)
theorem ml_X2_93 : Cond.methodLink RX2 93 yX1_nextTurn ∈ gw_tbl := gw_in 539 (by decide +kernel) (by decide +kernel)
theorem ml_X1_65 : Cond.methodLink RX1 65 Lib.Math.min.name ∈ gw_tbl := gw_in 543 (by decide +kernel) (by decide +kernel)
theorem ml_X5_201 : Cond.methodLink RX5 201 yX2_casesOfUnlikeVerdicts ∈ gw_tbl := gw_in 548 (by decide +kernel) (by decide +kernel)
theorem ml_X5_204 : Cond.methodLink RX5 204 yX2_busyClauses ∈ gw_tbl := gw_in 556 (by decide +kernel) (by decide +kernel)
theorem ml_X5_208 : Cond.methodLink RX5 208 yX2_casesChangedWithout ∈ gw_tbl := gw_in 564 (by decide +kernel) (by decide +kernel)
theorem ml_X5_211 : Cond.methodLink RX5 211 yX2_rulerOfMost ∈ gw_tbl := gw_in 572 (by decide +kernel) (by decide +kernel)
theorem ml_X5_214 : Cond.methodLink RX5 214 yX1_countInForce ∈ gw_tbl := gw_in 580 (by decide +kernel) (by decide +kernel)
theorem ml_X5_217 : Cond.methodLink RX5 217 yX2_casesRuled ∈ gw_tbl := gw_in 584 (by decide +kernel) (by decide +kernel)
theorem ml_X5_220 : Cond.methodLink RX5 220 yX2_timesSpoken ∈ gw_tbl := gw_in 588 (by decide +kernel) (by decide +kernel)
theorem ml_X5_223 : Cond.methodLink RX5 223 yX1_countExceptions ∈ gw_tbl := gw_in 592 (by decide +kernel) (by decide +kernel)
theorem ml_X5_226 : Cond.methodLink RX5 226 yX1_countSilent ∈ gw_tbl := gw_in 596 (by decide +kernel) (by decide +kernel)
theorem ml_X1_74 : Cond.methodLink RX1 74 yX1_speaksAtAll ∈ gw_tbl := gw_in 600 (by decide +kernel) (by decide +kernel)
theorem ml_X6_28 : Cond.methodLink RX6 28 yX6_ofChapter ∈ gw_tbl := gw_in 607 (by decide +kernel) (by decide +kernel)
theorem fl_X6_7 : Cond.fieldLink RX6 7 "StatuteClausesModel" "s" "[I" ∈ gw_tbl := gw_in 610 (by decide +kernel) (by decide +kernel)
theorem fl_X6_13 : Cond.fieldLink RX6 13 "StatuteClausesModel" "history" "[I" ∈ gw_tbl := gw_in 611 (by decide +kernel) (by decide +kernel)
theorem fl_X6_43 : Cond.fieldLink RX6 43 "StatuteClausesModel" "known" "I" ∈ gw_tbl := gw_in 612 (by decide +kernel) (by decide +kernel)
theorem fl_X6_16 : Cond.fieldLink RX6 16 "StatuteClausesModel" "snapshot" "[I" ∈ gw_tbl := gw_in 613 (by decide +kernel) (by decide +kernel)
theorem fl_X6_147 : Cond.fieldLink RX6 147 "StatuteClausesModel" "isKept" "Z" ∈ gw_tbl := gw_in 614 (by decide +kernel) (by decide +kernel)
theorem fl_X6_19 : Cond.fieldLink RX6 19 "StatuteClausesModel" "text" "[I" ∈ gw_tbl := gw_in 615 (by decide +kernel) (by decide +kernel)
theorem fl_X6_107 : Cond.fieldLink RX6 107 "StatuteClausesModel" "length" "I" ∈ gw_tbl := gw_in 616 (by decide +kernel) (by decide +kernel)
theorem fl_X6_22 : Cond.fieldLink RX6 22 "StatuteClausesModel" "rulings" "[I" ∈ gw_tbl := gw_in 617 (by decide +kernel) (by decide +kernel)
theorem fl_X6_25 : Cond.fieldLink RX6 25 "StatuteClausesModel" "were" "[I" ∈ gw_tbl := gw_in 618 (by decide +kernel) (by decide +kernel)
theorem fl_X6_114 : Cond.fieldLink RX6 114 "StatuteClausesModel" "spot" "I" ∈ gw_tbl := gw_in 619 (by decide +kernel) (by decide +kernel)
theorem fl_X6_110 : Cond.fieldLink RX6 110 "StatuteClausesModel" "isWrong" "Z" ∈ gw_tbl := gw_in 620 (by decide +kernel) (by decide +kernel)
theorem fl_X6_133 : Cond.fieldLink RX6 133 "StatuteClausesModel" "isBad" "Z" ∈ gw_tbl := gw_in 621 (by decide +kernel) (by decide +kernel)
theorem fl_X6_127 : Cond.fieldLink RX6 127 "StatuteClausesModel" "first" "I" ∈ gw_tbl := gw_in 622 (by decide +kernel) (by decide +kernel)
theorem fl_X6_130 : Cond.fieldLink RX6 130 "StatuteClausesModel" "last" "I" ∈ gw_tbl := gw_in 623 (by decide +kernel) (by decide +kernel)
theorem ml_X6_78 : Cond.methodLink RX6 78 yX6_isChapter ∈ gw_tbl := gw_in 657 (by decide +kernel) (by decide +kernel)
theorem ml_X6_32 : Cond.methodLink RX6 32 yX6_in ∈ gw_tbl := gw_in 660 (by decide +kernel) (by decide +kernel)
theorem ml_X6_81 : Cond.methodLink RX6 81 yX6_isSpan ∈ gw_tbl := gw_in 663 (by decide +kernel) (by decide +kernel)
theorem ml_X6_36 : Cond.methodLink RX6 36 yX6_isCase ∈ gw_tbl := gw_in 666 (by decide +kernel) (by decide +kernel)
theorem ml_X6_84 : Cond.methodLink RX6 84 yX6_record ∈ gw_tbl := gw_in 669 (by decide +kernel) (by decide +kernel)
theorem ml_X6_87 : Cond.methodLink RX6 87 yX6_isDay ∈ gw_tbl := gw_in 681 (by decide +kernel) (by decide +kernel)
theorem ml_X6_90 : Cond.methodLink RX6 90 yX6_writes ∈ gw_tbl := gw_in 684 (by decide +kernel) (by decide +kernel)
theorem ml_X6_40 : Cond.methodLink RX6 40 yX6_of ∈ gw_tbl := gw_in 688 (by decide +kernel) (by decide +kernel)
theorem ml_X6_94 : Cond.methodLink RX6 94 yX6_isClause ∈ gw_tbl := gw_in 695 (by decide +kernel) (by decide +kernel)
theorem ml_X6_47 : Cond.methodLink RX6 47 yX6_get ∈ gw_tbl := gw_in 699 (by decide +kernel) (by decide +kernel)
theorem ml_X6_97 : Cond.methodLink RX6 97 yX6_excepts ∈ gw_tbl := gw_in 703 (by decide +kernel) (by decide +kernel)
theorem ml_X6_100 : Cond.methodLink RX6 100 yX6_putAside ∈ gw_tbl := gw_in 715 (by decide +kernel) (by decide +kernel)
theorem ml_X6_74 : Cond.methodLink RX6 74 yX6_worksOut ∈ gw_tbl := gw_in 719 (by decide +kernel) (by decide +kernel)
theorem ml_X6_70 : Cond.methodLink RX6 70 yX6_rules ∈ gw_tbl := gw_in 723 (by decide +kernel) (by decide +kernel)
theorem ml_X6_67 : Cond.methodLink RX6 67 yX6_speaksIn ∈ gw_tbl := gw_in 727 (by decide +kernel) (by decide +kernel)
theorem ml_X6_63 : Cond.methodLink RX6 63 yX6_latestOf ∈ gw_tbl := gw_in 731 (by decide +kernel) (by decide +kernel)
theorem ml_X6_57 : Cond.methodLink RX6 57 yX6_isInForce ∈ gw_tbl := gw_in 735 (by decide +kernel) (by decide +kernel)
theorem ml_X6_60 : Cond.methodLink RX6 60 yX6_meets ∈ gw_tbl := gw_in 739 (by decide +kernel) (by decide +kernel)
theorem ml_X6_50 : Cond.methodLink RX6 50 yX6_reaches ∈ gw_tbl := gw_in 743 (by decide +kernel) (by decide +kernel)
theorem ml_X6_54 : Cond.methodLink RX6 54 yX6_isExcepted ∈ gw_tbl := gw_in 747 (by decide +kernel) (by decide +kernel)
theorem ml_X6_103 : Cond.methodLink RX6 103 yX6_changed ∈ gw_tbl := gw_in 751 (by decide +kernel) (by decide +kernel)
theorem ml_X6_143 : Cond.methodLink RX6 143 yX6_reads ∈ gw_tbl := gw_in 767 (by decide +kernel) (by decide +kernel)
theorem ml_X6_139 : Cond.methodLink RX6 139 yX6_readClause ∈ gw_tbl := gw_in 771 (by decide +kernel) (by decide +kernel)
theorem ml_X6_120 : Cond.methodLink RX6 120 yX6_takes ∈ gw_tbl := gw_in 775 (by decide +kernel) (by decide +kernel)
theorem ml_X6_117 : Cond.methodLink RX6 117 yX6_isNext ∈ gw_tbl := gw_in 779 (by decide +kernel) (by decide +kernel)
theorem ml_X6_123 : Cond.methodLink RX6 123 yX6_number ∈ gw_tbl := gw_in 783 (by decide +kernel) (by decide +kernel)
theorem ml_X6_136 : Cond.methodLink RX6 136 yX6_readSpan ∈ gw_tbl := gw_in 787 (by decide +kernel) (by decide +kernel)
theorem ml_X6_150 : Cond.methodLink RX6 150 yX6_clausesOf ∈ gw_tbl := gw_in 807 (by decide +kernel) (by decide +kernel)
theorem ml_X6_154 : Cond.methodLink RX6 154 yX6_ruledIn ∈ gw_tbl := gw_in 811 (by decide +kernel) (by decide +kernel)
theorem ml_X6_157 : Cond.methodLink RX6 157 yX6_ruledBy ∈ gw_tbl := gw_in 819 (by decide +kernel) (by decide +kernel)
theorem ml_X6_160 : Cond.methodLink RX6 160 yX6_spokenBy ∈ gw_tbl := gw_in 823 (by decide +kernel) (by decide +kernel)
theorem ml_X6_163 : Cond.methodLink RX6 163 yX6_areThere ∈ gw_tbl := gw_in 839 (by decide +kernel) (by decide +kernel)
theorem ml_X6_166 : Cond.methodLink RX6 166 yX6_silencer ∈ gw_tbl := gw_in 843 (by decide +kernel) (by decide +kernel)
theorem ml_X6_169 : Cond.methodLink RX6 169 yX6_ruleOn ∈ gw_tbl := gw_in 863 (by decide +kernel) (by decide +kernel)
theorem ml_X6_172 : Cond.methodLink RX6 172 yX6_ruled ∈ gw_tbl := gw_in 879 (by decide +kernel) (by decide +kernel)
theorem ml_X6_175 : Cond.methodLink RX6 175 yX6_spoken ∈ gw_tbl := gw_in 883 (by decide +kernel) (by decide +kernel)
theorem ml_X6_178 : Cond.methodLink RX6 178 yX6_allOf ∈ gw_tbl := gw_in 887 (by decide +kernel) (by decide +kernel)
/-- the object of class Clauses at c, its nine arrays behind it -/
def IsCl (c : Nat) : Prop := Lay[c]? = some (.inl (1, [0, c + 3, c + 4, c + 5, c + 6, c + 7, c + 8, c + 9, c + 10, c + 11])) ∧ Lay[c + 1]? = some (.inr (0, 30)) ∧ Lay[c + 2]? = some (.inr (0, 30)) ∧ Lay[c + 3]? = some (.inr (0, 30)) ∧ Lay[c + 4]? = some (.inr (0, 30)) ∧ Lay[c + 5]? = some (.inr (0, 30)) ∧ Lay[c + 6]? = some (.inr (0, 30)) ∧ Lay[c + 7]? = some (.inr (0, 30)) ∧ Lay[c + 8]? = some (.inr (0, 90)) ∧ Lay[c + 9]? = some (.inr (0, 90))
/-- the book at b, its three arrays, its clauses -/
def IsBk (b : Nat) : Prop := Lay[b]? = some (.inl (0, [0, b + 3, b + 4, b + 5, b + 6])) ∧ Lay[b + 1]? = some (.inr (0, 6)) ∧ Lay[b + 2]? = some (.inr (0, 6)) ∧ Lay[b + 3]? = some (.inr (0, 6)) ∧ IsCl (b + 4)
theorem isCl_4 : IsCl 4 := ⟨rfl, rfl, rfl, rfl, rfl, rfl, rfl, rfl, rfl, rfl⟩
theorem isCl_18 : IsCl 18 := ⟨rfl, rfl, rfl, rfl, rfl, rfl, rfl, rfl, rfl, rfl⟩
theorem isBk_14 : IsBk 14 := ⟨rfl, rfl, rfl, rfl, rfl, rfl, rfl, rfl, rfl, rfl, rfl, rfl, rfl, rfl⟩
theorem isBk_28 : IsBk 28 := ⟨rfl, rfl, rfl, rfl, rfl, rfl, rfl, rfl, rfl, rfl, rfl, rfl, rfl, rfl⟩
theorem isBk_42 : IsBk 42 := ⟨rfl, rfl, rfl, rfl, rfl, rfl, rfl, rfl, rfl, rfl, rfl, rfl, rfl, rfl⟩
theorem isBk_56 : IsBk 56 := ⟨rfl, rfl, rfl, rfl, rfl, rfl, rfl, rfl, rfl, rfl, rfl, rfl, rfl, rfl⟩
theorem isBk_70 : IsBk 70 := ⟨rfl, rfl, rfl, rfl, rfl, rfl, rfl, rfl, rfl, rfl, rfl, rfl, rfl, rfl⟩
theorem isBk_84 : IsBk 84 := ⟨rfl, rfl, rfl, rfl, rfl, rfl, rfl, rfl, rfl, rfl, rfl, rfl, rfl, rfl⟩
end
section
set_option maxRecDepth 100000 in
set_option maxHeartbeats 4000000 in
theorem g_X0_copyFrom_0 {d : Nat} {x : XX} {Q : Int32 → XX → Prop} {b o : Nat} (hb : IsBk b) (ho : IsBk o) (h : (∀ x1 : XX, x1 = up2 x b 0 (x o 0) → (∀ x2 : XX, x2 = setR x1 (b + 1) (fun j => if j < 6 then x1 (o + 1) j else x1 (b + 1) j) → (∀ x3 : XX, x3 = setR x2 (b + 2) (fun j => if j < 6 then x2 (o + 2) j else x2 (b + 2) j) → (∀ x4 : XX, x4 = setR x3 (b + 3) (fun j => if j < 6 then x3 (o + 3) j else x3 (b + 3) j) → Call mX1_copyFrom (d + 1) [.inr (b + 4), .inr (o + 4)] x4 (fun _ x5 => Q 0 x5)))))) : Go mX0_copyFrom (d + 2) 0 [some (.inr b), some (.inr o)] [] x Q := by
  refine go_aload_n (q := 1) dX0_copyFrom_0 rfl rfl ?_
  refine go_aload_n (q := 2) dX0_copyFrom_1 rfl rfl ?_
  refine go_getI (q := 5) (k := 0) dX0_copyFrom_2 rfl okC0 fl_X0_9 ho.1 (by decide) rfl (by decide) ?_
  refine go_putI (q := 8) (k := 0) dX0_copyFrom_5 rfl okC0 fl_X0_9 hb.1 (by decide) rfl rfl pf_I (fun x1 ex1 => ?_)
  have h := h x1 ex1
  refine go_aload_n (q := 9) dX0_copyFrom_8 rfl rfl ?_
  refine go_getR (q := 12) (k := 1) (r := (o + 1)) dX0_copyFrom_9 rfl okC0 fl_X0_15 ho.1 (by decide) rfl ?_
  refine go_iconst (q := 13) (v := (0 : Int32)) dX0_copyFrom_12 rfl (by decide) ?_
  refine go_aload_n (q := 14) dX0_copyFrom_13 rfl rfl ?_
  refine go_getR (q := 17) (k := 1) (r := (b + 1)) dX0_copyFrom_14 rfl okC0 fl_X0_15 hb.1 (by decide) rfl ?_
  refine go_iconst (q := 18) (v := (0 : Int32)) dX0_copyFrom_17 rfl (by decide) ?_
  refine go_bipush (q := 20) (v := (6 : Int32)) dX0_copyFrom_18 rfl (by decide) ?_
  refine go_copy (q := 23) (n := 6) dX0_copyFrom_20 rfl ml_X0_32 ho.2.1 hb.2.1 (by decide) (by decide) (by decide) (by decide) (fun x2 ex2 => ?_)
  have h := h x2 ex2
  refine go_aload_n (q := 24) dX0_copyFrom_23 rfl rfl ?_
  refine go_getR (q := 27) (k := 2) (r := (o + 2)) dX0_copyFrom_24 rfl okC0 fl_X0_19 ho.1 (by decide) rfl ?_
  refine go_iconst (q := 28) (v := (0 : Int32)) dX0_copyFrom_27 rfl (by decide) ?_
  refine go_aload_n (q := 29) dX0_copyFrom_28 rfl rfl ?_
  refine go_getR (q := 32) (k := 2) (r := (b + 2)) dX0_copyFrom_29 rfl okC0 fl_X0_19 hb.1 (by decide) rfl ?_
  refine go_iconst (q := 33) (v := (0 : Int32)) dX0_copyFrom_32 rfl (by decide) ?_
  refine go_bipush (q := 35) (v := (6 : Int32)) dX0_copyFrom_33 rfl (by decide) ?_
  refine go_copy (q := 38) (n := 6) dX0_copyFrom_35 rfl ml_X0_32 ho.2.2.1 hb.2.2.1 (by decide) (by decide) (by decide) (by decide) (fun x3 ex3 => ?_)
  have h := h x3 ex3
  refine go_aload_n (q := 39) dX0_copyFrom_38 rfl rfl ?_
  refine go_getR (q := 42) (k := 3) (r := (o + 3)) dX0_copyFrom_39 rfl okC0 fl_X0_22 ho.1 (by decide) rfl ?_
  refine go_iconst (q := 43) (v := (0 : Int32)) dX0_copyFrom_42 rfl (by decide) ?_
  refine go_aload_n (q := 44) dX0_copyFrom_43 rfl rfl ?_
  refine go_getR (q := 47) (k := 3) (r := (b + 3)) dX0_copyFrom_44 rfl okC0 fl_X0_22 hb.1 (by decide) rfl ?_
  refine go_iconst (q := 48) (v := (0 : Int32)) dX0_copyFrom_47 rfl (by decide) ?_
  refine go_bipush (q := 50) (v := (6 : Int32)) dX0_copyFrom_48 rfl (by decide) ?_
  refine go_copy (q := 53) (n := 6) dX0_copyFrom_50 rfl ml_X0_32 ho.2.2.2.1 hb.2.2.2.1 (by decide) (by decide) (by decide) (by decide) (fun x4 ex4 => ?_)
  have h := h x4 ex4
  refine go_aload_n (q := 54) dX0_copyFrom_53 rfl rfl ?_
  refine go_getR (q := 57) (k := 4) (r := (b + 4)) dX0_copyFrom_54 rfl okC0 fl_X0_28 hb.1 (by decide) rfl ?_
  refine go_aload_n (q := 58) dX0_copyFrom_57 rfl rfl ?_
  refine go_getR (q := 61) (k := 4) (r := (o + 4)) dX0_copyFrom_58 rfl okC0 fl_X0_28 ho.1 (by decide) rfl ?_
  refine go_callVv (M' := mX1_copyFrom) (q := 64) (as := [.inr (o + 4)]) (rest := []) dX0_copyFrom_61 rfl ml_X0_38 ok_X1_copyFrom hb.2.2.2.2.1 rfl rfl rfl rfl (by decide) rfl ?_
  refine call_mono h (fun _ x5 h => ?_)
  exact go_vret dX0_copyFrom_64 rfl h
set_option maxRecDepth 100000 in
set_option maxHeartbeats 4000000 in
theorem g_X0_reaches_0 {d : Nat} {x : XX} {Q : Int32 → XX → Prop} {p1 p2 : Int32} (h : (∃ i1 : Nat, i1 < 6 ∧ p1 = nI i1 ∧ ((p2 < (x 15 i1) → Q (0 : Int32) x) ∧
 (¬ p2 < (x 15 i1) → (∃ i2 : Nat, i2 < 6 ∧ p1 = nI i2 ∧ (((x 16 i2) < p2 → Q (0 : Int32) x) ∧
 (¬ (x 16 i2) < p2 → Q (1 : Int32) x))))))) : Go mX0_reaches d 0 [some (.inr 14), some (.inl p1), some (.inl p2)] [] x Q := by
  refine go_aload_n (q := 1) dX0_reaches_0 rfl rfl ?_
  refine go_getR (q := 4) (k := 1) (r := 15) dX0_reaches_1 rfl okC0 fl_X0_15 lay_14 (by decide) rfl ?_
  refine go_iload_n (q := 5) dX0_reaches_4 rfl rfl ?_
  obtain ⟨i1, hi1, ei1, h⟩ := h
  refine go_iaload (q := 6) (i := i1) dX0_reaches_5 rfl lay_15 hi1 ei1 ?_
  refine go_iload_n (q := 7) dX0_reaches_6 rfl rfl ?_
  refine go_icmp_gt (q := 10) (t := 24) dX0_reaches_7 rfl (by decide) (fun cc => ?_) (fun cc => ?_)
  · have h := h.1 cc
    refine go_iconst (q := 25) (v := (0 : Int32)) dX0_reaches_24 rfl (by decide) ?_
    exact go_zret dX0_reaches_25 rfl (Or.inl rfl) h
  · have h := h.2 cc
    refine go_iload_n (q := 11) dX0_reaches_10 rfl rfl ?_
    refine go_aload_n (q := 12) dX0_reaches_11 rfl rfl ?_
    refine go_getR (q := 15) (k := 2) (r := 16) dX0_reaches_12 rfl okC0 fl_X0_19 lay_14 (by decide) rfl ?_
    refine go_iload_n (q := 16) dX0_reaches_15 rfl rfl ?_
    obtain ⟨i2, hi2, ei2, h⟩ := h
    refine go_iaload (q := 17) (i := i2) dX0_reaches_16 rfl lay_16 hi2 ei2 ?_
    refine go_icmp_gt (q := 20) (t := 24) dX0_reaches_17 rfl (by decide) (fun cc => ?_) (fun cc => ?_)
    · have h := h.1 cc
      refine go_iconst (q := 25) (v := (0 : Int32)) dX0_reaches_24 rfl (by decide) ?_
      exact go_zret dX0_reaches_25 rfl (Or.inl rfl) h
    · have h := h.2 cc
      refine go_iconst (q := 21) (v := (1 : Int32)) dX0_reaches_20 rfl (by decide) ?_
      refine go_goto (t := 25) dX0_reaches_21 (by decide) ?_
      exact go_zret dX0_reaches_25 rfl (Or.inr rfl) h
set_option maxRecDepth 100000 in
set_option maxHeartbeats 4000000 in
theorem g_X0_meets_0 {d : Nat} {x : XX} {Q : Int32 → XX → Prop} {p1 p2 : Int32} (h : Call mX1_isInSpan d [.inr 18, .inl p1, .inl p2] x (fun r2 x1 => ((r2 = 0 → Q (0 : Int32) x1) ∧
 (¬ r2 = 0 → (∃ i3 : Nat, i3 < 30 ∧ p1 = nI i3 ∧ Call mX0_reaches d [.inr 14, .inl (x1 19 i3), .inl p2] x1 (fun r5 x4 => ((r5 = 0 → Q (0 : Int32) x4) ∧
 (¬ r5 = 0 → Call mX1_isExcepted d [.inr 18, .inl p1, .inl p2] x4 (fun r7 x6 => ((¬ r7 = 0 → Q (0 : Int32) x6) ∧
 (r7 = 0 → Q (1 : Int32) x6))))))))))) : Go mX0_meets (d + 1) 0 [some (.inr 14), some (.inl p1), some (.inl p2)] [] x Q := by
  refine go_aload_n (q := 1) dX0_meets_0 rfl rfl ?_
  refine go_getR (q := 4) (k := 4) (r := 18) dX0_meets_1 rfl okC0 fl_X0_28 lay_14 (by decide) rfl ?_
  refine go_iload_n (q := 5) dX0_meets_4 rfl rfl ?_
  refine go_iload_n (q := 6) dX0_meets_5 rfl rfl ?_
  refine go_callV (M' := mX1_isInSpan) (q := 9) (as := [.inl p1, .inl p2]) (rest := []) dX0_meets_6 rfl ml_X0_42 ok_X1_isInSpan lay_18 rfl rfl rfl rfl (by decide) rfl ?_
  refine call_mono h (fun r2 x1 h => ?_)
  refine go_if_eq (q := 12) (t := 45) dX0_meets_9 rfl (by decide) (fun cc => ?_) (fun cc => ?_)
  · have h := h.1 cc
    refine go_iconst (q := 46) (v := (0 : Int32)) dX0_meets_45 rfl (by decide) ?_
    exact go_zret dX0_meets_46 rfl (Or.inl rfl) h
  · have h := h.2 cc
    refine go_aload_n (q := 13) dX0_meets_12 rfl rfl ?_
    refine go_aload_n (q := 14) dX0_meets_13 rfl rfl ?_
    refine go_getR (q := 17) (k := 4) (r := 18) dX0_meets_14 rfl okC0 fl_X0_28 lay_14 (by decide) rfl ?_
    refine go_getR (q := 20) (k := 1) (r := 19) dX0_meets_17 rfl okC1 fl_X0_46 lay_18 (by decide) rfl ?_
    refine go_iload_n (q := 21) dX0_meets_20 rfl rfl ?_
    obtain ⟨i3, hi3, ei3, h⟩ := h
    refine go_iaload (q := 22) (i := i3) dX0_meets_21 rfl lay_19 hi3 ei3 ?_
    refine go_iload_n (q := 23) dX0_meets_22 rfl rfl ?_
    refine go_callV (M' := mX0_reaches) (q := 26) (as := [.inl (x1 19 i3), .inl p2]) (rest := []) dX0_meets_23 rfl ml_X0_49 ok_X0_reaches lay_14 rfl rfl rfl rfl (by decide) rfl ?_
    refine call_mono h (fun r5 x4 h => ?_)
    refine go_if_eq (q := 29) (t := 45) dX0_meets_26 rfl (by decide) (fun cc => ?_) (fun cc => ?_)
    · have h := h.1 cc
      refine go_iconst (q := 46) (v := (0 : Int32)) dX0_meets_45 rfl (by decide) ?_
      exact go_zret dX0_meets_46 rfl (Or.inl rfl) h
    · have h := h.2 cc
      refine go_aload_n (q := 30) dX0_meets_29 rfl rfl ?_
      refine go_getR (q := 33) (k := 4) (r := 18) dX0_meets_30 rfl okC0 fl_X0_28 lay_14 (by decide) rfl ?_
      refine go_iload_n (q := 34) dX0_meets_33 rfl rfl ?_
      refine go_iload_n (q := 35) dX0_meets_34 rfl rfl ?_
      refine go_callV (M' := mX1_isExcepted) (q := 38) (as := [.inl p1, .inl p2]) (rest := []) dX0_meets_35 rfl ml_X0_52 ok_X1_isExcepted lay_18 rfl rfl rfl rfl (by decide) rfl ?_
      refine call_mono h (fun r7 x6 h => ?_)
      refine go_if_ne (q := 41) (t := 45) dX0_meets_38 rfl (by decide) (fun cc => ?_) (fun cc => ?_)
      · have h := h.1 cc
        refine go_iconst (q := 46) (v := (0 : Int32)) dX0_meets_45 rfl (by decide) ?_
        exact go_zret dX0_meets_46 rfl (Or.inl rfl) h
      · have h := h.2 cc
        refine go_iconst (q := 42) (v := (1 : Int32)) dX0_meets_41 rfl (by decide) ?_
        refine go_goto (t := 46) dX0_meets_42 (by decide) ?_
        exact go_zret dX0_meets_46 rfl (Or.inr rfl) h
set_option maxRecDepth 100000 in
set_option maxHeartbeats 4000000 in
theorem g_X1_has_0 {d : Nat} {x : XX} {Q : Int32 → XX → Prop} {p1 : Int32} {c : Nat} (hc : IsCl c) (h : Call mX5_isBelow d [.inl p1, .inl (x c 0)] x (fun r2 x1 => ((r2 = 0 ∨ r2 = 1) ∧ Q r2 x1))) : Go mX1_has (d + 1) 0 [some (.inr c), some (.inl p1)] [] x Q := by
  refine go_iload_n (q := 1) dX1_has_0 rfl rfl ?_
  refine go_aload_n (q := 2) dX1_has_1 rfl rfl ?_
  refine go_getI (q := 5) (k := 0) dX1_has_2 rfl okC1 fl_X1_9 hc.1 (by decide) rfl (by decide) ?_
  refine go_callN (M' := mX5_isBelow) (q := 8) (as := [.inl p1, .inl (x c 0)]) (rest := []) dX1_has_5 rfl ⟨rfl, rfl, rfl⟩ ok_X5_isBelow rfl rfl (by decide) rfl ?_
  refine call_mono h (fun r2 x1 h => ?_)
  exact go_zret dX1_has_8 rfl h.1 h.2
set_option maxRecDepth 100000 in
set_option maxHeartbeats 4000000 in
theorem g_X1_add_0 {d : Nat} {x : XX} {Q : Int32 → XX → Prop} {p1 p2 p3 p4 p5 : Int32} {c : Nat} (hc : IsCl c) (h : (((x c 0) < (30 : Int32) → (∀ x1 : XX, x1 = up2 x c 0 ((x c 0) + (1 : Int32)) → (∃ i3 : Nat, i3 < 30 ∧ (x c 0) = nI i3 ∧ (∀ x2 : XX, x2 = up2 x1 (c + 1) i3 p1 → (∃ i5 : Nat, i5 < 30 ∧ (x c 0) = nI i5 ∧ (∀ x4 : XX, x4 = up2 x2 (c + 2) i5 p2 → (∃ i7 : Nat, i7 < 30 ∧ (x c 0) = nI i7 ∧ (∀ x6 : XX, x6 = up2 x4 (c + 3) i7 (1000 : Int32) → (∃ i9 : Nat, i9 < 30 ∧ (x c 0) = nI i9 ∧ (∀ x8 : XX, x8 = up2 x6 (c + 4) i9 p3 → (∃ i11 : Nat, i11 < 30 ∧ (x c 0) = nI i11 ∧ (∀ x10 : XX, x10 = up2 x8 (c + 5) i11 p4 → (∃ i13 : Nat, i13 < 30 ∧ (x c 0) = nI i13 ∧ (∀ x12 : XX, x12 = up2 x10 (c + 6) i13 p5 → (∃ i15 : Nat, i15 < 30 ∧ (x c 0) = nI i15 ∧ (∀ x14 : XX, x14 = up2 x12 (c + 7) i15 (0 : Int32) → Q (x c 0) x14)))))))))))))))) ∧
 (¬ (x c 0) < (30 : Int32) → Q (-1) x))) : Go mX1_add d 0 [some (.inr c), some (.inl p1), some (.inl p2), some (.inl p3), some (.inl p4), some (.inl p5), none] [] x Q := by
  refine go_aload_n (q := 1) dX1_add_0 rfl rfl ?_
  refine go_getI (q := 4) (k := 0) dX1_add_1 rfl okC1 fl_X1_9 hc.1 (by decide) rfl (by decide) ?_
  refine go_bipush (q := 6) (v := (30 : Int32)) dX1_add_4 rfl (by decide) ?_
  refine go_icmp_lt (q := 9) (t := 11) dX1_add_6 rfl (by decide) (fun cc => ?_) (fun cc => ?_)
  · have h := h.1 cc
    refine go_aload_n (q := 12) dX1_add_11 rfl rfl ?_
    refine go_getI (q := 15) (k := 0) dX1_add_12 rfl okC1 fl_X1_9 hc.1 (by decide) rfl (by decide) ?_
    refine go_istore (q := 17) (L' := [some (.inr c), some (.inl p1), some (.inl p2), some (.inl p3), some (.inl p4), some (.inl p5), some (.inl (x c 0))]) dX1_add_15 rfl (by decide) rfl ?_
    refine go_aload_n (q := 18) dX1_add_17 rfl rfl ?_
    refine go_dup (q := 19) dX1_add_18 rfl ?_
    refine go_getI (q := 22) (k := 0) dX1_add_19 rfl okC1 fl_X1_9 hc.1 (by decide) rfl (by decide) ?_
    refine go_iconst (q := 23) (v := (1 : Int32)) dX1_add_22 rfl (by decide) ?_
    refine go_iadd (q := 24) dX1_add_23 rfl ?_
    refine go_putI (q := 27) (k := 0) dX1_add_24 rfl okC1 fl_X1_9 hc.1 (by decide) rfl rfl pf_I (fun x1 ex1 => ?_)
    have h := h x1 ex1
    refine go_aload_n (q := 28) dX1_add_27 rfl rfl ?_
    refine go_getR (q := 31) (k := 1) (r := (c + 1)) dX1_add_28 rfl okC1 fl_X1_15 hc.1 (by decide) rfl ?_
    refine go_iload (q := 33) dX1_add_31 rfl rfl ?_
    refine go_iload_n (q := 34) dX1_add_33 rfl rfl ?_
    obtain ⟨i3, hi3, ei3, h⟩ := h
    refine go_iastore (q := 35) (i := i3) dX1_add_34 rfl hc.2.1 hi3 ei3 (fun x2 ex2 => ?_)
    have h := h x2 ex2
    refine go_aload_n (q := 36) dX1_add_35 rfl rfl ?_
    refine go_getR (q := 39) (k := 2) (r := (c + 2)) dX1_add_36 rfl okC1 fl_X1_19 hc.1 (by decide) rfl ?_
    refine go_iload (q := 41) dX1_add_39 rfl rfl ?_
    refine go_iload_n (q := 42) dX1_add_41 rfl rfl ?_
    obtain ⟨i5, hi5, ei5, h⟩ := h
    refine go_iastore (q := 43) (i := i5) dX1_add_42 rfl hc.2.2.1 hi5 ei5 (fun x4 ex4 => ?_)
    have h := h x4 ex4
    refine go_aload_n (q := 44) dX1_add_43 rfl rfl ?_
    refine go_getR (q := 47) (k := 3) (r := (c + 3)) dX1_add_44 rfl okC1 fl_X1_22 hc.1 (by decide) rfl ?_
    refine go_iload (q := 49) dX1_add_47 rfl rfl ?_
    refine go_sipush (q := 52) (v := (1000 : Int32)) dX1_add_49 rfl (by decide) ?_
    obtain ⟨i7, hi7, ei7, h⟩ := h
    refine go_iastore (q := 53) (i := i7) dX1_add_52 rfl hc.2.2.2.1 hi7 ei7 (fun x6 ex6 => ?_)
    have h := h x6 ex6
    refine go_aload_n (q := 54) dX1_add_53 rfl rfl ?_
    refine go_getR (q := 57) (k := 4) (r := (c + 4)) dX1_add_54 rfl okC1 fl_X1_25 hc.1 (by decide) rfl ?_
    refine go_iload (q := 59) dX1_add_57 rfl rfl ?_
    refine go_iload_n (q := 60) dX1_add_59 rfl rfl ?_
    obtain ⟨i9, hi9, ei9, h⟩ := h
    refine go_iastore (q := 61) (i := i9) dX1_add_60 rfl hc.2.2.2.2.1 hi9 ei9 (fun x8 ex8 => ?_)
    have h := h x8 ex8
    refine go_aload_n (q := 62) dX1_add_61 rfl rfl ?_
    refine go_getR (q := 65) (k := 5) (r := (c + 5)) dX1_add_62 rfl okC1 fl_X1_28 hc.1 (by decide) rfl ?_
    refine go_iload (q := 67) dX1_add_65 rfl rfl ?_
    refine go_iload (q := 69) dX1_add_67 rfl rfl ?_
    obtain ⟨i11, hi11, ei11, h⟩ := h
    refine go_iastore (q := 70) (i := i11) dX1_add_69 rfl hc.2.2.2.2.2.1 hi11 ei11 (fun x10 ex10 => ?_)
    have h := h x10 ex10
    refine go_aload_n (q := 71) dX1_add_70 rfl rfl ?_
    refine go_getR (q := 74) (k := 6) (r := (c + 6)) dX1_add_71 rfl okC1 fl_X1_31 hc.1 (by decide) rfl ?_
    refine go_iload (q := 76) dX1_add_74 rfl rfl ?_
    refine go_iload (q := 78) dX1_add_76 rfl rfl ?_
    obtain ⟨i13, hi13, ei13, h⟩ := h
    refine go_iastore (q := 79) (i := i13) dX1_add_78 rfl hc.2.2.2.2.2.2.1 hi13 ei13 (fun x12 ex12 => ?_)
    have h := h x12 ex12
    refine go_aload_n (q := 80) dX1_add_79 rfl rfl ?_
    refine go_getR (q := 83) (k := 7) (r := (c + 7)) dX1_add_80 rfl okC1 fl_X1_34 hc.1 (by decide) rfl ?_
    refine go_iload (q := 85) dX1_add_83 rfl rfl ?_
    refine go_iconst (q := 86) (v := (0 : Int32)) dX1_add_85 rfl (by decide) ?_
    obtain ⟨i15, hi15, ei15, h⟩ := h
    refine go_iastore (q := 87) (i := i15) dX1_add_86 rfl hc.2.2.2.2.2.2.2.1 hi15 ei15 (fun x14 ex14 => ?_)
    have h := h x14 ex14
    refine go_iload (q := 89) dX1_add_87 rfl rfl ?_
    exact go_iret dX1_add_89 rfl h
  · have h := h.2 cc
    refine go_iconst (q := 10) (v := (-1)) dX1_add_9 rfl (by decide) ?_
    exact go_iret dX1_add_10 rfl h
set_option maxRecDepth 100000 in
set_option maxHeartbeats 4000000 in
theorem g_X1_addException_0 {d : Nat} {x : XX} {Q : Int32 → XX → Prop} {p1 p2 p3 : Int32} {c : Nat} (hc : IsCl c) (h : Call mX1_has (d + 1) [.inr c, .inl p1] x (fun r2 x1 => ((r2 = 0 → Q 0 x1) ∧
 (¬ r2 = 0 → (∃ i3 : Nat, i3 < 30 ∧ p1 = nI i3 ∧ (((x1 (c + 7) i3) < (3 : Int32) → (∃ i4 : Nat, i4 < 30 ∧ p1 = nI i4 ∧ (∃ i6 : Nat, i6 < 90 ∧ ((p1 * (3 : Int32)) + (x1 (c + 7) i4)) = nI i6 ∧ (∀ x5 : XX, x5 = up2 x1 (c + 8) i6 p2 → (∃ i8 : Nat, i8 < 90 ∧ ((p1 * (3 : Int32)) + (x1 (c + 7) i4)) = nI i8 ∧ (∀ x7 : XX, x7 = up2 x5 (c + 9) i8 p3 → (∃ i9 : Nat, i9 < 30 ∧ p1 = nI i9 ∧ (∃ i11 : Nat, i11 < 30 ∧ p1 = nI i11 ∧ (∀ x10 : XX, x10 = up2 x7 (c + 7) i11 ((x7 (c + 7) i9) + (1 : Int32)) → Q 0 x10))))))))) ∧
 (¬ (x1 (c + 7) i3) < (3 : Int32) → Q 0 x1))))))) : Go mX1_addException (d + 2) 0 [some (.inr c), some (.inl p1), some (.inl p2), some (.inl p3), none] [] x Q := by
  refine go_aload_n (q := 1) dX1_addException_0 rfl rfl ?_
  refine go_iload_n (q := 2) dX1_addException_1 rfl rfl ?_
  refine go_callV (M' := mX1_has) (q := 5) (as := [.inl p1]) (rest := []) dX1_addException_2 rfl ml_X1_47 ok_X1_has hc.1 rfl rfl rfl rfl (by decide) rfl ?_
  refine call_mono h (fun r2 x1 h => ?_)
  refine go_if_eq (q := 8) (t := 18) dX1_addException_5 rfl (by decide) (fun cc => ?_) (fun cc => ?_)
  · have h := h.1 cc
    exact go_vret dX1_addException_18 rfl h
  · have h := h.2 cc
    refine go_aload_n (q := 9) dX1_addException_8 rfl rfl ?_
    refine go_getR (q := 12) (k := 7) (r := (c + 7)) dX1_addException_9 rfl okC1 fl_X1_34 hc.1 (by decide) rfl ?_
    refine go_iload_n (q := 13) dX1_addException_12 rfl rfl ?_
    obtain ⟨i3, hi3, ei3, h⟩ := h
    refine go_iaload (q := 14) (i := i3) dX1_addException_13 rfl hc.2.2.2.2.2.2.2.1 hi3 ei3 ?_
    refine go_iconst (q := 15) (v := (3 : Int32)) dX1_addException_14 rfl (by decide) ?_
    refine go_icmp_lt (q := 18) (t := 19) dX1_addException_15 rfl (by decide) (fun cc => ?_) (fun cc => ?_)
    · have h := h.1 cc
      refine go_iload_n (q := 20) dX1_addException_19 rfl rfl ?_
      refine go_iconst (q := 21) (v := (3 : Int32)) dX1_addException_20 rfl (by decide) ?_
      refine go_imul (q := 22) dX1_addException_21 rfl ?_
      refine go_aload_n (q := 23) dX1_addException_22 rfl rfl ?_
      refine go_getR (q := 26) (k := 7) (r := (c + 7)) dX1_addException_23 rfl okC1 fl_X1_34 hc.1 (by decide) rfl ?_
      refine go_iload_n (q := 27) dX1_addException_26 rfl rfl ?_
      obtain ⟨i4, hi4, ei4, h⟩ := h
      refine go_iaload (q := 28) (i := i4) dX1_addException_27 rfl hc.2.2.2.2.2.2.2.1 hi4 ei4 ?_
      refine go_iadd (q := 29) dX1_addException_28 rfl ?_
      refine go_istore (q := 31) (L' := [some (.inr c), some (.inl p1), some (.inl p2), some (.inl p3), some (.inl ((p1 * (3 : Int32)) + (x1 (c + 7) i4)))]) dX1_addException_29 rfl (by decide) rfl ?_
      refine go_aload_n (q := 32) dX1_addException_31 rfl rfl ?_
      refine go_getR (q := 35) (k := 8) (r := (c + 8)) dX1_addException_32 rfl okC1 fl_X1_37 hc.1 (by decide) rfl ?_
      refine go_iload (q := 37) dX1_addException_35 rfl rfl ?_
      refine go_iload_n (q := 38) dX1_addException_37 rfl rfl ?_
      obtain ⟨i6, hi6, ei6, h⟩ := h
      refine go_iastore (q := 39) (i := i6) dX1_addException_38 rfl hc.2.2.2.2.2.2.2.2.1 hi6 ei6 (fun x5 ex5 => ?_)
      have h := h x5 ex5
      refine go_aload_n (q := 40) dX1_addException_39 rfl rfl ?_
      refine go_getR (q := 43) (k := 9) (r := (c + 9)) dX1_addException_40 rfl okC1 fl_X1_40 hc.1 (by decide) rfl ?_
      refine go_iload (q := 45) dX1_addException_43 rfl rfl ?_
      refine go_iload_n (q := 46) dX1_addException_45 rfl rfl ?_
      obtain ⟨i8, hi8, ei8, h⟩ := h
      refine go_iastore (q := 47) (i := i8) dX1_addException_46 rfl hc.2.2.2.2.2.2.2.2.2 hi8 ei8 (fun x7 ex7 => ?_)
      have h := h x7 ex7
      refine go_aload_n (q := 48) dX1_addException_47 rfl rfl ?_
      refine go_getR (q := 51) (k := 7) (r := (c + 7)) dX1_addException_48 rfl okC1 fl_X1_34 hc.1 (by decide) rfl ?_
      refine go_iload_n (q := 52) dX1_addException_51 rfl rfl ?_
      refine go_dup2 (q := 53) dX1_addException_52 rfl ?_
      obtain ⟨i9, hi9, ei9, h⟩ := h
      refine go_iaload (q := 54) (i := i9) dX1_addException_53 rfl hc.2.2.2.2.2.2.2.1 hi9 ei9 ?_
      refine go_iconst (q := 55) (v := (1 : Int32)) dX1_addException_54 rfl (by decide) ?_
      refine go_iadd (q := 56) dX1_addException_55 rfl ?_
      obtain ⟨i11, hi11, ei11, h⟩ := h
      refine go_iastore (q := 57) (i := i11) dX1_addException_56 rfl hc.2.2.2.2.2.2.2.1 hi11 ei11 (fun x10 ex10 => ?_)
      have h := h x10 ex10
      exact go_vret dX1_addException_57 rfl h
    · have h := h.2 cc
      exact go_vret dX1_addException_18 rfl h
set_option maxRecDepth 100000 in
set_option maxHeartbeats 4000000 in
theorem g_X1_addAll_0 {d : Nat} {x : XX} {Q : Int32 → XX → Prop} (h : Go mX1_addAll (d + 3) 2 [some (.inr 18), some (.inr 4), some (.inl (0 : Int32)), none, none, none] [] x Q) : Go mX1_addAll (d + 3) 0 [some (.inr 18), some (.inr 4), none, none, none, none] [] x Q := by
  refine go_iconst (q := 1) (v := (0 : Int32)) dX1_addAll_0 rfl (by decide) ?_
  refine go_istore_n (q := 2) (L' := [some (.inr 18), some (.inr 4), some (.inl (0 : Int32)), none, none, none]) dX1_addAll_1 rfl (by decide) rfl ?_
  exact h
set_option maxRecDepth 100000 in
set_option maxHeartbeats 4000000 in
theorem g_X1_addAll_2 {d : Nat} {x : XX} {Q : Int32 → XX → Prop} {v2 : Int32} (h : (((x 4 0) ≤ v2 → Q 0 x) ∧
 (¬ (x 4 0) ≤ v2 → (∃ i1 : Nat, i1 < 30 ∧ v2 = nI i1 ∧ (∃ i2 : Nat, i2 < 30 ∧ v2 = nI i2 ∧ (∃ i3 : Nat, i3 < 30 ∧ v2 = nI i3 ∧ (∃ i4 : Nat, i4 < 30 ∧ v2 = nI i4 ∧ (∃ i5 : Nat, i5 < 30 ∧ v2 = nI i5 ∧ Call mX1_add (d + 2) [.inr 18, .inl (x 5 i1), .inl (x 6 i2), .inl (x 8 i3), .inl (x 9 i4), .inl (x 10 i5)] x (fun r7 x6 => Go mX1_addAll (d + 3) 48 [some (.inr 18), some (.inr 4), some (.inl v2), some (.inl r7), some (.inl (0 : Int32)), none] [] x6 Q))))))))) : Go mX1_addAll (d + 3) 2 [some (.inr 18), some (.inr 4), some (.inl v2), none, none, none] [] x Q := by
  refine go_iload_n (q := 3) dX1_addAll_2 rfl rfl ?_
  refine go_aload_n (q := 4) dX1_addAll_3 rfl rfl ?_
  refine go_getI (q := 7) (k := 0) dX1_addAll_4 rfl okC1 fl_X1_9 lay_4 (by decide) rfl (by decide) ?_
  refine go_icmp_ge (q := 10) (t := 98) dX1_addAll_7 rfl (by decide) (fun cc => ?_) (fun cc => ?_)
  · have h := h.1 cc
    exact go_vret dX1_addAll_98 rfl h
  · have h := h.2 cc
    refine go_aload_n (q := 11) dX1_addAll_10 rfl rfl ?_
    refine go_aload_n (q := 12) dX1_addAll_11 rfl rfl ?_
    refine go_getR (q := 15) (k := 1) (r := 5) dX1_addAll_12 rfl okC1 fl_X1_15 lay_4 (by decide) rfl ?_
    refine go_iload_n (q := 16) dX1_addAll_15 rfl rfl ?_
    obtain ⟨i1, hi1, ei1, h⟩ := h
    refine go_iaload (q := 17) (i := i1) dX1_addAll_16 rfl lay_5 hi1 ei1 ?_
    refine go_aload_n (q := 18) dX1_addAll_17 rfl rfl ?_
    refine go_getR (q := 21) (k := 2) (r := 6) dX1_addAll_18 rfl okC1 fl_X1_19 lay_4 (by decide) rfl ?_
    refine go_iload_n (q := 22) dX1_addAll_21 rfl rfl ?_
    obtain ⟨i2, hi2, ei2, h⟩ := h
    refine go_iaload (q := 23) (i := i2) dX1_addAll_22 rfl lay_6 hi2 ei2 ?_
    refine go_aload_n (q := 24) dX1_addAll_23 rfl rfl ?_
    refine go_getR (q := 27) (k := 4) (r := 8) dX1_addAll_24 rfl okC1 fl_X1_25 lay_4 (by decide) rfl ?_
    refine go_iload_n (q := 28) dX1_addAll_27 rfl rfl ?_
    obtain ⟨i3, hi3, ei3, h⟩ := h
    refine go_iaload (q := 29) (i := i3) dX1_addAll_28 rfl lay_8 hi3 ei3 ?_
    refine go_aload_n (q := 30) dX1_addAll_29 rfl rfl ?_
    refine go_getR (q := 33) (k := 5) (r := 9) dX1_addAll_30 rfl okC1 fl_X1_28 lay_4 (by decide) rfl ?_
    refine go_iload_n (q := 34) dX1_addAll_33 rfl rfl ?_
    obtain ⟨i4, hi4, ei4, h⟩ := h
    refine go_iaload (q := 35) (i := i4) dX1_addAll_34 rfl lay_9 hi4 ei4 ?_
    refine go_aload_n (q := 36) dX1_addAll_35 rfl rfl ?_
    refine go_getR (q := 39) (k := 6) (r := 10) dX1_addAll_36 rfl okC1 fl_X1_31 lay_4 (by decide) rfl ?_
    refine go_iload_n (q := 40) dX1_addAll_39 rfl rfl ?_
    obtain ⟨i5, hi5, ei5, h⟩ := h
    refine go_iaload (q := 41) (i := i5) dX1_addAll_40 rfl lay_10 hi5 ei5 ?_
    refine go_callV (M' := mX1_add) (q := 44) (as := [.inl (x 5 i1), .inl (x 6 i2), .inl (x 8 i3), .inl (x 9 i4), .inl (x 10 i5)]) (rest := []) dX1_addAll_41 rfl ml_X1_51 ok_X1_add lay_18 rfl rfl rfl rfl (by decide) rfl ?_
    refine call_mono h (fun r7 x6 h => ?_)
    refine go_istore_n (q := 45) (L' := [some (.inr 18), some (.inr 4), some (.inl v2), some (.inl r7), none, none]) dX1_addAll_44 rfl (by decide) rfl ?_
    refine go_iconst (q := 46) (v := (0 : Int32)) dX1_addAll_45 rfl (by decide) ?_
    refine go_istore (q := 48) (L' := [some (.inr 18), some (.inr 4), some (.inl v2), some (.inl r7), some (.inl (0 : Int32)), none]) dX1_addAll_46 rfl (by decide) rfl ?_
    exact h
set_option maxRecDepth 100000 in
set_option maxHeartbeats 4000000 in
theorem g_X1_addAll_48 {d : Nat} {x : XX} {Q : Int32 → XX → Prop} {v2 v3 v4 : Int32} (h : (∃ i1 : Nat, i1 < 30 ∧ v2 = nI i1 ∧ (((x 11 i1) ≤ v4 → Go mX1_addAll (d + 3) 2 [some (.inr 18), some (.inr 4), some (.inl (v2 + 1)), none, none, none] [] x Q) ∧
 (¬ (x 11 i1) ≤ v4 → (∃ i2 : Nat, i2 < 90 ∧ ((v2 * (3 : Int32)) + v4) = nI i2 ∧ (∃ i3 : Nat, i3 < 90 ∧ ((v2 * (3 : Int32)) + v4) = nI i3 ∧ Call mX1_addException (d + 2) [.inr 18, .inl v3, .inl (x 12 i2), .inl (x 13 i3)] x (fun _ x4 => Go mX1_addAll (d + 3) 48 [some (.inr 18), some (.inr 4), some (.inl v2), some (.inl v3), some (.inl (v4 + 1)), none] [] x4 Q))))))) : Go mX1_addAll (d + 3) 48 [some (.inr 18), some (.inr 4), some (.inl v2), some (.inl v3), some (.inl v4), none] [] x Q := by
  refine go_iload (q := 50) dX1_addAll_48 rfl rfl ?_
  refine go_aload_n (q := 51) dX1_addAll_50 rfl rfl ?_
  refine go_getR (q := 54) (k := 7) (r := 11) dX1_addAll_51 rfl okC1 fl_X1_34 lay_4 (by decide) rfl ?_
  refine go_iload_n (q := 55) dX1_addAll_54 rfl rfl ?_
  obtain ⟨i1, hi1, ei1, h⟩ := h
  refine go_iaload (q := 56) (i := i1) dX1_addAll_55 rfl lay_11 hi1 ei1 ?_
  refine go_icmp_ge (q := 59) (t := 92) dX1_addAll_56 rfl (by decide) (fun cc => ?_) (fun cc => ?_)
  · have h := h.1 cc
    refine go_iinc (q := 95) (v := (v2 + 1)) (L' := [some (.inr 18), some (.inr 4), some (.inl (v2 + 1)), some (.inl v3), some (.inl v4), none]) dX1_addAll_92 rfl (by decide) rfl rfl rfl ?_
    refine go_goto (t := 2) dX1_addAll_95 (by decide) ?_
    refine go_forget 3 (L' := [some (.inr 18), some (.inr 4), some (.inl (v2 + 1)), none, some (.inl v4), none]) rfl ?_
    refine go_forget 4 (L' := [some (.inr 18), some (.inr 4), some (.inl (v2 + 1)), none, none, none]) rfl ?_
    exact h
  · have h := h.2 cc
    refine go_iload_n (q := 60) dX1_addAll_59 rfl rfl ?_
    refine go_iconst (q := 61) (v := (3 : Int32)) dX1_addAll_60 rfl (by decide) ?_
    refine go_imul (q := 62) dX1_addAll_61 rfl ?_
    refine go_iload (q := 64) dX1_addAll_62 rfl rfl ?_
    refine go_iadd (q := 65) dX1_addAll_64 rfl ?_
    refine go_istore (q := 67) (L' := [some (.inr 18), some (.inr 4), some (.inl v2), some (.inl v3), some (.inl v4), some (.inl ((v2 * (3 : Int32)) + v4))]) dX1_addAll_65 rfl (by decide) rfl ?_
    refine go_aload_n (q := 68) dX1_addAll_67 rfl rfl ?_
    refine go_iload_n (q := 69) dX1_addAll_68 rfl rfl ?_
    refine go_aload_n (q := 70) dX1_addAll_69 rfl rfl ?_
    refine go_getR (q := 73) (k := 8) (r := 12) dX1_addAll_70 rfl okC1 fl_X1_37 lay_4 (by decide) rfl ?_
    refine go_iload (q := 75) dX1_addAll_73 rfl rfl ?_
    obtain ⟨i2, hi2, ei2, h⟩ := h
    refine go_iaload (q := 76) (i := i2) dX1_addAll_75 rfl lay_12 hi2 ei2 ?_
    refine go_aload_n (q := 77) dX1_addAll_76 rfl rfl ?_
    refine go_getR (q := 80) (k := 9) (r := 13) dX1_addAll_77 rfl okC1 fl_X1_40 lay_4 (by decide) rfl ?_
    refine go_iload (q := 82) dX1_addAll_80 rfl rfl ?_
    obtain ⟨i3, hi3, ei3, h⟩ := h
    refine go_iaload (q := 83) (i := i3) dX1_addAll_82 rfl lay_13 hi3 ei3 ?_
    refine go_callVv (M' := mX1_addException) (q := 86) (as := [.inl v3, .inl (x 12 i2), .inl (x 13 i3)]) (rest := []) dX1_addAll_83 rfl ml_X1_55 ok_X1_addException lay_18 rfl rfl rfl rfl (by decide) rfl ?_
    refine call_mono h (fun _ x4 h => ?_)
    refine go_iinc (q := 89) (v := (v4 + 1)) (L' := [some (.inr 18), some (.inr 4), some (.inl v2), some (.inl v3), some (.inl (v4 + 1)), some (.inl ((v2 * (3 : Int32)) + v4))]) dX1_addAll_86 rfl (by decide) rfl rfl rfl ?_
    refine go_goto (t := 48) dX1_addAll_89 (by decide) ?_
    refine go_forget 5 (L' := [some (.inr 18), some (.inr 4), some (.inl v2), some (.inl v3), some (.inl (v4 + 1)), none]) rfl ?_
    exact h
set_option maxRecDepth 100000 in
set_option maxHeartbeats 4000000 in
theorem g_X1_copyFrom_0 {d : Nat} {x : XX} {Q : Int32 → XX → Prop} {c o : Nat} (hc : IsCl c) (ho : IsCl o) (h : (∀ x1 : XX, x1 = up2 x c 0 (x o 0) → (∃ i3 : Nat, i3 ≤ 30 ∧ (x1 c 0) = nI i3 ∧ (∀ x2 : XX, x2 = setR x1 (c + 1) (fun j => if j < i3 then x1 (o + 1) j else x1 (c + 1) j) → (∃ i5 : Nat, i5 ≤ 30 ∧ (x2 c 0) = nI i5 ∧ (∀ x4 : XX, x4 = setR x2 (c + 2) (fun j => if j < i5 then x2 (o + 2) j else x2 (c + 2) j) → (∃ i7 : Nat, i7 ≤ 30 ∧ (x4 c 0) = nI i7 ∧ (∀ x6 : XX, x6 = setR x4 (c + 3) (fun j => if j < i7 then x4 (o + 3) j else x4 (c + 3) j) → (∃ i9 : Nat, i9 ≤ 30 ∧ (x6 c 0) = nI i9 ∧ (∀ x8 : XX, x8 = setR x6 (c + 4) (fun j => if j < i9 then x6 (o + 4) j else x6 (c + 4) j) → (∃ i11 : Nat, i11 ≤ 30 ∧ (x8 c 0) = nI i11 ∧ (∀ x10 : XX, x10 = setR x8 (c + 5) (fun j => if j < i11 then x8 (o + 5) j else x8 (c + 5) j) → (∃ i13 : Nat, i13 ≤ 30 ∧ (x10 c 0) = nI i13 ∧ (∀ x12 : XX, x12 = setR x10 (c + 6) (fun j => if j < i13 then x10 (o + 6) j else x10 (c + 6) j) → (∃ i15 : Nat, i15 ≤ 30 ∧ (x12 c 0) = nI i15 ∧ (∀ x14 : XX, x14 = setR x12 (c + 7) (fun j => if j < i15 then x12 (o + 7) j else x12 (c + 7) j) → (∃ i17 : Nat, i17 ≤ 90 ∧ ((x14 c 0) * (3 : Int32)) = nI i17 ∧ (∀ x16 : XX, x16 = setR x14 (c + 8) (fun j => if j < i17 then x14 (o + 8) j else x14 (c + 8) j) → (∃ i19 : Nat, i19 ≤ 90 ∧ ((x16 c 0) * (3 : Int32)) = nI i19 ∧ (∀ x18 : XX, x18 = setR x16 (c + 9) (fun j => if j < i19 then x16 (o + 9) j else x16 (c + 9) j) → Q 0 x18)))))))))))))))))))) : Go mX1_copyFrom (d + 1) 0 [some (.inr c), some (.inr o)] [] x Q := by
  refine go_aload_n (q := 1) dX1_copyFrom_0 rfl rfl ?_
  refine go_aload_n (q := 2) dX1_copyFrom_1 rfl rfl ?_
  refine go_getI (q := 5) (k := 0) dX1_copyFrom_2 rfl okC1 fl_X1_9 ho.1 (by decide) rfl (by decide) ?_
  refine go_putI (q := 8) (k := 0) dX1_copyFrom_5 rfl okC1 fl_X1_9 hc.1 (by decide) rfl rfl pf_I (fun x1 ex1 => ?_)
  have h := h x1 ex1
  refine go_aload_n (q := 9) dX1_copyFrom_8 rfl rfl ?_
  refine go_getR (q := 12) (k := 1) (r := (o + 1)) dX1_copyFrom_9 rfl okC1 fl_X1_15 ho.1 (by decide) rfl ?_
  refine go_iconst (q := 13) (v := (0 : Int32)) dX1_copyFrom_12 rfl (by decide) ?_
  refine go_aload_n (q := 14) dX1_copyFrom_13 rfl rfl ?_
  refine go_getR (q := 17) (k := 1) (r := (c + 1)) dX1_copyFrom_14 rfl okC1 fl_X1_15 hc.1 (by decide) rfl ?_
  refine go_iconst (q := 18) (v := (0 : Int32)) dX1_copyFrom_17 rfl (by decide) ?_
  refine go_aload_n (q := 19) dX1_copyFrom_18 rfl rfl ?_
  refine go_getI (q := 22) (k := 0) dX1_copyFrom_19 rfl okC1 fl_X1_9 hc.1 (by decide) rfl (by decide) ?_
  obtain ⟨i3, hi3, ei3, h⟩ := h
  refine go_copy (q := 25) (n := i3) dX1_copyFrom_22 rfl ml_X1_59 ho.2.1 hc.2.1 hi3 hi3 ei3 (by decide) (fun x2 ex2 => ?_)
  have h := h x2 ex2
  refine go_aload_n (q := 26) dX1_copyFrom_25 rfl rfl ?_
  refine go_getR (q := 29) (k := 2) (r := (o + 2)) dX1_copyFrom_26 rfl okC1 fl_X1_19 ho.1 (by decide) rfl ?_
  refine go_iconst (q := 30) (v := (0 : Int32)) dX1_copyFrom_29 rfl (by decide) ?_
  refine go_aload_n (q := 31) dX1_copyFrom_30 rfl rfl ?_
  refine go_getR (q := 34) (k := 2) (r := (c + 2)) dX1_copyFrom_31 rfl okC1 fl_X1_19 hc.1 (by decide) rfl ?_
  refine go_iconst (q := 35) (v := (0 : Int32)) dX1_copyFrom_34 rfl (by decide) ?_
  refine go_aload_n (q := 36) dX1_copyFrom_35 rfl rfl ?_
  refine go_getI (q := 39) (k := 0) dX1_copyFrom_36 rfl okC1 fl_X1_9 hc.1 (by decide) rfl (by decide) ?_
  obtain ⟨i5, hi5, ei5, h⟩ := h
  refine go_copy (q := 42) (n := i5) dX1_copyFrom_39 rfl ml_X1_59 ho.2.2.1 hc.2.2.1 hi5 hi5 ei5 (by decide) (fun x4 ex4 => ?_)
  have h := h x4 ex4
  refine go_aload_n (q := 43) dX1_copyFrom_42 rfl rfl ?_
  refine go_getR (q := 46) (k := 3) (r := (o + 3)) dX1_copyFrom_43 rfl okC1 fl_X1_22 ho.1 (by decide) rfl ?_
  refine go_iconst (q := 47) (v := (0 : Int32)) dX1_copyFrom_46 rfl (by decide) ?_
  refine go_aload_n (q := 48) dX1_copyFrom_47 rfl rfl ?_
  refine go_getR (q := 51) (k := 3) (r := (c + 3)) dX1_copyFrom_48 rfl okC1 fl_X1_22 hc.1 (by decide) rfl ?_
  refine go_iconst (q := 52) (v := (0 : Int32)) dX1_copyFrom_51 rfl (by decide) ?_
  refine go_aload_n (q := 53) dX1_copyFrom_52 rfl rfl ?_
  refine go_getI (q := 56) (k := 0) dX1_copyFrom_53 rfl okC1 fl_X1_9 hc.1 (by decide) rfl (by decide) ?_
  obtain ⟨i7, hi7, ei7, h⟩ := h
  refine go_copy (q := 59) (n := i7) dX1_copyFrom_56 rfl ml_X1_59 ho.2.2.2.1 hc.2.2.2.1 hi7 hi7 ei7 (by decide) (fun x6 ex6 => ?_)
  have h := h x6 ex6
  refine go_aload_n (q := 60) dX1_copyFrom_59 rfl rfl ?_
  refine go_getR (q := 63) (k := 4) (r := (o + 4)) dX1_copyFrom_60 rfl okC1 fl_X1_25 ho.1 (by decide) rfl ?_
  refine go_iconst (q := 64) (v := (0 : Int32)) dX1_copyFrom_63 rfl (by decide) ?_
  refine go_aload_n (q := 65) dX1_copyFrom_64 rfl rfl ?_
  refine go_getR (q := 68) (k := 4) (r := (c + 4)) dX1_copyFrom_65 rfl okC1 fl_X1_25 hc.1 (by decide) rfl ?_
  refine go_iconst (q := 69) (v := (0 : Int32)) dX1_copyFrom_68 rfl (by decide) ?_
  refine go_aload_n (q := 70) dX1_copyFrom_69 rfl rfl ?_
  refine go_getI (q := 73) (k := 0) dX1_copyFrom_70 rfl okC1 fl_X1_9 hc.1 (by decide) rfl (by decide) ?_
  obtain ⟨i9, hi9, ei9, h⟩ := h
  refine go_copy (q := 76) (n := i9) dX1_copyFrom_73 rfl ml_X1_59 ho.2.2.2.2.1 hc.2.2.2.2.1 hi9 hi9 ei9 (by decide) (fun x8 ex8 => ?_)
  have h := h x8 ex8
  refine go_aload_n (q := 77) dX1_copyFrom_76 rfl rfl ?_
  refine go_getR (q := 80) (k := 5) (r := (o + 5)) dX1_copyFrom_77 rfl okC1 fl_X1_28 ho.1 (by decide) rfl ?_
  refine go_iconst (q := 81) (v := (0 : Int32)) dX1_copyFrom_80 rfl (by decide) ?_
  refine go_aload_n (q := 82) dX1_copyFrom_81 rfl rfl ?_
  refine go_getR (q := 85) (k := 5) (r := (c + 5)) dX1_copyFrom_82 rfl okC1 fl_X1_28 hc.1 (by decide) rfl ?_
  refine go_iconst (q := 86) (v := (0 : Int32)) dX1_copyFrom_85 rfl (by decide) ?_
  refine go_aload_n (q := 87) dX1_copyFrom_86 rfl rfl ?_
  refine go_getI (q := 90) (k := 0) dX1_copyFrom_87 rfl okC1 fl_X1_9 hc.1 (by decide) rfl (by decide) ?_
  obtain ⟨i11, hi11, ei11, h⟩ := h
  refine go_copy (q := 93) (n := i11) dX1_copyFrom_90 rfl ml_X1_59 ho.2.2.2.2.2.1 hc.2.2.2.2.2.1 hi11 hi11 ei11 (by decide) (fun x10 ex10 => ?_)
  have h := h x10 ex10
  refine go_aload_n (q := 94) dX1_copyFrom_93 rfl rfl ?_
  refine go_getR (q := 97) (k := 6) (r := (o + 6)) dX1_copyFrom_94 rfl okC1 fl_X1_31 ho.1 (by decide) rfl ?_
  refine go_iconst (q := 98) (v := (0 : Int32)) dX1_copyFrom_97 rfl (by decide) ?_
  refine go_aload_n (q := 99) dX1_copyFrom_98 rfl rfl ?_
  refine go_getR (q := 102) (k := 6) (r := (c + 6)) dX1_copyFrom_99 rfl okC1 fl_X1_31 hc.1 (by decide) rfl ?_
  refine go_iconst (q := 103) (v := (0 : Int32)) dX1_copyFrom_102 rfl (by decide) ?_
  refine go_aload_n (q := 104) dX1_copyFrom_103 rfl rfl ?_
  refine go_getI (q := 107) (k := 0) dX1_copyFrom_104 rfl okC1 fl_X1_9 hc.1 (by decide) rfl (by decide) ?_
  obtain ⟨i13, hi13, ei13, h⟩ := h
  refine go_copy (q := 110) (n := i13) dX1_copyFrom_107 rfl ml_X1_59 ho.2.2.2.2.2.2.1 hc.2.2.2.2.2.2.1 hi13 hi13 ei13 (by decide) (fun x12 ex12 => ?_)
  have h := h x12 ex12
  refine go_aload_n (q := 111) dX1_copyFrom_110 rfl rfl ?_
  refine go_getR (q := 114) (k := 7) (r := (o + 7)) dX1_copyFrom_111 rfl okC1 fl_X1_34 ho.1 (by decide) rfl ?_
  refine go_iconst (q := 115) (v := (0 : Int32)) dX1_copyFrom_114 rfl (by decide) ?_
  refine go_aload_n (q := 116) dX1_copyFrom_115 rfl rfl ?_
  refine go_getR (q := 119) (k := 7) (r := (c + 7)) dX1_copyFrom_116 rfl okC1 fl_X1_34 hc.1 (by decide) rfl ?_
  refine go_iconst (q := 120) (v := (0 : Int32)) dX1_copyFrom_119 rfl (by decide) ?_
  refine go_aload_n (q := 121) dX1_copyFrom_120 rfl rfl ?_
  refine go_getI (q := 124) (k := 0) dX1_copyFrom_121 rfl okC1 fl_X1_9 hc.1 (by decide) rfl (by decide) ?_
  obtain ⟨i15, hi15, ei15, h⟩ := h
  refine go_copy (q := 127) (n := i15) dX1_copyFrom_124 rfl ml_X1_59 ho.2.2.2.2.2.2.2.1 hc.2.2.2.2.2.2.2.1 hi15 hi15 ei15 (by decide) (fun x14 ex14 => ?_)
  have h := h x14 ex14
  refine go_aload_n (q := 128) dX1_copyFrom_127 rfl rfl ?_
  refine go_getR (q := 131) (k := 8) (r := (o + 8)) dX1_copyFrom_128 rfl okC1 fl_X1_37 ho.1 (by decide) rfl ?_
  refine go_iconst (q := 132) (v := (0 : Int32)) dX1_copyFrom_131 rfl (by decide) ?_
  refine go_aload_n (q := 133) dX1_copyFrom_132 rfl rfl ?_
  refine go_getR (q := 136) (k := 8) (r := (c + 8)) dX1_copyFrom_133 rfl okC1 fl_X1_37 hc.1 (by decide) rfl ?_
  refine go_iconst (q := 137) (v := (0 : Int32)) dX1_copyFrom_136 rfl (by decide) ?_
  refine go_aload_n (q := 138) dX1_copyFrom_137 rfl rfl ?_
  refine go_getI (q := 141) (k := 0) dX1_copyFrom_138 rfl okC1 fl_X1_9 hc.1 (by decide) rfl (by decide) ?_
  refine go_iconst (q := 142) (v := (3 : Int32)) dX1_copyFrom_141 rfl (by decide) ?_
  refine go_imul (q := 143) dX1_copyFrom_142 rfl ?_
  obtain ⟨i17, hi17, ei17, h⟩ := h
  refine go_copy (q := 146) (n := i17) dX1_copyFrom_143 rfl ml_X1_59 ho.2.2.2.2.2.2.2.2.1 hc.2.2.2.2.2.2.2.2.1 hi17 hi17 ei17 (by decide) (fun x16 ex16 => ?_)
  have h := h x16 ex16
  refine go_aload_n (q := 147) dX1_copyFrom_146 rfl rfl ?_
  refine go_getR (q := 150) (k := 9) (r := (o + 9)) dX1_copyFrom_147 rfl okC1 fl_X1_40 ho.1 (by decide) rfl ?_
  refine go_iconst (q := 151) (v := (0 : Int32)) dX1_copyFrom_150 rfl (by decide) ?_
  refine go_aload_n (q := 152) dX1_copyFrom_151 rfl rfl ?_
  refine go_getR (q := 155) (k := 9) (r := (c + 9)) dX1_copyFrom_152 rfl okC1 fl_X1_40 hc.1 (by decide) rfl ?_
  refine go_iconst (q := 156) (v := (0 : Int32)) dX1_copyFrom_155 rfl (by decide) ?_
  refine go_aload_n (q := 157) dX1_copyFrom_156 rfl rfl ?_
  refine go_getI (q := 160) (k := 0) dX1_copyFrom_157 rfl okC1 fl_X1_9 hc.1 (by decide) rfl (by decide) ?_
  refine go_iconst (q := 161) (v := (3 : Int32)) dX1_copyFrom_160 rfl (by decide) ?_
  refine go_imul (q := 162) dX1_copyFrom_161 rfl ?_
  obtain ⟨i19, hi19, ei19, h⟩ := h
  refine go_copy (q := 165) (n := i19) dX1_copyFrom_162 rfl ml_X1_59 ho.2.2.2.2.2.2.2.2.2 hc.2.2.2.2.2.2.2.2.2 hi19 hi19 ei19 (by decide) (fun x18 ex18 => ?_)
  have h := h x18 ex18
  exact go_vret dX1_copyFrom_165 rfl h
set_option maxRecDepth 100000 in
set_option maxHeartbeats 4000000 in
theorem g_X1_isInForce_0 {d : Nat} {x : XX} {Q : Int32 → XX → Prop} {p1 p2 : Int32} (h : (∃ i1 : Nat, i1 < 30 ∧ p1 = nI i1 ∧ ((p2 < (x 20 i1) → Q (0 : Int32) x) ∧
 (¬ p2 < (x 20 i1) → (∃ i2 : Nat, i2 < 30 ∧ p1 = nI i2 ∧ (((x 21 i2) ≤ p2 → Q (0 : Int32) x) ∧
 (¬ (x 21 i2) ≤ p2 → Q (1 : Int32) x))))))) : Go mX1_isInForce d 0 [some (.inr 18), some (.inl p1), some (.inl p2)] [] x Q := by
  refine go_aload_n (q := 1) dX1_isInForce_0 rfl rfl ?_
  refine go_getR (q := 4) (k := 2) (r := 20) dX1_isInForce_1 rfl okC1 fl_X1_19 lay_18 (by decide) rfl ?_
  refine go_iload_n (q := 5) dX1_isInForce_4 rfl rfl ?_
  obtain ⟨i1, hi1, ei1, h⟩ := h
  refine go_iaload (q := 6) (i := i1) dX1_isInForce_5 rfl lay_20 hi1 ei1 ?_
  refine go_iload_n (q := 7) dX1_isInForce_6 rfl rfl ?_
  refine go_icmp_gt (q := 10) (t := 24) dX1_isInForce_7 rfl (by decide) (fun cc => ?_) (fun cc => ?_)
  · have h := h.1 cc
    refine go_iconst (q := 25) (v := (0 : Int32)) dX1_isInForce_24 rfl (by decide) ?_
    exact go_zret dX1_isInForce_25 rfl (Or.inl rfl) h
  · have h := h.2 cc
    refine go_aload_n (q := 11) dX1_isInForce_10 rfl rfl ?_
    refine go_getR (q := 14) (k := 3) (r := 21) dX1_isInForce_11 rfl okC1 fl_X1_22 lay_18 (by decide) rfl ?_
    refine go_iload_n (q := 15) dX1_isInForce_14 rfl rfl ?_
    obtain ⟨i2, hi2, ei2, h⟩ := h
    refine go_iaload (q := 16) (i := i2) dX1_isInForce_15 rfl lay_21 hi2 ei2 ?_
    refine go_iload_n (q := 17) dX1_isInForce_16 rfl rfl ?_
    refine go_icmp_le (q := 20) (t := 24) dX1_isInForce_17 rfl (by decide) (fun cc => ?_) (fun cc => ?_)
    · have h := h.1 cc
      refine go_iconst (q := 25) (v := (0 : Int32)) dX1_isInForce_24 rfl (by decide) ?_
      exact go_zret dX1_isInForce_25 rfl (Or.inl rfl) h
    · have h := h.2 cc
      refine go_iconst (q := 21) (v := (1 : Int32)) dX1_isInForce_20 rfl (by decide) ?_
      refine go_goto (t := 25) dX1_isInForce_21 (by decide) ?_
      exact go_zret dX1_isInForce_25 rfl (Or.inr rfl) h
set_option maxRecDepth 100000 in
set_option maxHeartbeats 4000000 in
theorem g_X1_isInSpan_0 {d : Nat} {x : XX} {Q : Int32 → XX → Prop} {p1 p2 : Int32} (h : (∃ i1 : Nat, i1 < 30 ∧ p1 = nI i1 ∧ ((p2 < (x 22 i1) → Q (0 : Int32) x) ∧
 (¬ p2 < (x 22 i1) → (∃ i2 : Nat, i2 < 30 ∧ p1 = nI i2 ∧ (((x 23 i2) < p2 → Q (0 : Int32) x) ∧
 (¬ (x 23 i2) < p2 → Q (1 : Int32) x))))))) : Go mX1_isInSpan d 0 [some (.inr 18), some (.inl p1), some (.inl p2)] [] x Q := by
  refine go_aload_n (q := 1) dX1_isInSpan_0 rfl rfl ?_
  refine go_getR (q := 4) (k := 4) (r := 22) dX1_isInSpan_1 rfl okC1 fl_X1_25 lay_18 (by decide) rfl ?_
  refine go_iload_n (q := 5) dX1_isInSpan_4 rfl rfl ?_
  obtain ⟨i1, hi1, ei1, h⟩ := h
  refine go_iaload (q := 6) (i := i1) dX1_isInSpan_5 rfl lay_22 hi1 ei1 ?_
  refine go_iload_n (q := 7) dX1_isInSpan_6 rfl rfl ?_
  refine go_icmp_gt (q := 10) (t := 24) dX1_isInSpan_7 rfl (by decide) (fun cc => ?_) (fun cc => ?_)
  · have h := h.1 cc
    refine go_iconst (q := 25) (v := (0 : Int32)) dX1_isInSpan_24 rfl (by decide) ?_
    exact go_zret dX1_isInSpan_25 rfl (Or.inl rfl) h
  · have h := h.2 cc
    refine go_iload_n (q := 11) dX1_isInSpan_10 rfl rfl ?_
    refine go_aload_n (q := 12) dX1_isInSpan_11 rfl rfl ?_
    refine go_getR (q := 15) (k := 5) (r := 23) dX1_isInSpan_12 rfl okC1 fl_X1_28 lay_18 (by decide) rfl ?_
    refine go_iload_n (q := 16) dX1_isInSpan_15 rfl rfl ?_
    obtain ⟨i2, hi2, ei2, h⟩ := h
    refine go_iaload (q := 17) (i := i2) dX1_isInSpan_16 rfl lay_23 hi2 ei2 ?_
    refine go_icmp_gt (q := 20) (t := 24) dX1_isInSpan_17 rfl (by decide) (fun cc => ?_) (fun cc => ?_)
    · have h := h.1 cc
      refine go_iconst (q := 25) (v := (0 : Int32)) dX1_isInSpan_24 rfl (by decide) ?_
      exact go_zret dX1_isInSpan_25 rfl (Or.inl rfl) h
    · have h := h.2 cc
      refine go_iconst (q := 21) (v := (1 : Int32)) dX1_isInSpan_20 rfl (by decide) ?_
      refine go_goto (t := 25) dX1_isInSpan_21 (by decide) ?_
      exact go_zret dX1_isInSpan_25 rfl (Or.inr rfl) h
set_option maxRecDepth 100000 in
set_option maxHeartbeats 4000000 in
theorem g_X1_isExcepted_0 {d : Nat} {x : XX} {Q : Int32 → XX → Prop} {p1 p2 : Int32} (h : Go mX1_isExcepted d 7 [some (.inr 18), some (.inl p1), some (.inl p2), some (.inl (p1 * (3 : Int32))), some (.inl (0 : Int32))] [] x Q) : Go mX1_isExcepted d 0 [some (.inr 18), some (.inl p1), some (.inl p2), none, none] [] x Q := by
  refine go_iload_n (q := 1) dX1_isExcepted_0 rfl rfl ?_
  refine go_iconst (q := 2) (v := (3 : Int32)) dX1_isExcepted_1 rfl (by decide) ?_
  refine go_imul (q := 3) dX1_isExcepted_2 rfl ?_
  refine go_istore_n (q := 4) (L' := [some (.inr 18), some (.inl p1), some (.inl p2), some (.inl (p1 * (3 : Int32))), none]) dX1_isExcepted_3 rfl (by decide) rfl ?_
  refine go_iconst (q := 5) (v := (0 : Int32)) dX1_isExcepted_4 rfl (by decide) ?_
  refine go_istore (q := 7) (L' := [some (.inr 18), some (.inl p1), some (.inl p2), some (.inl (p1 * (3 : Int32))), some (.inl (0 : Int32))]) dX1_isExcepted_5 rfl (by decide) rfl ?_
  exact h
set_option maxRecDepth 100000 in
set_option maxHeartbeats 4000000 in
theorem g_X1_isExcepted_7 {d : Nat} {x : XX} {Q : Int32 → XX → Prop} {v1 v2 v3 v4 : Int32} (h : (∃ i1 : Nat, i1 < 30 ∧ v1 = nI i1 ∧ (((x 25 i1) ≤ v4 → Q (0 : Int32) x) ∧
 (¬ (x 25 i1) ≤ v4 → (∃ i2 : Nat, i2 < 90 ∧ (v3 + v4) = nI i2 ∧ ((v2 < (x 26 i2) → Go mX1_isExcepted d 7 [some (.inr 18), some (.inl v1), some (.inl v2), some (.inl v3), some (.inl (v4 + 1))] [] x Q) ∧
 (¬ v2 < (x 26 i2) → (∃ i3 : Nat, i3 < 90 ∧ (v3 + v4) = nI i3 ∧ (((x 27 i3) < v2 → Go mX1_isExcepted d 7 [some (.inr 18), some (.inl v1), some (.inl v2), some (.inl v3), some (.inl (v4 + 1))] [] x Q) ∧
 (¬ (x 27 i3) < v2 → Q (1 : Int32) x)))))))))) : Go mX1_isExcepted d 7 [some (.inr 18), some (.inl v1), some (.inl v2), some (.inl v3), some (.inl v4)] [] x Q := by
  refine go_iload (q := 9) dX1_isExcepted_7 rfl rfl ?_
  refine go_aload_n (q := 10) dX1_isExcepted_9 rfl rfl ?_
  refine go_getR (q := 13) (k := 7) (r := 25) dX1_isExcepted_10 rfl okC1 fl_X1_34 lay_18 (by decide) rfl ?_
  refine go_iload_n (q := 14) dX1_isExcepted_13 rfl rfl ?_
  obtain ⟨i1, hi1, ei1, h⟩ := h
  refine go_iaload (q := 15) (i := i1) dX1_isExcepted_14 rfl lay_25 hi1 ei1 ?_
  refine go_icmp_ge (q := 18) (t := 52) dX1_isExcepted_15 rfl (by decide) (fun cc => ?_) (fun cc => ?_)
  · have h := h.1 cc
    refine go_iconst (q := 53) (v := (0 : Int32)) dX1_isExcepted_52 rfl (by decide) ?_
    exact go_zret dX1_isExcepted_53 rfl (Or.inl rfl) h
  · have h := h.2 cc
    refine go_aload_n (q := 19) dX1_isExcepted_18 rfl rfl ?_
    refine go_getR (q := 22) (k := 8) (r := 26) dX1_isExcepted_19 rfl okC1 fl_X1_37 lay_18 (by decide) rfl ?_
    refine go_iload_n (q := 23) dX1_isExcepted_22 rfl rfl ?_
    refine go_iload (q := 25) dX1_isExcepted_23 rfl rfl ?_
    refine go_iadd (q := 26) dX1_isExcepted_25 rfl ?_
    obtain ⟨i2, hi2, ei2, h⟩ := h
    refine go_iaload (q := 27) (i := i2) dX1_isExcepted_26 rfl lay_26 hi2 ei2 ?_
    refine go_iload_n (q := 28) dX1_isExcepted_27 rfl rfl ?_
    refine go_icmp_gt (q := 31) (t := 46) dX1_isExcepted_28 rfl (by decide) (fun cc => ?_) (fun cc => ?_)
    · have h := h.1 cc
      refine go_iinc (q := 49) (v := (v4 + 1)) (L' := [some (.inr 18), some (.inl v1), some (.inl v2), some (.inl v3), some (.inl (v4 + 1))]) dX1_isExcepted_46 rfl (by decide) rfl rfl rfl ?_
      refine go_goto (t := 7) dX1_isExcepted_49 (by decide) ?_
      exact h
    · have h := h.2 cc
      refine go_iload_n (q := 32) dX1_isExcepted_31 rfl rfl ?_
      refine go_aload_n (q := 33) dX1_isExcepted_32 rfl rfl ?_
      refine go_getR (q := 36) (k := 9) (r := 27) dX1_isExcepted_33 rfl okC1 fl_X1_40 lay_18 (by decide) rfl ?_
      refine go_iload_n (q := 37) dX1_isExcepted_36 rfl rfl ?_
      refine go_iload (q := 39) dX1_isExcepted_37 rfl rfl ?_
      refine go_iadd (q := 40) dX1_isExcepted_39 rfl ?_
      obtain ⟨i3, hi3, ei3, h⟩ := h
      refine go_iaload (q := 41) (i := i3) dX1_isExcepted_40 rfl lay_27 hi3 ei3 ?_
      refine go_icmp_gt (q := 44) (t := 46) dX1_isExcepted_41 rfl (by decide) (fun cc => ?_) (fun cc => ?_)
      · have h := h.1 cc
        refine go_iinc (q := 49) (v := (v4 + 1)) (L' := [some (.inr 18), some (.inl v1), some (.inl v2), some (.inl v3), some (.inl (v4 + 1))]) dX1_isExcepted_46 rfl (by decide) rfl rfl rfl ?_
        refine go_goto (t := 7) dX1_isExcepted_49 (by decide) ?_
        exact h
      · have h := h.2 cc
        refine go_iconst (q := 45) (v := (1 : Int32)) dX1_isExcepted_44 rfl (by decide) ?_
        exact go_zret dX1_isExcepted_45 rfl (Or.inr rfl) h
set_option maxRecDepth 100000 in
set_option maxHeartbeats 4000000 in
theorem g_X1_speaksAtAll_0 {d : Nat} {x : XX} {Q : Int32 → XX → Prop} {p1 : Int32} (h : (∃ i1 : Nat, i1 < 30 ∧ p1 = nI i1 ∧ (((x 24 i1) = 0 → Q (0 : Int32) x) ∧
 (¬ (x 24 i1) = 0 → Q (1 : Int32) x)))) : Go mX1_speaksAtAll d 0 [some (.inr 18), some (.inl p1)] [] x Q := by
  refine go_aload_n (q := 1) dX1_speaksAtAll_0 rfl rfl ?_
  refine go_getR (q := 4) (k := 6) (r := 24) dX1_speaksAtAll_1 rfl okC1 fl_X1_31 lay_18 (by decide) rfl ?_
  refine go_iload_n (q := 5) dX1_speaksAtAll_4 rfl rfl ?_
  obtain ⟨i1, hi1, ei1, h⟩ := h
  refine go_iaload (q := 6) (i := i1) dX1_speaksAtAll_5 rfl lay_24 hi1 ei1 ?_
  refine go_if_eq (q := 9) (t := 13) dX1_speaksAtAll_6 rfl (by decide) (fun cc => ?_) (fun cc => ?_)
  · have h := h.1 cc
    refine go_iconst (q := 14) (v := (0 : Int32)) dX1_speaksAtAll_13 rfl (by decide) ?_
    exact go_zret dX1_speaksAtAll_14 rfl (Or.inl rfl) h
  · have h := h.2 cc
    refine go_iconst (q := 10) (v := (1 : Int32)) dX1_speaksAtAll_9 rfl (by decide) ?_
    refine go_goto (t := 14) dX1_speaksAtAll_10 (by decide) ?_
    exact go_zret dX1_speaksAtAll_14 rfl (Or.inr rfl) h
set_option maxRecDepth 100000 in
set_option maxHeartbeats 4000000 in
theorem g_X1_hasReversedSpan_0 {d : Nat} {x : XX} {Q : Int32 → XX → Prop} (h : Go mX1_hasReversedSpan d 2 [some (.inr 4), some (.inl (0 : Int32)), none, none] [] x Q) : Go mX1_hasReversedSpan d 0 [some (.inr 4), none, none, none] [] x Q := by
  refine go_iconst (q := 1) (v := (0 : Int32)) dX1_hasReversedSpan_0 rfl (by decide) ?_
  refine go_istore_n (q := 2) (L' := [some (.inr 4), some (.inl (0 : Int32)), none, none]) dX1_hasReversedSpan_1 rfl (by decide) rfl ?_
  exact h
set_option maxRecDepth 100000 in
set_option maxHeartbeats 4000000 in
theorem g_X1_hasReversedSpan_2 {d : Nat} {x : XX} {Q : Int32 → XX → Prop} {v1 : Int32} (h : (((x 4 0) ≤ v1 → Q (0 : Int32) x) ∧
 (¬ (x 4 0) ≤ v1 → (∃ i1 : Nat, i1 < 30 ∧ v1 = nI i1 ∧ (∃ i2 : Nat, i2 < 30 ∧ v1 = nI i2 ∧ (((x 8 i2) ≤ (x 9 i1) → Go mX1_hasReversedSpan d 33 [some (.inr 4), some (.inl v1), some (.inl (v1 * (3 : Int32))), some (.inl (0 : Int32))] [] x Q) ∧
 (¬ (x 8 i2) ≤ (x 9 i1) → Q (1 : Int32) x))))))) : Go mX1_hasReversedSpan d 2 [some (.inr 4), some (.inl v1), none, none] [] x Q := by
  refine go_iload_n (q := 3) dX1_hasReversedSpan_2 rfl rfl ?_
  refine go_aload_n (q := 4) dX1_hasReversedSpan_3 rfl rfl ?_
  refine go_getI (q := 7) (k := 0) dX1_hasReversedSpan_4 rfl okC1 fl_X1_9 lay_4 (by decide) rfl (by decide) ?_
  refine go_icmp_ge (q := 10) (t := 76) dX1_hasReversedSpan_7 rfl (by decide) (fun cc => ?_) (fun cc => ?_)
  · have h := h.1 cc
    refine go_iconst (q := 77) (v := (0 : Int32)) dX1_hasReversedSpan_76 rfl (by decide) ?_
    exact go_zret dX1_hasReversedSpan_77 rfl (Or.inl rfl) h
  · have h := h.2 cc
    refine go_aload_n (q := 11) dX1_hasReversedSpan_10 rfl rfl ?_
    refine go_getR (q := 14) (k := 5) (r := 9) dX1_hasReversedSpan_11 rfl okC1 fl_X1_28 lay_4 (by decide) rfl ?_
    refine go_iload_n (q := 15) dX1_hasReversedSpan_14 rfl rfl ?_
    obtain ⟨i1, hi1, ei1, h⟩ := h
    refine go_iaload (q := 16) (i := i1) dX1_hasReversedSpan_15 rfl lay_9 hi1 ei1 ?_
    refine go_aload_n (q := 17) dX1_hasReversedSpan_16 rfl rfl ?_
    refine go_getR (q := 20) (k := 4) (r := 8) dX1_hasReversedSpan_17 rfl okC1 fl_X1_25 lay_4 (by decide) rfl ?_
    refine go_iload_n (q := 21) dX1_hasReversedSpan_20 rfl rfl ?_
    obtain ⟨i2, hi2, ei2, h⟩ := h
    refine go_iaload (q := 22) (i := i2) dX1_hasReversedSpan_21 rfl lay_8 hi2 ei2 ?_
    refine go_icmp_ge (q := 25) (t := 27) dX1_hasReversedSpan_22 rfl (by decide) (fun cc => ?_) (fun cc => ?_)
    · have h := h.1 cc
      refine go_iload_n (q := 28) dX1_hasReversedSpan_27 rfl rfl ?_
      refine go_iconst (q := 29) (v := (3 : Int32)) dX1_hasReversedSpan_28 rfl (by decide) ?_
      refine go_imul (q := 30) dX1_hasReversedSpan_29 rfl ?_
      refine go_istore_n (q := 31) (L' := [some (.inr 4), some (.inl v1), some (.inl (v1 * (3 : Int32))), none]) dX1_hasReversedSpan_30 rfl (by decide) rfl ?_
      refine go_iconst (q := 32) (v := (0 : Int32)) dX1_hasReversedSpan_31 rfl (by decide) ?_
      refine go_istore_n (q := 33) (L' := [some (.inr 4), some (.inl v1), some (.inl (v1 * (3 : Int32))), some (.inl (0 : Int32))]) dX1_hasReversedSpan_32 rfl (by decide) rfl ?_
      exact h
    · have h := h.2 cc
      refine go_iconst (q := 26) (v := (1 : Int32)) dX1_hasReversedSpan_25 rfl (by decide) ?_
      exact go_zret dX1_hasReversedSpan_26 rfl (Or.inr rfl) h
set_option maxRecDepth 100000 in
set_option maxHeartbeats 4000000 in
theorem g_X1_hasReversedSpan_33 {d : Nat} {x : XX} {Q : Int32 → XX → Prop} {v1 v2 v3 : Int32} (h : (∃ i1 : Nat, i1 < 30 ∧ v1 = nI i1 ∧ (((x 11 i1) ≤ v3 → Go mX1_hasReversedSpan d 2 [some (.inr 4), some (.inl (v1 + 1)), none, none] [] x Q) ∧
 (¬ (x 11 i1) ≤ v3 → (∃ i2 : Nat, i2 < 90 ∧ (v2 + v3) = nI i2 ∧ (∃ i3 : Nat, i3 < 90 ∧ (v2 + v3) = nI i3 ∧ (((x 12 i3) ≤ (x 13 i2) → Go mX1_hasReversedSpan d 33 [some (.inr 4), some (.inl v1), some (.inl v2), some (.inl (v3 + 1))] [] x Q) ∧
 (¬ (x 12 i3) ≤ (x 13 i2) → Q (1 : Int32) x)))))))) : Go mX1_hasReversedSpan d 33 [some (.inr 4), some (.inl v1), some (.inl v2), some (.inl v3)] [] x Q := by
  refine go_iload_n (q := 34) dX1_hasReversedSpan_33 rfl rfl ?_
  refine go_aload_n (q := 35) dX1_hasReversedSpan_34 rfl rfl ?_
  refine go_getR (q := 38) (k := 7) (r := 11) dX1_hasReversedSpan_35 rfl okC1 fl_X1_34 lay_4 (by decide) rfl ?_
  refine go_iload_n (q := 39) dX1_hasReversedSpan_38 rfl rfl ?_
  obtain ⟨i1, hi1, ei1, h⟩ := h
  refine go_iaload (q := 40) (i := i1) dX1_hasReversedSpan_39 rfl lay_11 hi1 ei1 ?_
  refine go_icmp_ge (q := 43) (t := 70) dX1_hasReversedSpan_40 rfl (by decide) (fun cc => ?_) (fun cc => ?_)
  · have h := h.1 cc
    refine go_iinc (q := 73) (v := (v1 + 1)) (L' := [some (.inr 4), some (.inl (v1 + 1)), some (.inl v2), some (.inl v3)]) dX1_hasReversedSpan_70 rfl (by decide) rfl rfl rfl ?_
    refine go_goto (t := 2) dX1_hasReversedSpan_73 (by decide) ?_
    refine go_forget 2 (L' := [some (.inr 4), some (.inl (v1 + 1)), none, some (.inl v3)]) rfl ?_
    refine go_forget 3 (L' := [some (.inr 4), some (.inl (v1 + 1)), none, none]) rfl ?_
    exact h
  · have h := h.2 cc
    refine go_aload_n (q := 44) dX1_hasReversedSpan_43 rfl rfl ?_
    refine go_getR (q := 47) (k := 9) (r := 13) dX1_hasReversedSpan_44 rfl okC1 fl_X1_40 lay_4 (by decide) rfl ?_
    refine go_iload_n (q := 48) dX1_hasReversedSpan_47 rfl rfl ?_
    refine go_iload_n (q := 49) dX1_hasReversedSpan_48 rfl rfl ?_
    refine go_iadd (q := 50) dX1_hasReversedSpan_49 rfl ?_
    obtain ⟨i2, hi2, ei2, h⟩ := h
    refine go_iaload (q := 51) (i := i2) dX1_hasReversedSpan_50 rfl lay_13 hi2 ei2 ?_
    refine go_aload_n (q := 52) dX1_hasReversedSpan_51 rfl rfl ?_
    refine go_getR (q := 55) (k := 8) (r := 12) dX1_hasReversedSpan_52 rfl okC1 fl_X1_37 lay_4 (by decide) rfl ?_
    refine go_iload_n (q := 56) dX1_hasReversedSpan_55 rfl rfl ?_
    refine go_iload_n (q := 57) dX1_hasReversedSpan_56 rfl rfl ?_
    refine go_iadd (q := 58) dX1_hasReversedSpan_57 rfl ?_
    obtain ⟨i3, hi3, ei3, h⟩ := h
    refine go_iaload (q := 59) (i := i3) dX1_hasReversedSpan_58 rfl lay_12 hi3 ei3 ?_
    refine go_icmp_ge (q := 62) (t := 64) dX1_hasReversedSpan_59 rfl (by decide) (fun cc => ?_) (fun cc => ?_)
    · have h := h.1 cc
      refine go_iinc (q := 67) (v := (v3 + 1)) (L' := [some (.inr 4), some (.inl v1), some (.inl v2), some (.inl (v3 + 1))]) dX1_hasReversedSpan_64 rfl (by decide) rfl rfl rfl ?_
      refine go_goto (t := 33) dX1_hasReversedSpan_67 (by decide) ?_
      exact h
    · have h := h.2 cc
      refine go_iconst (q := 63) (v := (1 : Int32)) dX1_hasReversedSpan_62 rfl (by decide) ?_
      exact go_zret dX1_hasReversedSpan_63 rfl (Or.inr rfl) h
set_option maxRecDepth 100000 in
set_option maxHeartbeats 4000000 in
theorem g_X1_nextTurn_0 {d : Nat} {x : XX} {Q : Int32 → XX → Prop} {p1 : Int32} (h : Go mX1_nextTurn (d + 1) 6 [some (.inr 18), some (.inl p1), some (.inl (1000 : Int32)), some (.inl (0 : Int32))] [] x Q) : Go mX1_nextTurn (d + 1) 0 [some (.inr 18), some (.inl p1), none, none] [] x Q := by
  refine go_sipush (q := 3) (v := (1000 : Int32)) dX1_nextTurn_0 rfl (by decide) ?_
  refine go_istore_n (q := 4) (L' := [some (.inr 18), some (.inl p1), some (.inl (1000 : Int32)), none]) dX1_nextTurn_3 rfl (by decide) rfl ?_
  refine go_iconst (q := 5) (v := (0 : Int32)) dX1_nextTurn_4 rfl (by decide) ?_
  refine go_istore_n (q := 6) (L' := [some (.inr 18), some (.inl p1), some (.inl (1000 : Int32)), some (.inl (0 : Int32))]) dX1_nextTurn_5 rfl (by decide) rfl ?_
  exact h
set_option maxRecDepth 100000 in
set_option maxHeartbeats 4000000 in
theorem g_X1_nextTurn_6 {d : Nat} {x : XX} {Q : Int32 → XX → Prop} {v1 v2 v3 : Int32} (h : (((x 18 0) ≤ v3 → Q v2 x) ∧
 (¬ (x 18 0) ≤ v3 → (∃ i1 : Nat, i1 < 30 ∧ v3 = nI i1 ∧ (((x 20 i1) ≤ v1 → (∃ i2 : Nat, i2 < 30 ∧ v3 = nI i2 ∧ (((x 21 i2) ≤ v1 → Go mX1_nextTurn (d + 1) 6 [some (.inr 18), some (.inl v1), some (.inl v2), some (.inl (v3 + 1))] [] x Q) ∧
 (¬ (x 21 i2) ≤ v1 → (∃ i3 : Nat, i3 < 30 ∧ v3 = nI i3 ∧ Go mX1_nextTurn (d + 1) 6 [some (.inr 18), some (.inl v1), some (.inl (if (x 21 i3) < v2 then (x 21 i3) else v2)), some (.inl (v3 + 1))] [] x Q))))) ∧
 (¬ (x 20 i1) ≤ v1 → (∃ i4 : Nat, i4 < 30 ∧ v3 = nI i4 ∧ (∃ i5 : Nat, i5 < 30 ∧ v3 = nI i5 ∧ (((x 21 i5) ≤ v1 → Go mX1_nextTurn (d + 1) 6 [some (.inr 18), some (.inl v1), some (.inl (if (x 20 i4) < v2 then (x 20 i4) else v2)), some (.inl (v3 + 1))] [] x Q) ∧
 (¬ (x 21 i5) ≤ v1 → (∃ i6 : Nat, i6 < 30 ∧ v3 = nI i6 ∧ Go mX1_nextTurn (d + 1) 6 [some (.inr 18), some (.inl v1), some (.inl (if (x 21 i6) < (if (x 20 i4) < v2 then (x 20 i4) else v2) then (x 21 i6) else (if (x 20 i4) < v2 then (x 20 i4) else v2))), some (.inl (v3 + 1))] [] x Q))))))))))) : Go mX1_nextTurn (d + 1) 6 [some (.inr 18), some (.inl v1), some (.inl v2), some (.inl v3)] [] x Q := by
  refine go_iload_n (q := 7) dX1_nextTurn_6 rfl rfl ?_
  refine go_aload_n (q := 8) dX1_nextTurn_7 rfl rfl ?_
  refine go_getI (q := 11) (k := 0) dX1_nextTurn_8 rfl okC1 fl_X1_9 lay_18 (by decide) rfl (by decide) ?_
  refine go_icmp_ge (q := 14) (t := 62) dX1_nextTurn_11 rfl (by decide) (fun cc => ?_) (fun cc => ?_)
  · have h := h.1 cc
    refine go_iload_n (q := 63) dX1_nextTurn_62 rfl rfl ?_
    exact go_iret dX1_nextTurn_63 rfl h
  · have h := h.2 cc
    refine go_aload_n (q := 15) dX1_nextTurn_14 rfl rfl ?_
    refine go_getR (q := 18) (k := 2) (r := 20) dX1_nextTurn_15 rfl okC1 fl_X1_19 lay_18 (by decide) rfl ?_
    refine go_iload_n (q := 19) dX1_nextTurn_18 rfl rfl ?_
    obtain ⟨i1, hi1, ei1, h⟩ := h
    refine go_iaload (q := 20) (i := i1) dX1_nextTurn_19 rfl lay_20 hi1 ei1 ?_
    refine go_iload_n (q := 21) dX1_nextTurn_20 rfl rfl ?_
    refine go_icmp_le (q := 24) (t := 35) dX1_nextTurn_21 rfl (by decide) (fun cc => ?_) (fun cc => ?_)
    · have h := h.1 cc
      refine go_aload_n (q := 36) dX1_nextTurn_35 rfl rfl ?_
      refine go_getR (q := 39) (k := 3) (r := 21) dX1_nextTurn_36 rfl okC1 fl_X1_22 lay_18 (by decide) rfl ?_
      refine go_iload_n (q := 40) dX1_nextTurn_39 rfl rfl ?_
      obtain ⟨i2, hi2, ei2, h⟩ := h
      refine go_iaload (q := 41) (i := i2) dX1_nextTurn_40 rfl lay_21 hi2 ei2 ?_
      refine go_iload_n (q := 42) dX1_nextTurn_41 rfl rfl ?_
      refine go_icmp_le (q := 45) (t := 56) dX1_nextTurn_42 rfl (by decide) (fun cc => ?_) (fun cc => ?_)
      · have h := h.1 cc
        refine go_iinc (q := 59) (v := (v3 + 1)) (L' := [some (.inr 18), some (.inl v1), some (.inl v2), some (.inl (v3 + 1))]) dX1_nextTurn_56 rfl (by decide) rfl rfl rfl ?_
        refine go_goto (t := 6) dX1_nextTurn_59 (by decide) ?_
        exact h
      · have h := h.2 cc
        refine go_iload_n (q := 46) dX1_nextTurn_45 rfl rfl ?_
        refine go_aload_n (q := 47) dX1_nextTurn_46 rfl rfl ?_
        refine go_getR (q := 50) (k := 3) (r := 21) dX1_nextTurn_47 rfl okC1 fl_X1_22 lay_18 (by decide) rfl ?_
        refine go_iload_n (q := 51) dX1_nextTurn_50 rfl rfl ?_
        obtain ⟨i3, hi3, ei3, h⟩ := h
        refine go_iaload (q := 52) (i := i3) dX1_nextTurn_51 rfl lay_21 hi3 ei3 ?_
        refine go_min (q := 55) dX1_nextTurn_52 rfl ml_X1_65 (by decide) ?_
        refine go_istore_n (q := 56) (L' := [some (.inr 18), some (.inl v1), some (.inl (if (x 21 i3) < v2 then (x 21 i3) else v2)), some (.inl v3)]) dX1_nextTurn_55 rfl (by decide) rfl ?_
        refine go_iinc (q := 59) (v := (v3 + 1)) (L' := [some (.inr 18), some (.inl v1), some (.inl (if (x 21 i3) < v2 then (x 21 i3) else v2)), some (.inl (v3 + 1))]) dX1_nextTurn_56 rfl (by decide) rfl rfl rfl ?_
        refine go_goto (t := 6) dX1_nextTurn_59 (by decide) ?_
        exact h
    · have h := h.2 cc
      refine go_iload_n (q := 25) dX1_nextTurn_24 rfl rfl ?_
      refine go_aload_n (q := 26) dX1_nextTurn_25 rfl rfl ?_
      refine go_getR (q := 29) (k := 2) (r := 20) dX1_nextTurn_26 rfl okC1 fl_X1_19 lay_18 (by decide) rfl ?_
      refine go_iload_n (q := 30) dX1_nextTurn_29 rfl rfl ?_
      obtain ⟨i4, hi4, ei4, h⟩ := h
      refine go_iaload (q := 31) (i := i4) dX1_nextTurn_30 rfl lay_20 hi4 ei4 ?_
      refine go_min (q := 34) dX1_nextTurn_31 rfl ml_X1_65 (by decide) ?_
      refine go_istore_n (q := 35) (L' := [some (.inr 18), some (.inl v1), some (.inl (if (x 20 i4) < v2 then (x 20 i4) else v2)), some (.inl v3)]) dX1_nextTurn_34 rfl (by decide) rfl ?_
      refine go_aload_n (q := 36) dX1_nextTurn_35 rfl rfl ?_
      refine go_getR (q := 39) (k := 3) (r := 21) dX1_nextTurn_36 rfl okC1 fl_X1_22 lay_18 (by decide) rfl ?_
      refine go_iload_n (q := 40) dX1_nextTurn_39 rfl rfl ?_
      obtain ⟨i5, hi5, ei5, h⟩ := h
      refine go_iaload (q := 41) (i := i5) dX1_nextTurn_40 rfl lay_21 hi5 ei5 ?_
      refine go_iload_n (q := 42) dX1_nextTurn_41 rfl rfl ?_
      refine go_icmp_le (q := 45) (t := 56) dX1_nextTurn_42 rfl (by decide) (fun cc => ?_) (fun cc => ?_)
      · have h := h.1 cc
        refine go_iinc (q := 59) (v := (v3 + 1)) (L' := [some (.inr 18), some (.inl v1), some (.inl (if (x 20 i4) < v2 then (x 20 i4) else v2)), some (.inl (v3 + 1))]) dX1_nextTurn_56 rfl (by decide) rfl rfl rfl ?_
        refine go_goto (t := 6) dX1_nextTurn_59 (by decide) ?_
        exact h
      · have h := h.2 cc
        refine go_iload_n (q := 46) dX1_nextTurn_45 rfl rfl ?_
        refine go_aload_n (q := 47) dX1_nextTurn_46 rfl rfl ?_
        refine go_getR (q := 50) (k := 3) (r := 21) dX1_nextTurn_47 rfl okC1 fl_X1_22 lay_18 (by decide) rfl ?_
        refine go_iload_n (q := 51) dX1_nextTurn_50 rfl rfl ?_
        obtain ⟨i6, hi6, ei6, h⟩ := h
        refine go_iaload (q := 52) (i := i6) dX1_nextTurn_51 rfl lay_21 hi6 ei6 ?_
        refine go_min (q := 55) dX1_nextTurn_52 rfl ml_X1_65 (by decide) ?_
        refine go_istore_n (q := 56) (L' := [some (.inr 18), some (.inl v1), some (.inl (if (x 21 i6) < (if (x 20 i4) < v2 then (x 20 i4) else v2) then (x 21 i6) else (if (x 20 i4) < v2 then (x 20 i4) else v2))), some (.inl v3)]) dX1_nextTurn_55 rfl (by decide) rfl ?_
        refine go_iinc (q := 59) (v := (v3 + 1)) (L' := [some (.inr 18), some (.inl v1), some (.inl (if (x 21 i6) < (if (x 20 i4) < v2 then (x 20 i4) else v2) then (x 21 i6) else (if (x 20 i4) < v2 then (x 20 i4) else v2))), some (.inl (v3 + 1))]) dX1_nextTurn_56 rfl (by decide) rfl rfl rfl ?_
        refine go_goto (t := 6) dX1_nextTurn_59 (by decide) ?_
        exact h
set_option maxRecDepth 100000 in
set_option maxHeartbeats 4000000 in
theorem g_X1_countOfChapter_0 {d : Nat} {x : XX} {Q : Int32 → XX → Prop} {p1 : Int32} (h : Go mX1_countOfChapter d 4 [some (.inr 18), some (.inl p1), some (.inl (0 : Int32)), some (.inl (0 : Int32))] [] x Q) : Go mX1_countOfChapter d 0 [some (.inr 18), some (.inl p1), none, none] [] x Q := by
  refine go_iconst (q := 1) (v := (0 : Int32)) dX1_countOfChapter_0 rfl (by decide) ?_
  refine go_istore_n (q := 2) (L' := [some (.inr 18), some (.inl p1), some (.inl (0 : Int32)), none]) dX1_countOfChapter_1 rfl (by decide) rfl ?_
  refine go_iconst (q := 3) (v := (0 : Int32)) dX1_countOfChapter_2 rfl (by decide) ?_
  refine go_istore_n (q := 4) (L' := [some (.inr 18), some (.inl p1), some (.inl (0 : Int32)), some (.inl (0 : Int32))]) dX1_countOfChapter_3 rfl (by decide) rfl ?_
  exact h
set_option maxRecDepth 100000 in
set_option maxHeartbeats 4000000 in
theorem g_X1_countOfChapter_4 {d : Nat} {x : XX} {Q : Int32 → XX → Prop} {v1 v2 v3 : Int32} (h : (((x 18 0) ≤ v3 → Q v2 x) ∧
 (¬ (x 18 0) ≤ v3 → (∃ i1 : Nat, i1 < 30 ∧ v3 = nI i1 ∧ ((¬ (x 19 i1) = v1 → Go mX1_countOfChapter d 4 [some (.inr 18), some (.inl v1), some (.inl v2), some (.inl (v3 + 1))] [] x Q) ∧
 ((x 19 i1) = v1 → Go mX1_countOfChapter d 4 [some (.inr 18), some (.inl v1), some (.inl (v2 + 1)), some (.inl (v3 + 1))] [] x Q)))))) : Go mX1_countOfChapter d 4 [some (.inr 18), some (.inl v1), some (.inl v2), some (.inl v3)] [] x Q := by
  refine go_iload_n (q := 5) dX1_countOfChapter_4 rfl rfl ?_
  refine go_aload_n (q := 6) dX1_countOfChapter_5 rfl rfl ?_
  refine go_getI (q := 9) (k := 0) dX1_countOfChapter_6 rfl okC1 fl_X1_9 lay_18 (by decide) rfl (by decide) ?_
  refine go_icmp_ge (q := 12) (t := 31) dX1_countOfChapter_9 rfl (by decide) (fun cc => ?_) (fun cc => ?_)
  · have h := h.1 cc
    refine go_iload_n (q := 32) dX1_countOfChapter_31 rfl rfl ?_
    exact go_iret dX1_countOfChapter_32 rfl h
  · have h := h.2 cc
    refine go_aload_n (q := 13) dX1_countOfChapter_12 rfl rfl ?_
    refine go_getR (q := 16) (k := 1) (r := 19) dX1_countOfChapter_13 rfl okC1 fl_X1_15 lay_18 (by decide) rfl ?_
    refine go_iload_n (q := 17) dX1_countOfChapter_16 rfl rfl ?_
    obtain ⟨i1, hi1, ei1, h⟩ := h
    refine go_iaload (q := 18) (i := i1) dX1_countOfChapter_17 rfl lay_19 hi1 ei1 ?_
    refine go_iload_n (q := 19) dX1_countOfChapter_18 rfl rfl ?_
    refine go_icmp_ne (q := 22) (t := 25) dX1_countOfChapter_19 rfl (by decide) (fun cc => ?_) (fun cc => ?_)
    · have h := h.1 cc
      refine go_iinc (q := 28) (v := (v3 + 1)) (L' := [some (.inr 18), some (.inl v1), some (.inl v2), some (.inl (v3 + 1))]) dX1_countOfChapter_25 rfl (by decide) rfl rfl rfl ?_
      refine go_goto (t := 4) dX1_countOfChapter_28 (by decide) ?_
      exact h
    · have h := h.2 cc
      refine go_iinc (q := 25) (v := (v2 + 1)) (L' := [some (.inr 18), some (.inl v1), some (.inl (v2 + 1)), some (.inl v3)]) dX1_countOfChapter_22 rfl (by decide) rfl rfl rfl ?_
      refine go_iinc (q := 28) (v := (v3 + 1)) (L' := [some (.inr 18), some (.inl v1), some (.inl (v2 + 1)), some (.inl (v3 + 1))]) dX1_countOfChapter_25 rfl (by decide) rfl rfl rfl ?_
      refine go_goto (t := 4) dX1_countOfChapter_28 (by decide) ?_
      exact h
set_option maxRecDepth 100000 in
set_option maxHeartbeats 4000000 in
theorem g_X1_countInForceOfChapter_0 {d : Nat} {x : XX} {Q : Int32 → XX → Prop} {p1 p2 : Int32} (h : Go mX1_countInForceOfChapter (d + 1) 5 [some (.inr 18), some (.inl p1), some (.inl p2), some (.inl (0 : Int32)), some (.inl (0 : Int32))] [] x Q) : Go mX1_countInForceOfChapter (d + 1) 0 [some (.inr 18), some (.inl p1), some (.inl p2), none, none] [] x Q := by
  refine go_iconst (q := 1) (v := (0 : Int32)) dX1_countInForceOfChapter_0 rfl (by decide) ?_
  refine go_istore_n (q := 2) (L' := [some (.inr 18), some (.inl p1), some (.inl p2), some (.inl (0 : Int32)), none]) dX1_countInForceOfChapter_1 rfl (by decide) rfl ?_
  refine go_iconst (q := 3) (v := (0 : Int32)) dX1_countInForceOfChapter_2 rfl (by decide) ?_
  refine go_istore (q := 5) (L' := [some (.inr 18), some (.inl p1), some (.inl p2), some (.inl (0 : Int32)), some (.inl (0 : Int32))]) dX1_countInForceOfChapter_3 rfl (by decide) rfl ?_
  exact h
set_option maxRecDepth 100000 in
set_option maxHeartbeats 4000000 in
theorem g_X1_countInForceOfChapter_5 {d : Nat} {x : XX} {Q : Int32 → XX → Prop} {v1 v2 v3 v4 : Int32} (h : (((x 18 0) ≤ v4 → Q v3 x) ∧
 (¬ (x 18 0) ≤ v4 → (∃ i1 : Nat, i1 < 30 ∧ v4 = nI i1 ∧ ((¬ (x 19 i1) = v1 → Go mX1_countInForceOfChapter (d + 1) 5 [some (.inr 18), some (.inl v1), some (.inl v2), some (.inl v3), some (.inl (v4 + 1))] [] x Q) ∧
 ((x 19 i1) = v1 → Call mX1_isInForce d [.inr 18, .inl v4, .inl v2] x (fun r3 x2 => ((r3 = 0 → Go mX1_countInForceOfChapter (d + 1) 5 [some (.inr 18), some (.inl v1), some (.inl v2), some (.inl v3), some (.inl (v4 + 1))] [] x2 Q) ∧
 (¬ r3 = 0 → Go mX1_countInForceOfChapter (d + 1) 5 [some (.inr 18), some (.inl v1), some (.inl v2), some (.inl (v3 + 1)), some (.inl (v4 + 1))] [] x2 Q))))))))) : Go mX1_countInForceOfChapter (d + 1) 5 [some (.inr 18), some (.inl v1), some (.inl v2), some (.inl v3), some (.inl v4)] [] x Q := by
  refine go_iload (q := 7) dX1_countInForceOfChapter_5 rfl rfl ?_
  refine go_aload_n (q := 8) dX1_countInForceOfChapter_7 rfl rfl ?_
  refine go_getI (q := 11) (k := 0) dX1_countInForceOfChapter_8 rfl okC1 fl_X1_9 lay_18 (by decide) rfl (by decide) ?_
  refine go_icmp_ge (q := 14) (t := 44) dX1_countInForceOfChapter_11 rfl (by decide) (fun cc => ?_) (fun cc => ?_)
  · have h := h.1 cc
    refine go_iload_n (q := 45) dX1_countInForceOfChapter_44 rfl rfl ?_
    exact go_iret dX1_countInForceOfChapter_45 rfl h
  · have h := h.2 cc
    refine go_aload_n (q := 15) dX1_countInForceOfChapter_14 rfl rfl ?_
    refine go_getR (q := 18) (k := 1) (r := 19) dX1_countInForceOfChapter_15 rfl okC1 fl_X1_15 lay_18 (by decide) rfl ?_
    refine go_iload (q := 20) dX1_countInForceOfChapter_18 rfl rfl ?_
    obtain ⟨i1, hi1, ei1, h⟩ := h
    refine go_iaload (q := 21) (i := i1) dX1_countInForceOfChapter_20 rfl lay_19 hi1 ei1 ?_
    refine go_iload_n (q := 22) dX1_countInForceOfChapter_21 rfl rfl ?_
    refine go_icmp_ne (q := 25) (t := 38) dX1_countInForceOfChapter_22 rfl (by decide) (fun cc => ?_) (fun cc => ?_)
    · have h := h.1 cc
      refine go_iinc (q := 41) (v := (v4 + 1)) (L' := [some (.inr 18), some (.inl v1), some (.inl v2), some (.inl v3), some (.inl (v4 + 1))]) dX1_countInForceOfChapter_38 rfl (by decide) rfl rfl rfl ?_
      refine go_goto (t := 5) dX1_countInForceOfChapter_41 (by decide) ?_
      exact h
    · have h := h.2 cc
      refine go_aload_n (q := 26) dX1_countInForceOfChapter_25 rfl rfl ?_
      refine go_iload (q := 28) dX1_countInForceOfChapter_26 rfl rfl ?_
      refine go_iload_n (q := 29) dX1_countInForceOfChapter_28 rfl rfl ?_
      refine go_callV (M' := mX1_isInForce) (q := 32) (as := [.inl v4, .inl v2]) (rest := []) dX1_countInForceOfChapter_29 rfl ml_X1_71 ok_X1_isInForce lay_18 rfl rfl rfl rfl (by decide) rfl ?_
      refine call_mono h (fun r3 x2 h => ?_)
      refine go_if_eq (q := 35) (t := 38) dX1_countInForceOfChapter_32 rfl (by decide) (fun cc => ?_) (fun cc => ?_)
      · have h := h.1 cc
        refine go_iinc (q := 41) (v := (v4 + 1)) (L' := [some (.inr 18), some (.inl v1), some (.inl v2), some (.inl v3), some (.inl (v4 + 1))]) dX1_countInForceOfChapter_38 rfl (by decide) rfl rfl rfl ?_
        refine go_goto (t := 5) dX1_countInForceOfChapter_41 (by decide) ?_
        exact h
      · have h := h.2 cc
        refine go_iinc (q := 38) (v := (v3 + 1)) (L' := [some (.inr 18), some (.inl v1), some (.inl v2), some (.inl (v3 + 1)), some (.inl v4)]) dX1_countInForceOfChapter_35 rfl (by decide) rfl rfl rfl ?_
        refine go_iinc (q := 41) (v := (v4 + 1)) (L' := [some (.inr 18), some (.inl v1), some (.inl v2), some (.inl (v3 + 1)), some (.inl (v4 + 1))]) dX1_countInForceOfChapter_38 rfl (by decide) rfl rfl rfl ?_
        refine go_goto (t := 5) dX1_countInForceOfChapter_41 (by decide) ?_
        exact h
set_option maxRecDepth 100000 in
set_option maxHeartbeats 4000000 in
theorem g_X1_countInForce_0 {d : Nat} {x : XX} {Q : Int32 → XX → Prop} {p1 : Int32} (h : Go mX1_countInForce (d + 1) 4 [some (.inr 18), some (.inl p1), some (.inl (0 : Int32)), some (.inl (0 : Int32))] [] x Q) : Go mX1_countInForce (d + 1) 0 [some (.inr 18), some (.inl p1), none, none] [] x Q := by
  refine go_iconst (q := 1) (v := (0 : Int32)) dX1_countInForce_0 rfl (by decide) ?_
  refine go_istore_n (q := 2) (L' := [some (.inr 18), some (.inl p1), some (.inl (0 : Int32)), none]) dX1_countInForce_1 rfl (by decide) rfl ?_
  refine go_iconst (q := 3) (v := (0 : Int32)) dX1_countInForce_2 rfl (by decide) ?_
  refine go_istore_n (q := 4) (L' := [some (.inr 18), some (.inl p1), some (.inl (0 : Int32)), some (.inl (0 : Int32))]) dX1_countInForce_3 rfl (by decide) rfl ?_
  exact h
set_option maxRecDepth 100000 in
set_option maxHeartbeats 4000000 in
theorem g_X1_countInForce_4 {d : Nat} {x : XX} {Q : Int32 → XX → Prop} {v1 v2 v3 : Int32} (h : (((x 18 0) ≤ v3 → Q v2 x) ∧
 (¬ (x 18 0) ≤ v3 → Call mX1_isInForce d [.inr 18, .inl v3, .inl v1] x (fun r2 x1 => ((r2 = 0 → Go mX1_countInForce (d + 1) 4 [some (.inr 18), some (.inl v1), some (.inl v2), some (.inl (v3 + 1))] [] x1 Q) ∧
 (¬ r2 = 0 → Go mX1_countInForce (d + 1) 4 [some (.inr 18), some (.inl v1), some (.inl (v2 + 1)), some (.inl (v3 + 1))] [] x1 Q)))))) : Go mX1_countInForce (d + 1) 4 [some (.inr 18), some (.inl v1), some (.inl v2), some (.inl v3)] [] x Q := by
  refine go_iload_n (q := 5) dX1_countInForce_4 rfl rfl ?_
  refine go_aload_n (q := 6) dX1_countInForce_5 rfl rfl ?_
  refine go_getI (q := 9) (k := 0) dX1_countInForce_6 rfl okC1 fl_X1_9 lay_18 (by decide) rfl (by decide) ?_
  refine go_icmp_ge (q := 12) (t := 30) dX1_countInForce_9 rfl (by decide) (fun cc => ?_) (fun cc => ?_)
  · have h := h.1 cc
    refine go_iload_n (q := 31) dX1_countInForce_30 rfl rfl ?_
    exact go_iret dX1_countInForce_31 rfl h
  · have h := h.2 cc
    refine go_aload_n (q := 13) dX1_countInForce_12 rfl rfl ?_
    refine go_iload_n (q := 14) dX1_countInForce_13 rfl rfl ?_
    refine go_iload_n (q := 15) dX1_countInForce_14 rfl rfl ?_
    refine go_callV (M' := mX1_isInForce) (q := 18) (as := [.inl v3, .inl v1]) (rest := []) dX1_countInForce_15 rfl ml_X1_71 ok_X1_isInForce lay_18 rfl rfl rfl rfl (by decide) rfl ?_
    refine call_mono h (fun r2 x1 h => ?_)
    refine go_if_eq (q := 21) (t := 24) dX1_countInForce_18 rfl (by decide) (fun cc => ?_) (fun cc => ?_)
    · have h := h.1 cc
      refine go_iinc (q := 27) (v := (v3 + 1)) (L' := [some (.inr 18), some (.inl v1), some (.inl v2), some (.inl (v3 + 1))]) dX1_countInForce_24 rfl (by decide) rfl rfl rfl ?_
      refine go_goto (t := 4) dX1_countInForce_27 (by decide) ?_
      exact h
    · have h := h.2 cc
      refine go_iinc (q := 24) (v := (v2 + 1)) (L' := [some (.inr 18), some (.inl v1), some (.inl (v2 + 1)), some (.inl v3)]) dX1_countInForce_21 rfl (by decide) rfl rfl rfl ?_
      refine go_iinc (q := 27) (v := (v3 + 1)) (L' := [some (.inr 18), some (.inl v1), some (.inl (v2 + 1)), some (.inl (v3 + 1))]) dX1_countInForce_24 rfl (by decide) rfl rfl rfl ?_
      refine go_goto (t := 4) dX1_countInForce_27 (by decide) ?_
      exact h
set_option maxRecDepth 100000 in
set_option maxHeartbeats 4000000 in
theorem g_X1_countExceptions_0 {d : Nat} {x : XX} {Q : Int32 → XX → Prop} (h : Go mX1_countExceptions d 4 [some (.inr 18), some (.inl (0 : Int32)), some (.inl (0 : Int32))] [] x Q) : Go mX1_countExceptions d 0 [some (.inr 18), none, none] [] x Q := by
  refine go_iconst (q := 1) (v := (0 : Int32)) dX1_countExceptions_0 rfl (by decide) ?_
  refine go_istore_n (q := 2) (L' := [some (.inr 18), some (.inl (0 : Int32)), none]) dX1_countExceptions_1 rfl (by decide) rfl ?_
  refine go_iconst (q := 3) (v := (0 : Int32)) dX1_countExceptions_2 rfl (by decide) ?_
  refine go_istore_n (q := 4) (L' := [some (.inr 18), some (.inl (0 : Int32)), some (.inl (0 : Int32))]) dX1_countExceptions_3 rfl (by decide) rfl ?_
  exact h
set_option maxRecDepth 100000 in
set_option maxHeartbeats 4000000 in
theorem g_X1_countExceptions_4 {d : Nat} {x : XX} {Q : Int32 → XX → Prop} {v1 v2 : Int32} (h : (((x 18 0) ≤ v2 → Q v1 x) ∧
 (¬ (x 18 0) ≤ v2 → (∃ i1 : Nat, i1 < 30 ∧ v2 = nI i1 ∧ Go mX1_countExceptions d 4 [some (.inr 18), some (.inl (v1 + (x 25 i1))), some (.inl (v2 + 1))] [] x Q)))) : Go mX1_countExceptions d 4 [some (.inr 18), some (.inl v1), some (.inl v2)] [] x Q := by
  refine go_iload_n (q := 5) dX1_countExceptions_4 rfl rfl ?_
  refine go_aload_n (q := 6) dX1_countExceptions_5 rfl rfl ?_
  refine go_getI (q := 9) (k := 0) dX1_countExceptions_6 rfl okC1 fl_X1_9 lay_18 (by decide) rfl (by decide) ?_
  refine go_icmp_ge (q := 12) (t := 27) dX1_countExceptions_9 rfl (by decide) (fun cc => ?_) (fun cc => ?_)
  · have h := h.1 cc
    refine go_iload_n (q := 28) dX1_countExceptions_27 rfl rfl ?_
    exact go_iret dX1_countExceptions_28 rfl h
  · have h := h.2 cc
    refine go_iload_n (q := 13) dX1_countExceptions_12 rfl rfl ?_
    refine go_aload_n (q := 14) dX1_countExceptions_13 rfl rfl ?_
    refine go_getR (q := 17) (k := 7) (r := 25) dX1_countExceptions_14 rfl okC1 fl_X1_34 lay_18 (by decide) rfl ?_
    refine go_iload_n (q := 18) dX1_countExceptions_17 rfl rfl ?_
    obtain ⟨i1, hi1, ei1, h⟩ := h
    refine go_iaload (q := 19) (i := i1) dX1_countExceptions_18 rfl lay_25 hi1 ei1 ?_
    refine go_iadd (q := 20) dX1_countExceptions_19 rfl ?_
    refine go_istore_n (q := 21) (L' := [some (.inr 18), some (.inl (v1 + (x 25 i1))), some (.inl v2)]) dX1_countExceptions_20 rfl (by decide) rfl ?_
    refine go_iinc (q := 24) (v := (v2 + 1)) (L' := [some (.inr 18), some (.inl (v1 + (x 25 i1))), some (.inl (v2 + 1))]) dX1_countExceptions_21 rfl (by decide) rfl rfl rfl ?_
    refine go_goto (t := 4) dX1_countExceptions_24 (by decide) ?_
    exact h
set_option maxRecDepth 100000 in
set_option maxHeartbeats 4000000 in
theorem g_X1_countSilent_0 {d : Nat} {x : XX} {Q : Int32 → XX → Prop} (h : Go mX1_countSilent (d + 1) 4 [some (.inr 18), some (.inl (0 : Int32)), some (.inl (0 : Int32))] [] x Q) : Go mX1_countSilent (d + 1) 0 [some (.inr 18), none, none] [] x Q := by
  refine go_iconst (q := 1) (v := (0 : Int32)) dX1_countSilent_0 rfl (by decide) ?_
  refine go_istore_n (q := 2) (L' := [some (.inr 18), some (.inl (0 : Int32)), none]) dX1_countSilent_1 rfl (by decide) rfl ?_
  refine go_iconst (q := 3) (v := (0 : Int32)) dX1_countSilent_2 rfl (by decide) ?_
  refine go_istore_n (q := 4) (L' := [some (.inr 18), some (.inl (0 : Int32)), some (.inl (0 : Int32))]) dX1_countSilent_3 rfl (by decide) rfl ?_
  exact h
set_option maxRecDepth 100000 in
set_option maxHeartbeats 4000000 in
theorem g_X1_countSilent_4 {d : Nat} {x : XX} {Q : Int32 → XX → Prop} {v1 v2 : Int32} (h : (((x 18 0) ≤ v2 → Q v1 x) ∧
 (¬ (x 18 0) ≤ v2 → Call mX1_speaksAtAll d [.inr 18, .inl v2] x (fun r2 x1 => ((¬ r2 = 0 → Go mX1_countSilent (d + 1) 4 [some (.inr 18), some (.inl v1), some (.inl (v2 + 1))] [] x1 Q) ∧
 (r2 = 0 → Go mX1_countSilent (d + 1) 4 [some (.inr 18), some (.inl (v1 + 1)), some (.inl (v2 + 1))] [] x1 Q)))))) : Go mX1_countSilent (d + 1) 4 [some (.inr 18), some (.inl v1), some (.inl v2)] [] x Q := by
  refine go_iload_n (q := 5) dX1_countSilent_4 rfl rfl ?_
  refine go_aload_n (q := 6) dX1_countSilent_5 rfl rfl ?_
  refine go_getI (q := 9) (k := 0) dX1_countSilent_6 rfl okC1 fl_X1_9 lay_18 (by decide) rfl (by decide) ?_
  refine go_icmp_ge (q := 12) (t := 29) dX1_countSilent_9 rfl (by decide) (fun cc => ?_) (fun cc => ?_)
  · have h := h.1 cc
    refine go_iload_n (q := 30) dX1_countSilent_29 rfl rfl ?_
    exact go_iret dX1_countSilent_30 rfl h
  · have h := h.2 cc
    refine go_aload_n (q := 13) dX1_countSilent_12 rfl rfl ?_
    refine go_iload_n (q := 14) dX1_countSilent_13 rfl rfl ?_
    refine go_callV (M' := mX1_speaksAtAll) (q := 17) (as := [.inl v2]) (rest := []) dX1_countSilent_14 rfl ml_X1_74 ok_X1_speaksAtAll lay_18 rfl rfl rfl rfl (by decide) rfl ?_
    refine call_mono h (fun r2 x1 h => ?_)
    refine go_if_ne (q := 20) (t := 23) dX1_countSilent_17 rfl (by decide) (fun cc => ?_) (fun cc => ?_)
    · have h := h.1 cc
      refine go_iinc (q := 26) (v := (v2 + 1)) (L' := [some (.inr 18), some (.inl v1), some (.inl (v2 + 1))]) dX1_countSilent_23 rfl (by decide) rfl rfl rfl ?_
      refine go_goto (t := 4) dX1_countSilent_26 (by decide) ?_
      exact h
    · have h := h.2 cc
      refine go_iinc (q := 23) (v := (v1 + 1)) (L' := [some (.inr 18), some (.inl (v1 + 1)), some (.inl v2)]) dX1_countSilent_20 rfl (by decide) rfl rfl rfl ?_
      refine go_iinc (q := 26) (v := (v2 + 1)) (L' := [some (.inr 18), some (.inl (v1 + 1)), some (.inl (v2 + 1))]) dX1_countSilent_23 rfl (by decide) rfl rfl rfl ?_
      refine go_goto (t := 4) dX1_countSilent_26 (by decide) ?_
      exact h
set_option maxRecDepth 100000 in
set_option maxHeartbeats 4000000 in
theorem g_J7_fill_53178_0 {d : Nat} {x : XX} {Q : Int32 → XX → Prop} {p2 : Int32} {a n : Nat} (ha : Lay[a]? = some (.inr (0, n))) (h : Go mJ7_fill_53178 d 5 [some (.inr a), some (.inl p2), some (.inl (0 : Int32)), some (.inl (nI n))] [] x Q) : Go mJ7_fill_53178 d 0 [some (.inr a), some (.inl p2), none, none] [] x Q := by
  refine go_iconst (q := 1) (v := (0 : Int32)) dJ7_fill_53178_0 rfl (by decide) ?_
  refine go_istore_n (q := 2) (L' := [some (.inr a), some (.inl p2), some (.inl (0 : Int32)), none]) dJ7_fill_53178_1 rfl (by decide) rfl ?_
  refine go_aload_n (q := 3) dJ7_fill_53178_2 rfl rfl ?_
  refine go_alen (q := 4) dJ7_fill_53178_3 rfl ha ?_
  refine go_istore_n (q := 5) (L' := [some (.inr a), some (.inl p2), some (.inl (0 : Int32)), some (.inl (nI n))]) dJ7_fill_53178_4 rfl (by decide) rfl ?_
  exact h
set_option maxRecDepth 100000 in
set_option maxHeartbeats 4000000 in
theorem g_J7_fill_53178_5 {d : Nat} {x : XX} {Q : Int32 → XX → Prop} {v1 v2 v3 : Int32} {a n : Nat} (ha : Lay[a]? = some (.inr (0, n))) (h : ((v3 ≤ v2 → Q 0 x) ∧
 (¬ v3 ≤ v2 → (∃ i2 : Nat, i2 < n ∧ v2 = nI i2 ∧ (∀ x1 : XX, x1 = up2 x a i2 v1 → Go mJ7_fill_53178 d 5 [some (.inr a), some (.inl v1), some (.inl (v2 + 1)), some (.inl v3)] [] x1 Q))))) : Go mJ7_fill_53178 d 5 [some (.inr a), some (.inl v1), some (.inl v2), some (.inl v3)] [] x Q := by
  refine go_iload_n (q := 6) dJ7_fill_53178_5 rfl rfl ?_
  refine go_iload_n (q := 7) dJ7_fill_53178_6 rfl rfl ?_
  refine go_icmp_ge (q := 10) (t := 20) dJ7_fill_53178_7 rfl (by decide) (fun cc => ?_) (fun cc => ?_)
  · have h := h.1 cc
    exact go_vret dJ7_fill_53178_20 rfl h
  · have h := h.2 cc
    refine go_aload_n (q := 11) dJ7_fill_53178_10 rfl rfl ?_
    refine go_iload_n (q := 12) dJ7_fill_53178_11 rfl rfl ?_
    refine go_iload_n (q := 13) dJ7_fill_53178_12 rfl rfl ?_
    obtain ⟨i2, hi2, ei2, h⟩ := h
    refine go_iastore (q := 14) (i := i2) dJ7_fill_53178_13 rfl ha hi2 ei2 (fun x1 ex1 => ?_)
    have h := h x1 ex1
    refine go_iinc (q := 17) (v := (v2 + 1)) (L' := [some (.inr a), some (.inl v1), some (.inl (v2 + 1)), some (.inl v3)]) dJ7_fill_53178_14 rfl (by decide) rfl rfl rfl ?_
    refine go_goto (t := 5) dJ7_fill_53178_17 (by decide) ?_
    exact h
end
