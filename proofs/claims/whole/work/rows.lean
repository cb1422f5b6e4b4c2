section
-- ===== PART A: goes FIRST, ahead of the names: the tables' words, and 'selects' of the private methods out of them =====
/-- a private method of a class that the tables say can be made, by its rows of tables_1 -/
def lw_okq (q : MethodName × Nat) : Prop := (q.1.cls ≠ "java/lang/invoke/MethodHandle" ∧ q.1.cls ≠ "java/lang/invoke/VarHandle") ∧ Cond.instantiable q.1.cls q.2 ∈ tables_1 ∧ Cond.privateMethod q.1 ∈ tables_1 ∧ Cond.instanceMethod q.1 ∈ tables_1
theorem lw_p0 : lw_okq (⟨"LentYouths", "faultAnswer", "(I)I"⟩, 10) := ⟨⟨by decide +kernel, by decide +kernel⟩, List.mem_of_getElem? (i := 13) (by decide +kernel), List.mem_of_getElem? (i := 209) (by decide +kernel), List.mem_of_getElem? (i := 210) (by decide +kernel)⟩
theorem lw_p1 : lw_okq (⟨"LentYouths", "isPerson", "(I)Z"⟩, 10) := ⟨⟨by decide +kernel, by decide +kernel⟩, List.mem_of_getElem? (i := 13) (by decide +kernel), List.mem_of_getElem? (i := 227) (by decide +kernel), List.mem_of_getElem? (i := 228) (by decide +kernel)⟩
theorem lw_p2 : lw_okq (⟨"LentYouths", "takeRow", "(IIII)I"⟩, 10) := ⟨⟨by decide +kernel, by decide +kernel⟩, List.mem_of_getElem? (i := 13) (by decide +kernel), List.mem_of_getElem? (i := 256) (by decide +kernel), List.mem_of_getElem? (i := 257) (by decide +kernel)⟩
theorem lw_p3 : lw_okq (⟨"LentYouths$Exchange", "wearOff", "(I)V"⟩, 8) := ⟨⟨by decide +kernel, by decide +kernel⟩, List.mem_of_getElem? (i := 47) (by decide +kernel), List.mem_of_getElem? (i := 284) (by decide +kernel), List.mem_of_getElem? (i := 285) (by decide +kernel)⟩
theorem lw_p4 : lw_okq (⟨"LentYouths$Exchange", "show", "(I)V"⟩, 8) := ⟨⟨by decide +kernel, by decide +kernel⟩, List.mem_of_getElem? (i := 47) (by decide +kernel), List.mem_of_getElem? (i := 288) (by decide +kernel), List.mem_of_getElem? (i := 289) (by decide +kernel)⟩
theorem lw_p5 : lw_okq (⟨"LentYouths", "answerOfLoans", "(II)I"⟩, 10) := ⟨⟨by decide +kernel, by decide +kernel⟩, List.mem_of_getElem? (i := 13) (by decide +kernel), List.mem_of_getElem? (i := 292) (by decide +kernel), List.mem_of_getElem? (i := 293) (by decide +kernel)⟩
theorem lw_p6 : lw_okq (⟨"LentYouths", "answerOfOne", "(II)I"⟩, 10) := ⟨⟨by decide +kernel, by decide +kernel⟩, List.mem_of_getElem? (i := 13) (by decide +kernel), List.mem_of_getElem? (i := 317) (by decide +kernel), List.mem_of_getElem? (i := 318) (by decide +kernel)⟩
theorem lw_p7 : lw_okq (⟨"LentYouths$Matching", "mendedFrom", "([LLentYouths$Person;II)I"⟩, 2) := ⟨⟨by decide +kernel, by decide +kernel⟩, List.mem_of_getElem? (i := 100) (by decide +kernel), List.mem_of_getElem? (i := 361) (by decide +kernel), List.mem_of_getElem? (i := 362) (by decide +kernel)⟩
theorem lw_p8 : lw_okq (⟨"LentYouths$Matching", "firstBest", "([LLentYouths$Person;II)I"⟩, 2) := ⟨⟨by decide +kernel, by decide +kernel⟩, List.mem_of_getElem? (i := 100) (by decide +kernel), List.mem_of_getElem? (i := 370) (by decide +kernel), List.mem_of_getElem? (i := 371) (by decide +kernel)⟩
theorem lw_p9 : lw_okq (⟨"LentYouths", "refusalOfReadLoans", "(IIIIII)I"⟩, 10) := ⟨⟨by decide +kernel, by decide +kernel⟩, List.mem_of_getElem? (i := 13) (by decide +kernel), List.mem_of_getElem? (i := 399) (by decide +kernel), List.mem_of_getElem? (i := 400) (by decide +kernel)⟩
theorem lw_p10 : lw_okq (⟨"LentYouths", "couldBe", "(IIII)Z"⟩, 10) := ⟨⟨by decide +kernel, by decide +kernel⟩, List.mem_of_getElem? (i := 13) (by decide +kernel), List.mem_of_getElem? (i := 403) (by decide +kernel), List.mem_of_getElem? (i := 404) (by decide +kernel)⟩
theorem lw_p11 : lw_okq (⟨"LentYouths", "tellingOfTwin", "(LLentYouths$Person;)I"⟩, 10) := ⟨⟨by decide +kernel, by decide +kernel⟩, List.mem_of_getElem? (i := 13) (by decide +kernel), List.mem_of_getElem? (i := 463) (by decide +kernel), List.mem_of_getElem? (i := 464) (by decide +kernel)⟩
theorem lw_p12 : lw_okq (⟨"LentYouths", "leaveInTrace", "(I)V"⟩, 10) := ⟨⟨by decide +kernel, by decide +kernel⟩, List.mem_of_getElem? (i := 13) (by decide +kernel), List.mem_of_getElem? (i := 467) (by decide +kernel), List.mem_of_getElem? (i := 468) (by decide +kernel)⟩
theorem lw_p13 : lw_okq (⟨"LentYouths", "tellingOfSad", "(LLentYouths$Person;)I"⟩, 10) := ⟨⟨by decide +kernel, by decide +kernel⟩, List.mem_of_getElem? (i := 13) (by decide +kernel), List.mem_of_getElem? (i := 471) (by decide +kernel), List.mem_of_getElem? (i := 472) (by decide +kernel)⟩
theorem lw_p14 : lw_okq (⟨"LentYouths", "tellingOfChildhood", "(LLentYouths$Person;)I"⟩, 10) := ⟨⟨by decide +kernel, by decide +kernel⟩, List.mem_of_getElem? (i := 13) (by decide +kernel), List.mem_of_getElem? (i := 475) (by decide +kernel), List.mem_of_getElem? (i := 476) (by decide +kernel)⟩
theorem lw_p15 : lw_okq (⟨"LentYouthsModel", "refused", "(I)I"⟩, 30) := ⟨⟨by decide +kernel, by decide +kernel⟩, List.mem_of_getElem? (i := 499) (by decide +kernel), List.mem_of_getElem? (i := 607) (by decide +kernel), List.mem_of_getElem? (i := 608) (by decide +kernel)⟩
def lw_privs_1 : List (MethodName × Nat) := [(⟨"LentYouths", "faultAnswer", "(I)I"⟩, 10), (⟨"LentYouths", "isPerson", "(I)Z"⟩, 10), (⟨"LentYouths", "takeRow", "(IIII)I"⟩, 10), (⟨"LentYouths$Exchange", "wearOff", "(I)V"⟩, 8), (⟨"LentYouths$Exchange", "show", "(I)V"⟩, 8), (⟨"LentYouths", "answerOfLoans", "(II)I"⟩, 10), (⟨"LentYouths", "answerOfOne", "(II)I"⟩, 10), (⟨"LentYouths$Matching", "mendedFrom", "([LLentYouths$Person;II)I"⟩, 2), (⟨"LentYouths$Matching", "firstBest", "([LLentYouths$Person;II)I"⟩, 2), (⟨"LentYouths", "refusalOfReadLoans", "(IIIIII)I"⟩, 10), (⟨"LentYouths", "couldBe", "(IIII)Z"⟩, 10), (⟨"LentYouths", "tellingOfTwin", "(LLentYouths$Person;)I"⟩, 10), (⟨"LentYouths", "leaveInTrace", "(I)V"⟩, 10), (⟨"LentYouths", "tellingOfSad", "(LLentYouths$Person;)I"⟩, 10), (⟨"LentYouths", "tellingOfChildhood", "(LLentYouths$Person;)I"⟩, 10), (⟨"LentYouthsModel", "refused", "(I)I"⟩, 30)]
theorem lw_r1 : ∀ q ∈ lw_privs_1, lw_okq q := List.forall_mem_cons.mpr ⟨lw_p0, List.forall_mem_cons.mpr ⟨lw_p1, List.forall_mem_cons.mpr ⟨lw_p2, List.forall_mem_cons.mpr ⟨lw_p3, List.forall_mem_cons.mpr ⟨lw_p4, List.forall_mem_cons.mpr ⟨lw_p5, List.forall_mem_cons.mpr ⟨lw_p6, List.forall_mem_cons.mpr ⟨lw_p7, List.forall_mem_cons.mpr ⟨lw_p8, List.forall_mem_cons.mpr ⟨lw_p9, List.forall_mem_cons.mpr ⟨lw_p10, List.forall_mem_cons.mpr ⟨lw_p11, List.forall_mem_cons.mpr ⟨lw_p12, List.forall_mem_cons.mpr ⟨lw_p13, List.forall_mem_cons.mpr ⟨lw_p14, List.forall_mem_cons.mpr ⟨lw_p15, fun _ h => absurd h List.not_mem_nil⟩⟩⟩⟩⟩⟩⟩⟩⟩⟩⟩⟩⟩⟩⟩⟩
theorem lw_p16 : lw_okq (⟨"LentYouthsModel", "cellsBarred", "(IIIJ)I"⟩, 30) := ⟨⟨by decide +kernel, by decide +kernel⟩, List.mem_of_getElem? (i := 499) (by decide +kernel), List.mem_of_getElem? (i := 612) (by decide +kernel), List.mem_of_getElem? (i := 613) (by decide +kernel)⟩
theorem lw_p17 : lw_okq (⟨"LentYouthsModel", "failed", "(I)I"⟩, 30) := ⟨⟨by decide +kernel, by decide +kernel⟩, List.mem_of_getElem? (i := 499) (by decide +kernel), List.mem_of_getElem? (i := 616) (by decide +kernel), List.mem_of_getElem? (i := 617) (by decide +kernel)⟩
theorem lw_p18 : lw_okq (⟨"LentYouthsModel", "readsCounter", "(II)Z"⟩, 30) := ⟨⟨by decide +kernel, by decide +kernel⟩, List.mem_of_getElem? (i := 499) (by decide +kernel), List.mem_of_getElem? (i := 623) (by decide +kernel), List.mem_of_getElem? (i := 624) (by decide +kernel)⟩
theorem lw_p19 : lw_okq (⟨"LentYouthsModel", "codeAt", "(II)I"⟩, 30) := ⟨⟨by decide +kernel, by decide +kernel⟩, List.mem_of_getElem? (i := 499) (by decide +kernel), List.mem_of_getElem? (i := 627) (by decide +kernel), List.mem_of_getElem? (i := 628) (by decide +kernel)⟩
theorem lw_p20 : lw_okq (⟨"LentYouthsModel", "readsPerson", "(II)Z"⟩, 30) := ⟨⟨by decide +kernel, by decide +kernel⟩, List.mem_of_getElem? (i := 499) (by decide +kernel), List.mem_of_getElem? (i := 631) (by decide +kernel), List.mem_of_getElem? (i := 632) (by decide +kernel)⟩
theorem lw_p21 : lw_okq (⟨"LentYouthsModel", "figure", "(IIII)I"⟩, 30) := ⟨⟨by decide +kernel, by decide +kernel⟩, List.mem_of_getElem? (i := 499) (by decide +kernel), List.mem_of_getElem? (i := 635) (by decide +kernel), List.mem_of_getElem? (i := 636) (by decide +kernel)⟩
theorem lw_p22 : lw_okq (⟨"LentYouthsModel", "noPerson", "(I)Z"⟩, 30) := ⟨⟨by decide +kernel, by decide +kernel⟩, List.mem_of_getElem? (i := 499) (by decide +kernel), List.mem_of_getElem? (i := 643) (by decide +kernel), List.mem_of_getElem? (i := 644) (by decide +kernel)⟩
theorem lw_p23 : lw_okq (⟨"LentYouthsModel", "lastsOf", "(I)I"⟩, 30) := ⟨⟨by decide +kernel, by decide +kernel⟩, List.mem_of_getElem? (i := 499) (by decide +kernel), List.mem_of_getElem? (i := 647) (by decide +kernel), List.mem_of_getElem? (i := 648) (by decide +kernel)⟩
theorem lw_p24 : lw_okq (⟨"LentYouthsModel", "pairsBarred", "(IIII)I"⟩, 30) := ⟨⟨by decide +kernel, by decide +kernel⟩, List.mem_of_getElem? (i := 499) (by decide +kernel), List.mem_of_getElem? (i := 671) (by decide +kernel), List.mem_of_getElem? (i := 672) (by decide +kernel)⟩
theorem lw_p25 : lw_okq (⟨"LentYouthsModel", "goLoans", "(II)V"⟩, 30) := ⟨⟨by decide +kernel, by decide +kernel⟩, List.mem_of_getElem? (i := 499) (by decide +kernel), List.mem_of_getElem? (i := 675) (by decide +kernel), List.mem_of_getElem? (i := 676) (by decide +kernel)⟩
theorem lw_p26 : lw_okq (⟨"LentYouthsModel", "begin", "()V"⟩, 30) := ⟨⟨by decide +kernel, by decide +kernel⟩, List.mem_of_getElem? (i := 499) (by decide +kernel), List.mem_of_getElem? (i := 679) (by decide +kernel), List.mem_of_getElem? (i := 680) (by decide +kernel)⟩
theorem lw_p27 : lw_okq (⟨"LentYouthsModel", "sees", "(I)V"⟩, 30) := ⟨⟨by decide +kernel, by decide +kernel⟩, List.mem_of_getElem? (i := 499) (by decide +kernel), List.mem_of_getElem? (i := 683) (by decide +kernel), List.mem_of_getElem? (i := 684) (by decide +kernel)⟩
theorem lw_p28 : lw_okq (⟨"LentYouthsModel", "mendedNow", "()I"⟩, 30) := ⟨⟨by decide +kernel, by decide +kernel⟩, List.mem_of_getElem? (i := 499) (by decide +kernel), List.mem_of_getElem? (i := 690) (by decide +kernel), List.mem_of_getElem? (i := 691) (by decide +kernel)⟩
theorem lw_p29 : lw_okq (⟨"LentYouthsModel", "isMended", "(I)Z"⟩, 30) := ⟨⟨by decide +kernel, by decide +kernel⟩, List.mem_of_getElem? (i := 499) (by decide +kernel), List.mem_of_getElem? (i := 694) (by decide +kernel), List.mem_of_getElem? (i := 695) (by decide +kernel)⟩
theorem lw_p30 : lw_okq (⟨"LentYouthsModel", "everybody", "()I"⟩, 30) := ⟨⟨by decide +kernel, by decide +kernel⟩, List.mem_of_getElem? (i := 499) (by decide +kernel), List.mem_of_getElem? (i := 698) (by decide +kernel), List.mem_of_getElem? (i := 699) (by decide +kernel)⟩
theorem lw_p31 : lw_okq (⟨"LentYouthsModel", "canLend", "(II)Z"⟩, 30) := ⟨⟨by decide +kernel, by decide +kernel⟩, List.mem_of_getElem? (i := 499) (by decide +kernel), List.mem_of_getElem? (i := 702) (by decide +kernel), List.mem_of_getElem? (i := 703) (by decide +kernel)⟩
def lw_privs_2 : List (MethodName × Nat) := [(⟨"LentYouthsModel", "cellsBarred", "(IIIJ)I"⟩, 30), (⟨"LentYouthsModel", "failed", "(I)I"⟩, 30), (⟨"LentYouthsModel", "readsCounter", "(II)Z"⟩, 30), (⟨"LentYouthsModel", "codeAt", "(II)I"⟩, 30), (⟨"LentYouthsModel", "readsPerson", "(II)Z"⟩, 30), (⟨"LentYouthsModel", "figure", "(IIII)I"⟩, 30), (⟨"LentYouthsModel", "noPerson", "(I)Z"⟩, 30), (⟨"LentYouthsModel", "lastsOf", "(I)I"⟩, 30), (⟨"LentYouthsModel", "pairsBarred", "(IIII)I"⟩, 30), (⟨"LentYouthsModel", "goLoans", "(II)V"⟩, 30), (⟨"LentYouthsModel", "begin", "()V"⟩, 30), (⟨"LentYouthsModel", "sees", "(I)V"⟩, 30), (⟨"LentYouthsModel", "mendedNow", "()I"⟩, 30), (⟨"LentYouthsModel", "isMended", "(I)Z"⟩, 30), (⟨"LentYouthsModel", "everybody", "()I"⟩, 30), (⟨"LentYouthsModel", "canLend", "(II)Z"⟩, 30)]
theorem lw_r2 : ∀ q ∈ lw_privs_2, lw_okq q := List.forall_mem_cons.mpr ⟨lw_p16, List.forall_mem_cons.mpr ⟨lw_p17, List.forall_mem_cons.mpr ⟨lw_p18, List.forall_mem_cons.mpr ⟨lw_p19, List.forall_mem_cons.mpr ⟨lw_p20, List.forall_mem_cons.mpr ⟨lw_p21, List.forall_mem_cons.mpr ⟨lw_p22, List.forall_mem_cons.mpr ⟨lw_p23, List.forall_mem_cons.mpr ⟨lw_p24, List.forall_mem_cons.mpr ⟨lw_p25, List.forall_mem_cons.mpr ⟨lw_p26, List.forall_mem_cons.mpr ⟨lw_p27, List.forall_mem_cons.mpr ⟨lw_p28, List.forall_mem_cons.mpr ⟨lw_p29, List.forall_mem_cons.mpr ⟨lw_p30, List.forall_mem_cons.mpr ⟨lw_p31, fun _ h => absurd h List.not_mem_nil⟩⟩⟩⟩⟩⟩⟩⟩⟩⟩⟩⟩⟩⟩⟩⟩
theorem lw_p32 : lw_okq (⟨"LentYouthsModel", "lend", "(II)V"⟩, 30) := ⟨⟨by decide +kernel, by decide +kernel⟩, List.mem_of_getElem? (i := 499) (by decide +kernel), List.mem_of_getElem? (i := 706) (by decide +kernel), List.mem_of_getElem? (i := 707) (by decide +kernel)⟩
theorem lw_p33 : lw_okq (⟨"LentYouthsModel", "wearsOff", "(I)V"⟩, 30) := ⟨⟨by decide +kernel, by decide +kernel⟩, List.mem_of_getElem? (i := 499) (by decide +kernel), List.mem_of_getElem? (i := 710) (by decide +kernel), List.mem_of_getElem? (i := 711) (by decide +kernel)⟩
theorem lw_p34 : lw_okq (⟨"LentYouthsModel", "homeBy", "()I"⟩, 30) := ⟨⟨by decide +kernel, by decide +kernel⟩, List.mem_of_getElem? (i := 499) (by decide +kernel), List.mem_of_getElem? (i := 714) (by decide +kernel), List.mem_of_getElem? (i := 715) (by decide +kernel)⟩
theorem lw_p35 : lw_okq (⟨"LentYouthsModel", "isRow", "(III)Z"⟩, 30) := ⟨⟨by decide +kernel, by decide +kernel⟩, List.mem_of_getElem? (i := 499) (by decide +kernel), List.mem_of_getElem? (i := 723) (by decide +kernel), List.mem_of_getElem? (i := 724) (by decide +kernel)⟩
theorem lw_p36 : lw_okq (⟨"LentYouthsModel", "matchBy", "(I)I"⟩, 30) := ⟨⟨by decide +kernel, by decide +kernel⟩, List.mem_of_getElem? (i := 499) (by decide +kernel), List.mem_of_getElem? (i := 731) (by decide +kernel), List.mem_of_getElem? (i := 732) (by decide +kernel)⟩
theorem lw_p37 : lw_okq (⟨"LentYouthsModel", "seenBarred", "(IIIIIZ)I"⟩, 30) := ⟨⟨by decide +kernel, by decide +kernel⟩, List.mem_of_getElem? (i := 499) (by decide +kernel), List.mem_of_getElem? (i := 752) (by decide +kernel), List.mem_of_getElem? (i := 753) (by decide +kernel)⟩
theorem lw_p38 : lw_okq (⟨"LentYouthsModel", "areSo", "(II)Z"⟩, 30) := ⟨⟨by decide +kernel, by decide +kernel⟩, List.mem_of_getElem? (i := 499) (by decide +kernel), List.mem_of_getElem? (i := 756) (by decide +kernel), List.mem_of_getElem? (i := 757) (by decide +kernel)⟩
theorem lw_p39 : lw_okq (⟨"LentYouthsModel", "noCell", "(II)I"⟩, 30) := ⟨⟨by decide +kernel, by decide +kernel⟩, List.mem_of_getElem? (i := 499) (by decide +kernel), List.mem_of_getElem? (i := 788) (by decide +kernel), List.mem_of_getElem? (i := 789) (by decide +kernel)⟩
theorem lw_p40 : lw_okq (⟨"LentYouthsModel", "failedLong", "(I)J"⟩, 30) := ⟨⟨by decide +kernel, by decide +kernel⟩, List.mem_of_getElem? (i := 499) (by decide +kernel), List.mem_of_getElem? (i := 796) (by decide +kernel), List.mem_of_getElem? (i := 797) (by decide +kernel)⟩
theorem lw_p41 : lw_okq (⟨"LentYouthsModel", "traced", "(I)V"⟩, 30) := ⟨⟨by decide +kernel, by decide +kernel⟩, List.mem_of_getElem? (i := 499) (by decide +kernel), List.mem_of_getElem? (i := 808) (by decide +kernel), List.mem_of_getElem? (i := 809) (by decide +kernel)⟩
def lw_privs_3 : List (MethodName × Nat) := [(⟨"LentYouthsModel", "lend", "(II)V"⟩, 30), (⟨"LentYouthsModel", "wearsOff", "(I)V"⟩, 30), (⟨"LentYouthsModel", "homeBy", "()I"⟩, 30), (⟨"LentYouthsModel", "isRow", "(III)Z"⟩, 30), (⟨"LentYouthsModel", "matchBy", "(I)I"⟩, 30), (⟨"LentYouthsModel", "seenBarred", "(IIIIIZ)I"⟩, 30), (⟨"LentYouthsModel", "areSo", "(II)Z"⟩, 30), (⟨"LentYouthsModel", "noCell", "(II)I"⟩, 30), (⟨"LentYouthsModel", "failedLong", "(I)J"⟩, 30), (⟨"LentYouthsModel", "traced", "(I)V"⟩, 30)]
theorem lw_r3 : ∀ q ∈ lw_privs_3, lw_okq q := List.forall_mem_cons.mpr ⟨lw_p32, List.forall_mem_cons.mpr ⟨lw_p33, List.forall_mem_cons.mpr ⟨lw_p34, List.forall_mem_cons.mpr ⟨lw_p35, List.forall_mem_cons.mpr ⟨lw_p36, List.forall_mem_cons.mpr ⟨lw_p37, List.forall_mem_cons.mpr ⟨lw_p38, List.forall_mem_cons.mpr ⟨lw_p39, List.forall_mem_cons.mpr ⟨lw_p40, List.forall_mem_cons.mpr ⟨lw_p41, fun _ h => absurd h List.not_mem_nil⟩⟩⟩⟩⟩⟩⟩⟩⟩⟩
def lw_privs : List (MethodName × Nat) := lw_privs_1 ++ (lw_privs_2 ++ (lw_privs_3))
def lw_tbl : List Cond := k2_sels lw_privs ++ tables_1
theorem lw_privs_ok : ∀ q ∈ lw_privs, lw_okq q := by
  show ∀ q ∈ lw_privs_1 ++ (lw_privs_2 ++ (lw_privs_3)), lw_okq q
  exact List.forall_mem_append.mpr ⟨lw_r1, List.forall_mem_append.mpr ⟨lw_r2, lw_r3⟩⟩
def RX0 : String := "LentYouths$Exchange"
def TX0 : u_T := fun k => match k with
  | 0 => ("LentYouths$Exchange", "left", "[I", true)
  | 1 => ("LentYouths$Exchange", "lasts", "[I", true)
  | 2 => ("LentYouths$Exchange", "lent", "[I", true)
  | 3 => ("LentYouths$Exchange", "holds", "[I", true)
  | 4 => ("LentYouths$Exchange", "knows", "[I", true)
  | 5 => ("LentYouths$Exchange", "shown", "[I", true)
  | 6 => ("LentYouths$Exchange", "persons", "[LLentYouths$Person;", false)
  | _ => ("LentYouths$Exchange", "people", "I", false)
def tyX0 : Nat → FieldType := fun k => match k with
  | 0 => .array .int
  | 1 => .array .int
  | 2 => .array .int
  | 3 => .array .int
  | 4 => .array .int
  | 5 => .array .int
  | 6 => .array (.object "LentYouths$Person")
  | _ => .int
abbrev wsX00 : List Cond := u_ws RX0 TX0 8
theorem nmX0 : ∀ a, a < 8 → ∀ b, b < 8 → a ≠ b → (TX0 a).2.1 ≠ (TX0 b).2.1 := by decide +kernel
theorem tyX0_ok : ∀ k, k < 8 → parseFieldDescriptor (TX0 k).2.2.1 = some (tyX0 k) := by decide +kernel
abbrev cX0_init : ByteArray := prog_2_method_1_code
def yX0_init : MethodName := ⟨RX0, "<init>", "()V"⟩
abbrev cX0_begin : ByteArray := prog_2_method_2_code
def yX0_begin : MethodName := ⟨RX0, "begin", "([LLentYouths$Person;I)V"⟩
abbrev cX0_place : ByteArray := prog_2_method_3_code
def yX0_place : MethodName := ⟨RX0, "place", "(III)V"⟩
abbrev cX0_becomeLike : ByteArray := prog_2_method_4_code
def yX0_becomeLike : MethodName := ⟨RX0, "becomeLike", "(LLentYouths$Exchange;)V"⟩
abbrev cX0_play : ByteArray := prog_2_method_5_code
def yX0_play : MethodName := ⟨RX0, "play", "([II)I"⟩
abbrev cX0_firstThatMendsAll : ByteArray := prog_2_method_6_code
def yX0_firstThatMendsAll : MethodName := ⟨RX0, "firstThatMendsAll", "([II)I"⟩
abbrev cX0_canLend : ByteArray := prog_2_method_7_code
def yX0_canLend : MethodName := ⟨RX0, "canLend", "(II)Z"⟩
abbrev cX0_lend : ByteArray := prog_2_method_8_code
def yX0_lend : MethodName := ⟨RX0, "lend", "(II)V"⟩
abbrev cX0_wearOff : ByteArray := prog_2_method_9_code
def yX0_wearOff : MethodName := ⟨RX0, "wearOff", "(I)V"⟩
abbrev cX0_show : ByteArray := prog_2_method_10_code
def yX0_show : MethodName := ⟨RX0, "show", "(I)V"⟩
abbrev cX0_childhoodsThatShowed : ByteArray := prog_2_method_11_code
def yX0_childhoodsThatShowed : MethodName := ⟨RX0, "childhoodsThatShowed", "(II)I"⟩
abbrev cX0_mended : ByteArray := prog_2_method_12_code
def yX0_mended : MethodName := ⟨RX0, "mended", "()I"⟩
abbrev cX0_loansHome : ByteArray := prog_2_method_13_code
def yX0_loansHome : MethodName := ⟨RX0, "loansHome", "()I"⟩
def RX1 : String := "LentYouths$FewestSearch"
def TX1 : u_T := fun k => match k with
  | 0 => ("LentYouths$FewestSearch", "behind", "[LLentYouths$Exchange;", true)
  | _ => ("LentYouths$FewestSearch", "found", "[I", true)
def tyX1 : Nat → FieldType := fun k => match k with
  | 0 => .array (.object "LentYouths$Exchange")
  | _ => .array .int
abbrev wsX10 : List Cond := u_ws RX1 TX1 2
theorem nmX1 : ∀ a, a < 2 → ∀ b, b < 2 → a ≠ b → (TX1 a).2.1 ≠ (TX1 b).2.1 := by decide +kernel
theorem tyX1_ok : ∀ k, k < 2 → parseFieldDescriptor (TX1 k).2.2.1 = some (tyX1 k) := by decide +kernel
abbrev cX1_init : ByteArray := prog_3_method_1_code
def yX1_init : MethodName := ⟨RX1, "<init>", "()V"⟩
abbrev cX1_find : ByteArray := prog_3_method_2_code
def yX1_find : MethodName := ⟨RX1, "find", "([LLentYouths$Person;II)I"⟩
abbrev cX1_loanAt : ByteArray := prog_3_method_3_code
def yX1_loanAt : MethodName := ⟨RX1, "loanAt", "(I)I"⟩
abbrev cX1_mends : ByteArray := prog_3_method_4_code
def yX1_mends : MethodName := ⟨RX1, "mends", "(LLentYouths$FewestSearch;III)Z"⟩
def RX2 : String := "LentYouths$Matching"
def TX2 : u_T := fun k => match k with
  | 0 => ("LentYouths$Matching", "most", "[I", true)
  | _ => ("LentYouths$Matching", "gets", "[I", true)
def tyX2 : Nat → FieldType := fun k => match k with
  | 0 => .array .int
  | _ => .array .int
abbrev wsX20 : List Cond := u_ws RX2 TX2 2
theorem nmX2 : ∀ a, a < 2 → ∀ b, b < 2 → a ≠ b → (TX2 a).2.1 ≠ (TX2 b).2.1 := by decide +kernel
theorem tyX2_ok : ∀ k, k < 2 → parseFieldDescriptor (TX2 k).2.2.1 = some (tyX2 k) := by decide +kernel
abbrev cX2_init : ByteArray := prog_4_method_1_code
def yX2_init : MethodName := ⟨RX2, "<init>", "()V"⟩
abbrev cX2_mostMended : ByteArray := prog_4_method_2_code
def yX2_mostMended : MethodName := ⟨RX2, "mostMended", "()I"⟩
abbrev cX2_make : ByteArray := prog_4_method_3_code
def yX2_make : MethodName := ⟨RX2, "make", "([LLentYouths$Person;I)V"⟩
abbrev cX2_mendedFrom : ByteArray := prog_4_method_4_code
def yX2_mendedFrom : MethodName := ⟨RX2, "mendedFrom", "([LLentYouths$Person;II)I"⟩
abbrev cX2_firstBest : ByteArray := prog_4_method_5_code
def yX2_firstBest : MethodName := ⟨RX2, "firstBest", "([LLentYouths$Person;II)I"⟩
def RX3 : String := "LentYouths$Person"
def TX3 : u_T := fun k => match k with
  | 0 => ("LentYouths$Person", "kind", "I", false)
  | 1 => ("LentYouths$Person", "scenes", "I", false)
  | 2 => ("LentYouths$Person", "wanted", "I", false)
  | _ => ("LentYouths$Person", "wear", "I", false)
def tyX3 : Nat → FieldType := fun k => match k with
  | 0 => .int
  | 1 => .int
  | 2 => .int
  | _ => .int
abbrev wsX30 : List Cond := u_ws RX3 TX3 4
theorem nmX3 : ∀ a, a < 4 → ∀ b, b < 4 → a ≠ b → (TX3 a).2.1 ≠ (TX3 b).2.1 := by decide +kernel
theorem tyX3_ok : ∀ k, k < 4 → parseFieldDescriptor (TX3 k).2.2.1 = some (tyX3 k) := by decide +kernel
abbrev cX3_init : ByteArray := prog_5_method_1_code
def yX3_init : MethodName := ⟨RX3, "<init>", "()V"⟩
abbrev cX3_readFrom : ByteArray := prog_5_method_2_code
def yX3_readFrom : MethodName := ⟨RX3, "readFrom", "(LLentYouths$Sheet;I)V"⟩
abbrev cX3_lasts : ByteArray := prog_5_method_3_code
def yX3_lasts : MethodName := ⟨RX3, "lasts", "()I"⟩
abbrev cX3_wantedSet : ByteArray := prog_5_method_4_code
def yX3_wantedSet : MethodName := ⟨RX3, "wantedSet", "()I"⟩
abbrev cX3_isMendedBy : ByteArray := prog_5_method_5_code
def yX3_isMendedBy : MethodName := ⟨RX3, "isMendedBy", "(I)Z"⟩
def RX4 : String := "LentYouths$Readings"
def TX4 : u_T := fun k => match k with
  | 0 => ("LentYouths$Readings", "who", "[I", true)
  | 1 => ("LentYouths$Readings", "scene", "[I", true)
  | 2 => ("LentYouths$Readings", "knew", "[Z", true)
  | _ => ("LentYouths$Readings", "count", "I", false)
def tyX4 : Nat → FieldType := fun k => match k with
  | 0 => .array .int
  | 1 => .array .int
  | 2 => .array .boolean
  | _ => .int
abbrev wsX40 : List Cond := u_ws RX4 TX4 4
theorem nmX4 : ∀ a, a < 4 → ∀ b, b < 4 → a ≠ b → (TX4 a).2.1 ≠ (TX4 b).2.1 := by decide +kernel
theorem tyX4_ok : ∀ k, k < 4 → parseFieldDescriptor (TX4 k).2.2.1 = some (tyX4 k) := by decide +kernel
abbrev cX4_init : ByteArray := prog_6_method_1_code
def yX4_init : MethodName := ⟨RX4, "<init>", "()V"⟩
abbrev cX4_add : ByteArray := prog_6_method_2_code
def yX4_add : MethodName := ⟨RX4, "add", "(IIZ)Z"⟩
abbrev cX4_areSoIn : ByteArray := prog_6_method_3_code
def yX4_areSoIn : MethodName := ⟨RX4, "areSoIn", "(LLentYouths$Exchange;)Z"⟩
def RX5 : String := "LentYouths$Sheet"
def TX5 : u_T := fun k => match k with
  | 0 => ("LentYouths$Sheet", "cells", "[I", true)
  | 1 => ("LentYouths$Sheet", "present", "Z", false)
  | 2 => ("LentYouths$Sheet", "lane", "I", false)
  | _ => ("LentYouths$Sheet", "count", "I", false)
def tyX5 : Nat → FieldType := fun k => match k with
  | 0 => .array .int
  | 1 => .boolean
  | 2 => .int
  | _ => .int
abbrev wsX50 : List Cond := u_ws RX5 TX5 4
theorem nmX5 : ∀ a, a < 4 → ∀ b, b < 4 → a ≠ b → (TX5 a).2.1 ≠ (TX5 b).2.1 := by decide +kernel
theorem tyX5_ok : ∀ k, k < 4 → parseFieldDescriptor (TX5 k).2.2.1 = some (tyX5 k) := by decide +kernel
abbrev cX5_init : ByteArray := prog_7_method_1_code
def yX5_init : MethodName := ⟨RX5, "<init>", "()V"⟩
abbrev cX5_renew : ByteArray := prog_7_method_2_code
def yX5_renew : MethodName := ⟨RX5, "renew", "(II)V"⟩
abbrev cX5_faultOfCells : ByteArray := prog_7_method_3_code
def yX5_faultOfCells : MethodName := ⟨RX5, "faultOfCells", "(III)I"⟩
abbrev cX5_hasCells : ByteArray := prog_7_method_4_code
def yX5_hasCells : MethodName := ⟨RX5, "hasCells", "(II)Z"⟩
def RX6 : String := "LentYouths"
def TX6 : u_T := fun k => match k with
  | 0 => ("LentYouths", "sheets", "[LLentYouths$Sheet;", true)
  | 1 => ("LentYouths", "persons", "[LLentYouths$Person;", true)
  | 2 => ("LentYouths", "readings", "LLentYouths$Readings;", true)
  | 3 => ("LentYouths", "exchange", "LLentYouths$Exchange;", true)
  | 4 => ("LentYouths", "search", "LLentYouths$FewestSearch;", true)
  | 5 => ("LentYouths", "matching", "LLentYouths$Matching;", true)
  | 6 => ("LentYouths", "row", "[I", true)
  | 7 => ("LentYouths", "people", "I", false)
  | 8 => ("LentYouths", "traced", "I", false)
  | _ => ("LentYouths", "latestFault", "I", false)
def tyX6 : Nat → FieldType := fun k => match k with
  | 0 => .array (.object "LentYouths$Sheet")
  | 1 => .array (.object "LentYouths$Person")
  | 2 => .object "LentYouths$Readings"
  | 3 => .object "LentYouths$Exchange"
  | 4 => .object "LentYouths$FewestSearch"
  | 5 => .object "LentYouths$Matching"
  | 6 => .array .int
  | 7 => .int
  | 8 => .int
  | _ => .int
abbrev wsX60 : List Cond := u_ws RX6 TX6 10
theorem nmX6 : ∀ a, a < 10 → ∀ b, b < 10 → a ≠ b → (TX6 a).2.1 ≠ (TX6 b).2.1 := by decide +kernel
theorem tyX6_ok : ∀ k, k < 10 → parseFieldDescriptor (TX6 k).2.2.1 = some (tyX6 k) := by decide +kernel
abbrev cX6_init : ByteArray := prog_1_method_1_code
def yX6_init : MethodName := ⟨RX6, "<init>", "()V"⟩
abbrev cX6_counter : ByteArray := prog_1_method_2_code
def yX6_counter : MethodName := ⟨RX6, "counter", "(IIII)I"⟩
abbrev cX6_ofPerson : ByteArray := prog_1_method_3_code
def yX6_ofPerson : MethodName := ⟨RX6, "ofPerson", "(II)I"⟩
abbrev cX6_live : ByteArray := prog_1_method_4_code
def yX6_live : MethodName := ⟨RX6, "live", "(II)I"⟩
abbrev cX6_want : ByteArray := prog_1_method_5_code
def yX6_want : MethodName := ⟨RX6, "want", "(II)I"⟩
abbrev cX6_loans : ByteArray := prog_1_method_6_code
def yX6_loans : MethodName := ⟨RX6, "loans", "(IIIII)I"⟩
abbrev cX6_answerOfLoans : ByteArray := prog_1_method_7_code
def yX6_answerOfLoans : MethodName := ⟨RX6, "answerOfLoans", "(II)I"⟩
abbrev cX6_answerOfOne : ByteArray := prog_1_method_8_code
def yX6_answerOfOne : MethodName := ⟨RX6, "answerOfOne", "(II)I"⟩
abbrev cX6_fewest : ByteArray := prog_1_method_9_code
def yX6_fewest : MethodName := ⟨RX6, "fewest", "(II)I"⟩
abbrev cX6_match : ByteArray := prog_1_method_10_code
def yX6_match : MethodName := ⟨RX6, "match", "(I)I"⟩
abbrev cX6_help : ByteArray := prog_1_method_11_code
def yX6_help : MethodName := ⟨RX6, "help", "(I)I"⟩
abbrev cX6_reading : ByteArray := prog_1_method_12_code
def yX6_reading : MethodName := ⟨RX6, "reading", "(IIZ)I"⟩
abbrev cX6_back : ByteArray := prog_1_method_13_code
def yX6_back : MethodName := ⟨RX6, "back", "(I)I"⟩
abbrev cX6_told : ByteArray := prog_1_method_14_code
def yX6_told : MethodName := ⟨RX6, "told", "(IIIIII)I"⟩
abbrev cX6_kinds : ByteArray := prog_1_method_15_code
def yX6_kinds : MethodName := ⟨RX6, "kinds", "(IIIII)I"⟩
abbrev cX6_wears : ByteArray := prog_1_method_16_code
def yX6_wears : MethodName := ⟨RX6, "wears", "(IIIII)I"⟩
abbrev cX6_odds : ByteArray := prog_1_method_17_code
def yX6_odds : MethodName := ⟨RX6, "odds", "(IIIIII)J"⟩
abbrev cX6_couldBe : ByteArray := prog_1_method_18_code
def yX6_couldBe : MethodName := ⟨RX6, "couldBe", "(IIII)Z"⟩
abbrev cX6_refusalOfReadLoans : ByteArray := prog_1_method_19_code
def yX6_refusalOfReadLoans : MethodName := ⟨RX6, "refusalOfReadLoans", "(IIIIII)I"⟩
abbrev cX6_sheet : ByteArray := prog_1_method_20_code
def yX6_sheet : MethodName := ⟨RX6, "sheet", "(III)I"⟩
abbrev cX6_lose : ByteArray := prog_1_method_21_code
def yX6_lose : MethodName := ⟨RX6, "lose", "(I)I"⟩
abbrev cX6_put : ByteArray := prog_1_method_22_code
def yX6_put : MethodName := ⟨RX6, "put", "(III)I"⟩
abbrev cX6_cell : ByteArray := prog_1_method_23_code
def yX6_cell : MethodName := ⟨RX6, "cell", "(III)J"⟩
abbrev cX6_copy : ByteArray := prog_1_method_24_code
def yX6_copy : MethodName := ⟨RX6, "copy", "(IIIII)I"⟩
abbrev cX6_tell : ByteArray := prog_1_method_25_code
def yX6_tell : MethodName := ⟨RX6, "tell", "(I)I"⟩
abbrev cX6_hand : ByteArray := prog_1_method_26_code
def yX6_hand : MethodName := ⟨RX6, "hand", "(I)I"⟩
abbrev cX6_as : ByteArray := prog_1_method_27_code
def yX6_as : MethodName := ⟨RX6, "as", "(II)I"⟩
abbrev cX6_trace : ByteArray := prog_1_method_28_code
def yX6_trace : MethodName := ⟨RX6, "trace", "()I"⟩
abbrev cX6_fault : ByteArray := prog_1_method_29_code
def yX6_fault : MethodName := ⟨RX6, "fault", "()I"⟩
abbrev cX6_many : ByteArray := prog_1_method_30_code
def yX6_many : MethodName := ⟨RX6, "many", "(I)I"⟩
abbrev cX6_tellingOfChildhood : ByteArray := prog_1_method_31_code
def yX6_tellingOfChildhood : MethodName := ⟨RX6, "tellingOfChildhood", "(LLentYouths$Person;)I"⟩
abbrev cX6_tellingOfSad : ByteArray := prog_1_method_32_code
def yX6_tellingOfSad : MethodName := ⟨RX6, "tellingOfSad", "(LLentYouths$Person;)I"⟩
abbrev cX6_tellingOfTwin : ByteArray := prog_1_method_33_code
def yX6_tellingOfTwin : MethodName := ⟨RX6, "tellingOfTwin", "(LLentYouths$Person;)I"⟩
abbrev cX6_leaveInTrace : ByteArray := prog_1_method_34_code
def yX6_leaveInTrace : MethodName := ⟨RX6, "leaveInTrace", "(I)V"⟩
abbrev cX6_faultAnswer : ByteArray := prog_1_method_35_code
def yX6_faultAnswer : MethodName := ⟨RX6, "faultAnswer", "(I)I"⟩
abbrev cX6_takeRow : ByteArray := prog_1_method_36_code
def yX6_takeRow : MethodName := ⟨RX6, "takeRow", "(IIII)I"⟩
abbrev cX6_isPerson : ByteArray := prog_1_method_37_code
def yX6_isPerson : MethodName := ⟨RX6, "isPerson", "(I)Z"⟩
abbrev cX6_isSheet : ByteArray := prog_1_method_38_code
def yX6_isSheet : MethodName := ⟨RX6, "isSheet", "(I)Z"⟩
abbrev cX6_isLane : ByteArray := prog_1_method_39_code
def yX6_isLane : MethodName := ⟨RX6, "isLane", "(I)Z"⟩
abbrev cX6_isLoanCount : ByteArray := prog_1_method_40_code
def yX6_isLoanCount : MethodName := ⟨RX6, "isLoanCount", "(I)Z"⟩
abbrev cX6_isLoanQuestion : ByteArray := prog_1_method_41_code
def yX6_isLoanQuestion : MethodName := ⟨RX6, "isLoanQuestion", "(I)Z"⟩
abbrev cX6_lastsOf : ByteArray := prog_1_method_42_code
def yX6_lastsOf : MethodName := ⟨RX6, "lastsOf", "(II)I"⟩
abbrev cX6_cutToLane : ByteArray := prog_1_method_43_code
def yX6_cutToLane : MethodName := ⟨RX6, "cutToLane", "(II)I"⟩
abbrev cX6_firstFaultOfText : ByteArray := prog_1_method_44_code
def yX6_firstFaultOfText : MethodName := ⟨RX6, "firstFaultOfText", "(LLentYouths$Sheet;II)I"⟩
abbrev cX6_textGoesOn : ByteArray := prog_1_method_45_code
def yX6_textGoesOn : MethodName := ⟨RX6, "textGoesOn", "(III)Z"⟩
def RX7 : String := "LentYouthsModel"
def TX7 : u_T := fun k => match k with
  | 0 => ("LentYouthsModel", "fault", "I", false)
  | 1 => ("LentYouthsModel", "people", "I", false)
  | 2 => ("LentYouthsModel", "kindOf", "[I", true)
  | 3 => ("LentYouthsModel", "scenesOf", "[I", true)
  | 4 => ("LentYouthsModel", "wantsOf", "[I", true)
  | 5 => ("LentYouthsModel", "wearOf", "[I", true)
  | 6 => ("LentYouthsModel", "readAt", "I", false)
  | 7 => ("LentYouthsModel", "readPeople", "I", false)
  | 8 => ("LentYouthsModel", "readKind", "[I", true)
  | 9 => ("LentYouthsModel", "readScenes", "[I", true)
  | 10 => ("LentYouthsModel", "readWants", "[I", true)
  | 11 => ("LentYouthsModel", "readWear", "[I", true)
  | 12 => ("LentYouthsModel", "hasNow", "[I", true)
  | 13 => ("LentYouthsModel", "leftIn", "[I", true)
  | 14 => ("LentYouthsModel", "lentOf", "[I", true)
  | 15 => ("LentYouthsModel", "knowsNow", "[I", true)
  | 16 => ("LentYouthsModel", "cameBy", "[I", true)
  | 17 => ("LentYouthsModel", "firstWrong", "I", false)
  | 18 => ("LentYouthsModel", "firstAll", "I", false)
  | 19 => ("LentYouthsModel", "triedOf", "[I", true)
  | 20 => ("LentYouthsModel", "getsOf", "[I", true)
  | 21 => ("LentYouthsModel", "readings", "I", false)
  | 22 => ("LentYouthsModel", "readingOf", "[I", true)
  | 23 => ("LentYouthsModel", "readingScene", "[I", true)
  | 24 => ("LentYouthsModel", "readingKnew", "[Z", true)
  | 25 => ("LentYouthsModel", "sheetSize", "[I", true)
  | 26 => ("LentYouthsModel", "sheetLane", "[I", true)
  | 27 => ("LentYouthsModel", "sheet", "[I", true)
  | 28 => ("LentYouthsModel", "hands", "[I", true)
  | _ => ("LentYouthsModel", "traceNow", "I", false)
def tyX7 : Nat → FieldType := fun k => match k with
  | 0 => .int
  | 1 => .int
  | 2 => .array .int
  | 3 => .array .int
  | 4 => .array .int
  | 5 => .array .int
  | 6 => .int
  | 7 => .int
  | 8 => .array .int
  | 9 => .array .int
  | 10 => .array .int
  | 11 => .array .int
  | 12 => .array .int
  | 13 => .array .int
  | 14 => .array .int
  | 15 => .array .int
  | 16 => .array .int
  | 17 => .int
  | 18 => .int
  | 19 => .array .int
  | 20 => .array .int
  | 21 => .int
  | 22 => .array .int
  | 23 => .array .int
  | 24 => .array .boolean
  | 25 => .array .int
  | 26 => .array .int
  | 27 => .array .int
  | 28 => .array .int
  | _ => .int
abbrev wsX70 : List Cond := u_ws RX7 TX7 30
theorem nmX7 : ∀ a, a < 30 → ∀ b, b < 30 → a ≠ b → (TX7 a).2.1 ≠ (TX7 b).2.1 := by decide +kernel
theorem tyX7_ok : ∀ k, k < 30 → parseFieldDescriptor (TX7 k).2.2.1 = some (tyX7 k) := by decide +kernel
abbrev cX7_init : ByteArray := prog_9_method_1_code
def yX7_init : MethodName := ⟨RX7, "<init>", "()V"⟩
abbrev cX7_in : ByteArray := prog_9_method_2_code
def yX7_in : MethodName := ⟨RX7, "in", "(JJJ)Z"⟩
abbrev cX7_lost : ByteArray := prog_9_method_3_code
def yX7_lost : MethodName := ⟨RX7, "lost", "()J"⟩
abbrev cX7_isIn : ByteArray := prog_9_method_4_code
def yX7_isIn : MethodName := ⟨RX7, "isIn", "(II)Z"⟩
abbrev cX7_refused : ByteArray := prog_9_method_5_code
def yX7_refused : MethodName := ⟨RX7, "refused", "(I)I"⟩
abbrev cX7_failed : ByteArray := prog_9_method_6_code
def yX7_failed : MethodName := ⟨RX7, "failed", "(I)I"⟩
abbrev cX7_failedLong : ByteArray := prog_9_method_7_code
def yX7_failedLong : MethodName := ⟨RX7, "failedLong", "(I)J"⟩
abbrev cX7_noPerson : ByteArray := prog_9_method_8_code
def yX7_noPerson : MethodName := ⟨RX7, "noPerson", "(I)Z"⟩
abbrev cX7_codeAt : ByteArray := prog_9_method_9_code
def yX7_codeAt : MethodName := ⟨RX7, "codeAt", "(II)I"⟩
abbrev cX7_figure : ByteArray := prog_9_method_10_code
def yX7_figure : MethodName := ⟨RX7, "figure", "(IIII)I"⟩
abbrev cX7_readsPerson : ByteArray := prog_9_method_11_code
def yX7_readsPerson : MethodName := ⟨RX7, "readsPerson", "(II)Z"⟩
abbrev cX7_readsCounter : ByteArray := prog_9_method_12_code
def yX7_readsCounter : MethodName := ⟨RX7, "readsCounter", "(II)Z"⟩
abbrev cX7_cellsBarred : ByteArray := prog_9_method_13_code
def yX7_cellsBarred : MethodName := ⟨RX7, "cellsBarred", "(IIIJ)I"⟩
abbrev cX7_counter : ByteArray := prog_9_method_14_code
def yX7_counter : MethodName := ⟨RX7, "counter", "(IIII)I"⟩
abbrev cX7_lastsOf : ByteArray := prog_9_method_15_code
def yX7_lastsOf : MethodName := ⟨RX7, "lastsOf", "(I)I"⟩
abbrev cX7_ofPerson : ByteArray := prog_9_method_16_code
def yX7_ofPerson : MethodName := ⟨RX7, "ofPerson", "(II)I"⟩
abbrev cX7_live : ByteArray := prog_9_method_17_code
def yX7_live : MethodName := ⟨RX7, "live", "(II)I"⟩
abbrev cX7_want : ByteArray := prog_9_method_18_code
def yX7_want : MethodName := ⟨RX7, "want", "(II)I"⟩
abbrev cX7_isMended : ByteArray := prog_9_method_19_code
def yX7_isMended : MethodName := ⟨RX7, "isMended", "(I)Z"⟩
abbrev cX7_mendedNow : ByteArray := prog_9_method_20_code
def yX7_mendedNow : MethodName := ⟨RX7, "mendedNow", "()I"⟩
abbrev cX7_everybody : ByteArray := prog_9_method_21_code
def yX7_everybody : MethodName := ⟨RX7, "everybody", "()I"⟩
abbrev cX7_sees : ByteArray := prog_9_method_22_code
def yX7_sees : MethodName := ⟨RX7, "sees", "(I)V"⟩
abbrev cX7_begin : ByteArray := prog_9_method_23_code
def yX7_begin : MethodName := ⟨RX7, "begin", "()V"⟩
abbrev cX7_canLend : ByteArray := prog_9_method_24_code
def yX7_canLend : MethodName := ⟨RX7, "canLend", "(II)Z"⟩
abbrev cX7_wearsOff : ByteArray := prog_9_method_25_code
def yX7_wearsOff : MethodName := ⟨RX7, "wearsOff", "(I)V"⟩
abbrev cX7_lend : ByteArray := prog_9_method_26_code
def yX7_lend : MethodName := ⟨RX7, "lend", "(II)V"⟩
abbrev cX7_goLoans : ByteArray := prog_9_method_27_code
def yX7_goLoans : MethodName := ⟨RX7, "goLoans", "(II)V"⟩
abbrev cX7_homeBy : ByteArray := prog_9_method_28_code
def yX7_homeBy : MethodName := ⟨RX7, "homeBy", "()I"⟩
abbrev cX7_pairsBarred : ByteArray := prog_9_method_29_code
def yX7_pairsBarred : MethodName := ⟨RX7, "pairsBarred", "(IIII)I"⟩
abbrev cX7_loans : ByteArray := prog_9_method_30_code
def yX7_loans : MethodName := ⟨RX7, "loans", "(IIIII)I"⟩
abbrev cX7_isRow : ByteArray := prog_9_method_31_code
def yX7_isRow : MethodName := ⟨RX7, "isRow", "(III)Z"⟩
abbrev cX7_fewest : ByteArray := prog_9_method_32_code
def yX7_fewest : MethodName := ⟨RX7, "fewest", "(II)I"⟩
abbrev cX7_matchBy : ByteArray := prog_9_method_33_code
def yX7_matchBy : MethodName := ⟨RX7, "matchBy", "(I)I"⟩
abbrev cX7_match : ByteArray := prog_9_method_34_code
def yX7_match : MethodName := ⟨RX7, "match", "(I)I"⟩
abbrev cX7_help : ByteArray := prog_9_method_35_code
def yX7_help : MethodName := ⟨RX7, "help", "(I)I"⟩
abbrev cX7_reading : ByteArray := prog_9_method_36_code
def yX7_reading : MethodName := ⟨RX7, "reading", "(IIZ)I"⟩
abbrev cX7_back : ByteArray := prog_9_method_37_code
def yX7_back : MethodName := ⟨RX7, "back", "(I)I"⟩
abbrev cX7_areSo : ByteArray := prog_9_method_38_code
def yX7_areSo : MethodName := ⟨RX7, "areSo", "(II)Z"⟩
abbrev cX7_seenBarred : ByteArray := prog_9_method_39_code
def yX7_seenBarred : MethodName := ⟨RX7, "seenBarred", "(IIIIIZ)I"⟩
abbrev cX7_told : ByteArray := prog_9_method_40_code
def yX7_told : MethodName := ⟨RX7, "told", "(IIIIII)I"⟩
abbrev cX7_kinds : ByteArray := prog_9_method_41_code
def yX7_kinds : MethodName := ⟨RX7, "kinds", "(IIIII)I"⟩
abbrev cX7_wears : ByteArray := prog_9_method_42_code
def yX7_wears : MethodName := ⟨RX7, "wears", "(IIIII)I"⟩
abbrev cX7_odds : ByteArray := prog_9_method_43_code
def yX7_odds : MethodName := ⟨RX7, "odds", "(IIIIII)J"⟩
abbrev cX7_noSheet : ByteArray := prog_9_method_44_code
def yX7_noSheet : MethodName := ⟨RX7, "noSheet", "(I)Z"⟩
abbrev cX7_sheet : ByteArray := prog_9_method_45_code
def yX7_sheet : MethodName := ⟨RX7, "sheet", "(III)I"⟩
abbrev cX7_lose : ByteArray := prog_9_method_46_code
def yX7_lose : MethodName := ⟨RX7, "lose", "(I)I"⟩
abbrev cX7_noCell : ByteArray := prog_9_method_47_code
def yX7_noCell : MethodName := ⟨RX7, "noCell", "(II)I"⟩
abbrev cX7_put : ByteArray := prog_9_method_48_code
def yX7_put : MethodName := ⟨RX7, "put", "(III)I"⟩
abbrev cX7_cell : ByteArray := prog_9_method_49_code
def yX7_cell : MethodName := ⟨RX7, "cell", "(III)J"⟩
abbrev cX7_isBeyond : ByteArray := prog_9_method_50_code
def yX7_isBeyond : MethodName := ⟨RX7, "isBeyond", "(IJI)Z"⟩
abbrev cX7_copy : ByteArray := prog_9_method_51_code
def yX7_copy : MethodName := ⟨RX7, "copy", "(IIIII)I"⟩
abbrev cX7_traced : ByteArray := prog_9_method_52_code
def yX7_traced : MethodName := ⟨RX7, "traced", "(I)V"⟩
abbrev cX7_tell : ByteArray := prog_9_method_53_code
def yX7_tell : MethodName := ⟨RX7, "tell", "(I)I"⟩
abbrev cX7_hand : ByteArray := prog_9_method_54_code
def yX7_hand : MethodName := ⟨RX7, "hand", "(I)I"⟩
abbrev cX7_as : ByteArray := prog_9_method_55_code
def yX7_as : MethodName := ⟨RX7, "as", "(II)I"⟩
abbrev cX7_trace : ByteArray := prog_9_method_56_code
def yX7_trace : MethodName := ⟨RX7, "trace", "()I"⟩
abbrev cX7_fault : ByteArray := prog_9_method_57_code
def yX7_fault : MethodName := ⟨RX7, "fault", "()I"⟩
abbrev cX7_many : ByteArray := prog_9_method_58_code
def yX7_many : MethodName := ⟨RX7, "many", "(I)I"⟩
def RJ6 : String := "java/lang/Integer"
def TJ6 : u_T := fun k => match k with
  | _ => ("", "", "", false)
def tyJ6 : Nat → FieldType := fun k => match k with
  | _ => .int
abbrev wsJ60 : List Cond := u_ws RJ6 TJ6 0
theorem nmJ6 : ∀ a, a < 0 → ∀ b, b < 0 → a ≠ b → (TJ6 a).2.1 ≠ (TJ6 b).2.1 := by decide +kernel
theorem tyJ6_ok : ∀ k, k < 0 → parseFieldDescriptor (TJ6 k).2.2.1 = some (tyJ6 k) := by decide +kernel
abbrev cJ6_bitCount_0f7a4 : ByteArray := prog_10_method_49_code
def yJ6_bitCount_0f7a4 : MethodName := ⟨RJ6, "bitCount", "(I)I"⟩
def RJ9 : String := "java/lang/Math"
def TJ9 : u_T := fun k => match k with
  | _ => ("", "", "", false)
def tyJ9 : Nat → FieldType := fun k => match k with
  | _ => .int
abbrev wsJ90 : List Cond := u_ws RJ9 TJ9 0
theorem nmJ9 : ∀ a, a < 0 → ∀ b, b < 0 → a ≠ b → (TJ9 a).2.1 ≠ (TJ9 b).2.1 := by decide +kernel
theorem tyJ9_ok : ∀ k, k < 0 → parseFieldDescriptor (TJ9 k).2.2.1 = some (tyJ9 k) := by decide +kernel
abbrev cJ9_max_7cf53 : ByteArray := prog_11_method_65_code
def yJ9_max_7cf53 : MethodName := ⟨RJ9, "max", "(II)I"⟩
abbrev cJ9_min_7cf53 : ByteArray := prog_11_method_69_code
def yJ9_min_7cf53 : MethodName := ⟨RJ9, "min", "(II)I"⟩
def RJ10 : String := "java/lang/System"
def TJ10 : u_T := fun k => match k with
  | _ => ("", "", "", false)
def tyJ10 : Nat → FieldType := fun k => match k with
  | _ => .int
abbrev wsJ100 : List Cond := u_ws RJ10 TJ10 0
theorem nmJ10 : ∀ a, a < 0 → ∀ b, b < 0 → a ≠ b → (TJ10 a).2.1 ≠ (TJ10 b).2.1 := by decide +kernel
theorem tyJ10_ok : ∀ k, k < 0 → parseFieldDescriptor (TJ10 k).2.2.1 = some (tyJ10 k) := by decide +kernel
def RL : String := "LentYouthsLaw"
abbrev cL_law : ByteArray := code
def yL_law : MethodName := ⟨RL, "law", "([I)Z"⟩
abbrev vwCl : List vw_C := [(RX0, TX0, 8), (RX1, TX1, 2), (RX2, TX2, 2), (RX3, TX3, 4), (RX4, TX4, 4), (RX5, TX5, 4), (RX6, TX6, 10), (RX7, TX7, 30)]
end
section
theorem dX0_init_0 : decode cX0_init 0 = .ok (.aload_n 0, 1) := by decide +kernel
theorem dX0_init_1 : decode cX0_init 1 = .ok (.invokespecial 3, 3) := by decide +kernel
theorem dX0_init_4 : decode cX0_init 4 = .ok (.aload_n 0, 1) := by decide +kernel
theorem dX0_init_5 : decode cX0_init 5 = .ok (.bipush 6, 2) := by decide +kernel
theorem dX0_init_7 : decode cX0_init 7 = .ok (.newarray .int, 2) := by decide +kernel
theorem dX0_init_9 : decode cX0_init 9 = .ok (.putfield 9, 3) := by decide +kernel
theorem dX0_init_12 : decode cX0_init 12 = .ok (.aload_n 0, 1) := by decide +kernel
theorem dX0_init_13 : decode cX0_init 13 = .ok (.bipush 6, 2) := by decide +kernel
theorem dX0_init_15 : decode cX0_init 15 = .ok (.newarray .int, 2) := by decide +kernel
theorem dX0_init_17 : decode cX0_init 17 = .ok (.putfield 15, 3) := by decide +kernel
theorem dX0_init_20 : decode cX0_init 20 = .ok (.aload_n 0, 1) := by decide +kernel
theorem dX0_init_21 : decode cX0_init 21 = .ok (.bipush 6, 2) := by decide +kernel
theorem dX0_init_23 : decode cX0_init 23 = .ok (.newarray .int, 2) := by decide +kernel
theorem dX0_init_25 : decode cX0_init 25 = .ok (.putfield 18, 3) := by decide +kernel
theorem dX0_init_28 : decode cX0_init 28 = .ok (.aload_n 0, 1) := by decide +kernel
theorem dX0_init_29 : decode cX0_init 29 = .ok (.bipush 6, 2) := by decide +kernel
theorem dX0_init_31 : decode cX0_init 31 = .ok (.newarray .int, 2) := by decide +kernel
theorem dX0_init_33 : decode cX0_init 33 = .ok (.putfield 21, 3) := by decide +kernel
theorem dX0_init_36 : decode cX0_init 36 = .ok (.aload_n 0, 1) := by decide +kernel
theorem dX0_init_37 : decode cX0_init 37 = .ok (.bipush 6, 2) := by decide +kernel
theorem dX0_init_39 : decode cX0_init 39 = .ok (.newarray .int, 2) := by decide +kernel
theorem dX0_init_41 : decode cX0_init 41 = .ok (.putfield 24, 3) := by decide +kernel
theorem dX0_init_44 : decode cX0_init 44 = .ok (.aload_n 0, 1) := by decide +kernel
theorem dX0_init_45 : decode cX0_init 45 = .ok (.bipush 36, 2) := by decide +kernel
theorem dX0_init_47 : decode cX0_init 47 = .ok (.newarray .int, 2) := by decide +kernel
theorem dX0_init_49 : decode cX0_init 49 = .ok (.putfield 27, 3) := by decide +kernel
theorem dX0_init_52 : decode cX0_init 52 = .ok (.aload_n 0, 1) := by decide +kernel
theorem dX0_init_53 : decode cX0_init 53 = .ok (.iconst 0, 1) := by decide +kernel
theorem dX0_init_54 : decode cX0_init 54 = .ok (.anewarray 30, 3) := by decide +kernel
theorem dX0_init_57 : decode cX0_init 57 = .ok (.putfield 32, 3) := by decide +kernel
theorem dX0_init_60 : decode cX0_init 60 = .ok (.aload_n 0, 1) := by decide +kernel
theorem dX0_init_61 : decode cX0_init 61 = .ok (.iconst 0, 1) := by decide +kernel
theorem dX0_init_62 : decode cX0_init 62 = .ok (.putfield 36, 3) := by decide +kernel
theorem dX0_init_65 : decode cX0_init 65 = .ok (.return_, 1) := by decide +kernel
theorem dX0_begin_0 : decode cX0_begin 0 = .ok (.aload_n 0, 1) := by decide +kernel
theorem dX0_begin_1 : decode cX0_begin 1 = .ok (.aload_n 1, 1) := by decide +kernel
theorem dX0_begin_2 : decode cX0_begin 2 = .ok (.putfield 32, 3) := by decide +kernel
theorem dX0_begin_5 : decode cX0_begin 5 = .ok (.aload_n 0, 1) := by decide +kernel
theorem dX0_begin_6 : decode cX0_begin 6 = .ok (.iload_n 2, 1) := by decide +kernel
theorem dX0_begin_7 : decode cX0_begin 7 = .ok (.aload_n 1, 1) := by decide +kernel
theorem dX0_begin_8 : decode cX0_begin 8 = .ok (.arraylength, 1) := by decide +kernel
theorem dX0_begin_9 : decode cX0_begin 9 = .ok (.bipush 6, 2) := by decide +kernel
theorem dX0_begin_11 : decode cX0_begin 11 = .ok (.invokestatic 40, 3) := by decide +kernel
theorem dX0_begin_14 : decode cX0_begin 14 = .ok (.invokestatic 40, 3) := by decide +kernel
theorem dX0_begin_17 : decode cX0_begin 17 = .ok (.putfield 36, 3) := by decide +kernel
theorem dX0_begin_20 : decode cX0_begin 20 = .ok (.iconst 0, 1) := by decide +kernel
theorem dX0_begin_21 : decode cX0_begin 21 = .ok (.istore_n 3, 1) := by decide +kernel
theorem dX0_begin_22 : decode cX0_begin 22 = .ok (.iload_n 3, 1) := by decide +kernel
theorem dX0_begin_23 : decode cX0_begin 23 = .ok (.aload_n 0, 1) := by decide +kernel
theorem dX0_begin_24 : decode cX0_begin 24 = .ok (.getfield 27, 3) := by decide +kernel
theorem dX0_begin_27 : decode cX0_begin 27 = .ok (.arraylength, 1) := by decide +kernel
theorem dX0_begin_28 : decode cX0_begin 28 = .ok (.if_icmp .ge 16, 3) := by decide +kernel
theorem dX0_begin_31 : decode cX0_begin 31 = .ok (.aload_n 0, 1) := by decide +kernel
theorem dX0_begin_32 : decode cX0_begin 32 = .ok (.getfield 27, 3) := by decide +kernel
theorem dX0_begin_35 : decode cX0_begin 35 = .ok (.iload_n 3, 1) := by decide +kernel
theorem dX0_begin_36 : decode cX0_begin 36 = .ok (.iconst 0, 1) := by decide +kernel
theorem dX0_begin_37 : decode cX0_begin 37 = .ok (.iastore, 1) := by decide +kernel
theorem dX0_begin_38 : decode cX0_begin 38 = .ok (.iinc 3 1, 3) := by decide +kernel
theorem dX0_begin_41 : decode cX0_begin 41 = .ok (.goto (-19), 3) := by decide +kernel
theorem dX0_begin_44 : decode cX0_begin 44 = .ok (.iconst 0, 1) := by decide +kernel
theorem dX0_begin_45 : decode cX0_begin 45 = .ok (.istore_n 3, 1) := by decide +kernel
theorem dX0_begin_46 : decode cX0_begin 46 = .ok (.iload_n 3, 1) := by decide +kernel
theorem dX0_begin_47 : decode cX0_begin 47 = .ok (.aload_n 0, 1) := by decide +kernel
theorem dX0_begin_48 : decode cX0_begin 48 = .ok (.getfield 36, 3) := by decide +kernel
theorem dX0_begin_51 : decode cX0_begin 51 = .ok (.if_icmp .ge 46, 3) := by decide +kernel
theorem dX0_begin_54 : decode cX0_begin 54 = .ok (.aload_n 0, 1) := by decide +kernel
theorem dX0_begin_55 : decode cX0_begin 55 = .ok (.getfield 18, 3) := by decide +kernel
theorem dX0_begin_58 : decode cX0_begin 58 = .ok (.iload_n 3, 1) := by decide +kernel
theorem dX0_begin_59 : decode cX0_begin 59 = .ok (.iconst 0, 1) := by decide +kernel
theorem dX0_begin_60 : decode cX0_begin 60 = .ok (.iastore, 1) := by decide +kernel
theorem dX0_begin_61 : decode cX0_begin 61 = .ok (.aload_n 0, 1) := by decide +kernel
theorem dX0_begin_62 : decode cX0_begin 62 = .ok (.getfield 21, 3) := by decide +kernel
theorem dX0_begin_65 : decode cX0_begin 65 = .ok (.iload_n 3, 1) := by decide +kernel
theorem dX0_begin_66 : decode cX0_begin 66 = .ok (.iload_n 3, 1) := by decide +kernel
theorem dX0_begin_67 : decode cX0_begin 67 = .ok (.iastore, 1) := by decide +kernel
theorem dX0_begin_68 : decode cX0_begin 68 = .ok (.aload_n 0, 1) := by decide +kernel
theorem dX0_begin_69 : decode cX0_begin 69 = .ok (.iload_n 3, 1) := by decide +kernel
theorem dX0_begin_70 : decode cX0_begin 70 = .ok (.aload_n 0, 1) := by decide +kernel
theorem dX0_begin_71 : decode cX0_begin 71 = .ok (.getfield 32, 3) := by decide +kernel
theorem dX0_begin_74 : decode cX0_begin 74 = .ok (.iload_n 3, 1) := by decide +kernel
theorem dX0_begin_75 : decode cX0_begin 75 = .ok (.aaload, 1) := by decide +kernel
theorem dX0_begin_76 : decode cX0_begin 76 = .ok (.getfield 46, 3) := by decide +kernel
theorem dX0_begin_79 : decode cX0_begin 79 = .ok (.aload_n 0, 1) := by decide +kernel
theorem dX0_begin_80 : decode cX0_begin 80 = .ok (.getfield 32, 3) := by decide +kernel
theorem dX0_begin_83 : decode cX0_begin 83 = .ok (.iload_n 3, 1) := by decide +kernel
theorem dX0_begin_84 : decode cX0_begin 84 = .ok (.aaload, 1) := by decide +kernel
theorem dX0_begin_85 : decode cX0_begin 85 = .ok (.invokevirtual 49, 3) := by decide +kernel
theorem dX0_begin_88 : decode cX0_begin 88 = .ok (.invokevirtual 52, 3) := by decide +kernel
theorem dX0_begin_91 : decode cX0_begin 91 = .ok (.iinc 3 1, 3) := by decide +kernel
theorem dX0_begin_94 : decode cX0_begin 94 = .ok (.goto (-48), 3) := by decide +kernel
theorem dX0_begin_97 : decode cX0_begin 97 = .ok (.return_, 1) := by decide +kernel
theorem dX0_place_0 : decode cX0_place 0 = .ok (.aload_n 0, 1) := by decide +kernel
theorem dX0_place_1 : decode cX0_place 1 = .ok (.getfield 9, 3) := by decide +kernel
theorem dX0_place_4 : decode cX0_place 4 = .ok (.iload_n 1, 1) := by decide +kernel
theorem dX0_place_5 : decode cX0_place 5 = .ok (.iload_n 2, 1) := by decide +kernel
theorem dX0_place_6 : decode cX0_place 6 = .ok (.iastore, 1) := by decide +kernel
theorem dX0_place_7 : decode cX0_place 7 = .ok (.aload_n 0, 1) := by decide +kernel
theorem dX0_place_8 : decode cX0_place 8 = .ok (.getfield 15, 3) := by decide +kernel
theorem dX0_place_11 : decode cX0_place 11 = .ok (.iload_n 1, 1) := by decide +kernel
theorem dX0_place_12 : decode cX0_place 12 = .ok (.iload_n 3, 1) := by decide +kernel
theorem dX0_place_13 : decode cX0_place 13 = .ok (.iastore, 1) := by decide +kernel
theorem dX0_place_14 : decode cX0_place 14 = .ok (.aload_n 0, 1) := by decide +kernel
theorem dX0_place_15 : decode cX0_place 15 = .ok (.getfield 24, 3) := by decide +kernel
theorem dX0_place_18 : decode cX0_place 18 = .ok (.iload_n 1, 1) := by decide +kernel
theorem dX0_place_19 : decode cX0_place 19 = .ok (.iload_n 2, 1) := by decide +kernel
theorem dX0_place_20 : decode cX0_place 20 = .ok (.iastore, 1) := by decide +kernel
theorem dX0_place_21 : decode cX0_place 21 = .ok (.aload_n 0, 1) := by decide +kernel
theorem dX0_place_22 : decode cX0_place 22 = .ok (.getfield 27, 3) := by decide +kernel
theorem dX0_place_25 : decode cX0_place 25 = .ok (.bipush 6, 2) := by decide +kernel
theorem dX0_place_27 : decode cX0_place 27 = .ok (.iload_n 1, 1) := by decide +kernel
theorem dX0_place_28 : decode cX0_place 28 = .ok (.imul, 1) := by decide +kernel
theorem dX0_place_29 : decode cX0_place 29 = .ok (.iload_n 1, 1) := by decide +kernel
theorem dX0_place_30 : decode cX0_place 30 = .ok (.iadd, 1) := by decide +kernel
theorem dX0_place_31 : decode cX0_place 31 = .ok (.iload_n 2, 1) := by decide +kernel
theorem dX0_place_32 : decode cX0_place 32 = .ok (.iastore, 1) := by decide +kernel
theorem dX0_place_33 : decode cX0_place 33 = .ok (.return_, 1) := by decide +kernel
theorem dX0_becomeLike_0 : decode cX0_becomeLike 0 = .ok (.aload_n 0, 1) := by decide +kernel
theorem dX0_becomeLike_1 : decode cX0_becomeLike 1 = .ok (.aload_n 1, 1) := by decide +kernel
theorem dX0_becomeLike_2 : decode cX0_becomeLike 2 = .ok (.getfield 32, 3) := by decide +kernel
theorem dX0_becomeLike_5 : decode cX0_becomeLike 5 = .ok (.putfield 32, 3) := by decide +kernel
theorem dX0_becomeLike_8 : decode cX0_becomeLike 8 = .ok (.aload_n 0, 1) := by decide +kernel
theorem dX0_becomeLike_9 : decode cX0_becomeLike 9 = .ok (.aload_n 1, 1) := by decide +kernel
theorem dX0_becomeLike_10 : decode cX0_becomeLike 10 = .ok (.getfield 36, 3) := by decide +kernel
theorem dX0_becomeLike_13 : decode cX0_becomeLike 13 = .ok (.putfield 36, 3) := by decide +kernel
theorem dX0_becomeLike_16 : decode cX0_becomeLike 16 = .ok (.aload_n 1, 1) := by decide +kernel
theorem dX0_becomeLike_17 : decode cX0_becomeLike 17 = .ok (.getfield 9, 3) := by decide +kernel
theorem dX0_becomeLike_20 : decode cX0_becomeLike 20 = .ok (.iconst 0, 1) := by decide +kernel
theorem dX0_becomeLike_21 : decode cX0_becomeLike 21 = .ok (.aload_n 0, 1) := by decide +kernel
theorem dX0_becomeLike_22 : decode cX0_becomeLike 22 = .ok (.getfield 9, 3) := by decide +kernel
theorem dX0_becomeLike_25 : decode cX0_becomeLike 25 = .ok (.iconst 0, 1) := by decide +kernel
theorem dX0_becomeLike_26 : decode cX0_becomeLike 26 = .ok (.bipush 6, 2) := by decide +kernel
theorem dX0_becomeLike_28 : decode cX0_becomeLike 28 = .ok (.invokestatic 56, 3) := by decide +kernel
theorem dX0_becomeLike_31 : decode cX0_becomeLike 31 = .ok (.aload_n 1, 1) := by decide +kernel
theorem dX0_becomeLike_32 : decode cX0_becomeLike 32 = .ok (.getfield 15, 3) := by decide +kernel
theorem dX0_becomeLike_35 : decode cX0_becomeLike 35 = .ok (.iconst 0, 1) := by decide +kernel
theorem dX0_becomeLike_36 : decode cX0_becomeLike 36 = .ok (.aload_n 0, 1) := by decide +kernel
theorem dX0_becomeLike_37 : decode cX0_becomeLike 37 = .ok (.getfield 15, 3) := by decide +kernel
theorem dX0_becomeLike_40 : decode cX0_becomeLike 40 = .ok (.iconst 0, 1) := by decide +kernel
theorem dX0_becomeLike_41 : decode cX0_becomeLike 41 = .ok (.bipush 6, 2) := by decide +kernel
theorem dX0_becomeLike_43 : decode cX0_becomeLike 43 = .ok (.invokestatic 56, 3) := by decide +kernel
theorem dX0_becomeLike_46 : decode cX0_becomeLike 46 = .ok (.aload_n 1, 1) := by decide +kernel
theorem dX0_becomeLike_47 : decode cX0_becomeLike 47 = .ok (.getfield 18, 3) := by decide +kernel
theorem dX0_becomeLike_50 : decode cX0_becomeLike 50 = .ok (.iconst 0, 1) := by decide +kernel
theorem dX0_becomeLike_51 : decode cX0_becomeLike 51 = .ok (.aload_n 0, 1) := by decide +kernel
theorem dX0_becomeLike_52 : decode cX0_becomeLike 52 = .ok (.getfield 18, 3) := by decide +kernel
theorem dX0_becomeLike_55 : decode cX0_becomeLike 55 = .ok (.iconst 0, 1) := by decide +kernel
theorem dX0_becomeLike_56 : decode cX0_becomeLike 56 = .ok (.bipush 6, 2) := by decide +kernel
theorem dX0_becomeLike_58 : decode cX0_becomeLike 58 = .ok (.invokestatic 56, 3) := by decide +kernel
theorem dX0_becomeLike_61 : decode cX0_becomeLike 61 = .ok (.aload_n 1, 1) := by decide +kernel
theorem dX0_becomeLike_62 : decode cX0_becomeLike 62 = .ok (.getfield 21, 3) := by decide +kernel
theorem dX0_becomeLike_65 : decode cX0_becomeLike 65 = .ok (.iconst 0, 1) := by decide +kernel
theorem dX0_becomeLike_66 : decode cX0_becomeLike 66 = .ok (.aload_n 0, 1) := by decide +kernel
theorem dX0_becomeLike_67 : decode cX0_becomeLike 67 = .ok (.getfield 21, 3) := by decide +kernel
theorem dX0_becomeLike_70 : decode cX0_becomeLike 70 = .ok (.iconst 0, 1) := by decide +kernel
theorem dX0_becomeLike_71 : decode cX0_becomeLike 71 = .ok (.bipush 6, 2) := by decide +kernel
theorem dX0_becomeLike_73 : decode cX0_becomeLike 73 = .ok (.invokestatic 56, 3) := by decide +kernel
theorem dX0_becomeLike_76 : decode cX0_becomeLike 76 = .ok (.aload_n 1, 1) := by decide +kernel
theorem dX0_becomeLike_77 : decode cX0_becomeLike 77 = .ok (.getfield 24, 3) := by decide +kernel
theorem dX0_becomeLike_80 : decode cX0_becomeLike 80 = .ok (.iconst 0, 1) := by decide +kernel
theorem dX0_becomeLike_81 : decode cX0_becomeLike 81 = .ok (.aload_n 0, 1) := by decide +kernel
theorem dX0_becomeLike_82 : decode cX0_becomeLike 82 = .ok (.getfield 24, 3) := by decide +kernel
theorem dX0_becomeLike_85 : decode cX0_becomeLike 85 = .ok (.iconst 0, 1) := by decide +kernel
theorem dX0_becomeLike_86 : decode cX0_becomeLike 86 = .ok (.bipush 6, 2) := by decide +kernel
theorem dX0_becomeLike_88 : decode cX0_becomeLike 88 = .ok (.invokestatic 56, 3) := by decide +kernel
theorem dX0_becomeLike_91 : decode cX0_becomeLike 91 = .ok (.aload_n 1, 1) := by decide +kernel
theorem dX0_becomeLike_92 : decode cX0_becomeLike 92 = .ok (.getfield 27, 3) := by decide +kernel
theorem dX0_becomeLike_95 : decode cX0_becomeLike 95 = .ok (.iconst 0, 1) := by decide +kernel
theorem dX0_becomeLike_96 : decode cX0_becomeLike 96 = .ok (.aload_n 0, 1) := by decide +kernel
theorem dX0_becomeLike_97 : decode cX0_becomeLike 97 = .ok (.getfield 27, 3) := by decide +kernel
theorem dX0_becomeLike_100 : decode cX0_becomeLike 100 = .ok (.iconst 0, 1) := by decide +kernel
theorem dX0_becomeLike_101 : decode cX0_becomeLike 101 = .ok (.aload_n 0, 1) := by decide +kernel
theorem dX0_becomeLike_102 : decode cX0_becomeLike 102 = .ok (.getfield 27, 3) := by decide +kernel
theorem dX0_becomeLike_105 : decode cX0_becomeLike 105 = .ok (.arraylength, 1) := by decide +kernel
theorem dX0_becomeLike_106 : decode cX0_becomeLike 106 = .ok (.invokestatic 56, 3) := by decide +kernel
theorem dX0_becomeLike_109 : decode cX0_becomeLike 109 = .ok (.return_, 1) := by decide +kernel
theorem dX0_play_0 : decode cX0_play 0 = .ok (.iconst 0, 1) := by decide +kernel
theorem dX0_play_1 : decode cX0_play 1 = .ok (.istore_n 3, 1) := by decide +kernel
theorem dX0_play_2 : decode cX0_play 2 = .ok (.iload_n 3, 1) := by decide +kernel
theorem dX0_play_3 : decode cX0_play 3 = .ok (.iload_n 2, 1) := by decide +kernel
theorem dX0_play_4 : decode cX0_play 4 = .ok (.if_icmp .ge 46, 3) := by decide +kernel
theorem dX0_play_7 : decode cX0_play 7 = .ok (.aload_n 0, 1) := by decide +kernel
theorem dX0_play_8 : decode cX0_play 8 = .ok (.aload_n 1, 1) := by decide +kernel
theorem dX0_play_9 : decode cX0_play 9 = .ok (.iconst 2, 1) := by decide +kernel
theorem dX0_play_10 : decode cX0_play 10 = .ok (.iload_n 3, 1) := by decide +kernel
theorem dX0_play_11 : decode cX0_play 11 = .ok (.imul, 1) := by decide +kernel
theorem dX0_play_12 : decode cX0_play 12 = .ok (.iaload, 1) := by decide +kernel
theorem dX0_play_13 : decode cX0_play 13 = .ok (.aload_n 1, 1) := by decide +kernel
theorem dX0_play_14 : decode cX0_play 14 = .ok (.iconst 2, 1) := by decide +kernel
theorem dX0_play_15 : decode cX0_play 15 = .ok (.iload_n 3, 1) := by decide +kernel
theorem dX0_play_16 : decode cX0_play 16 = .ok (.imul, 1) := by decide +kernel
theorem dX0_play_17 : decode cX0_play 17 = .ok (.iconst 1, 1) := by decide +kernel
theorem dX0_play_18 : decode cX0_play 18 = .ok (.iadd, 1) := by decide +kernel
theorem dX0_play_19 : decode cX0_play 19 = .ok (.iaload, 1) := by decide +kernel
theorem dX0_play_20 : decode cX0_play 20 = .ok (.invokevirtual 62, 3) := by decide +kernel
theorem dX0_play_23 : decode cX0_play 23 = .ok (.ifCond .ne 5, 3) := by decide +kernel
theorem dX0_play_26 : decode cX0_play 26 = .ok (.iload_n 3, 1) := by decide +kernel
theorem dX0_play_27 : decode cX0_play 27 = .ok (.ireturn, 1) := by decide +kernel
theorem dX0_play_28 : decode cX0_play 28 = .ok (.aload_n 0, 1) := by decide +kernel
theorem dX0_play_29 : decode cX0_play 29 = .ok (.aload_n 1, 1) := by decide +kernel
theorem dX0_play_30 : decode cX0_play 30 = .ok (.iconst 2, 1) := by decide +kernel
theorem dX0_play_31 : decode cX0_play 31 = .ok (.iload_n 3, 1) := by decide +kernel
theorem dX0_play_32 : decode cX0_play 32 = .ok (.imul, 1) := by decide +kernel
theorem dX0_play_33 : decode cX0_play 33 = .ok (.iaload, 1) := by decide +kernel
theorem dX0_play_34 : decode cX0_play 34 = .ok (.aload_n 1, 1) := by decide +kernel
theorem dX0_play_35 : decode cX0_play 35 = .ok (.iconst 2, 1) := by decide +kernel
theorem dX0_play_36 : decode cX0_play 36 = .ok (.iload_n 3, 1) := by decide +kernel
theorem dX0_play_37 : decode cX0_play 37 = .ok (.imul, 1) := by decide +kernel
theorem dX0_play_38 : decode cX0_play 38 = .ok (.iconst 1, 1) := by decide +kernel
theorem dX0_play_39 : decode cX0_play 39 = .ok (.iadd, 1) := by decide +kernel
theorem dX0_play_40 : decode cX0_play 40 = .ok (.iaload, 1) := by decide +kernel
theorem dX0_play_41 : decode cX0_play 41 = .ok (.invokevirtual 66, 3) := by decide +kernel
theorem dX0_play_44 : decode cX0_play 44 = .ok (.iinc 3 1, 3) := by decide +kernel
theorem dX0_play_47 : decode cX0_play 47 = .ok (.goto (-45), 3) := by decide +kernel
theorem dX0_play_50 : decode cX0_play 50 = .ok (.bipush (-9), 2) := by decide +kernel
theorem dX0_play_52 : decode cX0_play 52 = .ok (.ireturn, 1) := by decide +kernel
theorem dX0_firstThatMendsAll_0 : decode cX0_firstThatMendsAll 0 = .ok (.iconst 1, 1) := by decide +kernel
theorem dX0_firstThatMendsAll_1 : decode cX0_firstThatMendsAll 1 = .ok (.aload_n 0, 1) := by decide +kernel
theorem dX0_firstThatMendsAll_2 : decode cX0_firstThatMendsAll 2 = .ok (.getfield 36, 3) := by decide +kernel
theorem dX0_firstThatMendsAll_5 : decode cX0_firstThatMendsAll 5 = .ok (.ishl, 1) := by decide +kernel
theorem dX0_firstThatMendsAll_6 : decode cX0_firstThatMendsAll 6 = .ok (.iconst 1, 1) := by decide +kernel
theorem dX0_firstThatMendsAll_7 : decode cX0_firstThatMendsAll 7 = .ok (.isub, 1) := by decide +kernel
theorem dX0_firstThatMendsAll_8 : decode cX0_firstThatMendsAll 8 = .ok (.istore_n 3, 1) := by decide +kernel
theorem dX0_firstThatMendsAll_9 : decode cX0_firstThatMendsAll 9 = .ok (.aload_n 0, 1) := by decide +kernel
theorem dX0_firstThatMendsAll_10 : decode cX0_firstThatMendsAll 10 = .ok (.invokevirtual 70, 3) := by decide +kernel
theorem dX0_firstThatMendsAll_13 : decode cX0_firstThatMendsAll 13 = .ok (.iload_n 3, 1) := by decide +kernel
theorem dX0_firstThatMendsAll_14 : decode cX0_firstThatMendsAll 14 = .ok (.if_icmp .ne 6, 3) := by decide +kernel
theorem dX0_firstThatMendsAll_17 : decode cX0_firstThatMendsAll 17 = .ok (.bipush (-9), 2) := by decide +kernel
theorem dX0_firstThatMendsAll_19 : decode cX0_firstThatMendsAll 19 = .ok (.ireturn, 1) := by decide +kernel
theorem dX0_firstThatMendsAll_20 : decode cX0_firstThatMendsAll 20 = .ok (.iconst 0, 1) := by decide +kernel
theorem dX0_firstThatMendsAll_21 : decode cX0_firstThatMendsAll 21 = .ok (.istore 4, 2) := by decide +kernel
theorem dX0_firstThatMendsAll_23 : decode cX0_firstThatMendsAll 23 = .ok (.iload 4, 2) := by decide +kernel
theorem dX0_firstThatMendsAll_25 : decode cX0_firstThatMendsAll 25 = .ok (.iload_n 2, 1) := by decide +kernel
theorem dX0_firstThatMendsAll_26 : decode cX0_firstThatMendsAll 26 = .ok (.if_icmp .ge 38, 3) := by decide +kernel
theorem dX0_firstThatMendsAll_29 : decode cX0_firstThatMendsAll 29 = .ok (.aload_n 0, 1) := by decide +kernel
theorem dX0_firstThatMendsAll_30 : decode cX0_firstThatMendsAll 30 = .ok (.aload_n 1, 1) := by decide +kernel
theorem dX0_firstThatMendsAll_31 : decode cX0_firstThatMendsAll 31 = .ok (.iconst 2, 1) := by decide +kernel
theorem dX0_firstThatMendsAll_32 : decode cX0_firstThatMendsAll 32 = .ok (.iload 4, 2) := by decide +kernel
theorem dX0_firstThatMendsAll_34 : decode cX0_firstThatMendsAll 34 = .ok (.imul, 1) := by decide +kernel
theorem dX0_firstThatMendsAll_35 : decode cX0_firstThatMendsAll 35 = .ok (.iaload, 1) := by decide +kernel
theorem dX0_firstThatMendsAll_36 : decode cX0_firstThatMendsAll 36 = .ok (.aload_n 1, 1) := by decide +kernel
theorem dX0_firstThatMendsAll_37 : decode cX0_firstThatMendsAll 37 = .ok (.iconst 2, 1) := by decide +kernel
theorem dX0_firstThatMendsAll_38 : decode cX0_firstThatMendsAll 38 = .ok (.iload 4, 2) := by decide +kernel
theorem dX0_firstThatMendsAll_40 : decode cX0_firstThatMendsAll 40 = .ok (.imul, 1) := by decide +kernel
theorem dX0_firstThatMendsAll_41 : decode cX0_firstThatMendsAll 41 = .ok (.iconst 1, 1) := by decide +kernel
theorem dX0_firstThatMendsAll_42 : decode cX0_firstThatMendsAll 42 = .ok (.iadd, 1) := by decide +kernel
theorem dX0_firstThatMendsAll_43 : decode cX0_firstThatMendsAll 43 = .ok (.iaload, 1) := by decide +kernel
theorem dX0_firstThatMendsAll_44 : decode cX0_firstThatMendsAll 44 = .ok (.invokevirtual 66, 3) := by decide +kernel
theorem dX0_firstThatMendsAll_47 : decode cX0_firstThatMendsAll 47 = .ok (.aload_n 0, 1) := by decide +kernel
theorem dX0_firstThatMendsAll_48 : decode cX0_firstThatMendsAll 48 = .ok (.invokevirtual 70, 3) := by decide +kernel
theorem dX0_firstThatMendsAll_51 : decode cX0_firstThatMendsAll 51 = .ok (.iload_n 3, 1) := by decide +kernel
theorem dX0_firstThatMendsAll_52 : decode cX0_firstThatMendsAll 52 = .ok (.if_icmp .ne 6, 3) := by decide +kernel
theorem dX0_firstThatMendsAll_55 : decode cX0_firstThatMendsAll 55 = .ok (.iload 4, 2) := by decide +kernel
theorem dX0_firstThatMendsAll_57 : decode cX0_firstThatMendsAll 57 = .ok (.ireturn, 1) := by decide +kernel
theorem dX0_firstThatMendsAll_58 : decode cX0_firstThatMendsAll 58 = .ok (.iinc 4 1, 3) := by decide +kernel
theorem dX0_firstThatMendsAll_61 : decode cX0_firstThatMendsAll 61 = .ok (.goto (-38), 3) := by decide +kernel
theorem dX0_firstThatMendsAll_64 : decode cX0_firstThatMendsAll 64 = .ok (.bipush (-9), 2) := by decide +kernel
theorem dX0_firstThatMendsAll_66 : decode cX0_firstThatMendsAll 66 = .ok (.ireturn, 1) := by decide +kernel
theorem dX0_canLend_0 : decode cX0_canLend 0 = .ok (.iload_n 1, 1) := by decide +kernel
theorem dX0_canLend_1 : decode cX0_canLend 1 = .ok (.iload_n 2, 1) := by decide +kernel
theorem dX0_canLend_2 : decode cX0_canLend 2 = .ok (.if_icmp .eq 35, 3) := by decide +kernel
theorem dX0_canLend_5 : decode cX0_canLend 5 = .ok (.aload_n 0, 1) := by decide +kernel
theorem dX0_canLend_6 : decode cX0_canLend 6 = .ok (.getfield 9, 3) := by decide +kernel
theorem dX0_canLend_9 : decode cX0_canLend 9 = .ok (.aload_n 0, 1) := by decide +kernel
theorem dX0_canLend_10 : decode cX0_canLend 10 = .ok (.getfield 21, 3) := by decide +kernel
theorem dX0_canLend_13 : decode cX0_canLend 13 = .ok (.iload_n 1, 1) := by decide +kernel
theorem dX0_canLend_14 : decode cX0_canLend 14 = .ok (.iaload, 1) := by decide +kernel
theorem dX0_canLend_15 : decode cX0_canLend 15 = .ok (.iaload, 1) := by decide +kernel
theorem dX0_canLend_16 : decode cX0_canLend 16 = .ok (.ifCond .eq 21, 3) := by decide +kernel
theorem dX0_canLend_19 : decode cX0_canLend 19 = .ok (.aload_n 0, 1) := by decide +kernel
theorem dX0_canLend_20 : decode cX0_canLend 20 = .ok (.getfield 9, 3) := by decide +kernel
theorem dX0_canLend_23 : decode cX0_canLend 23 = .ok (.aload_n 0, 1) := by decide +kernel
theorem dX0_canLend_24 : decode cX0_canLend 24 = .ok (.getfield 21, 3) := by decide +kernel
theorem dX0_canLend_27 : decode cX0_canLend 27 = .ok (.iload_n 2, 1) := by decide +kernel
theorem dX0_canLend_28 : decode cX0_canLend 28 = .ok (.iaload, 1) := by decide +kernel
theorem dX0_canLend_29 : decode cX0_canLend 29 = .ok (.iaload, 1) := by decide +kernel
theorem dX0_canLend_30 : decode cX0_canLend 30 = .ok (.ifCond .eq 7, 3) := by decide +kernel
theorem dX0_canLend_33 : decode cX0_canLend 33 = .ok (.iconst 1, 1) := by decide +kernel
theorem dX0_canLend_34 : decode cX0_canLend 34 = .ok (.goto 4, 3) := by decide +kernel
theorem dX0_canLend_37 : decode cX0_canLend 37 = .ok (.iconst 0, 1) := by decide +kernel
theorem dX0_canLend_38 : decode cX0_canLend 38 = .ok (.ireturn, 1) := by decide +kernel
theorem dX0_lend_0 : decode cX0_lend 0 = .ok (.aload_n 0, 1) := by decide +kernel
theorem dX0_lend_1 : decode cX0_lend 1 = .ok (.getfield 21, 3) := by decide +kernel
theorem dX0_lend_4 : decode cX0_lend 4 = .ok (.iload_n 1, 1) := by decide +kernel
theorem dX0_lend_5 : decode cX0_lend 5 = .ok (.iaload, 1) := by decide +kernel
theorem dX0_lend_6 : decode cX0_lend 6 = .ok (.istore_n 3, 1) := by decide +kernel
theorem dX0_lend_7 : decode cX0_lend 7 = .ok (.aload_n 0, 1) := by decide +kernel
theorem dX0_lend_8 : decode cX0_lend 8 = .ok (.getfield 21, 3) := by decide +kernel
theorem dX0_lend_11 : decode cX0_lend 11 = .ok (.iload_n 1, 1) := by decide +kernel
theorem dX0_lend_12 : decode cX0_lend 12 = .ok (.aload_n 0, 1) := by decide +kernel
theorem dX0_lend_13 : decode cX0_lend 13 = .ok (.getfield 21, 3) := by decide +kernel
theorem dX0_lend_16 : decode cX0_lend 16 = .ok (.iload_n 2, 1) := by decide +kernel
theorem dX0_lend_17 : decode cX0_lend 17 = .ok (.iaload, 1) := by decide +kernel
theorem dX0_lend_18 : decode cX0_lend 18 = .ok (.iastore, 1) := by decide +kernel
theorem dX0_lend_19 : decode cX0_lend 19 = .ok (.aload_n 0, 1) := by decide +kernel
theorem dX0_lend_20 : decode cX0_lend 20 = .ok (.getfield 21, 3) := by decide +kernel
theorem dX0_lend_23 : decode cX0_lend 23 = .ok (.iload_n 2, 1) := by decide +kernel
theorem dX0_lend_24 : decode cX0_lend 24 = .ok (.iload_n 3, 1) := by decide +kernel
theorem dX0_lend_25 : decode cX0_lend 25 = .ok (.iastore, 1) := by decide +kernel
theorem dX0_lend_26 : decode cX0_lend 26 = .ok (.aload_n 0, 1) := by decide +kernel
theorem dX0_lend_27 : decode cX0_lend 27 = .ok (.aload_n 0, 1) := by decide +kernel
theorem dX0_lend_28 : decode cX0_lend 28 = .ok (.getfield 21, 3) := by decide +kernel
theorem dX0_lend_31 : decode cX0_lend 31 = .ok (.iload_n 1, 1) := by decide +kernel
theorem dX0_lend_32 : decode cX0_lend 32 = .ok (.iaload, 1) := by decide +kernel
theorem dX0_lend_33 : decode cX0_lend 33 = .ok (.invokevirtual 73, 3) := by decide +kernel
theorem dX0_lend_36 : decode cX0_lend 36 = .ok (.aload_n 0, 1) := by decide +kernel
theorem dX0_lend_37 : decode cX0_lend 37 = .ok (.aload_n 0, 1) := by decide +kernel
theorem dX0_lend_38 : decode cX0_lend 38 = .ok (.getfield 21, 3) := by decide +kernel
theorem dX0_lend_41 : decode cX0_lend 41 = .ok (.iload_n 2, 1) := by decide +kernel
theorem dX0_lend_42 : decode cX0_lend 42 = .ok (.iaload, 1) := by decide +kernel
theorem dX0_lend_43 : decode cX0_lend 43 = .ok (.invokevirtual 73, 3) := by decide +kernel
theorem dX0_lend_46 : decode cX0_lend 46 = .ok (.aload_n 0, 1) := by decide +kernel
theorem dX0_lend_47 : decode cX0_lend 47 = .ok (.iload_n 1, 1) := by decide +kernel
theorem dX0_lend_48 : decode cX0_lend 48 = .ok (.invokevirtual 77, 3) := by decide +kernel
theorem dX0_lend_51 : decode cX0_lend 51 = .ok (.aload_n 0, 1) := by decide +kernel
theorem dX0_lend_52 : decode cX0_lend 52 = .ok (.iload_n 2, 1) := by decide +kernel
theorem dX0_lend_53 : decode cX0_lend 53 = .ok (.invokevirtual 77, 3) := by decide +kernel
theorem dX0_lend_56 : decode cX0_lend 56 = .ok (.return_, 1) := by decide +kernel
theorem dX0_wearOff_0 : decode cX0_wearOff 0 = .ok (.aload_n 0, 1) := by decide +kernel
theorem dX0_wearOff_1 : decode cX0_wearOff 1 = .ok (.getfield 18, 3) := by decide +kernel
theorem dX0_wearOff_4 : decode cX0_wearOff 4 = .ok (.iload_n 1, 1) := by decide +kernel
theorem dX0_wearOff_5 : decode cX0_wearOff 5 = .ok (.dup2, 1) := by decide +kernel
theorem dX0_wearOff_6 : decode cX0_wearOff 6 = .ok (.iaload, 1) := by decide +kernel
theorem dX0_wearOff_7 : decode cX0_wearOff 7 = .ok (.iconst 1, 1) := by decide +kernel
theorem dX0_wearOff_8 : decode cX0_wearOff 8 = .ok (.iadd, 1) := by decide +kernel
theorem dX0_wearOff_9 : decode cX0_wearOff 9 = .ok (.iastore, 1) := by decide +kernel
theorem dX0_wearOff_10 : decode cX0_wearOff 10 = .ok (.aload_n 0, 1) := by decide +kernel
theorem dX0_wearOff_11 : decode cX0_wearOff 11 = .ok (.getfield 18, 3) := by decide +kernel
theorem dX0_wearOff_14 : decode cX0_wearOff 14 = .ok (.iload_n 1, 1) := by decide +kernel
theorem dX0_wearOff_15 : decode cX0_wearOff 15 = .ok (.iaload, 1) := by decide +kernel
theorem dX0_wearOff_16 : decode cX0_wearOff 16 = .ok (.aload_n 0, 1) := by decide +kernel
theorem dX0_wearOff_17 : decode cX0_wearOff 17 = .ok (.getfield 15, 3) := by decide +kernel
theorem dX0_wearOff_20 : decode cX0_wearOff 20 = .ok (.iload_n 1, 1) := by decide +kernel
theorem dX0_wearOff_21 : decode cX0_wearOff 21 = .ok (.iaload, 1) := by decide +kernel
theorem dX0_wearOff_22 : decode cX0_wearOff 22 = .ok (.if_icmp .le 20, 3) := by decide +kernel
theorem dX0_wearOff_25 : decode cX0_wearOff 25 = .ok (.aload_n 0, 1) := by decide +kernel
theorem dX0_wearOff_26 : decode cX0_wearOff 26 = .ok (.getfield 9, 3) := by decide +kernel
theorem dX0_wearOff_29 : decode cX0_wearOff 29 = .ok (.iload_n 1, 1) := by decide +kernel
theorem dX0_wearOff_30 : decode cX0_wearOff 30 = .ok (.dup2, 1) := by decide +kernel
theorem dX0_wearOff_31 : decode cX0_wearOff 31 = .ok (.iaload, 1) := by decide +kernel
theorem dX0_wearOff_32 : decode cX0_wearOff 32 = .ok (.aload_n 0, 1) := by decide +kernel
theorem dX0_wearOff_33 : decode cX0_wearOff 33 = .ok (.getfield 9, 3) := by decide +kernel
theorem dX0_wearOff_36 : decode cX0_wearOff 36 = .ok (.iload_n 1, 1) := by decide +kernel
theorem dX0_wearOff_37 : decode cX0_wearOff 37 = .ok (.iaload, 1) := by decide +kernel
theorem dX0_wearOff_38 : decode cX0_wearOff 38 = .ok (.iconst 1, 1) := by decide +kernel
theorem dX0_wearOff_39 : decode cX0_wearOff 39 = .ok (.isub, 1) := by decide +kernel
theorem dX0_wearOff_40 : decode cX0_wearOff 40 = .ok (.iand, 1) := by decide +kernel
theorem dX0_wearOff_41 : decode cX0_wearOff 41 = .ok (.iastore, 1) := by decide +kernel
theorem dX0_wearOff_42 : decode cX0_wearOff 42 = .ok (.return_, 1) := by decide +kernel
theorem dX0_show_0 : decode cX0_show 0 = .ok (.aload_n 0, 1) := by decide +kernel
theorem dX0_show_1 : decode cX0_show 1 = .ok (.getfield 24, 3) := by decide +kernel
theorem dX0_show_4 : decode cX0_show 4 = .ok (.iload_n 1, 1) := by decide +kernel
theorem dX0_show_5 : decode cX0_show 5 = .ok (.dup2, 1) := by decide +kernel
theorem dX0_show_6 : decode cX0_show 6 = .ok (.iaload, 1) := by decide +kernel
theorem dX0_show_7 : decode cX0_show 7 = .ok (.aload_n 0, 1) := by decide +kernel
theorem dX0_show_8 : decode cX0_show 8 = .ok (.getfield 9, 3) := by decide +kernel
theorem dX0_show_11 : decode cX0_show 11 = .ok (.aload_n 0, 1) := by decide +kernel
theorem dX0_show_12 : decode cX0_show 12 = .ok (.getfield 21, 3) := by decide +kernel
theorem dX0_show_15 : decode cX0_show 15 = .ok (.iload_n 1, 1) := by decide +kernel
theorem dX0_show_16 : decode cX0_show 16 = .ok (.iaload, 1) := by decide +kernel
theorem dX0_show_17 : decode cX0_show 17 = .ok (.iaload, 1) := by decide +kernel
theorem dX0_show_18 : decode cX0_show 18 = .ok (.ior, 1) := by decide +kernel
theorem dX0_show_19 : decode cX0_show 19 = .ok (.iastore, 1) := by decide +kernel
theorem dX0_show_20 : decode cX0_show 20 = .ok (.aload_n 0, 1) := by decide +kernel
theorem dX0_show_21 : decode cX0_show 21 = .ok (.getfield 27, 3) := by decide +kernel
theorem dX0_show_24 : decode cX0_show 24 = .ok (.bipush 6, 2) := by decide +kernel
theorem dX0_show_26 : decode cX0_show 26 = .ok (.iload_n 1, 1) := by decide +kernel
theorem dX0_show_27 : decode cX0_show 27 = .ok (.imul, 1) := by decide +kernel
theorem dX0_show_28 : decode cX0_show 28 = .ok (.aload_n 0, 1) := by decide +kernel
theorem dX0_show_29 : decode cX0_show 29 = .ok (.getfield 21, 3) := by decide +kernel
theorem dX0_show_32 : decode cX0_show 32 = .ok (.iload_n 1, 1) := by decide +kernel
theorem dX0_show_33 : decode cX0_show 33 = .ok (.iaload, 1) := by decide +kernel
theorem dX0_show_34 : decode cX0_show 34 = .ok (.iadd, 1) := by decide +kernel
theorem dX0_show_35 : decode cX0_show 35 = .ok (.dup2, 1) := by decide +kernel
theorem dX0_show_36 : decode cX0_show 36 = .ok (.iaload, 1) := by decide +kernel
theorem dX0_show_37 : decode cX0_show 37 = .ok (.aload_n 0, 1) := by decide +kernel
theorem dX0_show_38 : decode cX0_show 38 = .ok (.getfield 9, 3) := by decide +kernel
theorem dX0_show_41 : decode cX0_show 41 = .ok (.aload_n 0, 1) := by decide +kernel
theorem dX0_show_42 : decode cX0_show 42 = .ok (.getfield 21, 3) := by decide +kernel
theorem dX0_show_45 : decode cX0_show 45 = .ok (.iload_n 1, 1) := by decide +kernel
theorem dX0_show_46 : decode cX0_show 46 = .ok (.iaload, 1) := by decide +kernel
theorem dX0_show_47 : decode cX0_show 47 = .ok (.iaload, 1) := by decide +kernel
theorem dX0_show_48 : decode cX0_show 48 = .ok (.ior, 1) := by decide +kernel
theorem dX0_show_49 : decode cX0_show 49 = .ok (.iastore, 1) := by decide +kernel
theorem dX0_show_50 : decode cX0_show 50 = .ok (.return_, 1) := by decide +kernel
theorem dX0_childhoodsThatShowed_0 : decode cX0_childhoodsThatShowed 0 = .ok (.iconst 0, 1) := by decide +kernel
theorem dX0_childhoodsThatShowed_1 : decode cX0_childhoodsThatShowed 1 = .ok (.istore_n 3, 1) := by decide +kernel
theorem dX0_childhoodsThatShowed_2 : decode cX0_childhoodsThatShowed 2 = .ok (.iconst 0, 1) := by decide +kernel
theorem dX0_childhoodsThatShowed_3 : decode cX0_childhoodsThatShowed 3 = .ok (.istore 4, 2) := by decide +kernel
theorem dX0_childhoodsThatShowed_5 : decode cX0_childhoodsThatShowed 5 = .ok (.iload 4, 2) := by decide +kernel
theorem dX0_childhoodsThatShowed_7 : decode cX0_childhoodsThatShowed 7 = .ok (.aload_n 0, 1) := by decide +kernel
theorem dX0_childhoodsThatShowed_8 : decode cX0_childhoodsThatShowed 8 = .ok (.getfield 36, 3) := by decide +kernel
theorem dX0_childhoodsThatShowed_11 : decode cX0_childhoodsThatShowed 11 = .ok (.if_icmp .ge 29, 3) := by decide +kernel
theorem dX0_childhoodsThatShowed_14 : decode cX0_childhoodsThatShowed 14 = .ok (.aload_n 0, 1) := by decide +kernel
theorem dX0_childhoodsThatShowed_15 : decode cX0_childhoodsThatShowed 15 = .ok (.getfield 27, 3) := by decide +kernel
theorem dX0_childhoodsThatShowed_18 : decode cX0_childhoodsThatShowed 18 = .ok (.bipush 6, 2) := by decide +kernel
theorem dX0_childhoodsThatShowed_20 : decode cX0_childhoodsThatShowed 20 = .ok (.iload_n 1, 1) := by decide +kernel
theorem dX0_childhoodsThatShowed_21 : decode cX0_childhoodsThatShowed 21 = .ok (.imul, 1) := by decide +kernel
theorem dX0_childhoodsThatShowed_22 : decode cX0_childhoodsThatShowed 22 = .ok (.iload 4, 2) := by decide +kernel
theorem dX0_childhoodsThatShowed_24 : decode cX0_childhoodsThatShowed 24 = .ok (.iadd, 1) := by decide +kernel
theorem dX0_childhoodsThatShowed_25 : decode cX0_childhoodsThatShowed 25 = .ok (.iaload, 1) := by decide +kernel
theorem dX0_childhoodsThatShowed_26 : decode cX0_childhoodsThatShowed 26 = .ok (.iload_n 2, 1) := by decide +kernel
theorem dX0_childhoodsThatShowed_27 : decode cX0_childhoodsThatShowed 27 = .ok (.iand, 1) := by decide +kernel
theorem dX0_childhoodsThatShowed_28 : decode cX0_childhoodsThatShowed 28 = .ok (.ifCond .eq 6, 3) := by decide +kernel
theorem dX0_childhoodsThatShowed_31 : decode cX0_childhoodsThatShowed 31 = .ok (.iinc 3 1, 3) := by decide +kernel
theorem dX0_childhoodsThatShowed_34 : decode cX0_childhoodsThatShowed 34 = .ok (.iinc 4 1, 3) := by decide +kernel
theorem dX0_childhoodsThatShowed_37 : decode cX0_childhoodsThatShowed 37 = .ok (.goto (-32), 3) := by decide +kernel
theorem dX0_childhoodsThatShowed_40 : decode cX0_childhoodsThatShowed 40 = .ok (.iload_n 3, 1) := by decide +kernel
theorem dX0_childhoodsThatShowed_41 : decode cX0_childhoodsThatShowed 41 = .ok (.ireturn, 1) := by decide +kernel
theorem dX0_mended_0 : decode cX0_mended 0 = .ok (.iconst 0, 1) := by decide +kernel
theorem dX0_mended_1 : decode cX0_mended 1 = .ok (.istore_n 1, 1) := by decide +kernel
theorem dX0_mended_2 : decode cX0_mended 2 = .ok (.iconst 0, 1) := by decide +kernel
theorem dX0_mended_3 : decode cX0_mended 3 = .ok (.istore_n 2, 1) := by decide +kernel
theorem dX0_mended_4 : decode cX0_mended 4 = .ok (.iload_n 2, 1) := by decide +kernel
theorem dX0_mended_5 : decode cX0_mended 5 = .ok (.aload_n 0, 1) := by decide +kernel
theorem dX0_mended_6 : decode cX0_mended 6 = .ok (.getfield 36, 3) := by decide +kernel
theorem dX0_mended_9 : decode cX0_mended 9 = .ok (.if_icmp .ge 33, 3) := by decide +kernel
theorem dX0_mended_12 : decode cX0_mended 12 = .ok (.aload_n 0, 1) := by decide +kernel
theorem dX0_mended_13 : decode cX0_mended 13 = .ok (.getfield 32, 3) := by decide +kernel
theorem dX0_mended_16 : decode cX0_mended 16 = .ok (.iload_n 2, 1) := by decide +kernel
theorem dX0_mended_17 : decode cX0_mended 17 = .ok (.aaload, 1) := by decide +kernel
theorem dX0_mended_18 : decode cX0_mended 18 = .ok (.aload_n 0, 1) := by decide +kernel
theorem dX0_mended_19 : decode cX0_mended 19 = .ok (.getfield 24, 3) := by decide +kernel
theorem dX0_mended_22 : decode cX0_mended 22 = .ok (.iload_n 2, 1) := by decide +kernel
theorem dX0_mended_23 : decode cX0_mended 23 = .ok (.iaload, 1) := by decide +kernel
theorem dX0_mended_24 : decode cX0_mended 24 = .ok (.invokevirtual 80, 3) := by decide +kernel
theorem dX0_mended_27 : decode cX0_mended 27 = .ok (.ifCond .eq 9, 3) := by decide +kernel
theorem dX0_mended_30 : decode cX0_mended 30 = .ok (.iload_n 1, 1) := by decide +kernel
theorem dX0_mended_31 : decode cX0_mended 31 = .ok (.iconst 1, 1) := by decide +kernel
theorem dX0_mended_32 : decode cX0_mended 32 = .ok (.iload_n 2, 1) := by decide +kernel
theorem dX0_mended_33 : decode cX0_mended 33 = .ok (.ishl, 1) := by decide +kernel
theorem dX0_mended_34 : decode cX0_mended 34 = .ok (.ior, 1) := by decide +kernel
theorem dX0_mended_35 : decode cX0_mended 35 = .ok (.istore_n 1, 1) := by decide +kernel
theorem dX0_mended_36 : decode cX0_mended 36 = .ok (.iinc 2 1, 3) := by decide +kernel
theorem dX0_mended_39 : decode cX0_mended 39 = .ok (.goto (-35), 3) := by decide +kernel
theorem dX0_mended_42 : decode cX0_mended 42 = .ok (.iload_n 1, 1) := by decide +kernel
theorem dX0_mended_43 : decode cX0_mended 43 = .ok (.ireturn, 1) := by decide +kernel
theorem dX0_loansHome_0 : decode cX0_loansHome 0 = .ok (.iconst 0, 1) := by decide +kernel
theorem dX0_loansHome_1 : decode cX0_loansHome 1 = .ok (.istore_n 1, 1) := by decide +kernel
theorem dX0_loansHome_2 : decode cX0_loansHome 2 = .ok (.iconst 0, 1) := by decide +kernel
theorem dX0_loansHome_3 : decode cX0_loansHome 3 = .ok (.istore_n 2, 1) := by decide +kernel
theorem dX0_loansHome_4 : decode cX0_loansHome 4 = .ok (.iconst 0, 1) := by decide +kernel
theorem dX0_loansHome_5 : decode cX0_loansHome 5 = .ok (.istore_n 3, 1) := by decide +kernel
theorem dX0_loansHome_6 : decode cX0_loansHome 6 = .ok (.iload_n 3, 1) := by decide +kernel
theorem dX0_loansHome_7 : decode cX0_loansHome 7 = .ok (.aload_n 0, 1) := by decide +kernel
theorem dX0_loansHome_8 : decode cX0_loansHome 8 = .ok (.getfield 36, 3) := by decide +kernel
theorem dX0_loansHome_11 : decode cX0_loansHome 11 = .ok (.if_icmp .ge 57, 3) := by decide +kernel
theorem dX0_loansHome_14 : decode cX0_loansHome 14 = .ok (.iload_n 2, 1) := by decide +kernel
theorem dX0_loansHome_15 : decode cX0_loansHome 15 = .ok (.iload_n 3, 1) := by decide +kernel
theorem dX0_loansHome_16 : decode cX0_loansHome 16 = .ok (.ishr, 1) := by decide +kernel
theorem dX0_loansHome_17 : decode cX0_loansHome 17 = .ok (.iconst 1, 1) := by decide +kernel
theorem dX0_loansHome_18 : decode cX0_loansHome 18 = .ok (.iand, 1) := by decide +kernel
theorem dX0_loansHome_19 : decode cX0_loansHome 19 = .ok (.ifCond .ne 6, 3) := by decide +kernel
theorem dX0_loansHome_22 : decode cX0_loansHome 22 = .ok (.iinc 1 1, 3) := by decide +kernel
theorem dX0_loansHome_25 : decode cX0_loansHome 25 = .ok (.iload_n 3, 1) := by decide +kernel
theorem dX0_loansHome_26 : decode cX0_loansHome 26 = .ok (.istore 4, 2) := by decide +kernel
theorem dX0_loansHome_28 : decode cX0_loansHome 28 = .ok (.iconst 0, 1) := by decide +kernel
theorem dX0_loansHome_29 : decode cX0_loansHome 29 = .ok (.istore 5, 2) := by decide +kernel
theorem dX0_loansHome_31 : decode cX0_loansHome 31 = .ok (.iload 5, 2) := by decide +kernel
theorem dX0_loansHome_33 : decode cX0_loansHome 33 = .ok (.aload_n 0, 1) := by decide +kernel
theorem dX0_loansHome_34 : decode cX0_loansHome 34 = .ok (.getfield 36, 3) := by decide +kernel
theorem dX0_loansHome_37 : decode cX0_loansHome 37 = .ok (.if_icmp .ge 25, 3) := by decide +kernel
theorem dX0_loansHome_40 : decode cX0_loansHome 40 = .ok (.iload_n 2, 1) := by decide +kernel
theorem dX0_loansHome_41 : decode cX0_loansHome 41 = .ok (.iconst 1, 1) := by decide +kernel
theorem dX0_loansHome_42 : decode cX0_loansHome 42 = .ok (.iload 4, 2) := by decide +kernel
theorem dX0_loansHome_44 : decode cX0_loansHome 44 = .ok (.ishl, 1) := by decide +kernel
theorem dX0_loansHome_45 : decode cX0_loansHome 45 = .ok (.ior, 1) := by decide +kernel
theorem dX0_loansHome_46 : decode cX0_loansHome 46 = .ok (.istore_n 2, 1) := by decide +kernel
theorem dX0_loansHome_47 : decode cX0_loansHome 47 = .ok (.aload_n 0, 1) := by decide +kernel
theorem dX0_loansHome_48 : decode cX0_loansHome 48 = .ok (.getfield 21, 3) := by decide +kernel
theorem dX0_loansHome_51 : decode cX0_loansHome 51 = .ok (.iload 4, 2) := by decide +kernel
theorem dX0_loansHome_53 : decode cX0_loansHome 53 = .ok (.iaload, 1) := by decide +kernel
theorem dX0_loansHome_54 : decode cX0_loansHome 54 = .ok (.istore 4, 2) := by decide +kernel
theorem dX0_loansHome_56 : decode cX0_loansHome 56 = .ok (.iinc 5 1, 3) := by decide +kernel
theorem dX0_loansHome_59 : decode cX0_loansHome 59 = .ok (.goto (-28), 3) := by decide +kernel
theorem dX0_loansHome_62 : decode cX0_loansHome 62 = .ok (.iinc 3 1, 3) := by decide +kernel
theorem dX0_loansHome_65 : decode cX0_loansHome 65 = .ok (.goto (-59), 3) := by decide +kernel
theorem dX0_loansHome_68 : decode cX0_loansHome 68 = .ok (.aload_n 0, 1) := by decide +kernel
theorem dX0_loansHome_69 : decode cX0_loansHome 69 = .ok (.getfield 36, 3) := by decide +kernel
theorem dX0_loansHome_72 : decode cX0_loansHome 72 = .ok (.iload_n 1, 1) := by decide +kernel
theorem dX0_loansHome_73 : decode cX0_loansHome 73 = .ok (.isub, 1) := by decide +kernel
theorem dX0_loansHome_74 : decode cX0_loansHome 74 = .ok (.ireturn, 1) := by decide +kernel
theorem dX1_init_0 : decode cX1_init 0 = .ok (.aload_n 0, 1) := by decide +kernel
theorem dX1_init_1 : decode cX1_init 1 = .ok (.invokespecial 3, 3) := by decide +kernel
theorem dX1_init_4 : decode cX1_init 4 = .ok (.aload_n 0, 1) := by decide +kernel
theorem dX1_init_5 : decode cX1_init 5 = .ok (.iconst 4, 1) := by decide +kernel
theorem dX1_init_6 : decode cX1_init 6 = .ok (.anewarray 9, 3) := by decide +kernel
theorem dX1_init_9 : decode cX1_init 9 = .ok (.putfield 11, 3) := by decide +kernel
theorem dX1_init_12 : decode cX1_init 12 = .ok (.aload_n 0, 1) := by decide +kernel
theorem dX1_init_13 : decode cX1_init 13 = .ok (.iconst 3, 1) := by decide +kernel
theorem dX1_init_14 : decode cX1_init 14 = .ok (.newarray .int, 2) := by decide +kernel
theorem dX1_init_16 : decode cX1_init 16 = .ok (.putfield 17, 3) := by decide +kernel
theorem dX1_init_19 : decode cX1_init 19 = .ok (.iconst 0, 1) := by decide +kernel
theorem dX1_init_20 : decode cX1_init 20 = .ok (.istore_n 1, 1) := by decide +kernel
theorem dX1_init_21 : decode cX1_init 21 = .ok (.iload_n 1, 1) := by decide +kernel
theorem dX1_init_22 : decode cX1_init 22 = .ok (.iconst 3, 1) := by decide +kernel
theorem dX1_init_23 : decode cX1_init 23 = .ok (.if_icmp .gt 22, 3) := by decide +kernel
theorem dX1_init_26 : decode cX1_init 26 = .ok (.aload_n 0, 1) := by decide +kernel
theorem dX1_init_27 : decode cX1_init 27 = .ok (.getfield 11, 3) := by decide +kernel
theorem dX1_init_30 : decode cX1_init 30 = .ok (.iload_n 1, 1) := by decide +kernel
theorem dX1_init_31 : decode cX1_init 31 = .ok (.new 9, 3) := by decide +kernel
theorem dX1_init_34 : decode cX1_init 34 = .ok (.dup, 1) := by decide +kernel
theorem dX1_init_35 : decode cX1_init 35 = .ok (.invokespecial 21, 3) := by decide +kernel
theorem dX1_init_38 : decode cX1_init 38 = .ok (.aastore, 1) := by decide +kernel
theorem dX1_init_39 : decode cX1_init 39 = .ok (.iinc 1 1, 3) := by decide +kernel
theorem dX1_init_42 : decode cX1_init 42 = .ok (.goto (-21), 3) := by decide +kernel
theorem dX1_init_45 : decode cX1_init 45 = .ok (.return_, 1) := by decide +kernel
theorem dX1_find_0 : decode cX1_find 0 = .ok (.aload_n 0, 1) := by decide +kernel
theorem dX1_find_1 : decode cX1_find 1 = .ok (.getfield 11, 3) := by decide +kernel
theorem dX1_find_4 : decode cX1_find 4 = .ok (.iconst 0, 1) := by decide +kernel
theorem dX1_find_5 : decode cX1_find 5 = .ok (.aaload, 1) := by decide +kernel
theorem dX1_find_6 : decode cX1_find 6 = .ok (.aload_n 1, 1) := by decide +kernel
theorem dX1_find_7 : decode cX1_find 7 = .ok (.iload_n 2, 1) := by decide +kernel
theorem dX1_find_8 : decode cX1_find 8 = .ok (.invokevirtual 22, 3) := by decide +kernel
theorem dX1_find_11 : decode cX1_find 11 = .ok (.iconst 0, 1) := by decide +kernel
theorem dX1_find_12 : decode cX1_find 12 = .ok (.istore 4, 2) := by decide +kernel
theorem dX1_find_14 : decode cX1_find 14 = .ok (.iload 4, 2) := by decide +kernel
theorem dX1_find_16 : decode cX1_find 16 = .ok (.iconst 3, 1) := by decide +kernel
theorem dX1_find_17 : decode cX1_find 17 = .ok (.if_icmp .gt 23, 3) := by decide +kernel
theorem dX1_find_20 : decode cX1_find 20 = .ok (.aload_n 0, 1) := by decide +kernel
theorem dX1_find_21 : decode cX1_find 21 = .ok (.iconst 0, 1) := by decide +kernel
theorem dX1_find_22 : decode cX1_find 22 = .ok (.iload 4, 2) := by decide +kernel
theorem dX1_find_24 : decode cX1_find 24 = .ok (.iload_n 3, 1) := by decide +kernel
theorem dX1_find_25 : decode cX1_find 25 = .ok (.invokestatic 26, 3) := by decide +kernel
theorem dX1_find_28 : decode cX1_find 28 = .ok (.ifCond .eq 6, 3) := by decide +kernel
theorem dX1_find_31 : decode cX1_find 31 = .ok (.iload 4, 2) := by decide +kernel
theorem dX1_find_33 : decode cX1_find 33 = .ok (.ireturn, 1) := by decide +kernel
theorem dX1_find_34 : decode cX1_find 34 = .ok (.iinc 4 1, 3) := by decide +kernel
theorem dX1_find_37 : decode cX1_find 37 = .ok (.goto (-23), 3) := by decide +kernel
theorem dX1_find_40 : decode cX1_find 40 = .ok (.bipush (-9), 2) := by decide +kernel
theorem dX1_find_42 : decode cX1_find 42 = .ok (.ireturn, 1) := by decide +kernel
theorem dX1_loanAt_0 : decode cX1_loanAt 0 = .ok (.aload_n 0, 1) := by decide +kernel
theorem dX1_loanAt_1 : decode cX1_loanAt 1 = .ok (.getfield 17, 3) := by decide +kernel
theorem dX1_loanAt_4 : decode cX1_loanAt 4 = .ok (.iload_n 1, 1) := by decide +kernel
theorem dX1_loanAt_5 : decode cX1_loanAt 5 = .ok (.iaload, 1) := by decide +kernel
theorem dX1_loanAt_6 : decode cX1_loanAt 6 = .ok (.ireturn, 1) := by decide +kernel
theorem dX1_mends_0 : decode cX1_mends 0 = .ok (.aload_n 0, 1) := by decide +kernel
theorem dX1_mends_1 : decode cX1_mends 1 = .ok (.getfield 11, 3) := by decide +kernel
theorem dX1_mends_4 : decode cX1_mends 4 = .ok (.iload_n 1, 1) := by decide +kernel
theorem dX1_mends_5 : decode cX1_mends 5 = .ok (.aaload, 1) := by decide +kernel
theorem dX1_mends_6 : decode cX1_mends 6 = .ok (.astore 4, 2) := by decide +kernel
theorem dX1_mends_8 : decode cX1_mends 8 = .ok (.iload_n 3, 1) := by decide +kernel
theorem dX1_mends_9 : decode cX1_mends 9 = .ok (.aload 4, 2) := by decide +kernel
theorem dX1_mends_11 : decode cX1_mends 11 = .ok (.invokevirtual 30, 3) := by decide +kernel
theorem dX1_mends_14 : decode cX1_mends 14 = .ok (.iconst (-1), 1) := by decide +kernel
theorem dX1_mends_15 : decode cX1_mends 15 = .ok (.ixor, 1) := by decide +kernel
theorem dX1_mends_16 : decode cX1_mends 16 = .ok (.iand, 1) := by decide +kernel
theorem dX1_mends_17 : decode cX1_mends 17 = .ok (.invokestatic 34, 3) := by decide +kernel
theorem dX1_mends_20 : decode cX1_mends 20 = .ok (.iconst 2, 1) := by decide +kernel
theorem dX1_mends_21 : decode cX1_mends 21 = .ok (.iload_n 2, 1) := by decide +kernel
theorem dX1_mends_22 : decode cX1_mends 22 = .ok (.iload_n 1, 1) := by decide +kernel
theorem dX1_mends_23 : decode cX1_mends 23 = .ok (.isub, 1) := by decide +kernel
theorem dX1_mends_24 : decode cX1_mends 24 = .ok (.imul, 1) := by decide +kernel
theorem dX1_mends_25 : decode cX1_mends 25 = .ok (.if_icmp .le 5, 3) := by decide +kernel
theorem dX1_mends_28 : decode cX1_mends 28 = .ok (.iconst 0, 1) := by decide +kernel
theorem dX1_mends_29 : decode cX1_mends 29 = .ok (.ireturn, 1) := by decide +kernel
theorem dX1_mends_30 : decode cX1_mends 30 = .ok (.iload_n 1, 1) := by decide +kernel
theorem dX1_mends_31 : decode cX1_mends 31 = .ok (.iload_n 2, 1) := by decide +kernel
theorem dX1_mends_32 : decode cX1_mends 32 = .ok (.if_icmp .lt 5, 3) := by decide +kernel
theorem dX1_mends_35 : decode cX1_mends 35 = .ok (.iconst 1, 1) := by decide +kernel
theorem dX1_mends_36 : decode cX1_mends 36 = .ok (.ireturn, 1) := by decide +kernel
theorem dX1_mends_37 : decode cX1_mends 37 = .ok (.aload_n 0, 1) := by decide +kernel
theorem dX1_mends_38 : decode cX1_mends 38 = .ok (.getfield 11, 3) := by decide +kernel
theorem dX1_mends_41 : decode cX1_mends 41 = .ok (.iload_n 1, 1) := by decide +kernel
theorem dX1_mends_42 : decode cX1_mends 42 = .ok (.iconst 1, 1) := by decide +kernel
theorem dX1_mends_43 : decode cX1_mends 43 = .ok (.iadd, 1) := by decide +kernel
theorem dX1_mends_44 : decode cX1_mends 44 = .ok (.aaload, 1) := by decide +kernel
theorem dX1_mends_45 : decode cX1_mends 45 = .ok (.astore 5, 2) := by decide +kernel
theorem dX1_mends_47 : decode cX1_mends 47 = .ok (.iconst 0, 1) := by decide +kernel
theorem dX1_mends_48 : decode cX1_mends 48 = .ok (.istore 6, 2) := by decide +kernel
theorem dX1_mends_50 : decode cX1_mends 50 = .ok (.iload 6, 2) := by decide +kernel
theorem dX1_mends_52 : decode cX1_mends 52 = .ok (.aload 4, 2) := by decide +kernel
theorem dX1_mends_54 : decode cX1_mends 54 = .ok (.getfield 40, 3) := by decide +kernel
theorem dX1_mends_57 : decode cX1_mends 57 = .ok (.if_icmp .ge 87, 3) := by decide +kernel
theorem dX1_mends_60 : decode cX1_mends 60 = .ok (.iload 6, 2) := by decide +kernel
theorem dX1_mends_62 : decode cX1_mends 62 = .ok (.iconst 1, 1) := by decide +kernel
theorem dX1_mends_63 : decode cX1_mends 63 = .ok (.iadd, 1) := by decide +kernel
theorem dX1_mends_64 : decode cX1_mends 64 = .ok (.istore 7, 2) := by decide +kernel
theorem dX1_mends_66 : decode cX1_mends 66 = .ok (.iload 7, 2) := by decide +kernel
theorem dX1_mends_68 : decode cX1_mends 68 = .ok (.aload 4, 2) := by decide +kernel
theorem dX1_mends_70 : decode cX1_mends 70 = .ok (.getfield 40, 3) := by decide +kernel
theorem dX1_mends_73 : decode cX1_mends 73 = .ok (.if_icmp .ge 65, 3) := by decide +kernel
theorem dX1_mends_76 : decode cX1_mends 76 = .ok (.aload 4, 2) := by decide +kernel
theorem dX1_mends_78 : decode cX1_mends 78 = .ok (.iload 6, 2) := by decide +kernel
theorem dX1_mends_80 : decode cX1_mends 80 = .ok (.iload 7, 2) := by decide +kernel
theorem dX1_mends_82 : decode cX1_mends 82 = .ok (.invokevirtual 44, 3) := by decide +kernel
theorem dX1_mends_85 : decode cX1_mends 85 = .ok (.ifCond .eq 47, 3) := by decide +kernel
theorem dX1_mends_88 : decode cX1_mends 88 = .ok (.aload 5, 2) := by decide +kernel
theorem dX1_mends_90 : decode cX1_mends 90 = .ok (.aload 4, 2) := by decide +kernel
theorem dX1_mends_92 : decode cX1_mends 92 = .ok (.invokevirtual 48, 3) := by decide +kernel
theorem dX1_mends_95 : decode cX1_mends 95 = .ok (.aload 5, 2) := by decide +kernel
theorem dX1_mends_97 : decode cX1_mends 97 = .ok (.iload 6, 2) := by decide +kernel
theorem dX1_mends_99 : decode cX1_mends 99 = .ok (.iload 7, 2) := by decide +kernel
theorem dX1_mends_101 : decode cX1_mends 101 = .ok (.invokevirtual 52, 3) := by decide +kernel
theorem dX1_mends_104 : decode cX1_mends 104 = .ok (.aload_n 0, 1) := by decide +kernel
theorem dX1_mends_105 : decode cX1_mends 105 = .ok (.getfield 17, 3) := by decide +kernel
theorem dX1_mends_108 : decode cX1_mends 108 = .ok (.iload_n 1, 1) := by decide +kernel
theorem dX1_mends_109 : decode cX1_mends 109 = .ok (.bipush 10, 2) := by decide +kernel
theorem dX1_mends_111 : decode cX1_mends 111 = .ok (.iload 6, 2) := by decide +kernel
theorem dX1_mends_113 : decode cX1_mends 113 = .ok (.imul, 1) := by decide +kernel
theorem dX1_mends_114 : decode cX1_mends 114 = .ok (.iload 7, 2) := by decide +kernel
theorem dX1_mends_116 : decode cX1_mends 116 = .ok (.iadd, 1) := by decide +kernel
theorem dX1_mends_117 : decode cX1_mends 117 = .ok (.iastore, 1) := by decide +kernel
theorem dX1_mends_118 : decode cX1_mends 118 = .ok (.aload_n 0, 1) := by decide +kernel
theorem dX1_mends_119 : decode cX1_mends 119 = .ok (.iload_n 1, 1) := by decide +kernel
theorem dX1_mends_120 : decode cX1_mends 120 = .ok (.iconst 1, 1) := by decide +kernel
theorem dX1_mends_121 : decode cX1_mends 121 = .ok (.iadd, 1) := by decide +kernel
theorem dX1_mends_122 : decode cX1_mends 122 = .ok (.iload_n 2, 1) := by decide +kernel
theorem dX1_mends_123 : decode cX1_mends 123 = .ok (.iload_n 3, 1) := by decide +kernel
theorem dX1_mends_124 : decode cX1_mends 124 = .ok (.invokestatic 26, 3) := by decide +kernel
theorem dX1_mends_127 : decode cX1_mends 127 = .ok (.ifCond .eq 5, 3) := by decide +kernel
theorem dX1_mends_130 : decode cX1_mends 130 = .ok (.iconst 1, 1) := by decide +kernel
theorem dX1_mends_131 : decode cX1_mends 131 = .ok (.ireturn, 1) := by decide +kernel
theorem dX1_mends_132 : decode cX1_mends 132 = .ok (.iinc 7 1, 3) := by decide +kernel
theorem dX1_mends_135 : decode cX1_mends 135 = .ok (.goto (-69), 3) := by decide +kernel
theorem dX1_mends_138 : decode cX1_mends 138 = .ok (.iinc 6 1, 3) := by decide +kernel
theorem dX1_mends_141 : decode cX1_mends 141 = .ok (.goto (-91), 3) := by decide +kernel
theorem dX1_mends_144 : decode cX1_mends 144 = .ok (.iconst 0, 1) := by decide +kernel
theorem dX1_mends_145 : decode cX1_mends 145 = .ok (.ireturn, 1) := by decide +kernel
theorem dX2_init_0 : decode cX2_init 0 = .ok (.aload_n 0, 1) := by decide +kernel
theorem dX2_init_1 : decode cX2_init 1 = .ok (.invokespecial 3, 3) := by decide +kernel
theorem dX2_init_4 : decode cX2_init 4 = .ok (.aload_n 0, 1) := by decide +kernel
theorem dX2_init_5 : decode cX2_init 5 = .ok (.bipush 64, 2) := by decide +kernel
theorem dX2_init_7 : decode cX2_init 7 = .ok (.newarray .int, 2) := by decide +kernel
theorem dX2_init_9 : decode cX2_init 9 = .ok (.putfield 9, 3) := by decide +kernel
theorem dX2_init_12 : decode cX2_init 12 = .ok (.aload_n 0, 1) := by decide +kernel
theorem dX2_init_13 : decode cX2_init 13 = .ok (.bipush 6, 2) := by decide +kernel
theorem dX2_init_15 : decode cX2_init 15 = .ok (.newarray .int, 2) := by decide +kernel
theorem dX2_init_17 : decode cX2_init 17 = .ok (.putfield 15, 3) := by decide +kernel
theorem dX2_init_20 : decode cX2_init 20 = .ok (.return_, 1) := by decide +kernel
theorem dX2_mostMended_0 : decode cX2_mostMended 0 = .ok (.aload_n 0, 1) := by decide +kernel
theorem dX2_mostMended_1 : decode cX2_mostMended 1 = .ok (.getfield 9, 3) := by decide +kernel
theorem dX2_mostMended_4 : decode cX2_mostMended 4 = .ok (.iconst 0, 1) := by decide +kernel
theorem dX2_mostMended_5 : decode cX2_mostMended 5 = .ok (.iaload, 1) := by decide +kernel
theorem dX2_mostMended_6 : decode cX2_mostMended 6 = .ok (.ireturn, 1) := by decide +kernel
theorem dX2_make_0 : decode cX2_make 0 = .ok (.iconst 1, 1) := by decide +kernel
theorem dX2_make_1 : decode cX2_make 1 = .ok (.iload_n 2, 1) := by decide +kernel
theorem dX2_make_2 : decode cX2_make 2 = .ok (.ishl, 1) := by decide +kernel
theorem dX2_make_3 : decode cX2_make 3 = .ok (.iconst 1, 1) := by decide +kernel
theorem dX2_make_4 : decode cX2_make 4 = .ok (.isub, 1) := by decide +kernel
theorem dX2_make_5 : decode cX2_make 5 = .ok (.istore_n 3, 1) := by decide +kernel
theorem dX2_make_6 : decode cX2_make 6 = .ok (.aload_n 0, 1) := by decide +kernel
theorem dX2_make_7 : decode cX2_make 7 = .ok (.getfield 9, 3) := by decide +kernel
theorem dX2_make_10 : decode cX2_make 10 = .ok (.iload_n 3, 1) := by decide +kernel
theorem dX2_make_11 : decode cX2_make 11 = .ok (.iconst 0, 1) := by decide +kernel
theorem dX2_make_12 : decode cX2_make 12 = .ok (.iastore, 1) := by decide +kernel
theorem dX2_make_13 : decode cX2_make 13 = .ok (.iload_n 3, 1) := by decide +kernel
theorem dX2_make_14 : decode cX2_make 14 = .ok (.iconst 1, 1) := by decide +kernel
theorem dX2_make_15 : decode cX2_make 15 = .ok (.isub, 1) := by decide +kernel
theorem dX2_make_16 : decode cX2_make 16 = .ok (.istore 4, 2) := by decide +kernel
theorem dX2_make_18 : decode cX2_make 18 = .ok (.iload 4, 2) := by decide +kernel
theorem dX2_make_20 : decode cX2_make 20 = .ok (.ifCond .lt 68, 3) := by decide +kernel
theorem dX2_make_23 : decode cX2_make 23 = .ok (.aload_n 0, 1) := by decide +kernel
theorem dX2_make_24 : decode cX2_make 24 = .ok (.getfield 9, 3) := by decide +kernel
theorem dX2_make_27 : decode cX2_make 27 = .ok (.iload 4, 2) := by decide +kernel
theorem dX2_make_29 : decode cX2_make 29 = .ok (.iconst (-1), 1) := by decide +kernel
theorem dX2_make_30 : decode cX2_make 30 = .ok (.iastore, 1) := by decide +kernel
theorem dX2_make_31 : decode cX2_make 31 = .ok (.iconst 0, 1) := by decide +kernel
theorem dX2_make_32 : decode cX2_make 32 = .ok (.istore 5, 2) := by decide +kernel
theorem dX2_make_34 : decode cX2_make 34 = .ok (.iload 5, 2) := by decide +kernel
theorem dX2_make_36 : decode cX2_make 36 = .ok (.iload_n 2, 1) := by decide +kernel
theorem dX2_make_37 : decode cX2_make 37 = .ok (.if_icmp .ge 45, 3) := by decide +kernel
theorem dX2_make_40 : decode cX2_make 40 = .ok (.iload 4, 2) := by decide +kernel
theorem dX2_make_42 : decode cX2_make 42 = .ok (.iload 5, 2) := by decide +kernel
theorem dX2_make_44 : decode cX2_make 44 = .ok (.ishr, 1) := by decide +kernel
theorem dX2_make_45 : decode cX2_make 45 = .ok (.iconst 1, 1) := by decide +kernel
theorem dX2_make_46 : decode cX2_make 46 = .ok (.iand, 1) := by decide +kernel
theorem dX2_make_47 : decode cX2_make 47 = .ok (.ifCond .ne 29, 3) := by decide +kernel
theorem dX2_make_50 : decode cX2_make 50 = .ok (.aload_n 0, 1) := by decide +kernel
theorem dX2_make_51 : decode cX2_make 51 = .ok (.getfield 9, 3) := by decide +kernel
theorem dX2_make_54 : decode cX2_make 54 = .ok (.iload 4, 2) := by decide +kernel
theorem dX2_make_56 : decode cX2_make 56 = .ok (.aload_n 0, 1) := by decide +kernel
theorem dX2_make_57 : decode cX2_make 57 = .ok (.getfield 9, 3) := by decide +kernel
theorem dX2_make_60 : decode cX2_make 60 = .ok (.iload 4, 2) := by decide +kernel
theorem dX2_make_62 : decode cX2_make 62 = .ok (.iaload, 1) := by decide +kernel
theorem dX2_make_63 : decode cX2_make 63 = .ok (.aload_n 0, 1) := by decide +kernel
theorem dX2_make_64 : decode cX2_make 64 = .ok (.aload_n 1, 1) := by decide +kernel
theorem dX2_make_65 : decode cX2_make 65 = .ok (.iload 4, 2) := by decide +kernel
theorem dX2_make_67 : decode cX2_make 67 = .ok (.iload 5, 2) := by decide +kernel
theorem dX2_make_69 : decode cX2_make 69 = .ok (.invokevirtual 18, 3) := by decide +kernel
theorem dX2_make_72 : decode cX2_make 72 = .ok (.invokestatic 22, 3) := by decide +kernel
theorem dX2_make_75 : decode cX2_make 75 = .ok (.iastore, 1) := by decide +kernel
theorem dX2_make_76 : decode cX2_make 76 = .ok (.iinc 5 1, 3) := by decide +kernel
theorem dX2_make_79 : decode cX2_make 79 = .ok (.goto (-45), 3) := by decide +kernel
theorem dX2_make_82 : decode cX2_make 82 = .ok (.iinc 4 (-1), 3) := by decide +kernel
theorem dX2_make_85 : decode cX2_make 85 = .ok (.goto (-67), 3) := by decide +kernel
theorem dX2_make_88 : decode cX2_make 88 = .ok (.iconst 0, 1) := by decide +kernel
theorem dX2_make_89 : decode cX2_make 89 = .ok (.istore 4, 2) := by decide +kernel
theorem dX2_make_91 : decode cX2_make 91 = .ok (.iconst 0, 1) := by decide +kernel
theorem dX2_make_92 : decode cX2_make 92 = .ok (.istore 5, 2) := by decide +kernel
theorem dX2_make_94 : decode cX2_make 94 = .ok (.iload 5, 2) := by decide +kernel
theorem dX2_make_96 : decode cX2_make 96 = .ok (.iload_n 2, 1) := by decide +kernel
theorem dX2_make_97 : decode cX2_make 97 = .ok (.if_icmp .ge 38, 3) := by decide +kernel
theorem dX2_make_100 : decode cX2_make 100 = .ok (.aload_n 0, 1) := by decide +kernel
theorem dX2_make_101 : decode cX2_make 101 = .ok (.getfield 15, 3) := by decide +kernel
theorem dX2_make_104 : decode cX2_make 104 = .ok (.iload 5, 2) := by decide +kernel
theorem dX2_make_106 : decode cX2_make 106 = .ok (.aload_n 0, 1) := by decide +kernel
theorem dX2_make_107 : decode cX2_make 107 = .ok (.aload_n 1, 1) := by decide +kernel
theorem dX2_make_108 : decode cX2_make 108 = .ok (.iload_n 2, 1) := by decide +kernel
theorem dX2_make_109 : decode cX2_make 109 = .ok (.iload 4, 2) := by decide +kernel
theorem dX2_make_111 : decode cX2_make 111 = .ok (.invokevirtual 28, 3) := by decide +kernel
theorem dX2_make_114 : decode cX2_make 114 = .ok (.iastore, 1) := by decide +kernel
theorem dX2_make_115 : decode cX2_make 115 = .ok (.iload 4, 2) := by decide +kernel
theorem dX2_make_117 : decode cX2_make 117 = .ok (.iconst 1, 1) := by decide +kernel
theorem dX2_make_118 : decode cX2_make 118 = .ok (.aload_n 0, 1) := by decide +kernel
theorem dX2_make_119 : decode cX2_make 119 = .ok (.getfield 15, 3) := by decide +kernel
theorem dX2_make_122 : decode cX2_make 122 = .ok (.iload 5, 2) := by decide +kernel
theorem dX2_make_124 : decode cX2_make 124 = .ok (.iaload, 1) := by decide +kernel
theorem dX2_make_125 : decode cX2_make 125 = .ok (.ishl, 1) := by decide +kernel
theorem dX2_make_126 : decode cX2_make 126 = .ok (.ior, 1) := by decide +kernel
theorem dX2_make_127 : decode cX2_make 127 = .ok (.istore 4, 2) := by decide +kernel
theorem dX2_make_129 : decode cX2_make 129 = .ok (.iinc 5 1, 3) := by decide +kernel
theorem dX2_make_132 : decode cX2_make 132 = .ok (.goto (-38), 3) := by decide +kernel
theorem dX2_make_135 : decode cX2_make 135 = .ok (.return_, 1) := by decide +kernel
theorem dX2_mendedFrom_0 : decode cX2_mendedFrom 0 = .ok (.aload_n 1, 1) := by decide +kernel
theorem dX2_mendedFrom_1 : decode cX2_mendedFrom 1 = .ok (.iload_n 2, 1) := by decide +kernel
theorem dX2_mendedFrom_2 : decode cX2_mendedFrom 2 = .ok (.invokestatic 31, 3) := by decide +kernel
theorem dX2_mendedFrom_5 : decode cX2_mendedFrom 5 = .ok (.aaload, 1) := by decide +kernel
theorem dX2_mendedFrom_6 : decode cX2_mendedFrom 6 = .ok (.astore 4, 2) := by decide +kernel
theorem dX2_mendedFrom_8 : decode cX2_mendedFrom 8 = .ok (.aload 4, 2) := by decide +kernel
theorem dX2_mendedFrom_10 : decode cX2_mendedFrom 10 = .ok (.aload 4, 2) := by decide +kernel
theorem dX2_mendedFrom_12 : decode cX2_mendedFrom 12 = .ok (.getfield 37, 3) := by decide +kernel
theorem dX2_mendedFrom_15 : decode cX2_mendedFrom 15 = .ok (.aload_n 1, 1) := by decide +kernel
theorem dX2_mendedFrom_16 : decode cX2_mendedFrom 16 = .ok (.iload_n 3, 1) := by decide +kernel
theorem dX2_mendedFrom_17 : decode cX2_mendedFrom 17 = .ok (.aaload, 1) := by decide +kernel
theorem dX2_mendedFrom_18 : decode cX2_mendedFrom 18 = .ok (.getfield 37, 3) := by decide +kernel
theorem dX2_mendedFrom_21 : decode cX2_mendedFrom 21 = .ok (.ior, 1) := by decide +kernel
theorem dX2_mendedFrom_22 : decode cX2_mendedFrom 22 = .ok (.invokevirtual 43, 3) := by decide +kernel
theorem dX2_mendedFrom_25 : decode cX2_mendedFrom 25 = .ok (.ifCond .eq 7, 3) := by decide +kernel
theorem dX2_mendedFrom_28 : decode cX2_mendedFrom 28 = .ok (.iconst 1, 1) := by decide +kernel
theorem dX2_mendedFrom_29 : decode cX2_mendedFrom 29 = .ok (.goto 4, 3) := by decide +kernel
theorem dX2_mendedFrom_32 : decode cX2_mendedFrom 32 = .ok (.iconst 0, 1) := by decide +kernel
theorem dX2_mendedFrom_33 : decode cX2_mendedFrom 33 = .ok (.istore 5, 2) := by decide +kernel
theorem dX2_mendedFrom_35 : decode cX2_mendedFrom 35 = .ok (.iload 5, 2) := by decide +kernel
theorem dX2_mendedFrom_37 : decode cX2_mendedFrom 37 = .ok (.aload_n 0, 1) := by decide +kernel
theorem dX2_mendedFrom_38 : decode cX2_mendedFrom 38 = .ok (.getfield 9, 3) := by decide +kernel
theorem dX2_mendedFrom_41 : decode cX2_mendedFrom 41 = .ok (.iload_n 2, 1) := by decide +kernel
theorem dX2_mendedFrom_42 : decode cX2_mendedFrom 42 = .ok (.iconst 1, 1) := by decide +kernel
theorem dX2_mendedFrom_43 : decode cX2_mendedFrom 43 = .ok (.iload_n 3, 1) := by decide +kernel
theorem dX2_mendedFrom_44 : decode cX2_mendedFrom 44 = .ok (.ishl, 1) := by decide +kernel
theorem dX2_mendedFrom_45 : decode cX2_mendedFrom 45 = .ok (.ior, 1) := by decide +kernel
theorem dX2_mendedFrom_46 : decode cX2_mendedFrom 46 = .ok (.iaload, 1) := by decide +kernel
theorem dX2_mendedFrom_47 : decode cX2_mendedFrom 47 = .ok (.iadd, 1) := by decide +kernel
theorem dX2_mendedFrom_48 : decode cX2_mendedFrom 48 = .ok (.ireturn, 1) := by decide +kernel
theorem dX2_firstBest_0 : decode cX2_firstBest 0 = .ok (.iconst 0, 1) := by decide +kernel
theorem dX2_firstBest_1 : decode cX2_firstBest 1 = .ok (.istore 4, 2) := by decide +kernel
theorem dX2_firstBest_3 : decode cX2_firstBest 3 = .ok (.iload 4, 2) := by decide +kernel
theorem dX2_firstBest_5 : decode cX2_firstBest 5 = .ok (.iload_n 2, 1) := by decide +kernel
theorem dX2_firstBest_6 : decode cX2_firstBest 6 = .ok (.if_icmp .ge 38, 3) := by decide +kernel
theorem dX2_firstBest_9 : decode cX2_firstBest 9 = .ok (.iload_n 3, 1) := by decide +kernel
theorem dX2_firstBest_10 : decode cX2_firstBest 10 = .ok (.iload 4, 2) := by decide +kernel
theorem dX2_firstBest_12 : decode cX2_firstBest 12 = .ok (.ishr, 1) := by decide +kernel
theorem dX2_firstBest_13 : decode cX2_firstBest 13 = .ok (.iconst 1, 1) := by decide +kernel
theorem dX2_firstBest_14 : decode cX2_firstBest 14 = .ok (.iand, 1) := by decide +kernel
theorem dX2_firstBest_15 : decode cX2_firstBest 15 = .ok (.ifCond .ne 23, 3) := by decide +kernel
theorem dX2_firstBest_18 : decode cX2_firstBest 18 = .ok (.aload_n 0, 1) := by decide +kernel
theorem dX2_firstBest_19 : decode cX2_firstBest 19 = .ok (.aload_n 1, 1) := by decide +kernel
theorem dX2_firstBest_20 : decode cX2_firstBest 20 = .ok (.iload_n 3, 1) := by decide +kernel
theorem dX2_firstBest_21 : decode cX2_firstBest 21 = .ok (.iload 4, 2) := by decide +kernel
theorem dX2_firstBest_23 : decode cX2_firstBest 23 = .ok (.invokevirtual 18, 3) := by decide +kernel
theorem dX2_firstBest_26 : decode cX2_firstBest 26 = .ok (.aload_n 0, 1) := by decide +kernel
theorem dX2_firstBest_27 : decode cX2_firstBest 27 = .ok (.getfield 9, 3) := by decide +kernel
theorem dX2_firstBest_30 : decode cX2_firstBest 30 = .ok (.iload_n 3, 1) := by decide +kernel
theorem dX2_firstBest_31 : decode cX2_firstBest 31 = .ok (.iaload, 1) := by decide +kernel
theorem dX2_firstBest_32 : decode cX2_firstBest 32 = .ok (.if_icmp .ne 6, 3) := by decide +kernel
theorem dX2_firstBest_35 : decode cX2_firstBest 35 = .ok (.iload 4, 2) := by decide +kernel
theorem dX2_firstBest_37 : decode cX2_firstBest 37 = .ok (.ireturn, 1) := by decide +kernel
theorem dX2_firstBest_38 : decode cX2_firstBest 38 = .ok (.iinc 4 1, 3) := by decide +kernel
theorem dX2_firstBest_41 : decode cX2_firstBest 41 = .ok (.goto (-38), 3) := by decide +kernel
theorem dX2_firstBest_44 : decode cX2_firstBest 44 = .ok (.iconst 0, 1) := by decide +kernel
theorem dX2_firstBest_45 : decode cX2_firstBest 45 = .ok (.ireturn, 1) := by decide +kernel
theorem dX3_init_0 : decode cX3_init 0 = .ok (.aload_n 0, 1) := by decide +kernel
theorem dX3_init_1 : decode cX3_init 1 = .ok (.invokespecial 3, 3) := by decide +kernel
theorem dX3_init_4 : decode cX3_init 4 = .ok (.aload_n 0, 1) := by decide +kernel
theorem dX3_init_5 : decode cX3_init 5 = .ok (.iconst 0, 1) := by decide +kernel
theorem dX3_init_6 : decode cX3_init 6 = .ok (.putfield 9, 3) := by decide +kernel
theorem dX3_init_9 : decode cX3_init 9 = .ok (.aload_n 0, 1) := by decide +kernel
theorem dX3_init_10 : decode cX3_init 10 = .ok (.iconst 0, 1) := by decide +kernel
theorem dX3_init_11 : decode cX3_init 11 = .ok (.putfield 15, 3) := by decide +kernel
theorem dX3_init_14 : decode cX3_init 14 = .ok (.aload_n 0, 1) := by decide +kernel
theorem dX3_init_15 : decode cX3_init 15 = .ok (.bipush 6, 2) := by decide +kernel
theorem dX3_init_17 : decode cX3_init 17 = .ok (.putfield 18, 3) := by decide +kernel
theorem dX3_init_20 : decode cX3_init 20 = .ok (.aload_n 0, 1) := by decide +kernel
theorem dX3_init_21 : decode cX3_init 21 = .ok (.iconst 1, 1) := by decide +kernel
theorem dX3_init_22 : decode cX3_init 22 = .ok (.putfield 21, 3) := by decide +kernel
theorem dX3_init_25 : decode cX3_init 25 = .ok (.return_, 1) := by decide +kernel
theorem dX3_readFrom_0 : decode cX3_readFrom 0 = .ok (.aload_n 1, 1) := by decide +kernel
theorem dX3_readFrom_1 : decode cX3_readFrom 1 = .ok (.getfield 24, 3) := by decide +kernel
theorem dX3_readFrom_4 : decode cX3_readFrom 4 = .ok (.iload_n 2, 1) := by decide +kernel
theorem dX3_readFrom_5 : decode cX3_readFrom 5 = .ok (.iconst 1, 1) := by decide +kernel
theorem dX3_readFrom_6 : decode cX3_readFrom 6 = .ok (.iadd, 1) := by decide +kernel
theorem dX3_readFrom_7 : decode cX3_readFrom 7 = .ok (.iaload, 1) := by decide +kernel
theorem dX3_readFrom_8 : decode cX3_readFrom 8 = .ok (.istore_n 3, 1) := by decide +kernel
theorem dX3_readFrom_9 : decode cX3_readFrom 9 = .ok (.aload_n 0, 1) := by decide +kernel
theorem dX3_readFrom_10 : decode cX3_readFrom 10 = .ok (.iload_n 3, 1) := by decide +kernel
theorem dX3_readFrom_11 : decode cX3_readFrom 11 = .ok (.bipush 116, 2) := by decide +kernel
theorem dX3_readFrom_13 : decode cX3_readFrom 13 = .ok (.if_icmp .ne 7, 3) := by decide +kernel
theorem dX3_readFrom_16 : decode cX3_readFrom 16 = .ok (.iconst 2, 1) := by decide +kernel
theorem dX3_readFrom_17 : decode cX3_readFrom 17 = .ok (.goto 14, 3) := by decide +kernel
theorem dX3_readFrom_20 : decode cX3_readFrom 20 = .ok (.iload_n 3, 1) := by decide +kernel
theorem dX3_readFrom_21 : decode cX3_readFrom 21 = .ok (.bipush 115, 2) := by decide +kernel
theorem dX3_readFrom_23 : decode cX3_readFrom 23 = .ok (.if_icmp .ne 7, 3) := by decide +kernel
theorem dX3_readFrom_26 : decode cX3_readFrom 26 = .ok (.iconst 1, 1) := by decide +kernel
theorem dX3_readFrom_27 : decode cX3_readFrom 27 = .ok (.goto 4, 3) := by decide +kernel
theorem dX3_readFrom_30 : decode cX3_readFrom 30 = .ok (.iconst 0, 1) := by decide +kernel
theorem dX3_readFrom_31 : decode cX3_readFrom 31 = .ok (.putfield 9, 3) := by decide +kernel
theorem dX3_readFrom_34 : decode cX3_readFrom 34 = .ok (.aload_n 0, 1) := by decide +kernel
theorem dX3_readFrom_35 : decode cX3_readFrom 35 = .ok (.bipush 10, 2) := by decide +kernel
theorem dX3_readFrom_37 : decode cX3_readFrom 37 = .ok (.aload_n 1, 1) := by decide +kernel
theorem dX3_readFrom_38 : decode cX3_readFrom 38 = .ok (.getfield 24, 3) := by decide +kernel
theorem dX3_readFrom_41 : decode cX3_readFrom 41 = .ok (.iload_n 2, 1) := by decide +kernel
theorem dX3_readFrom_42 : decode cX3_readFrom 42 = .ok (.iconst 2, 1) := by decide +kernel
theorem dX3_readFrom_43 : decode cX3_readFrom 43 = .ok (.iadd, 1) := by decide +kernel
theorem dX3_readFrom_44 : decode cX3_readFrom 44 = .ok (.iaload, 1) := by decide +kernel
theorem dX3_readFrom_45 : decode cX3_readFrom 45 = .ok (.bipush 48, 2) := by decide +kernel
theorem dX3_readFrom_47 : decode cX3_readFrom 47 = .ok (.isub, 1) := by decide +kernel
theorem dX3_readFrom_48 : decode cX3_readFrom 48 = .ok (.imul, 1) := by decide +kernel
theorem dX3_readFrom_49 : decode cX3_readFrom 49 = .ok (.aload_n 1, 1) := by decide +kernel
theorem dX3_readFrom_50 : decode cX3_readFrom 50 = .ok (.getfield 24, 3) := by decide +kernel
theorem dX3_readFrom_53 : decode cX3_readFrom 53 = .ok (.iload_n 2, 1) := by decide +kernel
theorem dX3_readFrom_54 : decode cX3_readFrom 54 = .ok (.iconst 3, 1) := by decide +kernel
theorem dX3_readFrom_55 : decode cX3_readFrom 55 = .ok (.iadd, 1) := by decide +kernel
theorem dX3_readFrom_56 : decode cX3_readFrom 56 = .ok (.iaload, 1) := by decide +kernel
theorem dX3_readFrom_57 : decode cX3_readFrom 57 = .ok (.iadd, 1) := by decide +kernel
theorem dX3_readFrom_58 : decode cX3_readFrom 58 = .ok (.bipush 48, 2) := by decide +kernel
theorem dX3_readFrom_60 : decode cX3_readFrom 60 = .ok (.isub, 1) := by decide +kernel
theorem dX3_readFrom_61 : decode cX3_readFrom 61 = .ok (.putfield 15, 3) := by decide +kernel
theorem dX3_readFrom_64 : decode cX3_readFrom 64 = .ok (.aload_n 0, 1) := by decide +kernel
theorem dX3_readFrom_65 : decode cX3_readFrom 65 = .ok (.aload_n 1, 1) := by decide +kernel
theorem dX3_readFrom_66 : decode cX3_readFrom 66 = .ok (.getfield 24, 3) := by decide +kernel
theorem dX3_readFrom_69 : decode cX3_readFrom 69 = .ok (.iload_n 2, 1) := by decide +kernel
theorem dX3_readFrom_70 : decode cX3_readFrom 70 = .ok (.iconst 4, 1) := by decide +kernel
theorem dX3_readFrom_71 : decode cX3_readFrom 71 = .ok (.iadd, 1) := by decide +kernel
theorem dX3_readFrom_72 : decode cX3_readFrom 72 = .ok (.iaload, 1) := by decide +kernel
theorem dX3_readFrom_73 : decode cX3_readFrom 73 = .ok (.bipush 48, 2) := by decide +kernel
theorem dX3_readFrom_75 : decode cX3_readFrom 75 = .ok (.isub, 1) := by decide +kernel
theorem dX3_readFrom_76 : decode cX3_readFrom 76 = .ok (.putfield 18, 3) := by decide +kernel
theorem dX3_readFrom_79 : decode cX3_readFrom 79 = .ok (.aload_n 0, 1) := by decide +kernel
theorem dX3_readFrom_80 : decode cX3_readFrom 80 = .ok (.aload_n 1, 1) := by decide +kernel
theorem dX3_readFrom_81 : decode cX3_readFrom 81 = .ok (.getfield 24, 3) := by decide +kernel
theorem dX3_readFrom_84 : decode cX3_readFrom 84 = .ok (.iload_n 2, 1) := by decide +kernel
theorem dX3_readFrom_85 : decode cX3_readFrom 85 = .ok (.iconst 5, 1) := by decide +kernel
theorem dX3_readFrom_86 : decode cX3_readFrom 86 = .ok (.iadd, 1) := by decide +kernel
theorem dX3_readFrom_87 : decode cX3_readFrom 87 = .ok (.iaload, 1) := by decide +kernel
theorem dX3_readFrom_88 : decode cX3_readFrom 88 = .ok (.bipush 48, 2) := by decide +kernel
theorem dX3_readFrom_90 : decode cX3_readFrom 90 = .ok (.isub, 1) := by decide +kernel
theorem dX3_readFrom_91 : decode cX3_readFrom 91 = .ok (.putfield 21, 3) := by decide +kernel
theorem dX3_readFrom_94 : decode cX3_readFrom 94 = .ok (.return_, 1) := by decide +kernel
theorem dX3_lasts_0 : decode cX3_lasts 0 = .ok (.aload_n 0, 1) := by decide +kernel
theorem dX3_lasts_1 : decode cX3_lasts 1 = .ok (.getfield 9, 3) := by decide +kernel
theorem dX3_lasts_4 : decode cX3_lasts 4 = .ok (.aload_n 0, 1) := by decide +kernel
theorem dX3_lasts_5 : decode cX3_lasts 5 = .ok (.getfield 21, 3) := by decide +kernel
theorem dX3_lasts_8 : decode cX3_lasts 8 = .ok (.invokestatic 30, 3) := by decide +kernel
theorem dX3_lasts_11 : decode cX3_lasts 11 = .ok (.ireturn, 1) := by decide +kernel
theorem dX3_wantedSet_0 : decode cX3_wantedSet 0 = .ok (.aload_n 0, 1) := by decide +kernel
theorem dX3_wantedSet_1 : decode cX3_wantedSet 1 = .ok (.getfield 18, 3) := by decide +kernel
theorem dX3_wantedSet_4 : decode cX3_wantedSet 4 = .ok (.bipush 6, 2) := by decide +kernel
theorem dX3_wantedSet_6 : decode cX3_wantedSet 6 = .ok (.if_icmp .ne 7, 3) := by decide +kernel
theorem dX3_wantedSet_9 : decode cX3_wantedSet 9 = .ok (.iconst 0, 1) := by decide +kernel
theorem dX3_wantedSet_10 : decode cX3_wantedSet 10 = .ok (.goto 9, 3) := by decide +kernel
theorem dX3_wantedSet_13 : decode cX3_wantedSet 13 = .ok (.iconst 1, 1) := by decide +kernel
theorem dX3_wantedSet_14 : decode cX3_wantedSet 14 = .ok (.aload_n 0, 1) := by decide +kernel
theorem dX3_wantedSet_15 : decode cX3_wantedSet 15 = .ok (.getfield 18, 3) := by decide +kernel
theorem dX3_wantedSet_18 : decode cX3_wantedSet 18 = .ok (.ishl, 1) := by decide +kernel
theorem dX3_wantedSet_19 : decode cX3_wantedSet 19 = .ok (.ireturn, 1) := by decide +kernel
theorem dX3_isMendedBy_0 : decode cX3_isMendedBy 0 = .ok (.aload_n 0, 1) := by decide +kernel
theorem dX3_isMendedBy_1 : decode cX3_isMendedBy 1 = .ok (.getfield 18, 3) := by decide +kernel
theorem dX3_isMendedBy_4 : decode cX3_isMendedBy 4 = .ok (.bipush 6, 2) := by decide +kernel
theorem dX3_isMendedBy_6 : decode cX3_isMendedBy 6 = .ok (.if_icmp .eq 12, 3) := by decide +kernel
theorem dX3_isMendedBy_9 : decode cX3_isMendedBy 9 = .ok (.iload_n 1, 1) := by decide +kernel
theorem dX3_isMendedBy_10 : decode cX3_isMendedBy 10 = .ok (.aload_n 0, 1) := by decide +kernel
theorem dX3_isMendedBy_11 : decode cX3_isMendedBy 11 = .ok (.invokevirtual 34, 3) := by decide +kernel
theorem dX3_isMendedBy_14 : decode cX3_isMendedBy 14 = .ok (.iand, 1) := by decide +kernel
theorem dX3_isMendedBy_15 : decode cX3_isMendedBy 15 = .ok (.ifCond .eq 7, 3) := by decide +kernel
theorem dX3_isMendedBy_18 : decode cX3_isMendedBy 18 = .ok (.iconst 1, 1) := by decide +kernel
theorem dX3_isMendedBy_19 : decode cX3_isMendedBy 19 = .ok (.goto 4, 3) := by decide +kernel
theorem dX3_isMendedBy_22 : decode cX3_isMendedBy 22 = .ok (.iconst 0, 1) := by decide +kernel
theorem dX3_isMendedBy_23 : decode cX3_isMendedBy 23 = .ok (.ireturn, 1) := by decide +kernel
theorem dX4_init_0 : decode cX4_init 0 = .ok (.aload_n 0, 1) := by decide +kernel
theorem dX4_init_1 : decode cX4_init 1 = .ok (.invokespecial 3, 3) := by decide +kernel
theorem dX4_init_4 : decode cX4_init 4 = .ok (.aload_n 0, 1) := by decide +kernel
theorem dX4_init_5 : decode cX4_init 5 = .ok (.bipush 8, 2) := by decide +kernel
theorem dX4_init_7 : decode cX4_init 7 = .ok (.newarray .int, 2) := by decide +kernel
theorem dX4_init_9 : decode cX4_init 9 = .ok (.putfield 9, 3) := by decide +kernel
theorem dX4_init_12 : decode cX4_init 12 = .ok (.aload_n 0, 1) := by decide +kernel
theorem dX4_init_13 : decode cX4_init 13 = .ok (.bipush 8, 2) := by decide +kernel
theorem dX4_init_15 : decode cX4_init 15 = .ok (.newarray .int, 2) := by decide +kernel
theorem dX4_init_17 : decode cX4_init 17 = .ok (.putfield 15, 3) := by decide +kernel
theorem dX4_init_20 : decode cX4_init 20 = .ok (.aload_n 0, 1) := by decide +kernel
theorem dX4_init_21 : decode cX4_init 21 = .ok (.bipush 8, 2) := by decide +kernel
theorem dX4_init_23 : decode cX4_init 23 = .ok (.newarray .boolean, 2) := by decide +kernel
theorem dX4_init_25 : decode cX4_init 25 = .ok (.putfield 18, 3) := by decide +kernel
theorem dX4_init_28 : decode cX4_init 28 = .ok (.aload_n 0, 1) := by decide +kernel
theorem dX4_init_29 : decode cX4_init 29 = .ok (.iconst 0, 1) := by decide +kernel
theorem dX4_init_30 : decode cX4_init 30 = .ok (.putfield 22, 3) := by decide +kernel
theorem dX4_init_33 : decode cX4_init 33 = .ok (.return_, 1) := by decide +kernel
theorem dX4_add_0 : decode cX4_add 0 = .ok (.aload_n 0, 1) := by decide +kernel
theorem dX4_add_1 : decode cX4_add 1 = .ok (.getfield 22, 3) := by decide +kernel
theorem dX4_add_4 : decode cX4_add 4 = .ok (.bipush 8, 2) := by decide +kernel
theorem dX4_add_6 : decode cX4_add 6 = .ok (.if_icmp .lt 5, 3) := by decide +kernel
theorem dX4_add_9 : decode cX4_add 9 = .ok (.iconst 0, 1) := by decide +kernel
theorem dX4_add_10 : decode cX4_add 10 = .ok (.ireturn, 1) := by decide +kernel
theorem dX4_add_11 : decode cX4_add 11 = .ok (.aload_n 0, 1) := by decide +kernel
theorem dX4_add_12 : decode cX4_add 12 = .ok (.getfield 9, 3) := by decide +kernel
theorem dX4_add_15 : decode cX4_add 15 = .ok (.aload_n 0, 1) := by decide +kernel
theorem dX4_add_16 : decode cX4_add 16 = .ok (.getfield 22, 3) := by decide +kernel
theorem dX4_add_19 : decode cX4_add 19 = .ok (.iload_n 1, 1) := by decide +kernel
theorem dX4_add_20 : decode cX4_add 20 = .ok (.iastore, 1) := by decide +kernel
theorem dX4_add_21 : decode cX4_add 21 = .ok (.aload_n 0, 1) := by decide +kernel
theorem dX4_add_22 : decode cX4_add 22 = .ok (.getfield 15, 3) := by decide +kernel
theorem dX4_add_25 : decode cX4_add 25 = .ok (.aload_n 0, 1) := by decide +kernel
theorem dX4_add_26 : decode cX4_add 26 = .ok (.getfield 22, 3) := by decide +kernel
theorem dX4_add_29 : decode cX4_add 29 = .ok (.iload_n 2, 1) := by decide +kernel
theorem dX4_add_30 : decode cX4_add 30 = .ok (.iastore, 1) := by decide +kernel
theorem dX4_add_31 : decode cX4_add 31 = .ok (.aload_n 0, 1) := by decide +kernel
theorem dX4_add_32 : decode cX4_add 32 = .ok (.getfield 18, 3) := by decide +kernel
theorem dX4_add_35 : decode cX4_add 35 = .ok (.aload_n 0, 1) := by decide +kernel
theorem dX4_add_36 : decode cX4_add 36 = .ok (.getfield 22, 3) := by decide +kernel
theorem dX4_add_39 : decode cX4_add 39 = .ok (.iload_n 3, 1) := by decide +kernel
theorem dX4_add_40 : decode cX4_add 40 = .ok (.bastore, 1) := by decide +kernel
theorem dX4_add_41 : decode cX4_add 41 = .ok (.aload_n 0, 1) := by decide +kernel
theorem dX4_add_42 : decode cX4_add 42 = .ok (.dup, 1) := by decide +kernel
theorem dX4_add_43 : decode cX4_add 43 = .ok (.getfield 22, 3) := by decide +kernel
theorem dX4_add_46 : decode cX4_add 46 = .ok (.iconst 1, 1) := by decide +kernel
theorem dX4_add_47 : decode cX4_add 47 = .ok (.iadd, 1) := by decide +kernel
theorem dX4_add_48 : decode cX4_add 48 = .ok (.putfield 22, 3) := by decide +kernel
theorem dX4_add_51 : decode cX4_add 51 = .ok (.iconst 1, 1) := by decide +kernel
theorem dX4_add_52 : decode cX4_add 52 = .ok (.ireturn, 1) := by decide +kernel
theorem dX4_areSoIn_0 : decode cX4_areSoIn 0 = .ok (.iconst 0, 1) := by decide +kernel
theorem dX4_areSoIn_1 : decode cX4_areSoIn 1 = .ok (.istore_n 2, 1) := by decide +kernel
theorem dX4_areSoIn_2 : decode cX4_areSoIn 2 = .ok (.iload_n 2, 1) := by decide +kernel
theorem dX4_areSoIn_3 : decode cX4_areSoIn 3 = .ok (.aload_n 0, 1) := by decide +kernel
theorem dX4_areSoIn_4 : decode cX4_areSoIn 4 = .ok (.getfield 22, 3) := by decide +kernel
theorem dX4_areSoIn_7 : decode cX4_areSoIn 7 = .ok (.if_icmp .ge 51, 3) := by decide +kernel
theorem dX4_areSoIn_10 : decode cX4_areSoIn 10 = .ok (.aload_n 1, 1) := by decide +kernel
theorem dX4_areSoIn_11 : decode cX4_areSoIn 11 = .ok (.getfield 26, 3) := by decide +kernel
theorem dX4_areSoIn_14 : decode cX4_areSoIn 14 = .ok (.aload_n 0, 1) := by decide +kernel
theorem dX4_areSoIn_15 : decode cX4_areSoIn 15 = .ok (.getfield 9, 3) := by decide +kernel
theorem dX4_areSoIn_18 : decode cX4_areSoIn 18 = .ok (.iload_n 2, 1) := by decide +kernel
theorem dX4_areSoIn_19 : decode cX4_areSoIn 19 = .ok (.iaload, 1) := by decide +kernel
theorem dX4_areSoIn_20 : decode cX4_areSoIn 20 = .ok (.iaload, 1) := by decide +kernel
theorem dX4_areSoIn_21 : decode cX4_areSoIn 21 = .ok (.aload_n 0, 1) := by decide +kernel
theorem dX4_areSoIn_22 : decode cX4_areSoIn 22 = .ok (.getfield 15, 3) := by decide +kernel
theorem dX4_areSoIn_25 : decode cX4_areSoIn 25 = .ok (.iload_n 2, 1) := by decide +kernel
theorem dX4_areSoIn_26 : decode cX4_areSoIn 26 = .ok (.iaload, 1) := by decide +kernel
theorem dX4_areSoIn_27 : decode cX4_areSoIn 27 = .ok (.ishr, 1) := by decide +kernel
theorem dX4_areSoIn_28 : decode cX4_areSoIn 28 = .ok (.iconst 1, 1) := by decide +kernel
theorem dX4_areSoIn_29 : decode cX4_areSoIn 29 = .ok (.iand, 1) := by decide +kernel
theorem dX4_areSoIn_30 : decode cX4_areSoIn 30 = .ok (.iconst 1, 1) := by decide +kernel
theorem dX4_areSoIn_31 : decode cX4_areSoIn 31 = .ok (.if_icmp .ne 7, 3) := by decide +kernel
theorem dX4_areSoIn_34 : decode cX4_areSoIn 34 = .ok (.iconst 1, 1) := by decide +kernel
theorem dX4_areSoIn_35 : decode cX4_areSoIn 35 = .ok (.goto 4, 3) := by decide +kernel
theorem dX4_areSoIn_38 : decode cX4_areSoIn 38 = .ok (.iconst 0, 1) := by decide +kernel
theorem dX4_areSoIn_39 : decode cX4_areSoIn 39 = .ok (.istore_n 3, 1) := by decide +kernel
theorem dX4_areSoIn_40 : decode cX4_areSoIn 40 = .ok (.iload_n 3, 1) := by decide +kernel
theorem dX4_areSoIn_41 : decode cX4_areSoIn 41 = .ok (.aload_n 0, 1) := by decide +kernel
theorem dX4_areSoIn_42 : decode cX4_areSoIn 42 = .ok (.getfield 18, 3) := by decide +kernel
theorem dX4_areSoIn_45 : decode cX4_areSoIn 45 = .ok (.iload_n 2, 1) := by decide +kernel
theorem dX4_areSoIn_46 : decode cX4_areSoIn 46 = .ok (.baload, 1) := by decide +kernel
theorem dX4_areSoIn_47 : decode cX4_areSoIn 47 = .ok (.if_icmp .eq 5, 3) := by decide +kernel
theorem dX4_areSoIn_50 : decode cX4_areSoIn 50 = .ok (.iconst 0, 1) := by decide +kernel
theorem dX4_areSoIn_51 : decode cX4_areSoIn 51 = .ok (.ireturn, 1) := by decide +kernel
theorem dX4_areSoIn_52 : decode cX4_areSoIn 52 = .ok (.iinc 2 1, 3) := by decide +kernel
theorem dX4_areSoIn_55 : decode cX4_areSoIn 55 = .ok (.goto (-53), 3) := by decide +kernel
theorem dX4_areSoIn_58 : decode cX4_areSoIn 58 = .ok (.iconst 1, 1) := by decide +kernel
theorem dX4_areSoIn_59 : decode cX4_areSoIn 59 = .ok (.ireturn, 1) := by decide +kernel
theorem dX5_init_0 : decode cX5_init 0 = .ok (.aload_n 0, 1) := by decide +kernel
theorem dX5_init_1 : decode cX5_init 1 = .ok (.invokespecial 3, 3) := by decide +kernel
theorem dX5_init_4 : decode cX5_init 4 = .ok (.aload_n 0, 1) := by decide +kernel
theorem dX5_init_5 : decode cX5_init 5 = .ok (.bipush 60, 2) := by decide +kernel
theorem dX5_init_7 : decode cX5_init 7 = .ok (.newarray .int, 2) := by decide +kernel
theorem dX5_init_9 : decode cX5_init 9 = .ok (.putfield 9, 3) := by decide +kernel
theorem dX5_init_12 : decode cX5_init 12 = .ok (.aload_n 0, 1) := by decide +kernel
theorem dX5_init_13 : decode cX5_init 13 = .ok (.iconst 0, 1) := by decide +kernel
theorem dX5_init_14 : decode cX5_init 14 = .ok (.putfield 15, 3) := by decide +kernel
theorem dX5_init_17 : decode cX5_init 17 = .ok (.aload_n 0, 1) := by decide +kernel
theorem dX5_init_18 : decode cX5_init 18 = .ok (.iconst 0, 1) := by decide +kernel
theorem dX5_init_19 : decode cX5_init 19 = .ok (.putfield 19, 3) := by decide +kernel
theorem dX5_init_22 : decode cX5_init 22 = .ok (.aload_n 0, 1) := by decide +kernel
theorem dX5_init_23 : decode cX5_init 23 = .ok (.iconst 0, 1) := by decide +kernel
theorem dX5_init_24 : decode cX5_init 24 = .ok (.putfield 23, 3) := by decide +kernel
theorem dX5_init_27 : decode cX5_init 27 = .ok (.return_, 1) := by decide +kernel
theorem dX5_renew_0 : decode cX5_renew 0 = .ok (.aload_n 0, 1) := by decide +kernel
theorem dX5_renew_1 : decode cX5_renew 1 = .ok (.iconst 1, 1) := by decide +kernel
theorem dX5_renew_2 : decode cX5_renew 2 = .ok (.putfield 15, 3) := by decide +kernel
theorem dX5_renew_5 : decode cX5_renew 5 = .ok (.aload_n 0, 1) := by decide +kernel
theorem dX5_renew_6 : decode cX5_renew 6 = .ok (.iload_n 1, 1) := by decide +kernel
theorem dX5_renew_7 : decode cX5_renew 7 = .ok (.putfield 19, 3) := by decide +kernel
theorem dX5_renew_10 : decode cX5_renew 10 = .ok (.aload_n 0, 1) := by decide +kernel
theorem dX5_renew_11 : decode cX5_renew 11 = .ok (.iload_n 2, 1) := by decide +kernel
theorem dX5_renew_12 : decode cX5_renew 12 = .ok (.putfield 23, 3) := by decide +kernel
theorem dX5_renew_15 : decode cX5_renew 15 = .ok (.iconst 0, 1) := by decide +kernel
theorem dX5_renew_16 : decode cX5_renew 16 = .ok (.istore_n 3, 1) := by decide +kernel
theorem dX5_renew_17 : decode cX5_renew 17 = .ok (.iload_n 3, 1) := by decide +kernel
theorem dX5_renew_18 : decode cX5_renew 18 = .ok (.bipush 60, 2) := by decide +kernel
theorem dX5_renew_20 : decode cX5_renew 20 = .ok (.if_icmp .ge 16, 3) := by decide +kernel
theorem dX5_renew_23 : decode cX5_renew 23 = .ok (.aload_n 0, 1) := by decide +kernel
theorem dX5_renew_24 : decode cX5_renew 24 = .ok (.getfield 9, 3) := by decide +kernel
theorem dX5_renew_27 : decode cX5_renew 27 = .ok (.iload_n 3, 1) := by decide +kernel
theorem dX5_renew_28 : decode cX5_renew 28 = .ok (.iconst 0, 1) := by decide +kernel
theorem dX5_renew_29 : decode cX5_renew 29 = .ok (.iastore, 1) := by decide +kernel
theorem dX5_renew_30 : decode cX5_renew 30 = .ok (.iinc 3 1, 3) := by decide +kernel
theorem dX5_renew_33 : decode cX5_renew 33 = .ok (.goto (-16), 3) := by decide +kernel
theorem dX5_renew_36 : decode cX5_renew 36 = .ok (.return_, 1) := by decide +kernel
theorem dX5_faultOfCells_0 : decode cX5_faultOfCells 0 = .ok (.aload_n 0, 1) := by decide +kernel
theorem dX5_faultOfCells_1 : decode cX5_faultOfCells 1 = .ok (.getfield 15, 3) := by decide +kernel
theorem dX5_faultOfCells_4 : decode cX5_faultOfCells 4 = .ok (.ifCond .eq 13, 3) := by decide +kernel
theorem dX5_faultOfCells_7 : decode cX5_faultOfCells 7 = .ok (.aload_n 0, 1) := by decide +kernel
theorem dX5_faultOfCells_8 : decode cX5_faultOfCells 8 = .ok (.getfield 19, 3) := by decide +kernel
theorem dX5_faultOfCells_11 : decode cX5_faultOfCells 11 = .ok (.iload_n 1, 1) := by decide +kernel
theorem dX5_faultOfCells_12 : decode cX5_faultOfCells 12 = .ok (.if_icmp .eq 5, 3) := by decide +kernel
theorem dX5_faultOfCells_15 : decode cX5_faultOfCells 15 = .ok (.iconst 2, 1) := by decide +kernel
theorem dX5_faultOfCells_16 : decode cX5_faultOfCells 16 = .ok (.ireturn, 1) := by decide +kernel
theorem dX5_faultOfCells_17 : decode cX5_faultOfCells 17 = .ok (.aload_n 0, 1) := by decide +kernel
theorem dX5_faultOfCells_18 : decode cX5_faultOfCells 18 = .ok (.getfield 15, 3) := by decide +kernel
theorem dX5_faultOfCells_21 : decode cX5_faultOfCells 21 = .ok (.ifCond .ne 5, 3) := by decide +kernel
theorem dX5_faultOfCells_24 : decode cX5_faultOfCells 24 = .ok (.iconst 1, 1) := by decide +kernel
theorem dX5_faultOfCells_25 : decode cX5_faultOfCells 25 = .ok (.ireturn, 1) := by decide +kernel
theorem dX5_faultOfCells_26 : decode cX5_faultOfCells 26 = .ok (.iload_n 3, 1) := by decide +kernel
theorem dX5_faultOfCells_27 : decode cX5_faultOfCells 27 = .ok (.ifCond .ge 5, 3) := by decide +kernel
theorem dX5_faultOfCells_30 : decode cX5_faultOfCells 30 = .ok (.iconst 4, 1) := by decide +kernel
theorem dX5_faultOfCells_31 : decode cX5_faultOfCells 31 = .ok (.ireturn, 1) := by decide +kernel
theorem dX5_faultOfCells_32 : decode cX5_faultOfCells 32 = .ok (.aload_n 0, 1) := by decide +kernel
theorem dX5_faultOfCells_33 : decode cX5_faultOfCells 33 = .ok (.iload_n 2, 1) := by decide +kernel
theorem dX5_faultOfCells_34 : decode cX5_faultOfCells 34 = .ok (.iload_n 3, 1) := by decide +kernel
theorem dX5_faultOfCells_35 : decode cX5_faultOfCells 35 = .ok (.invokevirtual 26, 3) := by decide +kernel
theorem dX5_faultOfCells_38 : decode cX5_faultOfCells 38 = .ok (.ifCond .eq 7, 3) := by decide +kernel
theorem dX5_faultOfCells_41 : decode cX5_faultOfCells 41 = .ok (.iconst 0, 1) := by decide +kernel
theorem dX5_faultOfCells_42 : decode cX5_faultOfCells 42 = .ok (.goto 4, 3) := by decide +kernel
theorem dX5_faultOfCells_45 : decode cX5_faultOfCells 45 = .ok (.iconst 3, 1) := by decide +kernel
theorem dX5_faultOfCells_46 : decode cX5_faultOfCells 46 = .ok (.ireturn, 1) := by decide +kernel
theorem dX5_hasCells_0 : decode cX5_hasCells 0 = .ok (.iload_n 2, 1) := by decide +kernel
theorem dX5_hasCells_1 : decode cX5_hasCells 1 = .ok (.ifCond .lt 29, 3) := by decide +kernel
theorem dX5_hasCells_4 : decode cX5_hasCells 4 = .ok (.iload_n 1, 1) := by decide +kernel
theorem dX5_hasCells_5 : decode cX5_hasCells 5 = .ok (.ifCond .lt 25, 3) := by decide +kernel
theorem dX5_hasCells_8 : decode cX5_hasCells 8 = .ok (.iload_n 1, 1) := by decide +kernel
theorem dX5_hasCells_9 : decode cX5_hasCells 9 = .ok (.aload_n 0, 1) := by decide +kernel
theorem dX5_hasCells_10 : decode cX5_hasCells 10 = .ok (.getfield 23, 3) := by decide +kernel
theorem dX5_hasCells_13 : decode cX5_hasCells 13 = .ok (.if_icmp .gt 17, 3) := by decide +kernel
theorem dX5_hasCells_16 : decode cX5_hasCells 16 = .ok (.iload_n 2, 1) := by decide +kernel
theorem dX5_hasCells_17 : decode cX5_hasCells 17 = .ok (.aload_n 0, 1) := by decide +kernel
theorem dX5_hasCells_18 : decode cX5_hasCells 18 = .ok (.getfield 23, 3) := by decide +kernel
theorem dX5_hasCells_21 : decode cX5_hasCells 21 = .ok (.iload_n 1, 1) := by decide +kernel
theorem dX5_hasCells_22 : decode cX5_hasCells 22 = .ok (.isub, 1) := by decide +kernel
theorem dX5_hasCells_23 : decode cX5_hasCells 23 = .ok (.if_icmp .gt 7, 3) := by decide +kernel
theorem dX5_hasCells_26 : decode cX5_hasCells 26 = .ok (.iconst 1, 1) := by decide +kernel
theorem dX5_hasCells_27 : decode cX5_hasCells 27 = .ok (.goto 4, 3) := by decide +kernel
theorem dX5_hasCells_30 : decode cX5_hasCells 30 = .ok (.iconst 0, 1) := by decide +kernel
theorem dX5_hasCells_31 : decode cX5_hasCells 31 = .ok (.ireturn, 1) := by decide +kernel
theorem dX6_init_0 : decode cX6_init 0 = .ok (.aload_n 0, 1) := by decide +kernel
theorem dX6_init_1 : decode cX6_init 1 = .ok (.invokespecial 3, 3) := by decide +kernel
theorem dX6_init_4 : decode cX6_init 4 = .ok (.aload_n 0, 1) := by decide +kernel
theorem dX6_init_5 : decode cX6_init 5 = .ok (.iconst 4, 1) := by decide +kernel
theorem dX6_init_6 : decode cX6_init 6 = .ok (.anewarray 11, 3) := by decide +kernel
theorem dX6_init_9 : decode cX6_init 9 = .ok (.putfield 13, 3) := by decide +kernel
theorem dX6_init_12 : decode cX6_init 12 = .ok (.aload_n 0, 1) := by decide +kernel
theorem dX6_init_13 : decode cX6_init 13 = .ok (.bipush 6, 2) := by decide +kernel
theorem dX6_init_15 : decode cX6_init 15 = .ok (.anewarray 17, 3) := by decide +kernel
theorem dX6_init_18 : decode cX6_init 18 = .ok (.putfield 19, 3) := by decide +kernel
theorem dX6_init_21 : decode cX6_init 21 = .ok (.aload_n 0, 1) := by decide +kernel
theorem dX6_init_22 : decode cX6_init 22 = .ok (.new 23, 3) := by decide +kernel
theorem dX6_init_25 : decode cX6_init 25 = .ok (.dup, 1) := by decide +kernel
theorem dX6_init_26 : decode cX6_init 26 = .ok (.invokespecial 25, 3) := by decide +kernel
theorem dX6_init_29 : decode cX6_init 29 = .ok (.putfield 26, 3) := by decide +kernel
theorem dX6_init_32 : decode cX6_init 32 = .ok (.aload_n 0, 1) := by decide +kernel
theorem dX6_init_33 : decode cX6_init 33 = .ok (.new 30, 3) := by decide +kernel
theorem dX6_init_36 : decode cX6_init 36 = .ok (.dup, 1) := by decide +kernel
theorem dX6_init_37 : decode cX6_init 37 = .ok (.invokespecial 32, 3) := by decide +kernel
theorem dX6_init_40 : decode cX6_init 40 = .ok (.putfield 33, 3) := by decide +kernel
theorem dX6_init_43 : decode cX6_init 43 = .ok (.aload_n 0, 1) := by decide +kernel
theorem dX6_init_44 : decode cX6_init 44 = .ok (.new 37, 3) := by decide +kernel
theorem dX6_init_47 : decode cX6_init 47 = .ok (.dup, 1) := by decide +kernel
theorem dX6_init_48 : decode cX6_init 48 = .ok (.invokespecial 39, 3) := by decide +kernel
theorem dX6_init_51 : decode cX6_init 51 = .ok (.putfield 40, 3) := by decide +kernel
theorem dX6_init_54 : decode cX6_init 54 = .ok (.aload_n 0, 1) := by decide +kernel
theorem dX6_init_55 : decode cX6_init 55 = .ok (.new 44, 3) := by decide +kernel
theorem dX6_init_58 : decode cX6_init 58 = .ok (.dup, 1) := by decide +kernel
theorem dX6_init_59 : decode cX6_init 59 = .ok (.invokespecial 46, 3) := by decide +kernel
theorem dX6_init_62 : decode cX6_init 62 = .ok (.putfield 47, 3) := by decide +kernel
theorem dX6_init_65 : decode cX6_init 65 = .ok (.aload_n 0, 1) := by decide +kernel
theorem dX6_init_66 : decode cX6_init 66 = .ok (.bipush 40, 2) := by decide +kernel
theorem dX6_init_68 : decode cX6_init 68 = .ok (.newarray .int, 2) := by decide +kernel
theorem dX6_init_70 : decode cX6_init 70 = .ok (.putfield 51, 3) := by decide +kernel
theorem dX6_init_73 : decode cX6_init 73 = .ok (.aload_n 0, 1) := by decide +kernel
theorem dX6_init_74 : decode cX6_init 74 = .ok (.iconst 0, 1) := by decide +kernel
theorem dX6_init_75 : decode cX6_init 75 = .ok (.putfield 55, 3) := by decide +kernel
theorem dX6_init_78 : decode cX6_init 78 = .ok (.aload_n 0, 1) := by decide +kernel
theorem dX6_init_79 : decode cX6_init 79 = .ok (.iconst 0, 1) := by decide +kernel
theorem dX6_init_80 : decode cX6_init 80 = .ok (.putfield 59, 3) := by decide +kernel
theorem dX6_init_83 : decode cX6_init 83 = .ok (.aload_n 0, 1) := by decide +kernel
theorem dX6_init_84 : decode cX6_init 84 = .ok (.iconst 0, 1) := by decide +kernel
theorem dX6_init_85 : decode cX6_init 85 = .ok (.putfield 62, 3) := by decide +kernel
theorem dX6_init_88 : decode cX6_init 88 = .ok (.iconst 0, 1) := by decide +kernel
theorem dX6_init_89 : decode cX6_init 89 = .ok (.istore_n 1, 1) := by decide +kernel
theorem dX6_init_90 : decode cX6_init 90 = .ok (.iload_n 1, 1) := by decide +kernel
theorem dX6_init_91 : decode cX6_init 91 = .ok (.iconst 4, 1) := by decide +kernel
theorem dX6_init_92 : decode cX6_init 92 = .ok (.if_icmp .ge 22, 3) := by decide +kernel
theorem dX6_init_95 : decode cX6_init 95 = .ok (.aload_n 0, 1) := by decide +kernel
theorem dX6_init_96 : decode cX6_init 96 = .ok (.getfield 13, 3) := by decide +kernel
theorem dX6_init_99 : decode cX6_init 99 = .ok (.iload_n 1, 1) := by decide +kernel
theorem dX6_init_100 : decode cX6_init 100 = .ok (.new 11, 3) := by decide +kernel
theorem dX6_init_103 : decode cX6_init 103 = .ok (.dup, 1) := by decide +kernel
theorem dX6_init_104 : decode cX6_init 104 = .ok (.invokespecial 65, 3) := by decide +kernel
theorem dX6_init_107 : decode cX6_init 107 = .ok (.aastore, 1) := by decide +kernel
theorem dX6_init_108 : decode cX6_init 108 = .ok (.iinc 1 1, 3) := by decide +kernel
theorem dX6_init_111 : decode cX6_init 111 = .ok (.goto (-21), 3) := by decide +kernel
theorem dX6_init_114 : decode cX6_init 114 = .ok (.iconst 0, 1) := by decide +kernel
theorem dX6_init_115 : decode cX6_init 115 = .ok (.istore_n 1, 1) := by decide +kernel
theorem dX6_init_116 : decode cX6_init 116 = .ok (.iload_n 1, 1) := by decide +kernel
theorem dX6_init_117 : decode cX6_init 117 = .ok (.bipush 6, 2) := by decide +kernel
theorem dX6_init_119 : decode cX6_init 119 = .ok (.if_icmp .ge 22, 3) := by decide +kernel
theorem dX6_init_122 : decode cX6_init 122 = .ok (.aload_n 0, 1) := by decide +kernel
theorem dX6_init_123 : decode cX6_init 123 = .ok (.getfield 19, 3) := by decide +kernel
theorem dX6_init_126 : decode cX6_init 126 = .ok (.iload_n 1, 1) := by decide +kernel
theorem dX6_init_127 : decode cX6_init 127 = .ok (.new 17, 3) := by decide +kernel
theorem dX6_init_130 : decode cX6_init 130 = .ok (.dup, 1) := by decide +kernel
theorem dX6_init_131 : decode cX6_init 131 = .ok (.invokespecial 66, 3) := by decide +kernel
theorem dX6_init_134 : decode cX6_init 134 = .ok (.aastore, 1) := by decide +kernel
theorem dX6_init_135 : decode cX6_init 135 = .ok (.iinc 1 1, 3) := by decide +kernel
theorem dX6_init_138 : decode cX6_init 138 = .ok (.goto (-22), 3) := by decide +kernel
theorem dX6_init_141 : decode cX6_init 141 = .ok (.return_, 1) := by decide +kernel
theorem dX6_counter_0 : decode cX6_counter 0 = .ok (.aload_n 0, 1) := by decide +kernel
theorem dX6_counter_1 : decode cX6_counter 1 = .ok (.iconst 0, 1) := by decide +kernel
theorem dX6_counter_2 : decode cX6_counter 2 = .ok (.putfield 62, 3) := by decide +kernel
theorem dX6_counter_5 : decode cX6_counter 5 = .ok (.iload_n 1, 1) := by decide +kernel
theorem dX6_counter_6 : decode cX6_counter 6 = .ok (.invokestatic 67, 3) := by decide +kernel
theorem dX6_counter_9 : decode cX6_counter 9 = .ok (.ifCond .ne 5, 3) := by decide +kernel
theorem dX6_counter_12 : decode cX6_counter 12 = .ok (.iconst (-1), 1) := by decide +kernel
theorem dX6_counter_13 : decode cX6_counter 13 = .ok (.ireturn, 1) := by decide +kernel
theorem dX6_counter_14 : decode cX6_counter 14 = .ok (.iload_n 2, 1) := by decide +kernel
theorem dX6_counter_15 : decode cX6_counter 15 = .ok (.invokestatic 71, 3) := by decide +kernel
theorem dX6_counter_18 : decode cX6_counter 18 = .ok (.ifCond .ne 6, 3) := by decide +kernel
theorem dX6_counter_21 : decode cX6_counter 21 = .ok (.bipush (-2), 2) := by decide +kernel
theorem dX6_counter_23 : decode cX6_counter 23 = .ok (.ireturn, 1) := by decide +kernel
theorem dX6_counter_24 : decode cX6_counter 24 = .ok (.aload_n 0, 1) := by decide +kernel
theorem dX6_counter_25 : decode cX6_counter 25 = .ok (.getfield 13, 3) := by decide +kernel
theorem dX6_counter_28 : decode cX6_counter 28 = .ok (.iload_n 1, 1) := by decide +kernel
theorem dX6_counter_29 : decode cX6_counter 29 = .ok (.aaload, 1) := by decide +kernel
theorem dX6_counter_30 : decode cX6_counter 30 = .ok (.astore 5, 2) := by decide +kernel
theorem dX6_counter_32 : decode cX6_counter 32 = .ok (.aload 5, 2) := by decide +kernel
theorem dX6_counter_34 : decode cX6_counter 34 = .ok (.iload_n 2, 1) := by decide +kernel
theorem dX6_counter_35 : decode cX6_counter 35 = .ok (.iload_n 3, 1) := by decide +kernel
theorem dX6_counter_36 : decode cX6_counter 36 = .ok (.iload 4, 2) := by decide +kernel
theorem dX6_counter_38 : decode cX6_counter 38 = .ok (.invokevirtual 74, 3) := by decide +kernel
theorem dX6_counter_41 : decode cX6_counter 41 = .ok (.istore 6, 2) := by decide +kernel
theorem dX6_counter_43 : decode cX6_counter 43 = .ok (.iload 6, 2) := by decide +kernel
theorem dX6_counter_45 : decode cX6_counter 45 = .ok (.ifCond .eq 10, 3) := by decide +kernel
theorem dX6_counter_48 : decode cX6_counter 48 = .ok (.aload_n 0, 1) := by decide +kernel
theorem dX6_counter_49 : decode cX6_counter 49 = .ok (.iload 6, 2) := by decide +kernel
theorem dX6_counter_51 : decode cX6_counter 51 = .ok (.invokevirtual 78, 3) := by decide +kernel
theorem dX6_counter_54 : decode cX6_counter 54 = .ok (.ireturn, 1) := by decide +kernel
theorem dX6_counter_55 : decode cX6_counter 55 = .ok (.aload 5, 2) := by decide +kernel
theorem dX6_counter_57 : decode cX6_counter 57 = .ok (.iload_n 3, 1) := by decide +kernel
theorem dX6_counter_58 : decode cX6_counter 58 = .ok (.iload 4, 2) := by decide +kernel
theorem dX6_counter_60 : decode cX6_counter 60 = .ok (.invokestatic 82, 3) := by decide +kernel
theorem dX6_counter_63 : decode cX6_counter 63 = .ok (.istore 7, 2) := by decide +kernel
theorem dX6_counter_65 : decode cX6_counter 65 = .ok (.iload 7, 2) := by decide +kernel
theorem dX6_counter_67 : decode cX6_counter 67 = .ok (.bipush (-9), 2) := by decide +kernel
theorem dX6_counter_69 : decode cX6_counter 69 = .ok (.if_icmp .eq 9, 3) := by decide +kernel
theorem dX6_counter_72 : decode cX6_counter 72 = .ok (.bipush (-100), 2) := by decide +kernel
theorem dX6_counter_74 : decode cX6_counter 74 = .ok (.iload 7, 2) := by decide +kernel
theorem dX6_counter_76 : decode cX6_counter 76 = .ok (.isub, 1) := by decide +kernel
theorem dX6_counter_77 : decode cX6_counter 77 = .ok (.ireturn, 1) := by decide +kernel
theorem dX6_counter_78 : decode cX6_counter 78 = .ok (.aload_n 0, 1) := by decide +kernel
theorem dX6_counter_79 : decode cX6_counter 79 = .ok (.iload 4, 2) := by decide +kernel
theorem dX6_counter_81 : decode cX6_counter 81 = .ok (.bipush 6, 2) := by decide +kernel
theorem dX6_counter_83 : decode cX6_counter 83 = .ok (.idiv, 1) := by decide +kernel
theorem dX6_counter_84 : decode cX6_counter 84 = .ok (.putfield 55, 3) := by decide +kernel
theorem dX6_counter_87 : decode cX6_counter 87 = .ok (.iconst 0, 1) := by decide +kernel
theorem dX6_counter_88 : decode cX6_counter 88 = .ok (.istore 8, 2) := by decide +kernel
theorem dX6_counter_90 : decode cX6_counter 90 = .ok (.iload 8, 2) := by decide +kernel
theorem dX6_counter_92 : decode cX6_counter 92 = .ok (.aload_n 0, 1) := by decide +kernel
theorem dX6_counter_93 : decode cX6_counter 93 = .ok (.getfield 55, 3) := by decide +kernel
theorem dX6_counter_96 : decode cX6_counter 96 = .ok (.if_icmp .ge 30, 3) := by decide +kernel
theorem dX6_counter_99 : decode cX6_counter 99 = .ok (.aload_n 0, 1) := by decide +kernel
theorem dX6_counter_100 : decode cX6_counter 100 = .ok (.getfield 19, 3) := by decide +kernel
theorem dX6_counter_103 : decode cX6_counter 103 = .ok (.iload 8, 2) := by decide +kernel
theorem dX6_counter_105 : decode cX6_counter 105 = .ok (.aaload, 1) := by decide +kernel
theorem dX6_counter_106 : decode cX6_counter 106 = .ok (.aload 5, 2) := by decide +kernel
theorem dX6_counter_108 : decode cX6_counter 108 = .ok (.iload_n 3, 1) := by decide +kernel
theorem dX6_counter_109 : decode cX6_counter 109 = .ok (.iconst 1, 1) := by decide +kernel
theorem dX6_counter_110 : decode cX6_counter 110 = .ok (.iadd, 1) := by decide +kernel
theorem dX6_counter_111 : decode cX6_counter 111 = .ok (.bipush 6, 2) := by decide +kernel
theorem dX6_counter_113 : decode cX6_counter 113 = .ok (.iload 8, 2) := by decide +kernel
theorem dX6_counter_115 : decode cX6_counter 115 = .ok (.imul, 1) := by decide +kernel
theorem dX6_counter_116 : decode cX6_counter 116 = .ok (.iadd, 1) := by decide +kernel
theorem dX6_counter_117 : decode cX6_counter 117 = .ok (.invokevirtual 86, 3) := by decide +kernel
theorem dX6_counter_120 : decode cX6_counter 120 = .ok (.iinc 8 1, 3) := by decide +kernel
theorem dX6_counter_123 : decode cX6_counter 123 = .ok (.goto (-33), 3) := by decide +kernel
theorem dX6_counter_126 : decode cX6_counter 126 = .ok (.aload_n 0, 1) := by decide +kernel
theorem dX6_counter_127 : decode cX6_counter 127 = .ok (.getfield 26, 3) := by decide +kernel
theorem dX6_counter_130 : decode cX6_counter 130 = .ok (.iconst 0, 1) := by decide +kernel
theorem dX6_counter_131 : decode cX6_counter 131 = .ok (.putfield 90, 3) := by decide +kernel
theorem dX6_counter_134 : decode cX6_counter 134 = .ok (.aload_n 0, 1) := by decide +kernel
theorem dX6_counter_135 : decode cX6_counter 135 = .ok (.getfield 55, 3) := by decide +kernel
theorem dX6_counter_138 : decode cX6_counter 138 = .ok (.ireturn, 1) := by decide +kernel
theorem dX6_ofPerson_0 : decode cX6_ofPerson 0 = .ok (.aload_n 0, 1) := by decide +kernel
theorem dX6_ofPerson_1 : decode cX6_ofPerson 1 = .ok (.iload_n 1, 1) := by decide +kernel
theorem dX6_ofPerson_2 : decode cX6_ofPerson 2 = .ok (.invokevirtual 93, 3) := by decide +kernel
theorem dX6_ofPerson_5 : decode cX6_ofPerson 5 = .ok (.ifCond .ne 5, 3) := by decide +kernel
theorem dX6_ofPerson_8 : decode cX6_ofPerson 8 = .ok (.iconst (-1), 1) := by decide +kernel
theorem dX6_ofPerson_9 : decode cX6_ofPerson 9 = .ok (.ireturn, 1) := by decide +kernel
theorem dX6_ofPerson_10 : decode cX6_ofPerson 10 = .ok (.aload_n 0, 1) := by decide +kernel
theorem dX6_ofPerson_11 : decode cX6_ofPerson 11 = .ok (.getfield 19, 3) := by decide +kernel
theorem dX6_ofPerson_14 : decode cX6_ofPerson 14 = .ok (.iload_n 1, 1) := by decide +kernel
theorem dX6_ofPerson_15 : decode cX6_ofPerson 15 = .ok (.aaload, 1) := by decide +kernel
theorem dX6_ofPerson_16 : decode cX6_ofPerson 16 = .ok (.astore_n 3, 1) := by decide +kernel
theorem dX6_ofPerson_17 : decode cX6_ofPerson 17 = .ok (.iload_n 2, 1) := by decide +kernel
theorem dX6_ofPerson_18 : decode cX6_ofPerson 18 = .ok (.tableswitch 59 0 4 #[34, 39, 44, 49, 54], 34) := by decide +kernel
theorem dX6_ofPerson_52 : decode cX6_ofPerson 52 = .ok (.aload_n 3, 1) := by decide +kernel
theorem dX6_ofPerson_53 : decode cX6_ofPerson 53 = .ok (.getfield 96, 3) := by decide +kernel
theorem dX6_ofPerson_56 : decode cX6_ofPerson 56 = .ok (.ireturn, 1) := by decide +kernel
theorem dX6_ofPerson_57 : decode cX6_ofPerson 57 = .ok (.aload_n 3, 1) := by decide +kernel
theorem dX6_ofPerson_58 : decode cX6_ofPerson 58 = .ok (.getfield 99, 3) := by decide +kernel
theorem dX6_ofPerson_61 : decode cX6_ofPerson 61 = .ok (.ireturn, 1) := by decide +kernel
theorem dX6_ofPerson_62 : decode cX6_ofPerson 62 = .ok (.aload_n 3, 1) := by decide +kernel
theorem dX6_ofPerson_63 : decode cX6_ofPerson 63 = .ok (.getfield 102, 3) := by decide +kernel
theorem dX6_ofPerson_66 : decode cX6_ofPerson 66 = .ok (.ireturn, 1) := by decide +kernel
theorem dX6_ofPerson_67 : decode cX6_ofPerson 67 = .ok (.aload_n 3, 1) := by decide +kernel
theorem dX6_ofPerson_68 : decode cX6_ofPerson 68 = .ok (.getfield 105, 3) := by decide +kernel
theorem dX6_ofPerson_71 : decode cX6_ofPerson 71 = .ok (.ireturn, 1) := by decide +kernel
theorem dX6_ofPerson_72 : decode cX6_ofPerson 72 = .ok (.aload_n 3, 1) := by decide +kernel
theorem dX6_ofPerson_73 : decode cX6_ofPerson 73 = .ok (.invokevirtual 108, 3) := by decide +kernel
theorem dX6_ofPerson_76 : decode cX6_ofPerson 76 = .ok (.ireturn, 1) := by decide +kernel
theorem dX6_ofPerson_77 : decode cX6_ofPerson 77 = .ok (.bipush (-2), 2) := by decide +kernel
theorem dX6_ofPerson_79 : decode cX6_ofPerson 79 = .ok (.ireturn, 1) := by decide +kernel
theorem dX6_live_0 : decode cX6_live 0 = .ok (.aload_n 0, 1) := by decide +kernel
theorem dX6_live_1 : decode cX6_live 1 = .ok (.iload_n 1, 1) := by decide +kernel
theorem dX6_live_2 : decode cX6_live 2 = .ok (.invokevirtual 93, 3) := by decide +kernel
theorem dX6_live_5 : decode cX6_live 5 = .ok (.ifCond .ne 5, 3) := by decide +kernel
theorem dX6_live_8 : decode cX6_live 8 = .ok (.iconst (-1), 1) := by decide +kernel
theorem dX6_live_9 : decode cX6_live 9 = .ok (.ireturn, 1) := by decide +kernel
theorem dX6_live_10 : decode cX6_live 10 = .ok (.iload_n 2, 1) := by decide +kernel
theorem dX6_live_11 : decode cX6_live 11 = .ok (.ifCond .lt 9, 3) := by decide +kernel
theorem dX6_live_14 : decode cX6_live 14 = .ok (.iload_n 2, 1) := by decide +kernel
theorem dX6_live_15 : decode cX6_live 15 = .ok (.bipush 64, 2) := by decide +kernel
theorem dX6_live_17 : decode cX6_live 17 = .ok (.if_icmp .lt 6, 3) := by decide +kernel
theorem dX6_live_20 : decode cX6_live 20 = .ok (.bipush (-2), 2) := by decide +kernel
theorem dX6_live_22 : decode cX6_live 22 = .ok (.ireturn, 1) := by decide +kernel
theorem dX6_live_23 : decode cX6_live 23 = .ok (.aload_n 0, 1) := by decide +kernel
theorem dX6_live_24 : decode cX6_live 24 = .ok (.getfield 19, 3) := by decide +kernel
theorem dX6_live_27 : decode cX6_live 27 = .ok (.iload_n 1, 1) := by decide +kernel
theorem dX6_live_28 : decode cX6_live 28 = .ok (.aaload, 1) := by decide +kernel
theorem dX6_live_29 : decode cX6_live 29 = .ok (.getfield 99, 3) := by decide +kernel
theorem dX6_live_32 : decode cX6_live 32 = .ok (.istore_n 3, 1) := by decide +kernel
theorem dX6_live_33 : decode cX6_live 33 = .ok (.aload_n 0, 1) := by decide +kernel
theorem dX6_live_34 : decode cX6_live 34 = .ok (.getfield 19, 3) := by decide +kernel
theorem dX6_live_37 : decode cX6_live 37 = .ok (.iload_n 1, 1) := by decide +kernel
theorem dX6_live_38 : decode cX6_live 38 = .ok (.aaload, 1) := by decide +kernel
theorem dX6_live_39 : decode cX6_live 39 = .ok (.iload_n 2, 1) := by decide +kernel
theorem dX6_live_40 : decode cX6_live 40 = .ok (.putfield 99, 3) := by decide +kernel
theorem dX6_live_43 : decode cX6_live 43 = .ok (.iload_n 3, 1) := by decide +kernel
theorem dX6_live_44 : decode cX6_live 44 = .ok (.ireturn, 1) := by decide +kernel
theorem dX6_want_0 : decode cX6_want 0 = .ok (.aload_n 0, 1) := by decide +kernel
theorem dX6_want_1 : decode cX6_want 1 = .ok (.iload_n 1, 1) := by decide +kernel
theorem dX6_want_2 : decode cX6_want 2 = .ok (.invokevirtual 93, 3) := by decide +kernel
theorem dX6_want_5 : decode cX6_want 5 = .ok (.ifCond .ne 5, 3) := by decide +kernel
theorem dX6_want_8 : decode cX6_want 8 = .ok (.iconst (-1), 1) := by decide +kernel
theorem dX6_want_9 : decode cX6_want 9 = .ok (.ireturn, 1) := by decide +kernel
theorem dX6_want_10 : decode cX6_want 10 = .ok (.iload_n 2, 1) := by decide +kernel
theorem dX6_want_11 : decode cX6_want 11 = .ok (.ifCond .lt 9, 3) := by decide +kernel
theorem dX6_want_14 : decode cX6_want 14 = .ok (.iload_n 2, 1) := by decide +kernel
theorem dX6_want_15 : decode cX6_want 15 = .ok (.bipush 6, 2) := by decide +kernel
theorem dX6_want_17 : decode cX6_want 17 = .ok (.if_icmp .le 6, 3) := by decide +kernel
theorem dX6_want_20 : decode cX6_want 20 = .ok (.bipush (-2), 2) := by decide +kernel
theorem dX6_want_22 : decode cX6_want 22 = .ok (.ireturn, 1) := by decide +kernel
theorem dX6_want_23 : decode cX6_want 23 = .ok (.aload_n 0, 1) := by decide +kernel
theorem dX6_want_24 : decode cX6_want 24 = .ok (.getfield 19, 3) := by decide +kernel
theorem dX6_want_27 : decode cX6_want 27 = .ok (.iload_n 1, 1) := by decide +kernel
theorem dX6_want_28 : decode cX6_want 28 = .ok (.aaload, 1) := by decide +kernel
theorem dX6_want_29 : decode cX6_want 29 = .ok (.getfield 102, 3) := by decide +kernel
theorem dX6_want_32 : decode cX6_want 32 = .ok (.istore_n 3, 1) := by decide +kernel
theorem dX6_want_33 : decode cX6_want 33 = .ok (.aload_n 0, 1) := by decide +kernel
theorem dX6_want_34 : decode cX6_want 34 = .ok (.getfield 19, 3) := by decide +kernel
theorem dX6_want_37 : decode cX6_want 37 = .ok (.iload_n 1, 1) := by decide +kernel
theorem dX6_want_38 : decode cX6_want 38 = .ok (.aaload, 1) := by decide +kernel
theorem dX6_want_39 : decode cX6_want 39 = .ok (.iload_n 2, 1) := by decide +kernel
theorem dX6_want_40 : decode cX6_want 40 = .ok (.putfield 102, 3) := by decide +kernel
theorem dX6_want_43 : decode cX6_want 43 = .ok (.iload_n 3, 1) := by decide +kernel
theorem dX6_want_44 : decode cX6_want 44 = .ok (.ireturn, 1) := by decide +kernel
theorem dX6_loans_0 : decode cX6_loans 0 = .ok (.aload_n 0, 1) := by decide +kernel
theorem dX6_loans_1 : decode cX6_loans 1 = .ok (.iconst 0, 1) := by decide +kernel
theorem dX6_loans_2 : decode cX6_loans 2 = .ok (.putfield 62, 3) := by decide +kernel
theorem dX6_loans_5 : decode cX6_loans 5 = .ok (.iload_n 1, 1) := by decide +kernel
theorem dX6_loans_6 : decode cX6_loans 6 = .ok (.invokestatic 67, 3) := by decide +kernel
theorem dX6_loans_9 : decode cX6_loans 9 = .ok (.ifCond .ne 5, 3) := by decide +kernel
theorem dX6_loans_12 : decode cX6_loans 12 = .ok (.iconst (-1), 1) := by decide +kernel
theorem dX6_loans_13 : decode cX6_loans 13 = .ok (.ireturn, 1) := by decide +kernel
theorem dX6_loans_14 : decode cX6_loans 14 = .ok (.iload_n 2, 1) := by decide +kernel
theorem dX6_loans_15 : decode cX6_loans 15 = .ok (.invokestatic 71, 3) := by decide +kernel
theorem dX6_loans_18 : decode cX6_loans 18 = .ok (.ifCond .eq 19, 3) := by decide +kernel
theorem dX6_loans_21 : decode cX6_loans 21 = .ok (.iload 4, 2) := by decide +kernel
theorem dX6_loans_23 : decode cX6_loans 23 = .ok (.invokestatic 112, 3) := by decide +kernel
theorem dX6_loans_26 : decode cX6_loans 26 = .ok (.ifCond .eq 11, 3) := by decide +kernel
theorem dX6_loans_29 : decode cX6_loans 29 = .ok (.iload 5, 2) := by decide +kernel
theorem dX6_loans_31 : decode cX6_loans 31 = .ok (.invokestatic 115, 3) := by decide +kernel
theorem dX6_loans_34 : decode cX6_loans 34 = .ok (.ifCond .ne 6, 3) := by decide +kernel
theorem dX6_loans_37 : decode cX6_loans 37 = .ok (.bipush (-2), 2) := by decide +kernel
theorem dX6_loans_39 : decode cX6_loans 39 = .ok (.ireturn, 1) := by decide +kernel
theorem dX6_loans_40 : decode cX6_loans 40 = .ok (.aload_n 0, 1) := by decide +kernel
theorem dX6_loans_41 : decode cX6_loans 41 = .ok (.getfield 55, 3) := by decide +kernel
theorem dX6_loans_44 : decode cX6_loans 44 = .ok (.ifCond .ne 6, 3) := by decide +kernel
theorem dX6_loans_47 : decode cX6_loans 47 = .ok (.bipush (-3), 2) := by decide +kernel
theorem dX6_loans_49 : decode cX6_loans 49 = .ok (.ireturn, 1) := by decide +kernel
theorem dX6_loans_50 : decode cX6_loans 50 = .ok (.aload_n 0, 1) := by decide +kernel
theorem dX6_loans_51 : decode cX6_loans 51 = .ok (.iload_n 1, 1) := by decide +kernel
theorem dX6_loans_52 : decode cX6_loans 52 = .ok (.iload_n 2, 1) := by decide +kernel
theorem dX6_loans_53 : decode cX6_loans 53 = .ok (.iload_n 3, 1) := by decide +kernel
theorem dX6_loans_54 : decode cX6_loans 54 = .ok (.iload 4, 2) := by decide +kernel
theorem dX6_loans_56 : decode cX6_loans 56 = .ok (.invokevirtual 118, 3) := by decide +kernel
theorem dX6_loans_59 : decode cX6_loans 59 = .ok (.istore 6, 2) := by decide +kernel
theorem dX6_loans_61 : decode cX6_loans 61 = .ok (.iload 6, 2) := by decide +kernel
theorem dX6_loans_63 : decode cX6_loans 63 = .ok (.ifCond .eq 6, 3) := by decide +kernel
theorem dX6_loans_66 : decode cX6_loans 66 = .ok (.iload 6, 2) := by decide +kernel
theorem dX6_loans_68 : decode cX6_loans 68 = .ok (.ireturn, 1) := by decide +kernel
theorem dX6_loans_69 : decode cX6_loans 69 = .ok (.aload_n 0, 1) := by decide +kernel
theorem dX6_loans_70 : decode cX6_loans 70 = .ok (.getfield 33, 3) := by decide +kernel
theorem dX6_loans_73 : decode cX6_loans 73 = .ok (.aload_n 0, 1) := by decide +kernel
theorem dX6_loans_74 : decode cX6_loans 74 = .ok (.getfield 19, 3) := by decide +kernel
theorem dX6_loans_77 : decode cX6_loans 77 = .ok (.aload_n 0, 1) := by decide +kernel
theorem dX6_loans_78 : decode cX6_loans 78 = .ok (.getfield 55, 3) := by decide +kernel
theorem dX6_loans_81 : decode cX6_loans 81 = .ok (.invokevirtual 122, 3) := by decide +kernel
theorem dX6_loans_84 : decode cX6_loans 84 = .ok (.aload_n 0, 1) := by decide +kernel
theorem dX6_loans_85 : decode cX6_loans 85 = .ok (.getfield 33, 3) := by decide +kernel
theorem dX6_loans_88 : decode cX6_loans 88 = .ok (.aload_n 0, 1) := by decide +kernel
theorem dX6_loans_89 : decode cX6_loans 89 = .ok (.getfield 51, 3) := by decide +kernel
theorem dX6_loans_92 : decode cX6_loans 92 = .ok (.iload 4, 2) := by decide +kernel
theorem dX6_loans_94 : decode cX6_loans 94 = .ok (.invokevirtual 126, 3) := by decide +kernel
theorem dX6_loans_97 : decode cX6_loans 97 = .ok (.istore 7, 2) := by decide +kernel
theorem dX6_loans_99 : decode cX6_loans 99 = .ok (.iload 5, 2) := by decide +kernel
theorem dX6_loans_101 : decode cX6_loans 101 = .ok (.iconst 1, 1) := by decide +kernel
theorem dX6_loans_102 : decode cX6_loans 102 = .ok (.if_icmp .ne 6, 3) := by decide +kernel
theorem dX6_loans_105 : decode cX6_loans 105 = .ok (.iload 7, 2) := by decide +kernel
theorem dX6_loans_107 : decode cX6_loans 107 = .ok (.ireturn, 1) := by decide +kernel
theorem dX6_loans_108 : decode cX6_loans 108 = .ok (.iload 7, 2) := by decide +kernel
theorem dX6_loans_110 : decode cX6_loans 110 = .ok (.bipush (-9), 2) := by decide +kernel
theorem dX6_loans_112 : decode cX6_loans 112 = .ok (.if_icmp .ne 14, 3) := by decide +kernel
theorem dX6_loans_115 : decode cX6_loans 115 = .ok (.aload_n 0, 1) := by decide +kernel
theorem dX6_loans_116 : decode cX6_loans 116 = .ok (.iload 4, 2) := by decide +kernel
theorem dX6_loans_118 : decode cX6_loans 118 = .ok (.iload 5, 2) := by decide +kernel
theorem dX6_loans_120 : decode cX6_loans 120 = .ok (.invokevirtual 130, 3) := by decide +kernel
theorem dX6_loans_123 : decode cX6_loans 123 = .ok (.goto 8, 3) := by decide +kernel
theorem dX6_loans_126 : decode cX6_loans 126 = .ok (.bipush (-100), 2) := by decide +kernel
theorem dX6_loans_128 : decode cX6_loans 128 = .ok (.iload 7, 2) := by decide +kernel
theorem dX6_loans_130 : decode cX6_loans 130 = .ok (.isub, 1) := by decide +kernel
theorem dX6_loans_131 : decode cX6_loans 131 = .ok (.ireturn, 1) := by decide +kernel
theorem dX6_answerOfLoans_0 : decode cX6_answerOfLoans 0 = .ok (.iload_n 2, 1) := by decide +kernel
theorem dX6_answerOfLoans_1 : decode cX6_answerOfLoans 1 = .ok (.tableswitch 75 0 3 #[31, 75, 39, 67], 31) := by decide +kernel
theorem dX6_answerOfLoans_32 : decode cX6_answerOfLoans 32 = .ok (.aload_n 0, 1) := by decide +kernel
theorem dX6_answerOfLoans_33 : decode cX6_answerOfLoans 33 = .ok (.getfield 33, 3) := by decide +kernel
theorem dX6_answerOfLoans_36 : decode cX6_answerOfLoans 36 = .ok (.invokevirtual 134, 3) := by decide +kernel
theorem dX6_answerOfLoans_39 : decode cX6_answerOfLoans 39 = .ok (.ireturn, 1) := by decide +kernel
theorem dX6_answerOfLoans_40 : decode cX6_answerOfLoans 40 = .ok (.aload_n 0, 1) := by decide +kernel
theorem dX6_answerOfLoans_41 : decode cX6_answerOfLoans 41 = .ok (.getfield 33, 3) := by decide +kernel
theorem dX6_answerOfLoans_44 : decode cX6_answerOfLoans 44 = .ok (.aload_n 0, 1) := by decide +kernel
theorem dX6_answerOfLoans_45 : decode cX6_answerOfLoans 45 = .ok (.getfield 19, 3) := by decide +kernel
theorem dX6_answerOfLoans_48 : decode cX6_answerOfLoans 48 = .ok (.aload_n 0, 1) := by decide +kernel
theorem dX6_answerOfLoans_49 : decode cX6_answerOfLoans 49 = .ok (.getfield 55, 3) := by decide +kernel
theorem dX6_answerOfLoans_52 : decode cX6_answerOfLoans 52 = .ok (.invokevirtual 122, 3) := by decide +kernel
theorem dX6_answerOfLoans_55 : decode cX6_answerOfLoans 55 = .ok (.aload_n 0, 1) := by decide +kernel
theorem dX6_answerOfLoans_56 : decode cX6_answerOfLoans 56 = .ok (.getfield 33, 3) := by decide +kernel
theorem dX6_answerOfLoans_59 : decode cX6_answerOfLoans 59 = .ok (.aload_n 0, 1) := by decide +kernel
theorem dX6_answerOfLoans_60 : decode cX6_answerOfLoans 60 = .ok (.getfield 51, 3) := by decide +kernel
theorem dX6_answerOfLoans_63 : decode cX6_answerOfLoans 63 = .ok (.iload_n 1, 1) := by decide +kernel
theorem dX6_answerOfLoans_64 : decode cX6_answerOfLoans 64 = .ok (.invokevirtual 137, 3) := by decide +kernel
theorem dX6_answerOfLoans_67 : decode cX6_answerOfLoans 67 = .ok (.ireturn, 1) := by decide +kernel
theorem dX6_answerOfLoans_68 : decode cX6_answerOfLoans 68 = .ok (.aload_n 0, 1) := by decide +kernel
theorem dX6_answerOfLoans_69 : decode cX6_answerOfLoans 69 = .ok (.getfield 33, 3) := by decide +kernel
theorem dX6_answerOfLoans_72 : decode cX6_answerOfLoans 72 = .ok (.invokevirtual 140, 3) := by decide +kernel
theorem dX6_answerOfLoans_75 : decode cX6_answerOfLoans 75 = .ok (.ireturn, 1) := by decide +kernel
theorem dX6_answerOfLoans_76 : decode cX6_answerOfLoans 76 = .ok (.aload_n 0, 1) := by decide +kernel
theorem dX6_answerOfLoans_77 : decode cX6_answerOfLoans 77 = .ok (.iload_n 2, 1) := by decide +kernel
theorem dX6_answerOfLoans_78 : decode cX6_answerOfLoans 78 = .ok (.bipush 10, 2) := by decide +kernel
theorem dX6_answerOfLoans_80 : decode cX6_answerOfLoans 80 = .ok (.idiv, 1) := by decide +kernel
theorem dX6_answerOfLoans_81 : decode cX6_answerOfLoans 81 = .ok (.iload_n 2, 1) := by decide +kernel
theorem dX6_answerOfLoans_82 : decode cX6_answerOfLoans 82 = .ok (.bipush 10, 2) := by decide +kernel
theorem dX6_answerOfLoans_84 : decode cX6_answerOfLoans 84 = .ok (.irem, 1) := by decide +kernel
theorem dX6_answerOfLoans_85 : decode cX6_answerOfLoans 85 = .ok (.invokevirtual 143, 3) := by decide +kernel
theorem dX6_answerOfLoans_88 : decode cX6_answerOfLoans 88 = .ok (.ireturn, 1) := by decide +kernel
theorem dX6_answerOfOne_0 : decode cX6_answerOfOne 0 = .ok (.aload_n 0, 1) := by decide +kernel
theorem dX6_answerOfOne_1 : decode cX6_answerOfOne 1 = .ok (.iload_n 2, 1) := by decide +kernel
theorem dX6_answerOfOne_2 : decode cX6_answerOfOne 2 = .ok (.invokevirtual 93, 3) := by decide +kernel
theorem dX6_answerOfOne_5 : decode cX6_answerOfOne 5 = .ok (.ifCond .ne 6, 3) := by decide +kernel
theorem dX6_answerOfOne_8 : decode cX6_answerOfOne 8 = .ok (.bipush (-9), 2) := by decide +kernel
theorem dX6_answerOfOne_10 : decode cX6_answerOfOne 10 = .ok (.ireturn, 1) := by decide +kernel
theorem dX6_answerOfOne_11 : decode cX6_answerOfOne 11 = .ok (.iload_n 1, 1) := by decide +kernel
theorem dX6_answerOfOne_12 : decode cX6_answerOfOne 12 = .ok (.lookupswitch 48 #[(1, 28), (2, 38)], 28) := by decide +kernel
theorem dX6_answerOfOne_40 : decode cX6_answerOfOne 40 = .ok (.aload_n 0, 1) := by decide +kernel
theorem dX6_answerOfOne_41 : decode cX6_answerOfOne 41 = .ok (.getfield 33, 3) := by decide +kernel
theorem dX6_answerOfOne_44 : decode cX6_answerOfOne 44 = .ok (.getfield 146, 3) := by decide +kernel
theorem dX6_answerOfOne_47 : decode cX6_answerOfOne 47 = .ok (.iload_n 2, 1) := by decide +kernel
theorem dX6_answerOfOne_48 : decode cX6_answerOfOne 48 = .ok (.iaload, 1) := by decide +kernel
theorem dX6_answerOfOne_49 : decode cX6_answerOfOne 49 = .ok (.ireturn, 1) := by decide +kernel
theorem dX6_answerOfOne_50 : decode cX6_answerOfOne 50 = .ok (.aload_n 0, 1) := by decide +kernel
theorem dX6_answerOfOne_51 : decode cX6_answerOfOne 51 = .ok (.getfield 33, 3) := by decide +kernel
theorem dX6_answerOfOne_54 : decode cX6_answerOfOne 54 = .ok (.getfield 149, 3) := by decide +kernel
theorem dX6_answerOfOne_57 : decode cX6_answerOfOne 57 = .ok (.iload_n 2, 1) := by decide +kernel
theorem dX6_answerOfOne_58 : decode cX6_answerOfOne 58 = .ok (.iaload, 1) := by decide +kernel
theorem dX6_answerOfOne_59 : decode cX6_answerOfOne 59 = .ok (.ireturn, 1) := by decide +kernel
theorem dX6_answerOfOne_60 : decode cX6_answerOfOne 60 = .ok (.aload_n 0, 1) := by decide +kernel
theorem dX6_answerOfOne_61 : decode cX6_answerOfOne 61 = .ok (.getfield 33, 3) := by decide +kernel
theorem dX6_answerOfOne_64 : decode cX6_answerOfOne 64 = .ok (.getfield 152, 3) := by decide +kernel
theorem dX6_answerOfOne_67 : decode cX6_answerOfOne 67 = .ok (.iload_n 2, 1) := by decide +kernel
theorem dX6_answerOfOne_68 : decode cX6_answerOfOne 68 = .ok (.iaload, 1) := by decide +kernel
theorem dX6_answerOfOne_69 : decode cX6_answerOfOne 69 = .ok (.ireturn, 1) := by decide +kernel
theorem dX6_fewest_0 : decode cX6_fewest 0 = .ok (.aload_n 0, 1) := by decide +kernel
theorem dX6_fewest_1 : decode cX6_fewest 1 = .ok (.getfield 55, 3) := by decide +kernel
theorem dX6_fewest_4 : decode cX6_fewest 4 = .ok (.ifCond .ne 6, 3) := by decide +kernel
theorem dX6_fewest_7 : decode cX6_fewest 7 = .ok (.bipush (-3), 2) := by decide +kernel
theorem dX6_fewest_9 : decode cX6_fewest 9 = .ok (.ireturn, 1) := by decide +kernel
theorem dX6_fewest_10 : decode cX6_fewest 10 = .ok (.iload_n 2, 1) := by decide +kernel
theorem dX6_fewest_11 : decode cX6_fewest 11 = .ok (.iconst (-1), 1) := by decide +kernel
theorem dX6_fewest_12 : decode cX6_fewest 12 = .ok (.if_icmp .lt 22, 3) := by decide +kernel
theorem dX6_fewest_15 : decode cX6_fewest 15 = .ok (.iload_n 2, 1) := by decide +kernel
theorem dX6_fewest_16 : decode cX6_fewest 16 = .ok (.iconst 3, 1) := by decide +kernel
theorem dX6_fewest_17 : decode cX6_fewest 17 = .ok (.if_icmp .ge 17, 3) := by decide +kernel
theorem dX6_fewest_20 : decode cX6_fewest 20 = .ok (.iload_n 1, 1) := by decide +kernel
theorem dX6_fewest_21 : decode cX6_fewest 21 = .ok (.ifCond .lt 13, 3) := by decide +kernel
theorem dX6_fewest_24 : decode cX6_fewest 24 = .ok (.iload_n 1, 1) := by decide +kernel
theorem dX6_fewest_25 : decode cX6_fewest 25 = .ok (.iconst 1, 1) := by decide +kernel
theorem dX6_fewest_26 : decode cX6_fewest 26 = .ok (.aload_n 0, 1) := by decide +kernel
theorem dX6_fewest_27 : decode cX6_fewest 27 = .ok (.getfield 55, 3) := by decide +kernel
theorem dX6_fewest_30 : decode cX6_fewest 30 = .ok (.ishl, 1) := by decide +kernel
theorem dX6_fewest_31 : decode cX6_fewest 31 = .ok (.if_icmp .lt 6, 3) := by decide +kernel
theorem dX6_fewest_34 : decode cX6_fewest 34 = .ok (.bipush (-2), 2) := by decide +kernel
theorem dX6_fewest_36 : decode cX6_fewest 36 = .ok (.ireturn, 1) := by decide +kernel
theorem dX6_fewest_37 : decode cX6_fewest 37 = .ok (.aload_n 0, 1) := by decide +kernel
theorem dX6_fewest_38 : decode cX6_fewest 38 = .ok (.getfield 40, 3) := by decide +kernel
theorem dX6_fewest_41 : decode cX6_fewest 41 = .ok (.aload_n 0, 1) := by decide +kernel
theorem dX6_fewest_42 : decode cX6_fewest 42 = .ok (.getfield 19, 3) := by decide +kernel
theorem dX6_fewest_45 : decode cX6_fewest 45 = .ok (.aload_n 0, 1) := by decide +kernel
theorem dX6_fewest_46 : decode cX6_fewest 46 = .ok (.getfield 55, 3) := by decide +kernel
theorem dX6_fewest_49 : decode cX6_fewest 49 = .ok (.iload_n 1, 1) := by decide +kernel
theorem dX6_fewest_50 : decode cX6_fewest 50 = .ok (.invokevirtual 155, 3) := by decide +kernel
theorem dX6_fewest_53 : decode cX6_fewest 53 = .ok (.istore_n 3, 1) := by decide +kernel
theorem dX6_fewest_54 : decode cX6_fewest 54 = .ok (.iload_n 2, 1) := by decide +kernel
theorem dX6_fewest_55 : decode cX6_fewest 55 = .ok (.iconst (-1), 1) := by decide +kernel
theorem dX6_fewest_56 : decode cX6_fewest 56 = .ok (.if_icmp .ne 5, 3) := by decide +kernel
theorem dX6_fewest_59 : decode cX6_fewest 59 = .ok (.iload_n 3, 1) := by decide +kernel
theorem dX6_fewest_60 : decode cX6_fewest 60 = .ok (.ireturn, 1) := by decide +kernel
theorem dX6_fewest_61 : decode cX6_fewest 61 = .ok (.iload_n 2, 1) := by decide +kernel
theorem dX6_fewest_62 : decode cX6_fewest 62 = .ok (.iload_n 3, 1) := by decide +kernel
theorem dX6_fewest_63 : decode cX6_fewest 63 = .ok (.if_icmp .ge 14, 3) := by decide +kernel
theorem dX6_fewest_66 : decode cX6_fewest 66 = .ok (.aload_n 0, 1) := by decide +kernel
theorem dX6_fewest_67 : decode cX6_fewest 67 = .ok (.getfield 40, 3) := by decide +kernel
theorem dX6_fewest_70 : decode cX6_fewest 70 = .ok (.iload_n 2, 1) := by decide +kernel
theorem dX6_fewest_71 : decode cX6_fewest 71 = .ok (.invokevirtual 159, 3) := by decide +kernel
theorem dX6_fewest_74 : decode cX6_fewest 74 = .ok (.goto 5, 3) := by decide +kernel
theorem dX6_fewest_77 : decode cX6_fewest 77 = .ok (.bipush (-9), 2) := by decide +kernel
theorem dX6_fewest_79 : decode cX6_fewest 79 = .ok (.ireturn, 1) := by decide +kernel
theorem dX6_match_0 : decode cX6_match 0 = .ok (.iload_n 1, 1) := by decide +kernel
theorem dX6_match_1 : decode cX6_match 1 = .ok (.iconst (-1), 1) := by decide +kernel
theorem dX6_match_2 : decode cX6_match 2 = .ok (.if_icmp .ge 5, 3) := by decide +kernel
theorem dX6_match_5 : decode cX6_match 5 = .ok (.iconst (-1), 1) := by decide +kernel
theorem dX6_match_6 : decode cX6_match 6 = .ok (.ireturn, 1) := by decide +kernel
theorem dX6_match_7 : decode cX6_match 7 = .ok (.aload_n 0, 1) := by decide +kernel
theorem dX6_match_8 : decode cX6_match 8 = .ok (.getfield 55, 3) := by decide +kernel
theorem dX6_match_11 : decode cX6_match 11 = .ok (.ifCond .ne 6, 3) := by decide +kernel
theorem dX6_match_14 : decode cX6_match 14 = .ok (.bipush (-3), 2) := by decide +kernel
theorem dX6_match_16 : decode cX6_match 16 = .ok (.ireturn, 1) := by decide +kernel
theorem dX6_match_17 : decode cX6_match 17 = .ok (.aload_n 0, 1) := by decide +kernel
theorem dX6_match_18 : decode cX6_match 18 = .ok (.getfield 47, 3) := by decide +kernel
theorem dX6_match_21 : decode cX6_match 21 = .ok (.aload_n 0, 1) := by decide +kernel
theorem dX6_match_22 : decode cX6_match 22 = .ok (.getfield 19, 3) := by decide +kernel
theorem dX6_match_25 : decode cX6_match 25 = .ok (.aload_n 0, 1) := by decide +kernel
theorem dX6_match_26 : decode cX6_match 26 = .ok (.getfield 55, 3) := by decide +kernel
theorem dX6_match_29 : decode cX6_match 29 = .ok (.invokevirtual 162, 3) := by decide +kernel
theorem dX6_match_32 : decode cX6_match 32 = .ok (.iload_n 1, 1) := by decide +kernel
theorem dX6_match_33 : decode cX6_match 33 = .ok (.iconst (-1), 1) := by decide +kernel
theorem dX6_match_34 : decode cX6_match 34 = .ok (.if_icmp .ne 11, 3) := by decide +kernel
theorem dX6_match_37 : decode cX6_match 37 = .ok (.aload_n 0, 1) := by decide +kernel
theorem dX6_match_38 : decode cX6_match 38 = .ok (.getfield 47, 3) := by decide +kernel
theorem dX6_match_41 : decode cX6_match 41 = .ok (.invokevirtual 165, 3) := by decide +kernel
theorem dX6_match_44 : decode cX6_match 44 = .ok (.ireturn, 1) := by decide +kernel
theorem dX6_match_45 : decode cX6_match 45 = .ok (.aload_n 0, 1) := by decide +kernel
theorem dX6_match_46 : decode cX6_match 46 = .ok (.iload_n 1, 1) := by decide +kernel
theorem dX6_match_47 : decode cX6_match 47 = .ok (.invokevirtual 93, 3) := by decide +kernel
theorem dX6_match_50 : decode cX6_match 50 = .ok (.ifCond .eq 15, 3) := by decide +kernel
theorem dX6_match_53 : decode cX6_match 53 = .ok (.aload_n 0, 1) := by decide +kernel
theorem dX6_match_54 : decode cX6_match 54 = .ok (.getfield 47, 3) := by decide +kernel
theorem dX6_match_57 : decode cX6_match 57 = .ok (.getfield 168, 3) := by decide +kernel
theorem dX6_match_60 : decode cX6_match 60 = .ok (.iload_n 1, 1) := by decide +kernel
theorem dX6_match_61 : decode cX6_match 61 = .ok (.iaload, 1) := by decide +kernel
theorem dX6_match_62 : decode cX6_match 62 = .ok (.goto 5, 3) := by decide +kernel
theorem dX6_match_65 : decode cX6_match 65 = .ok (.bipush (-9), 2) := by decide +kernel
theorem dX6_match_67 : decode cX6_match 67 = .ok (.ireturn, 1) := by decide +kernel
theorem dX6_help_0 : decode cX6_help 0 = .ok (.aload_n 0, 1) := by decide +kernel
theorem dX6_help_1 : decode cX6_help 1 = .ok (.iload_n 1, 1) := by decide +kernel
theorem dX6_help_2 : decode cX6_help 2 = .ok (.invokevirtual 93, 3) := by decide +kernel
theorem dX6_help_5 : decode cX6_help 5 = .ok (.ifCond .ne 5, 3) := by decide +kernel
theorem dX6_help_8 : decode cX6_help 8 = .ok (.iconst (-1), 1) := by decide +kernel
theorem dX6_help_9 : decode cX6_help 9 = .ok (.ireturn, 1) := by decide +kernel
theorem dX6_help_10 : decode cX6_help 10 = .ok (.iconst 0, 1) := by decide +kernel
theorem dX6_help_11 : decode cX6_help 11 = .ok (.istore_n 2, 1) := by decide +kernel
theorem dX6_help_12 : decode cX6_help 12 = .ok (.iconst 0, 1) := by decide +kernel
theorem dX6_help_13 : decode cX6_help 13 = .ok (.istore_n 3, 1) := by decide +kernel
theorem dX6_help_14 : decode cX6_help 14 = .ok (.iload_n 3, 1) := by decide +kernel
theorem dX6_help_15 : decode cX6_help 15 = .ok (.aload_n 0, 1) := by decide +kernel
theorem dX6_help_16 : decode cX6_help 16 = .ok (.getfield 55, 3) := by decide +kernel
theorem dX6_help_19 : decode cX6_help 19 = .ok (.if_icmp .ge 50, 3) := by decide +kernel
theorem dX6_help_22 : decode cX6_help 22 = .ok (.aload_n 0, 1) := by decide +kernel
end
section
theorem dX6_help_23 : decode cX6_help 23 = .ok (.getfield 19, 3) := by decide +kernel
theorem dX6_help_26 : decode cX6_help 26 = .ok (.iload_n 3, 1) := by decide +kernel
theorem dX6_help_27 : decode cX6_help 27 = .ok (.aaload, 1) := by decide +kernel
theorem dX6_help_28 : decode cX6_help 28 = .ok (.invokevirtual 171, 3) := by decide +kernel
theorem dX6_help_31 : decode cX6_help 31 = .ok (.istore 4, 2) := by decide +kernel
theorem dX6_help_33 : decode cX6_help 33 = .ok (.iload 4, 2) := by decide +kernel
theorem dX6_help_35 : decode cX6_help 35 = .ok (.aload_n 0, 1) := by decide +kernel
theorem dX6_help_36 : decode cX6_help 36 = .ok (.getfield 19, 3) := by decide +kernel
theorem dX6_help_39 : decode cX6_help 39 = .ok (.iload_n 1, 1) := by decide +kernel
theorem dX6_help_40 : decode cX6_help 40 = .ok (.aaload, 1) := by decide +kernel
theorem dX6_help_41 : decode cX6_help 41 = .ok (.getfield 99, 3) := by decide +kernel
theorem dX6_help_44 : decode cX6_help 44 = .ok (.iand, 1) := by decide +kernel
theorem dX6_help_45 : decode cX6_help 45 = .ok (.aload_n 0, 1) := by decide +kernel
theorem dX6_help_46 : decode cX6_help 46 = .ok (.getfield 19, 3) := by decide +kernel
theorem dX6_help_49 : decode cX6_help 49 = .ok (.iload_n 3, 1) := by decide +kernel
theorem dX6_help_50 : decode cX6_help 50 = .ok (.aaload, 1) := by decide +kernel
theorem dX6_help_51 : decode cX6_help 51 = .ok (.getfield 99, 3) := by decide +kernel
theorem dX6_help_54 : decode cX6_help 54 = .ok (.iconst (-1), 1) := by decide +kernel
theorem dX6_help_55 : decode cX6_help 55 = .ok (.ixor, 1) := by decide +kernel
theorem dX6_help_56 : decode cX6_help 56 = .ok (.iand, 1) := by decide +kernel
theorem dX6_help_57 : decode cX6_help 57 = .ok (.ifCond .eq 6, 3) := by decide +kernel
theorem dX6_help_60 : decode cX6_help 60 = .ok (.iinc 2 1, 3) := by decide +kernel
theorem dX6_help_63 : decode cX6_help 63 = .ok (.iinc 3 1, 3) := by decide +kernel
theorem dX6_help_66 : decode cX6_help 66 = .ok (.goto (-52), 3) := by decide +kernel
theorem dX6_help_69 : decode cX6_help 69 = .ok (.iload_n 2, 1) := by decide +kernel
theorem dX6_help_70 : decode cX6_help 70 = .ok (.ireturn, 1) := by decide +kernel
theorem dX6_reading_0 : decode cX6_reading 0 = .ok (.aload_n 0, 1) := by decide +kernel
theorem dX6_reading_1 : decode cX6_reading 1 = .ok (.iload_n 1, 1) := by decide +kernel
theorem dX6_reading_2 : decode cX6_reading 2 = .ok (.invokevirtual 93, 3) := by decide +kernel
theorem dX6_reading_5 : decode cX6_reading 5 = .ok (.ifCond .eq 13, 3) := by decide +kernel
theorem dX6_reading_8 : decode cX6_reading 8 = .ok (.iload_n 2, 1) := by decide +kernel
theorem dX6_reading_9 : decode cX6_reading 9 = .ok (.ifCond .lt 9, 3) := by decide +kernel
theorem dX6_reading_12 : decode cX6_reading 12 = .ok (.iload_n 2, 1) := by decide +kernel
theorem dX6_reading_13 : decode cX6_reading 13 = .ok (.bipush 6, 2) := by decide +kernel
theorem dX6_reading_15 : decode cX6_reading 15 = .ok (.if_icmp .lt 5, 3) := by decide +kernel
theorem dX6_reading_18 : decode cX6_reading 18 = .ok (.iconst (-1), 1) := by decide +kernel
theorem dX6_reading_19 : decode cX6_reading 19 = .ok (.ireturn, 1) := by decide +kernel
theorem dX6_reading_20 : decode cX6_reading 20 = .ok (.aload_n 0, 1) := by decide +kernel
theorem dX6_reading_21 : decode cX6_reading 21 = .ok (.getfield 26, 3) := by decide +kernel
theorem dX6_reading_24 : decode cX6_reading 24 = .ok (.iload_n 1, 1) := by decide +kernel
theorem dX6_reading_25 : decode cX6_reading 25 = .ok (.iload_n 2, 1) := by decide +kernel
theorem dX6_reading_26 : decode cX6_reading 26 = .ok (.iload_n 3, 1) := by decide +kernel
theorem dX6_reading_27 : decode cX6_reading 27 = .ok (.invokevirtual 174, 3) := by decide +kernel
theorem dX6_reading_30 : decode cX6_reading 30 = .ok (.ifCond .eq 15, 3) := by decide +kernel
theorem dX6_reading_33 : decode cX6_reading 33 = .ok (.aload_n 0, 1) := by decide +kernel
theorem dX6_reading_34 : decode cX6_reading 34 = .ok (.getfield 26, 3) := by decide +kernel
theorem dX6_reading_37 : decode cX6_reading 37 = .ok (.getfield 90, 3) := by decide +kernel
theorem dX6_reading_40 : decode cX6_reading 40 = .ok (.iconst 1, 1) := by decide +kernel
theorem dX6_reading_41 : decode cX6_reading 41 = .ok (.isub, 1) := by decide +kernel
theorem dX6_reading_42 : decode cX6_reading 42 = .ok (.goto 5, 3) := by decide +kernel
theorem dX6_reading_45 : decode cX6_reading 45 = .ok (.bipush (-4), 2) := by decide +kernel
theorem dX6_reading_47 : decode cX6_reading 47 = .ok (.ireturn, 1) := by decide +kernel
theorem dX6_back_0 : decode cX6_back 0 = .ok (.iload_n 1, 1) := by decide +kernel
theorem dX6_back_1 : decode cX6_back 1 = .ok (.ifCond .lt 14, 3) := by decide +kernel
theorem dX6_back_4 : decode cX6_back 4 = .ok (.iload_n 1, 1) := by decide +kernel
theorem dX6_back_5 : decode cX6_back 5 = .ok (.aload_n 0, 1) := by decide +kernel
theorem dX6_back_6 : decode cX6_back 6 = .ok (.getfield 26, 3) := by decide +kernel
theorem dX6_back_9 : decode cX6_back 9 = .ok (.getfield 90, 3) := by decide +kernel
theorem dX6_back_12 : decode cX6_back 12 = .ok (.if_icmp .le 6, 3) := by decide +kernel
theorem dX6_back_15 : decode cX6_back 15 = .ok (.bipush (-2), 2) := by decide +kernel
theorem dX6_back_17 : decode cX6_back 17 = .ok (.ireturn, 1) := by decide +kernel
theorem dX6_back_18 : decode cX6_back 18 = .ok (.aload_n 0, 1) := by decide +kernel
theorem dX6_back_19 : decode cX6_back 19 = .ok (.getfield 26, 3) := by decide +kernel
theorem dX6_back_22 : decode cX6_back 22 = .ok (.dup, 1) := by decide +kernel
theorem dX6_back_23 : decode cX6_back 23 = .ok (.getfield 90, 3) := by decide +kernel
theorem dX6_back_26 : decode cX6_back 26 = .ok (.iload_n 1, 1) := by decide +kernel
theorem dX6_back_27 : decode cX6_back 27 = .ok (.isub, 1) := by decide +kernel
theorem dX6_back_28 : decode cX6_back 28 = .ok (.putfield 90, 3) := by decide +kernel
theorem dX6_back_31 : decode cX6_back 31 = .ok (.aload_n 0, 1) := by decide +kernel
theorem dX6_back_32 : decode cX6_back 32 = .ok (.getfield 26, 3) := by decide +kernel
theorem dX6_back_35 : decode cX6_back 35 = .ok (.getfield 90, 3) := by decide +kernel
theorem dX6_back_38 : decode cX6_back 38 = .ok (.ireturn, 1) := by decide +kernel
theorem dX6_told_0 : decode cX6_told 0 = .ok (.aload_n 0, 1) := by decide +kernel
theorem dX6_told_1 : decode cX6_told 1 = .ok (.iload_n 1, 1) := by decide +kernel
theorem dX6_told_2 : decode cX6_told 2 = .ok (.iload_n 2, 1) := by decide +kernel
theorem dX6_told_3 : decode cX6_told 3 = .ok (.iload_n 3, 1) := by decide +kernel
theorem dX6_told_4 : decode cX6_told 4 = .ok (.iload 4, 2) := by decide +kernel
theorem dX6_told_6 : decode cX6_told 6 = .ok (.iload 5, 2) := by decide +kernel
theorem dX6_told_8 : decode cX6_told 8 = .ok (.iload 6, 2) := by decide +kernel
theorem dX6_told_10 : decode cX6_told 10 = .ok (.invokevirtual 178, 3) := by decide +kernel
theorem dX6_told_13 : decode cX6_told 13 = .ok (.istore 7, 2) := by decide +kernel
theorem dX6_told_15 : decode cX6_told 15 = .ok (.iload 7, 2) := by decide +kernel
theorem dX6_told_17 : decode cX6_told 17 = .ok (.ifCond .eq 6, 3) := by decide +kernel
theorem dX6_told_20 : decode cX6_told 20 = .ok (.iload 7, 2) := by decide +kernel
theorem dX6_told_22 : decode cX6_told 22 = .ok (.ireturn, 1) := by decide +kernel
theorem dX6_told_23 : decode cX6_told 23 = .ok (.aload_n 0, 1) := by decide +kernel
theorem dX6_told_24 : decode cX6_told 24 = .ok (.getfield 19, 3) := by decide +kernel
theorem dX6_told_27 : decode cX6_told 27 = .ok (.iload_n 1, 1) := by decide +kernel
theorem dX6_told_28 : decode cX6_told 28 = .ok (.aaload, 1) := by decide +kernel
theorem dX6_told_29 : decode cX6_told 29 = .ok (.invokevirtual 108, 3) := by decide +kernel
theorem dX6_told_32 : decode cX6_told 32 = .ok (.istore 8, 2) := by decide +kernel
theorem dX6_told_34 : decode cX6_told 34 = .ok (.iconst 0, 1) := by decide +kernel
theorem dX6_told_35 : decode cX6_told 35 = .ok (.istore 9, 2) := by decide +kernel
theorem dX6_told_37 : decode cX6_told 37 = .ok (.bipush (-9), 2) := by decide +kernel
theorem dX6_told_39 : decode cX6_told 39 = .ok (.istore 10, 2) := by decide +kernel
theorem dX6_told_41 : decode cX6_told 41 = .ok (.bipush 63, 2) := by decide +kernel
theorem dX6_told_43 : decode cX6_told 43 = .ok (.istore 11, 2) := by decide +kernel
theorem dX6_told_45 : decode cX6_told 45 = .ok (.iload 11, 2) := by decide +kernel
theorem dX6_told_47 : decode cX6_told 47 = .ok (.ifCond .lt 30, 3) := by decide +kernel
theorem dX6_told_50 : decode cX6_told 50 = .ok (.aload_n 0, 1) := by decide +kernel
theorem dX6_told_51 : decode cX6_told 51 = .ok (.iload_n 1, 1) := by decide +kernel
theorem dX6_told_52 : decode cX6_told 52 = .ok (.iload 11, 2) := by decide +kernel
theorem dX6_told_54 : decode cX6_told 54 = .ok (.iload 8, 2) := by decide +kernel
theorem dX6_told_56 : decode cX6_told 56 = .ok (.iload 5, 2) := by decide +kernel
theorem dX6_told_58 : decode cX6_told 58 = .ok (.invokevirtual 182, 3) := by decide +kernel
theorem dX6_told_61 : decode cX6_told 61 = .ok (.ifCond .eq 10, 3) := by decide +kernel
theorem dX6_told_64 : decode cX6_told 64 = .ok (.iinc 9 1, 3) := by decide +kernel
theorem dX6_told_67 : decode cX6_told 67 = .ok (.iload 11, 2) := by decide +kernel
theorem dX6_told_69 : decode cX6_told 69 = .ok (.istore 10, 2) := by decide +kernel
theorem dX6_told_71 : decode cX6_told 71 = .ok (.iinc 11 (-1), 3) := by decide +kernel
theorem dX6_told_74 : decode cX6_told 74 = .ok (.goto (-29), 3) := by decide +kernel
theorem dX6_told_77 : decode cX6_told 77 = .ok (.iload 6, 2) := by decide +kernel
theorem dX6_told_79 : decode cX6_told 79 = .ok (.ifCond .ne 8, 3) := by decide +kernel
theorem dX6_told_82 : decode cX6_told 82 = .ok (.iload 9, 2) := by decide +kernel
theorem dX6_told_84 : decode cX6_told 84 = .ok (.goto 5, 3) := by decide +kernel
theorem dX6_told_87 : decode cX6_told 87 = .ok (.iload 10, 2) := by decide +kernel
theorem dX6_told_89 : decode cX6_told 89 = .ok (.ireturn, 1) := by decide +kernel
theorem dX6_kinds_0 : decode cX6_kinds 0 = .ok (.aload_n 0, 1) := by decide +kernel
theorem dX6_kinds_1 : decode cX6_kinds 1 = .ok (.iload_n 1, 1) := by decide +kernel
theorem dX6_kinds_2 : decode cX6_kinds 2 = .ok (.iload_n 2, 1) := by decide +kernel
theorem dX6_kinds_3 : decode cX6_kinds 3 = .ok (.iload_n 3, 1) := by decide +kernel
theorem dX6_kinds_4 : decode cX6_kinds 4 = .ok (.iload 4, 2) := by decide +kernel
theorem dX6_kinds_6 : decode cX6_kinds 6 = .ok (.iload 5, 2) := by decide +kernel
theorem dX6_kinds_8 : decode cX6_kinds 8 = .ok (.iconst 0, 1) := by decide +kernel
theorem dX6_kinds_9 : decode cX6_kinds 9 = .ok (.invokevirtual 178, 3) := by decide +kernel
theorem dX6_kinds_12 : decode cX6_kinds 12 = .ok (.istore 6, 2) := by decide +kernel
theorem dX6_kinds_14 : decode cX6_kinds 14 = .ok (.iload 6, 2) := by decide +kernel
theorem dX6_kinds_16 : decode cX6_kinds 16 = .ok (.ifCond .eq 6, 3) := by decide +kernel
theorem dX6_kinds_19 : decode cX6_kinds 19 = .ok (.iload 6, 2) := by decide +kernel
theorem dX6_kinds_21 : decode cX6_kinds 21 = .ok (.ireturn, 1) := by decide +kernel
theorem dX6_kinds_22 : decode cX6_kinds 22 = .ok (.aload_n 0, 1) := by decide +kernel
theorem dX6_kinds_23 : decode cX6_kinds 23 = .ok (.getfield 19, 3) := by decide +kernel
theorem dX6_kinds_26 : decode cX6_kinds 26 = .ok (.iload_n 1, 1) := by decide +kernel
theorem dX6_kinds_27 : decode cX6_kinds 27 = .ok (.aaload, 1) := by decide +kernel
theorem dX6_kinds_28 : decode cX6_kinds 28 = .ok (.astore 7, 2) := by decide +kernel
theorem dX6_kinds_30 : decode cX6_kinds 30 = .ok (.iconst 0, 1) := by decide +kernel
theorem dX6_kinds_31 : decode cX6_kinds 31 = .ok (.istore 8, 2) := by decide +kernel
theorem dX6_kinds_33 : decode cX6_kinds 33 = .ok (.iconst 0, 1) := by decide +kernel
theorem dX6_kinds_34 : decode cX6_kinds 34 = .ok (.istore 9, 2) := by decide +kernel
theorem dX6_kinds_36 : decode cX6_kinds 36 = .ok (.iload 9, 2) := by decide +kernel
theorem dX6_kinds_38 : decode cX6_kinds 38 = .ok (.iconst 3, 1) := by decide +kernel
theorem dX6_kinds_39 : decode cX6_kinds 39 = .ok (.if_icmp .ge 43, 3) := by decide +kernel
theorem dX6_kinds_42 : decode cX6_kinds 42 = .ok (.aload_n 0, 1) := by decide +kernel
theorem dX6_kinds_43 : decode cX6_kinds 43 = .ok (.iload_n 1, 1) := by decide +kernel
theorem dX6_kinds_44 : decode cX6_kinds 44 = .ok (.aload 7, 2) := by decide +kernel
theorem dX6_kinds_46 : decode cX6_kinds 46 = .ok (.getfield 99, 3) := by decide +kernel
theorem dX6_kinds_49 : decode cX6_kinds 49 = .ok (.iload 9, 2) := by decide +kernel
theorem dX6_kinds_51 : decode cX6_kinds 51 = .ok (.aload 7, 2) := by decide +kernel
theorem dX6_kinds_53 : decode cX6_kinds 53 = .ok (.getfield 105, 3) := by decide +kernel
theorem dX6_kinds_56 : decode cX6_kinds 56 = .ok (.invokestatic 186, 3) := by decide +kernel
theorem dX6_kinds_59 : decode cX6_kinds 59 = .ok (.iload 5, 2) := by decide +kernel
theorem dX6_kinds_61 : decode cX6_kinds 61 = .ok (.invokevirtual 182, 3) := by decide +kernel
theorem dX6_kinds_64 : decode cX6_kinds 64 = .ok (.ifCond .eq 12, 3) := by decide +kernel
theorem dX6_kinds_67 : decode cX6_kinds 67 = .ok (.iload 8, 2) := by decide +kernel
theorem dX6_kinds_69 : decode cX6_kinds 69 = .ok (.iconst 1, 1) := by decide +kernel
theorem dX6_kinds_70 : decode cX6_kinds 70 = .ok (.iload 9, 2) := by decide +kernel
theorem dX6_kinds_72 : decode cX6_kinds 72 = .ok (.ishl, 1) := by decide +kernel
theorem dX6_kinds_73 : decode cX6_kinds 73 = .ok (.ior, 1) := by decide +kernel
theorem dX6_kinds_74 : decode cX6_kinds 74 = .ok (.istore 8, 2) := by decide +kernel
theorem dX6_kinds_76 : decode cX6_kinds 76 = .ok (.iinc 9 1, 3) := by decide +kernel
theorem dX6_kinds_79 : decode cX6_kinds 79 = .ok (.goto (-43), 3) := by decide +kernel
theorem dX6_kinds_82 : decode cX6_kinds 82 = .ok (.iload 8, 2) := by decide +kernel
theorem dX6_kinds_84 : decode cX6_kinds 84 = .ok (.ireturn, 1) := by decide +kernel
theorem dX6_wears_0 : decode cX6_wears 0 = .ok (.aload_n 0, 1) := by decide +kernel
theorem dX6_wears_1 : decode cX6_wears 1 = .ok (.iload_n 1, 1) := by decide +kernel
theorem dX6_wears_2 : decode cX6_wears 2 = .ok (.iload_n 2, 1) := by decide +kernel
theorem dX6_wears_3 : decode cX6_wears 3 = .ok (.iload_n 3, 1) := by decide +kernel
theorem dX6_wears_4 : decode cX6_wears 4 = .ok (.iload 4, 2) := by decide +kernel
theorem dX6_wears_6 : decode cX6_wears 6 = .ok (.iload 5, 2) := by decide +kernel
theorem dX6_wears_8 : decode cX6_wears 8 = .ok (.iconst 0, 1) := by decide +kernel
theorem dX6_wears_9 : decode cX6_wears 9 = .ok (.invokevirtual 178, 3) := by decide +kernel
theorem dX6_wears_12 : decode cX6_wears 12 = .ok (.istore 6, 2) := by decide +kernel
theorem dX6_wears_14 : decode cX6_wears 14 = .ok (.iload 6, 2) := by decide +kernel
theorem dX6_wears_16 : decode cX6_wears 16 = .ok (.ifCond .eq 6, 3) := by decide +kernel
theorem dX6_wears_19 : decode cX6_wears 19 = .ok (.iload 6, 2) := by decide +kernel
theorem dX6_wears_21 : decode cX6_wears 21 = .ok (.ireturn, 1) := by decide +kernel
theorem dX6_wears_22 : decode cX6_wears 22 = .ok (.aload_n 0, 1) := by decide +kernel
theorem dX6_wears_23 : decode cX6_wears 23 = .ok (.getfield 19, 3) := by decide +kernel
theorem dX6_wears_26 : decode cX6_wears 26 = .ok (.iload_n 1, 1) := by decide +kernel
theorem dX6_wears_27 : decode cX6_wears 27 = .ok (.aaload, 1) := by decide +kernel
theorem dX6_wears_28 : decode cX6_wears 28 = .ok (.astore 7, 2) := by decide +kernel
theorem dX6_wears_30 : decode cX6_wears 30 = .ok (.iconst 0, 1) := by decide +kernel
theorem dX6_wears_31 : decode cX6_wears 31 = .ok (.istore 8, 2) := by decide +kernel
theorem dX6_wears_33 : decode cX6_wears 33 = .ok (.iconst 1, 1) := by decide +kernel
theorem dX6_wears_34 : decode cX6_wears 34 = .ok (.istore 9, 2) := by decide +kernel
theorem dX6_wears_36 : decode cX6_wears 36 = .ok (.iload 9, 2) := by decide +kernel
theorem dX6_wears_38 : decode cX6_wears 38 = .ok (.bipush 9, 2) := by decide +kernel
theorem dX6_wears_40 : decode cX6_wears 40 = .ok (.if_icmp .gt 43, 3) := by decide +kernel
theorem dX6_wears_43 : decode cX6_wears 43 = .ok (.aload_n 0, 1) := by decide +kernel
theorem dX6_wears_44 : decode cX6_wears 44 = .ok (.iload_n 1, 1) := by decide +kernel
theorem dX6_wears_45 : decode cX6_wears 45 = .ok (.aload 7, 2) := by decide +kernel
theorem dX6_wears_47 : decode cX6_wears 47 = .ok (.getfield 99, 3) := by decide +kernel
theorem dX6_wears_50 : decode cX6_wears 50 = .ok (.aload 7, 2) := by decide +kernel
theorem dX6_wears_52 : decode cX6_wears 52 = .ok (.getfield 96, 3) := by decide +kernel
theorem dX6_wears_55 : decode cX6_wears 55 = .ok (.iload 9, 2) := by decide +kernel
theorem dX6_wears_57 : decode cX6_wears 57 = .ok (.invokestatic 186, 3) := by decide +kernel
theorem dX6_wears_60 : decode cX6_wears 60 = .ok (.iload 5, 2) := by decide +kernel
theorem dX6_wears_62 : decode cX6_wears 62 = .ok (.invokevirtual 182, 3) := by decide +kernel
theorem dX6_wears_65 : decode cX6_wears 65 = .ok (.ifCond .eq 12, 3) := by decide +kernel
theorem dX6_wears_68 : decode cX6_wears 68 = .ok (.iload 8, 2) := by decide +kernel
theorem dX6_wears_70 : decode cX6_wears 70 = .ok (.iconst 1, 1) := by decide +kernel
theorem dX6_wears_71 : decode cX6_wears 71 = .ok (.iload 9, 2) := by decide +kernel
theorem dX6_wears_73 : decode cX6_wears 73 = .ok (.ishl, 1) := by decide +kernel
theorem dX6_wears_74 : decode cX6_wears 74 = .ok (.ior, 1) := by decide +kernel
theorem dX6_wears_75 : decode cX6_wears 75 = .ok (.istore 8, 2) := by decide +kernel
theorem dX6_wears_77 : decode cX6_wears 77 = .ok (.iinc 9 1, 3) := by decide +kernel
theorem dX6_wears_80 : decode cX6_wears 80 = .ok (.goto (-44), 3) := by decide +kernel
theorem dX6_wears_83 : decode cX6_wears 83 = .ok (.iload 8, 2) := by decide +kernel
theorem dX6_wears_85 : decode cX6_wears 85 = .ok (.ireturn, 1) := by decide +kernel
theorem dX6_odds_0 : decode cX6_odds 0 = .ok (.aload_n 0, 1) := by decide +kernel
theorem dX6_odds_1 : decode cX6_odds 1 = .ok (.iload_n 1, 1) := by decide +kernel
theorem dX6_odds_2 : decode cX6_odds 2 = .ok (.iload_n 2, 1) := by decide +kernel
theorem dX6_odds_3 : decode cX6_odds 3 = .ok (.iload_n 3, 1) := by decide +kernel
theorem dX6_odds_4 : decode cX6_odds 4 = .ok (.iload 4, 2) := by decide +kernel
theorem dX6_odds_6 : decode cX6_odds 6 = .ok (.iload 5, 2) := by decide +kernel
theorem dX6_odds_8 : decode cX6_odds 8 = .ok (.iload 6, 2) := by decide +kernel
theorem dX6_odds_10 : decode cX6_odds 10 = .ok (.invokevirtual 178, 3) := by decide +kernel
theorem dX6_odds_13 : decode cX6_odds 13 = .ok (.ifCond .eq 7, 3) := by decide +kernel
theorem dX6_odds_16 : decode cX6_odds 16 = .ok (.ldc2_w 189, 3) := by decide +kernel
theorem dX6_odds_19 : decode cX6_odds 19 = .ok (.lreturn, 1) := by decide +kernel
theorem dX6_odds_20 : decode cX6_odds 20 = .ok (.aload_n 0, 1) := by decide +kernel
theorem dX6_odds_21 : decode cX6_odds 21 = .ok (.getfield 33, 3) := by decide +kernel
theorem dX6_odds_24 : decode cX6_odds 24 = .ok (.aload_n 0, 1) := by decide +kernel
theorem dX6_odds_25 : decode cX6_odds 25 = .ok (.getfield 19, 3) := by decide +kernel
theorem dX6_odds_28 : decode cX6_odds 28 = .ok (.aload_n 0, 1) := by decide +kernel
theorem dX6_odds_29 : decode cX6_odds 29 = .ok (.getfield 55, 3) := by decide +kernel
theorem dX6_odds_32 : decode cX6_odds 32 = .ok (.invokevirtual 122, 3) := by decide +kernel
theorem dX6_odds_35 : decode cX6_odds 35 = .ok (.aload_n 0, 1) := by decide +kernel
theorem dX6_odds_36 : decode cX6_odds 36 = .ok (.getfield 33, 3) := by decide +kernel
theorem dX6_odds_39 : decode cX6_odds 39 = .ok (.aload_n 0, 1) := by decide +kernel
theorem dX6_odds_40 : decode cX6_odds 40 = .ok (.getfield 51, 3) := by decide +kernel
theorem dX6_odds_43 : decode cX6_odds 43 = .ok (.iload 5, 2) := by decide +kernel
theorem dX6_odds_45 : decode cX6_odds 45 = .ok (.invokevirtual 126, 3) := by decide +kernel
theorem dX6_odds_48 : decode cX6_odds 48 = .ok (.bipush (-9), 2) := by decide +kernel
theorem dX6_odds_50 : decode cX6_odds 50 = .ok (.if_icmp .eq 7, 3) := by decide +kernel
theorem dX6_odds_53 : decode cX6_odds 53 = .ok (.ldc2_w 189, 3) := by decide +kernel
theorem dX6_odds_56 : decode cX6_odds 56 = .ok (.lreturn, 1) := by decide +kernel
theorem dX6_odds_57 : decode cX6_odds 57 = .ok (.aload_n 0, 1) := by decide +kernel
theorem dX6_odds_58 : decode cX6_odds 58 = .ok (.getfield 19, 3) := by decide +kernel
theorem dX6_odds_61 : decode cX6_odds 61 = .ok (.iload_n 1, 1) := by decide +kernel
theorem dX6_odds_62 : decode cX6_odds 62 = .ok (.aaload, 1) := by decide +kernel
theorem dX6_odds_63 : decode cX6_odds 63 = .ok (.getfield 102, 3) := by decide +kernel
theorem dX6_odds_66 : decode cX6_odds 66 = .ok (.bipush 6, 2) := by decide +kernel
theorem dX6_odds_68 : decode cX6_odds 68 = .ok (.if_icmp .ne 5, 3) := by decide +kernel
theorem dX6_odds_71 : decode cX6_odds 71 = .ok (.lconst 1, 1) := by decide +kernel
theorem dX6_odds_72 : decode cX6_odds 72 = .ok (.lreturn, 1) := by decide +kernel
theorem dX6_odds_73 : decode cX6_odds 73 = .ok (.lconst 1, 1) := by decide +kernel
theorem dX6_odds_74 : decode cX6_odds 74 = .ok (.aload_n 0, 1) := by decide +kernel
theorem dX6_odds_75 : decode cX6_odds 75 = .ok (.getfield 33, 3) := by decide +kernel
theorem dX6_odds_78 : decode cX6_odds 78 = .ok (.iload_n 1, 1) := by decide +kernel
theorem dX6_odds_79 : decode cX6_odds 79 = .ok (.aload_n 0, 1) := by decide +kernel
theorem dX6_odds_80 : decode cX6_odds 80 = .ok (.getfield 19, 3) := by decide +kernel
theorem dX6_odds_83 : decode cX6_odds 83 = .ok (.iload_n 1, 1) := by decide +kernel
theorem dX6_odds_84 : decode cX6_odds 84 = .ok (.aaload, 1) := by decide +kernel
theorem dX6_odds_85 : decode cX6_odds 85 = .ok (.invokevirtual 171, 3) := by decide +kernel
theorem dX6_odds_88 : decode cX6_odds 88 = .ok (.invokevirtual 191, 3) := by decide +kernel
theorem dX6_odds_91 : decode cX6_odds 91 = .ok (.lshl, 1) := by decide +kernel
theorem dX6_odds_92 : decode cX6_odds 92 = .ok (.lstore 7, 2) := by decide +kernel
theorem dX6_odds_94 : decode cX6_odds 94 = .ok (.iload 6, 2) := by decide +kernel
theorem dX6_odds_96 : decode cX6_odds 96 = .ok (.ifCond .ne 10, 3) := by decide +kernel
theorem dX6_odds_99 : decode cX6_odds 99 = .ok (.lload 7, 2) := by decide +kernel
theorem dX6_odds_101 : decode cX6_odds 101 = .ok (.lconst 1, 1) := by decide +kernel
theorem dX6_odds_102 : decode cX6_odds 102 = .ok (.lsub, 1) := by decide +kernel
theorem dX6_odds_103 : decode cX6_odds 103 = .ok (.goto 5, 3) := by decide +kernel
theorem dX6_odds_106 : decode cX6_odds 106 = .ok (.lload 7, 2) := by decide +kernel
theorem dX6_odds_108 : decode cX6_odds 108 = .ok (.lreturn, 1) := by decide +kernel
theorem dX6_couldBe_0 : decode cX6_couldBe 0 = .ok (.aload_n 0, 1) := by decide +kernel
theorem dX6_couldBe_1 : decode cX6_couldBe 1 = .ok (.getfield 33, 3) := by decide +kernel
theorem dX6_couldBe_4 : decode cX6_couldBe 4 = .ok (.aload_n 0, 1) := by decide +kernel
theorem dX6_couldBe_5 : decode cX6_couldBe 5 = .ok (.getfield 19, 3) := by decide +kernel
theorem dX6_couldBe_8 : decode cX6_couldBe 8 = .ok (.aload_n 0, 1) := by decide +kernel
theorem dX6_couldBe_9 : decode cX6_couldBe 9 = .ok (.getfield 55, 3) := by decide +kernel
theorem dX6_couldBe_12 : decode cX6_couldBe 12 = .ok (.invokevirtual 122, 3) := by decide +kernel
theorem dX6_couldBe_15 : decode cX6_couldBe 15 = .ok (.aload_n 0, 1) := by decide +kernel
theorem dX6_couldBe_16 : decode cX6_couldBe 16 = .ok (.getfield 33, 3) := by decide +kernel
theorem dX6_couldBe_19 : decode cX6_couldBe 19 = .ok (.iload_n 1, 1) := by decide +kernel
theorem dX6_couldBe_20 : decode cX6_couldBe 20 = .ok (.iload_n 2, 1) := by decide +kernel
theorem dX6_couldBe_21 : decode cX6_couldBe 21 = .ok (.iload_n 3, 1) := by decide +kernel
theorem dX6_couldBe_22 : decode cX6_couldBe 22 = .ok (.invokevirtual 194, 3) := by decide +kernel
theorem dX6_couldBe_25 : decode cX6_couldBe 25 = .ok (.aload_n 0, 1) := by decide +kernel
theorem dX6_couldBe_26 : decode cX6_couldBe 26 = .ok (.getfield 33, 3) := by decide +kernel
theorem dX6_couldBe_29 : decode cX6_couldBe 29 = .ok (.aload_n 0, 1) := by decide +kernel
theorem dX6_couldBe_30 : decode cX6_couldBe 30 = .ok (.getfield 51, 3) := by decide +kernel
theorem dX6_couldBe_33 : decode cX6_couldBe 33 = .ok (.iload 4, 2) := by decide +kernel
theorem dX6_couldBe_35 : decode cX6_couldBe 35 = .ok (.invokevirtual 126, 3) := by decide +kernel
theorem dX6_couldBe_38 : decode cX6_couldBe 38 = .ok (.bipush (-9), 2) := by decide +kernel
theorem dX6_couldBe_40 : decode cX6_couldBe 40 = .ok (.if_icmp .ne 21, 3) := by decide +kernel
theorem dX6_couldBe_43 : decode cX6_couldBe 43 = .ok (.aload_n 0, 1) := by decide +kernel
theorem dX6_couldBe_44 : decode cX6_couldBe 44 = .ok (.getfield 26, 3) := by decide +kernel
theorem dX6_couldBe_47 : decode cX6_couldBe 47 = .ok (.aload_n 0, 1) := by decide +kernel
theorem dX6_couldBe_48 : decode cX6_couldBe 48 = .ok (.getfield 33, 3) := by decide +kernel
theorem dX6_couldBe_51 : decode cX6_couldBe 51 = .ok (.invokevirtual 198, 3) := by decide +kernel
theorem dX6_couldBe_54 : decode cX6_couldBe 54 = .ok (.ifCond .eq 7, 3) := by decide +kernel
theorem dX6_couldBe_57 : decode cX6_couldBe 57 = .ok (.iconst 1, 1) := by decide +kernel
theorem dX6_couldBe_58 : decode cX6_couldBe 58 = .ok (.goto 4, 3) := by decide +kernel
theorem dX6_couldBe_61 : decode cX6_couldBe 61 = .ok (.iconst 0, 1) := by decide +kernel
theorem dX6_couldBe_62 : decode cX6_couldBe 62 = .ok (.ireturn, 1) := by decide +kernel
theorem dX6_refusalOfReadLoans_0 : decode cX6_refusalOfReadLoans 0 = .ok (.aload_n 0, 1) := by decide +kernel
theorem dX6_refusalOfReadLoans_1 : decode cX6_refusalOfReadLoans 1 = .ok (.iconst 0, 1) := by decide +kernel
theorem dX6_refusalOfReadLoans_2 : decode cX6_refusalOfReadLoans 2 = .ok (.putfield 62, 3) := by decide +kernel
theorem dX6_refusalOfReadLoans_5 : decode cX6_refusalOfReadLoans 5 = .ok (.aload_n 0, 1) := by decide +kernel
theorem dX6_refusalOfReadLoans_6 : decode cX6_refusalOfReadLoans 6 = .ok (.iload_n 1, 1) := by decide +kernel
theorem dX6_refusalOfReadLoans_7 : decode cX6_refusalOfReadLoans 7 = .ok (.invokevirtual 93, 3) := by decide +kernel
theorem dX6_refusalOfReadLoans_10 : decode cX6_refusalOfReadLoans 10 = .ok (.ifCond .eq 10, 3) := by decide +kernel
theorem dX6_refusalOfReadLoans_13 : decode cX6_refusalOfReadLoans 13 = .ok (.iload_n 2, 1) := by decide +kernel
theorem dX6_refusalOfReadLoans_14 : decode cX6_refusalOfReadLoans 14 = .ok (.invokestatic 67, 3) := by decide +kernel
theorem dX6_refusalOfReadLoans_17 : decode cX6_refusalOfReadLoans 17 = .ok (.ifCond .ne 5, 3) := by decide +kernel
theorem dX6_refusalOfReadLoans_20 : decode cX6_refusalOfReadLoans 20 = .ok (.iconst (-1), 1) := by decide +kernel
theorem dX6_refusalOfReadLoans_21 : decode cX6_refusalOfReadLoans 21 = .ok (.ireturn, 1) := by decide +kernel
theorem dX6_refusalOfReadLoans_22 : decode cX6_refusalOfReadLoans 22 = .ok (.iload_n 3, 1) := by decide +kernel
theorem dX6_refusalOfReadLoans_23 : decode cX6_refusalOfReadLoans 23 = .ok (.invokestatic 71, 3) := by decide +kernel
theorem dX6_refusalOfReadLoans_26 : decode cX6_refusalOfReadLoans 26 = .ok (.ifCond .eq 22, 3) := by decide +kernel
theorem dX6_refusalOfReadLoans_29 : decode cX6_refusalOfReadLoans 29 = .ok (.iload 5, 2) := by decide +kernel
theorem dX6_refusalOfReadLoans_31 : decode cX6_refusalOfReadLoans 31 = .ok (.invokestatic 112, 3) := by decide +kernel
theorem dX6_refusalOfReadLoans_34 : decode cX6_refusalOfReadLoans 34 = .ok (.ifCond .eq 14, 3) := by decide +kernel
theorem dX6_refusalOfReadLoans_37 : decode cX6_refusalOfReadLoans 37 = .ok (.iload 6, 2) := by decide +kernel
theorem dX6_refusalOfReadLoans_39 : decode cX6_refusalOfReadLoans 39 = .ok (.ifCond .lt 9, 3) := by decide +kernel
theorem dX6_refusalOfReadLoans_42 : decode cX6_refusalOfReadLoans 42 = .ok (.iload 6, 2) := by decide +kernel
theorem dX6_refusalOfReadLoans_44 : decode cX6_refusalOfReadLoans 44 = .ok (.iconst 1, 1) := by decide +kernel
theorem dX6_refusalOfReadLoans_45 : decode cX6_refusalOfReadLoans 45 = .ok (.if_icmp .le 6, 3) := by decide +kernel
theorem dX6_refusalOfReadLoans_48 : decode cX6_refusalOfReadLoans 48 = .ok (.bipush (-2), 2) := by decide +kernel
theorem dX6_refusalOfReadLoans_50 : decode cX6_refusalOfReadLoans 50 = .ok (.ireturn, 1) := by decide +kernel
theorem dX6_refusalOfReadLoans_51 : decode cX6_refusalOfReadLoans 51 = .ok (.aload_n 0, 1) := by decide +kernel
theorem dX6_refusalOfReadLoans_52 : decode cX6_refusalOfReadLoans 52 = .ok (.iload_n 2, 1) := by decide +kernel
theorem dX6_refusalOfReadLoans_53 : decode cX6_refusalOfReadLoans 53 = .ok (.iload_n 3, 1) := by decide +kernel
theorem dX6_refusalOfReadLoans_54 : decode cX6_refusalOfReadLoans 54 = .ok (.iload 4, 2) := by decide +kernel
theorem dX6_refusalOfReadLoans_56 : decode cX6_refusalOfReadLoans 56 = .ok (.iload 5, 2) := by decide +kernel
theorem dX6_refusalOfReadLoans_58 : decode cX6_refusalOfReadLoans 58 = .ok (.invokevirtual 118, 3) := by decide +kernel
theorem dX6_refusalOfReadLoans_61 : decode cX6_refusalOfReadLoans 61 = .ok (.ireturn, 1) := by decide +kernel
theorem dX6_sheet_0 : decode cX6_sheet 0 = .ok (.aload_n 0, 1) := by decide +kernel
theorem dX6_sheet_1 : decode cX6_sheet 1 = .ok (.iconst 0, 1) := by decide +kernel
theorem dX6_sheet_2 : decode cX6_sheet 2 = .ok (.putfield 62, 3) := by decide +kernel
theorem dX6_sheet_5 : decode cX6_sheet 5 = .ok (.iload_n 1, 1) := by decide +kernel
theorem dX6_sheet_6 : decode cX6_sheet 6 = .ok (.invokestatic 67, 3) := by decide +kernel
theorem dX6_sheet_9 : decode cX6_sheet 9 = .ok (.ifCond .ne 5, 3) := by decide +kernel
theorem dX6_sheet_12 : decode cX6_sheet 12 = .ok (.iconst (-1), 1) := by decide +kernel
theorem dX6_sheet_13 : decode cX6_sheet 13 = .ok (.ireturn, 1) := by decide +kernel
theorem dX6_sheet_14 : decode cX6_sheet 14 = .ok (.iload_n 2, 1) := by decide +kernel
theorem dX6_sheet_15 : decode cX6_sheet 15 = .ok (.invokestatic 71, 3) := by decide +kernel
theorem dX6_sheet_18 : decode cX6_sheet 18 = .ok (.ifCond .eq 9, 3) := by decide +kernel
theorem dX6_sheet_21 : decode cX6_sheet 21 = .ok (.iload_n 3, 1) := by decide +kernel
theorem dX6_sheet_22 : decode cX6_sheet 22 = .ok (.bipush 60, 2) := by decide +kernel
theorem dX6_sheet_24 : decode cX6_sheet 24 = .ok (.if_icmp .le 6, 3) := by decide +kernel
theorem dX6_sheet_27 : decode cX6_sheet 27 = .ok (.bipush (-2), 2) := by decide +kernel
theorem dX6_sheet_29 : decode cX6_sheet 29 = .ok (.ireturn, 1) := by decide +kernel
theorem dX6_sheet_30 : decode cX6_sheet 30 = .ok (.iload_n 3, 1) := by decide +kernel
theorem dX6_sheet_31 : decode cX6_sheet 31 = .ok (.ifCond .ge 9, 3) := by decide +kernel
theorem dX6_sheet_34 : decode cX6_sheet 34 = .ok (.aload_n 0, 1) := by decide +kernel
theorem dX6_sheet_35 : decode cX6_sheet 35 = .ok (.iconst 4, 1) := by decide +kernel
theorem dX6_sheet_36 : decode cX6_sheet 36 = .ok (.invokevirtual 78, 3) := by decide +kernel
theorem dX6_sheet_39 : decode cX6_sheet 39 = .ok (.ireturn, 1) := by decide +kernel
theorem dX6_sheet_40 : decode cX6_sheet 40 = .ok (.aload_n 0, 1) := by decide +kernel
theorem dX6_sheet_41 : decode cX6_sheet 41 = .ok (.getfield 13, 3) := by decide +kernel
theorem dX6_sheet_44 : decode cX6_sheet 44 = .ok (.iload_n 1, 1) := by decide +kernel
theorem dX6_sheet_45 : decode cX6_sheet 45 = .ok (.aaload, 1) := by decide +kernel
theorem dX6_sheet_46 : decode cX6_sheet 46 = .ok (.iload_n 2, 1) := by decide +kernel
theorem dX6_sheet_47 : decode cX6_sheet 47 = .ok (.iload_n 3, 1) := by decide +kernel
theorem dX6_sheet_48 : decode cX6_sheet 48 = .ok (.invokevirtual 202, 3) := by decide +kernel
theorem dX6_sheet_51 : decode cX6_sheet 51 = .ok (.iconst 1, 1) := by decide +kernel
theorem dX6_sheet_52 : decode cX6_sheet 52 = .ok (.ireturn, 1) := by decide +kernel
theorem dX6_lose_0 : decode cX6_lose 0 = .ok (.iload_n 1, 1) := by decide +kernel
theorem dX6_lose_1 : decode cX6_lose 1 = .ok (.invokestatic 67, 3) := by decide +kernel
theorem dX6_lose_4 : decode cX6_lose 4 = .ok (.ifCond .ne 5, 3) := by decide +kernel
theorem dX6_lose_7 : decode cX6_lose 7 = .ok (.iconst (-1), 1) := by decide +kernel
theorem dX6_lose_8 : decode cX6_lose 8 = .ok (.ireturn, 1) := by decide +kernel
theorem dX6_lose_9 : decode cX6_lose 9 = .ok (.aload_n 0, 1) := by decide +kernel
theorem dX6_lose_10 : decode cX6_lose 10 = .ok (.getfield 13, 3) := by decide +kernel
theorem dX6_lose_13 : decode cX6_lose 13 = .ok (.iload_n 1, 1) := by decide +kernel
theorem dX6_lose_14 : decode cX6_lose 14 = .ok (.aaload, 1) := by decide +kernel
theorem dX6_lose_15 : decode cX6_lose 15 = .ok (.getfield 206, 3) := by decide +kernel
theorem dX6_lose_18 : decode cX6_lose 18 = .ok (.ifCond .eq 7, 3) := by decide +kernel
theorem dX6_lose_21 : decode cX6_lose 21 = .ok (.iconst 1, 1) := by decide +kernel
theorem dX6_lose_22 : decode cX6_lose 22 = .ok (.goto 4, 3) := by decide +kernel
theorem dX6_lose_25 : decode cX6_lose 25 = .ok (.iconst 0, 1) := by decide +kernel
theorem dX6_lose_26 : decode cX6_lose 26 = .ok (.istore_n 2, 1) := by decide +kernel
theorem dX6_lose_27 : decode cX6_lose 27 = .ok (.aload_n 0, 1) := by decide +kernel
theorem dX6_lose_28 : decode cX6_lose 28 = .ok (.getfield 13, 3) := by decide +kernel
theorem dX6_lose_31 : decode cX6_lose 31 = .ok (.iload_n 1, 1) := by decide +kernel
theorem dX6_lose_32 : decode cX6_lose 32 = .ok (.aaload, 1) := by decide +kernel
theorem dX6_lose_33 : decode cX6_lose 33 = .ok (.iconst 0, 1) := by decide +kernel
theorem dX6_lose_34 : decode cX6_lose 34 = .ok (.putfield 206, 3) := by decide +kernel
theorem dX6_lose_37 : decode cX6_lose 37 = .ok (.iload_n 2, 1) := by decide +kernel
theorem dX6_lose_38 : decode cX6_lose 38 = .ok (.ireturn, 1) := by decide +kernel
theorem dX6_put_0 : decode cX6_put 0 = .ok (.aload_n 0, 1) := by decide +kernel
theorem dX6_put_1 : decode cX6_put 1 = .ok (.iconst 0, 1) := by decide +kernel
theorem dX6_put_2 : decode cX6_put 2 = .ok (.putfield 62, 3) := by decide +kernel
theorem dX6_put_5 : decode cX6_put 5 = .ok (.iload_n 1, 1) := by decide +kernel
theorem dX6_put_6 : decode cX6_put 6 = .ok (.invokestatic 67, 3) := by decide +kernel
theorem dX6_put_9 : decode cX6_put 9 = .ok (.ifCond .ne 5, 3) := by decide +kernel
theorem dX6_put_12 : decode cX6_put 12 = .ok (.iconst (-1), 1) := by decide +kernel
theorem dX6_put_13 : decode cX6_put 13 = .ok (.ireturn, 1) := by decide +kernel
theorem dX6_put_14 : decode cX6_put 14 = .ok (.aload_n 0, 1) := by decide +kernel
theorem dX6_put_15 : decode cX6_put 15 = .ok (.getfield 13, 3) := by decide +kernel
theorem dX6_put_18 : decode cX6_put 18 = .ok (.iload_n 1, 1) := by decide +kernel
theorem dX6_put_19 : decode cX6_put 19 = .ok (.aaload, 1) := by decide +kernel
theorem dX6_put_20 : decode cX6_put 20 = .ok (.astore 4, 2) := by decide +kernel
theorem dX6_put_22 : decode cX6_put 22 = .ok (.aload 4, 2) := by decide +kernel
theorem dX6_put_24 : decode cX6_put 24 = .ok (.aload 4, 2) := by decide +kernel
theorem dX6_put_26 : decode cX6_put 26 = .ok (.getfield 210, 3) := by decide +kernel
theorem dX6_put_29 : decode cX6_put 29 = .ok (.iload_n 2, 1) := by decide +kernel
theorem dX6_put_30 : decode cX6_put 30 = .ok (.iconst 1, 1) := by decide +kernel
theorem dX6_put_31 : decode cX6_put 31 = .ok (.invokevirtual 74, 3) := by decide +kernel
theorem dX6_put_34 : decode cX6_put 34 = .ok (.istore 5, 2) := by decide +kernel
theorem dX6_put_36 : decode cX6_put 36 = .ok (.iload 5, 2) := by decide +kernel
theorem dX6_put_38 : decode cX6_put 38 = .ok (.ifCond .eq 10, 3) := by decide +kernel
theorem dX6_put_41 : decode cX6_put 41 = .ok (.aload_n 0, 1) := by decide +kernel
theorem dX6_put_42 : decode cX6_put 42 = .ok (.iload 5, 2) := by decide +kernel
theorem dX6_put_44 : decode cX6_put 44 = .ok (.invokevirtual 78, 3) := by decide +kernel
theorem dX6_put_47 : decode cX6_put 47 = .ok (.ireturn, 1) := by decide +kernel
theorem dX6_put_48 : decode cX6_put 48 = .ok (.aload 4, 2) := by decide +kernel
theorem dX6_put_50 : decode cX6_put 50 = .ok (.getfield 213, 3) := by decide +kernel
theorem dX6_put_53 : decode cX6_put 53 = .ok (.iload_n 2, 1) := by decide +kernel
theorem dX6_put_54 : decode cX6_put 54 = .ok (.aload 4, 2) := by decide +kernel
theorem dX6_put_56 : decode cX6_put 56 = .ok (.getfield 210, 3) := by decide +kernel
theorem dX6_put_59 : decode cX6_put 59 = .ok (.iload_n 3, 1) := by decide +kernel
theorem dX6_put_60 : decode cX6_put 60 = .ok (.invokestatic 216, 3) := by decide +kernel
theorem dX6_put_63 : decode cX6_put 63 = .ok (.iastore, 1) := by decide +kernel
theorem dX6_put_64 : decode cX6_put 64 = .ok (.iconst 1, 1) := by decide +kernel
theorem dX6_put_65 : decode cX6_put 65 = .ok (.ireturn, 1) := by decide +kernel
theorem dX6_cell_0 : decode cX6_cell 0 = .ok (.aload_n 0, 1) := by decide +kernel
theorem dX6_cell_1 : decode cX6_cell 1 = .ok (.iconst 0, 1) := by decide +kernel
theorem dX6_cell_2 : decode cX6_cell 2 = .ok (.putfield 62, 3) := by decide +kernel
theorem dX6_cell_5 : decode cX6_cell 5 = .ok (.iload_n 1, 1) := by decide +kernel
theorem dX6_cell_6 : decode cX6_cell 6 = .ok (.invokestatic 67, 3) := by decide +kernel
theorem dX6_cell_9 : decode cX6_cell 9 = .ok (.ifCond .eq 10, 3) := by decide +kernel
theorem dX6_cell_12 : decode cX6_cell 12 = .ok (.iload_n 3, 1) := by decide +kernel
theorem dX6_cell_13 : decode cX6_cell 13 = .ok (.invokestatic 71, 3) := by decide +kernel
theorem dX6_cell_16 : decode cX6_cell 16 = .ok (.ifCond .ne 7, 3) := by decide +kernel
theorem dX6_cell_19 : decode cX6_cell 19 = .ok (.ldc2_w 189, 3) := by decide +kernel
theorem dX6_cell_22 : decode cX6_cell 22 = .ok (.lreturn, 1) := by decide +kernel
theorem dX6_cell_23 : decode cX6_cell 23 = .ok (.aload_n 0, 1) := by decide +kernel
theorem dX6_cell_24 : decode cX6_cell 24 = .ok (.aload_n 0, 1) := by decide +kernel
theorem dX6_cell_25 : decode cX6_cell 25 = .ok (.getfield 13, 3) := by decide +kernel
theorem dX6_cell_28 : decode cX6_cell 28 = .ok (.iload_n 1, 1) := by decide +kernel
theorem dX6_cell_29 : decode cX6_cell 29 = .ok (.aaload, 1) := by decide +kernel
theorem dX6_cell_30 : decode cX6_cell 30 = .ok (.iload_n 3, 1) := by decide +kernel
theorem dX6_cell_31 : decode cX6_cell 31 = .ok (.iload_n 2, 1) := by decide +kernel
theorem dX6_cell_32 : decode cX6_cell 32 = .ok (.iconst 1, 1) := by decide +kernel
theorem dX6_cell_33 : decode cX6_cell 33 = .ok (.invokevirtual 74, 3) := by decide +kernel
theorem dX6_cell_36 : decode cX6_cell 36 = .ok (.putfield 62, 3) := by decide +kernel
theorem dX6_cell_39 : decode cX6_cell 39 = .ok (.aload_n 0, 1) := by decide +kernel
theorem dX6_cell_40 : decode cX6_cell 40 = .ok (.getfield 62, 3) := by decide +kernel
theorem dX6_cell_43 : decode cX6_cell 43 = .ok (.ifCond .ne 18, 3) := by decide +kernel
theorem dX6_cell_46 : decode cX6_cell 46 = .ok (.aload_n 0, 1) := by decide +kernel
theorem dX6_cell_47 : decode cX6_cell 47 = .ok (.getfield 13, 3) := by decide +kernel
theorem dX6_cell_50 : decode cX6_cell 50 = .ok (.iload_n 1, 1) := by decide +kernel
theorem dX6_cell_51 : decode cX6_cell 51 = .ok (.aaload, 1) := by decide +kernel
theorem dX6_cell_52 : decode cX6_cell 52 = .ok (.getfield 213, 3) := by decide +kernel
theorem dX6_cell_55 : decode cX6_cell 55 = .ok (.iload_n 2, 1) := by decide +kernel
theorem dX6_cell_56 : decode cX6_cell 56 = .ok (.iaload, 1) := by decide +kernel
theorem dX6_cell_57 : decode cX6_cell 57 = .ok (.i2l, 1) := by decide +kernel
theorem dX6_cell_58 : decode cX6_cell 58 = .ok (.goto 6, 3) := by decide +kernel
theorem dX6_cell_61 : decode cX6_cell 61 = .ok (.ldc2_w 189, 3) := by decide +kernel
theorem dX6_cell_64 : decode cX6_cell 64 = .ok (.lreturn, 1) := by decide +kernel
theorem dX6_copy_0 : decode cX6_copy 0 = .ok (.aload_n 0, 1) := by decide +kernel
theorem dX6_copy_1 : decode cX6_copy 1 = .ok (.iconst 0, 1) := by decide +kernel
theorem dX6_copy_2 : decode cX6_copy 2 = .ok (.putfield 62, 3) := by decide +kernel
theorem dX6_copy_5 : decode cX6_copy 5 = .ok (.iload_n 1, 1) := by decide +kernel
theorem dX6_copy_6 : decode cX6_copy 6 = .ok (.invokestatic 67, 3) := by decide +kernel
theorem dX6_copy_9 : decode cX6_copy 9 = .ok (.ifCond .eq 10, 3) := by decide +kernel
theorem dX6_copy_12 : decode cX6_copy 12 = .ok (.iload_n 3, 1) := by decide +kernel
theorem dX6_copy_13 : decode cX6_copy 13 = .ok (.invokestatic 67, 3) := by decide +kernel
theorem dX6_copy_16 : decode cX6_copy 16 = .ok (.ifCond .ne 5, 3) := by decide +kernel
theorem dX6_copy_19 : decode cX6_copy 19 = .ok (.iconst (-1), 1) := by decide +kernel
theorem dX6_copy_20 : decode cX6_copy 20 = .ok (.ireturn, 1) := by decide +kernel
theorem dX6_copy_21 : decode cX6_copy 21 = .ok (.aload_n 0, 1) := by decide +kernel
theorem dX6_copy_22 : decode cX6_copy 22 = .ok (.getfield 13, 3) := by decide +kernel
theorem dX6_copy_25 : decode cX6_copy 25 = .ok (.iload_n 1, 1) := by decide +kernel
theorem dX6_copy_26 : decode cX6_copy 26 = .ok (.aaload, 1) := by decide +kernel
theorem dX6_copy_27 : decode cX6_copy 27 = .ok (.astore 6, 2) := by decide +kernel
theorem dX6_copy_29 : decode cX6_copy 29 = .ok (.aload_n 0, 1) := by decide +kernel
theorem dX6_copy_30 : decode cX6_copy 30 = .ok (.getfield 13, 3) := by decide +kernel
theorem dX6_copy_33 : decode cX6_copy 33 = .ok (.iload_n 3, 1) := by decide +kernel
theorem dX6_copy_34 : decode cX6_copy 34 = .ok (.aaload, 1) := by decide +kernel
theorem dX6_copy_35 : decode cX6_copy 35 = .ok (.astore 7, 2) := by decide +kernel
theorem dX6_copy_37 : decode cX6_copy 37 = .ok (.aload 6, 2) := by decide +kernel
theorem dX6_copy_39 : decode cX6_copy 39 = .ok (.getfield 206, 3) := by decide +kernel
theorem dX6_copy_42 : decode cX6_copy 42 = .ok (.ifCond .eq 11, 3) := by decide +kernel
theorem dX6_copy_45 : decode cX6_copy 45 = .ok (.aload 7, 2) := by decide +kernel
theorem dX6_copy_47 : decode cX6_copy 47 = .ok (.getfield 206, 3) := by decide +kernel
theorem dX6_copy_50 : decode cX6_copy 50 = .ok (.ifCond .ne 9, 3) := by decide +kernel
theorem dX6_copy_53 : decode cX6_copy 53 = .ok (.aload_n 0, 1) := by decide +kernel
theorem dX6_copy_54 : decode cX6_copy 54 = .ok (.iconst 1, 1) := by decide +kernel
theorem dX6_copy_55 : decode cX6_copy 55 = .ok (.invokevirtual 78, 3) := by decide +kernel
theorem dX6_copy_58 : decode cX6_copy 58 = .ok (.ireturn, 1) := by decide +kernel
theorem dX6_copy_59 : decode cX6_copy 59 = .ok (.aload 6, 2) := by decide +kernel
theorem dX6_copy_61 : decode cX6_copy 61 = .ok (.getfield 210, 3) := by decide +kernel
theorem dX6_copy_64 : decode cX6_copy 64 = .ok (.aload 7, 2) := by decide +kernel
theorem dX6_copy_66 : decode cX6_copy 66 = .ok (.getfield 210, 3) := by decide +kernel
theorem dX6_copy_69 : decode cX6_copy 69 = .ok (.if_icmp .eq 9, 3) := by decide +kernel
theorem dX6_copy_72 : decode cX6_copy 72 = .ok (.aload_n 0, 1) := by decide +kernel
theorem dX6_copy_73 : decode cX6_copy 73 = .ok (.iconst 2, 1) := by decide +kernel
theorem dX6_copy_74 : decode cX6_copy 74 = .ok (.invokevirtual 78, 3) := by decide +kernel
theorem dX6_copy_77 : decode cX6_copy 77 = .ok (.ireturn, 1) := by decide +kernel
theorem dX6_copy_78 : decode cX6_copy 78 = .ok (.aload 6, 2) := by decide +kernel
theorem dX6_copy_80 : decode cX6_copy 80 = .ok (.iload_n 2, 1) := by decide +kernel
theorem dX6_copy_81 : decode cX6_copy 81 = .ok (.iload 5, 2) := by decide +kernel
theorem dX6_copy_83 : decode cX6_copy 83 = .ok (.invokevirtual 219, 3) := by decide +kernel
theorem dX6_copy_86 : decode cX6_copy 86 = .ok (.ifCond .eq 15, 3) := by decide +kernel
theorem dX6_copy_89 : decode cX6_copy 89 = .ok (.aload 7, 2) := by decide +kernel
theorem dX6_copy_91 : decode cX6_copy 91 = .ok (.iload 4, 2) := by decide +kernel
theorem dX6_copy_93 : decode cX6_copy 93 = .ok (.iload 5, 2) := by decide +kernel
theorem dX6_copy_95 : decode cX6_copy 95 = .ok (.invokevirtual 219, 3) := by decide +kernel
theorem dX6_copy_98 : decode cX6_copy 98 = .ok (.ifCond .ne 9, 3) := by decide +kernel
theorem dX6_copy_101 : decode cX6_copy 101 = .ok (.aload_n 0, 1) := by decide +kernel
theorem dX6_copy_102 : decode cX6_copy 102 = .ok (.iconst 3, 1) := by decide +kernel
theorem dX6_copy_103 : decode cX6_copy 103 = .ok (.invokevirtual 78, 3) := by decide +kernel
theorem dX6_copy_106 : decode cX6_copy 106 = .ok (.ireturn, 1) := by decide +kernel
theorem dX6_copy_107 : decode cX6_copy 107 = .ok (.aload 6, 2) := by decide +kernel
theorem dX6_copy_109 : decode cX6_copy 109 = .ok (.getfield 213, 3) := by decide +kernel
theorem dX6_copy_112 : decode cX6_copy 112 = .ok (.iload_n 2, 1) := by decide +kernel
theorem dX6_copy_113 : decode cX6_copy 113 = .ok (.aload 7, 2) := by decide +kernel
theorem dX6_copy_115 : decode cX6_copy 115 = .ok (.getfield 213, 3) := by decide +kernel
theorem dX6_copy_118 : decode cX6_copy 118 = .ok (.iload 4, 2) := by decide +kernel
theorem dX6_copy_120 : decode cX6_copy 120 = .ok (.iload 5, 2) := by decide +kernel
theorem dX6_copy_122 : decode cX6_copy 122 = .ok (.invokestatic 223, 3) := by decide +kernel
theorem dX6_copy_125 : decode cX6_copy 125 = .ok (.iload 5, 2) := by decide +kernel
theorem dX6_copy_127 : decode cX6_copy 127 = .ok (.ireturn, 1) := by decide +kernel
theorem dX6_tell_0 : decode cX6_tell 0 = .ok (.aload_n 0, 1) := by decide +kernel
theorem dX6_tell_1 : decode cX6_tell 1 = .ok (.iload_n 1, 1) := by decide +kernel
theorem dX6_tell_2 : decode cX6_tell 2 = .ok (.invokevirtual 93, 3) := by decide +kernel
theorem dX6_tell_5 : decode cX6_tell 5 = .ok (.ifCond .ne 5, 3) := by decide +kernel
theorem dX6_tell_8 : decode cX6_tell 8 = .ok (.iconst (-1), 1) := by decide +kernel
theorem dX6_tell_9 : decode cX6_tell 9 = .ok (.ireturn, 1) := by decide +kernel
theorem dX6_tell_10 : decode cX6_tell 10 = .ok (.aload_n 0, 1) := by decide +kernel
theorem dX6_tell_11 : decode cX6_tell 11 = .ok (.getfield 19, 3) := by decide +kernel
theorem dX6_tell_14 : decode cX6_tell 14 = .ok (.iload_n 1, 1) := by decide +kernel
theorem dX6_tell_15 : decode cX6_tell 15 = .ok (.aaload, 1) := by decide +kernel
theorem dX6_tell_16 : decode cX6_tell 16 = .ok (.getfield 96, 3) := by decide +kernel
theorem dX6_tell_19 : decode cX6_tell 19 = .ok (.lookupswitch 47 #[(1, 36), (2, 25)], 25) := by decide +kernel
theorem dX6_tell_44 : decode cX6_tell 44 = .ok (.aload_n 0, 1) := by decide +kernel
theorem dX6_tell_45 : decode cX6_tell 45 = .ok (.aload_n 0, 1) := by decide +kernel
theorem dX6_tell_46 : decode cX6_tell 46 = .ok (.getfield 19, 3) := by decide +kernel
theorem dX6_tell_49 : decode cX6_tell 49 = .ok (.iload_n 1, 1) := by decide +kernel
theorem dX6_tell_50 : decode cX6_tell 50 = .ok (.aaload, 1) := by decide +kernel
theorem dX6_tell_51 : decode cX6_tell 51 = .ok (.invokevirtual 229, 3) := by decide +kernel
theorem dX6_tell_54 : decode cX6_tell 54 = .ok (.ireturn, 1) := by decide +kernel
theorem dX6_tell_55 : decode cX6_tell 55 = .ok (.aload_n 0, 1) := by decide +kernel
theorem dX6_tell_56 : decode cX6_tell 56 = .ok (.aload_n 0, 1) := by decide +kernel
theorem dX6_tell_57 : decode cX6_tell 57 = .ok (.getfield 19, 3) := by decide +kernel
theorem dX6_tell_60 : decode cX6_tell 60 = .ok (.iload_n 1, 1) := by decide +kernel
theorem dX6_tell_61 : decode cX6_tell 61 = .ok (.aaload, 1) := by decide +kernel
theorem dX6_tell_62 : decode cX6_tell 62 = .ok (.invokevirtual 233, 3) := by decide +kernel
theorem dX6_tell_65 : decode cX6_tell 65 = .ok (.ireturn, 1) := by decide +kernel
theorem dX6_tell_66 : decode cX6_tell 66 = .ok (.aload_n 0, 1) := by decide +kernel
theorem dX6_tell_67 : decode cX6_tell 67 = .ok (.aload_n 0, 1) := by decide +kernel
theorem dX6_tell_68 : decode cX6_tell 68 = .ok (.getfield 19, 3) := by decide +kernel
theorem dX6_tell_71 : decode cX6_tell 71 = .ok (.iload_n 1, 1) := by decide +kernel
theorem dX6_tell_72 : decode cX6_tell 72 = .ok (.aaload, 1) := by decide +kernel
theorem dX6_tell_73 : decode cX6_tell 73 = .ok (.invokevirtual 236, 3) := by decide +kernel
theorem dX6_tell_76 : decode cX6_tell 76 = .ok (.ireturn, 1) := by decide +kernel
theorem dX6_hand_0 : decode cX6_hand 0 = .ok (.aload_n 0, 1) := by decide +kernel
theorem dX6_hand_1 : decode cX6_hand 1 = .ok (.iload_n 1, 1) := by decide +kernel
theorem dX6_hand_2 : decode cX6_hand 2 = .ok (.invokevirtual 93, 3) := by decide +kernel
theorem dX6_hand_5 : decode cX6_hand 5 = .ok (.ifCond .ne 5, 3) := by decide +kernel
theorem dX6_hand_8 : decode cX6_hand 8 = .ok (.iconst (-1), 1) := by decide +kernel
theorem dX6_hand_9 : decode cX6_hand 9 = .ok (.ireturn, 1) := by decide +kernel
theorem dX6_hand_10 : decode cX6_hand 10 = .ok (.aload_n 0, 1) := by decide +kernel
theorem dX6_hand_11 : decode cX6_hand 11 = .ok (.getfield 19, 3) := by decide +kernel
theorem dX6_hand_14 : decode cX6_hand 14 = .ok (.iload_n 1, 1) := by decide +kernel
theorem dX6_hand_15 : decode cX6_hand 15 = .ok (.aaload, 1) := by decide +kernel
theorem dX6_hand_16 : decode cX6_hand 16 = .ok (.getfield 96, 3) := by decide +kernel
theorem dX6_hand_19 : decode cX6_hand 19 = .ok (.iconst 2, 1) := by decide +kernel
theorem dX6_hand_20 : decode cX6_hand 20 = .ok (.if_icmp .ne 11, 3) := by decide +kernel
theorem dX6_hand_23 : decode cX6_hand 23 = .ok (.aload_n 0, 1) := by decide +kernel
theorem dX6_hand_24 : decode cX6_hand 24 = .ok (.iconst 5, 1) := by decide +kernel
theorem dX6_hand_25 : decode cX6_hand 25 = .ok (.invokevirtual 239, 3) := by decide +kernel
theorem dX6_hand_28 : decode cX6_hand 28 = .ok (.bipush 40, 2) := by decide +kernel
theorem dX6_hand_30 : decode cX6_hand 30 = .ok (.ireturn, 1) := by decide +kernel
theorem dX6_hand_31 : decode cX6_hand 31 = .ok (.aload_n 0, 1) := by decide +kernel
theorem dX6_hand_32 : decode cX6_hand 32 = .ok (.iconst 4, 1) := by decide +kernel
theorem dX6_hand_33 : decode cX6_hand 33 = .ok (.invokevirtual 239, 3) := by decide +kernel
theorem dX6_hand_36 : decode cX6_hand 36 = .ok (.iload_n 1, 1) := by decide +kernel
theorem dX6_hand_37 : decode cX6_hand 37 = .ok (.ireturn, 1) := by decide +kernel
theorem dX6_as_0 : decode cX6_as 0 = .ok (.aload_n 0, 1) := by decide +kernel
theorem dX6_as_1 : decode cX6_as 1 = .ok (.iconst 0, 1) := by decide +kernel
theorem dX6_as_2 : decode cX6_as 2 = .ok (.putfield 62, 3) := by decide +kernel
theorem dX6_as_5 : decode cX6_as 5 = .ok (.aload_n 0, 1) := by decide +kernel
theorem dX6_as_6 : decode cX6_as 6 = .ok (.iload_n 1, 1) := by decide +kernel
theorem dX6_as_7 : decode cX6_as 7 = .ok (.invokevirtual 93, 3) := by decide +kernel
theorem dX6_as_10 : decode cX6_as 10 = .ok (.ifCond .ne 5, 3) := by decide +kernel
theorem dX6_as_13 : decode cX6_as 13 = .ok (.iconst (-1), 1) := by decide +kernel
theorem dX6_as_14 : decode cX6_as 14 = .ok (.ireturn, 1) := by decide +kernel
theorem dX6_as_15 : decode cX6_as 15 = .ok (.iload_n 2, 1) := by decide +kernel
theorem dX6_as_16 : decode cX6_as 16 = .ok (.ifCond .lt 8, 3) := by decide +kernel
theorem dX6_as_19 : decode cX6_as 19 = .ok (.iload_n 2, 1) := by decide +kernel
theorem dX6_as_20 : decode cX6_as 20 = .ok (.iconst 3, 1) := by decide +kernel
theorem dX6_as_21 : decode cX6_as 21 = .ok (.if_icmp .lt 6, 3) := by decide +kernel
theorem dX6_as_24 : decode cX6_as 24 = .ok (.bipush (-2), 2) := by decide +kernel
theorem dX6_as_26 : decode cX6_as 26 = .ok (.ireturn, 1) := by decide +kernel
theorem dX6_as_27 : decode cX6_as 27 = .ok (.aload_n 0, 1) := by decide +kernel
theorem dX6_as_28 : decode cX6_as 28 = .ok (.getfield 19, 3) := by decide +kernel
theorem dX6_as_31 : decode cX6_as 31 = .ok (.iload_n 1, 1) := by decide +kernel
theorem dX6_as_32 : decode cX6_as 32 = .ok (.aaload, 1) := by decide +kernel
theorem dX6_as_33 : decode cX6_as 33 = .ok (.getfield 96, 3) := by decide +kernel
theorem dX6_as_36 : decode cX6_as 36 = .ok (.iload_n 2, 1) := by decide +kernel
theorem dX6_as_37 : decode cX6_as 37 = .ok (.if_icmp .lt 7, 3) := by decide +kernel
theorem dX6_as_40 : decode cX6_as 40 = .ok (.iconst 1, 1) := by decide +kernel
theorem dX6_as_41 : decode cX6_as 41 = .ok (.goto 8, 3) := by decide +kernel
theorem dX6_as_44 : decode cX6_as 44 = .ok (.aload_n 0, 1) := by decide +kernel
theorem dX6_as_45 : decode cX6_as 45 = .ok (.iconst 2, 1) := by decide +kernel
theorem dX6_as_46 : decode cX6_as 46 = .ok (.invokevirtual 78, 3) := by decide +kernel
theorem dX6_as_49 : decode cX6_as 49 = .ok (.ireturn, 1) := by decide +kernel
theorem dX6_trace_0 : decode cX6_trace 0 = .ok (.aload_n 0, 1) := by decide +kernel
theorem dX6_trace_1 : decode cX6_trace 1 = .ok (.getfield 59, 3) := by decide +kernel
theorem dX6_trace_4 : decode cX6_trace 4 = .ok (.ireturn, 1) := by decide +kernel
theorem dX6_fault_0 : decode cX6_fault 0 = .ok (.aload_n 0, 1) := by decide +kernel
theorem dX6_fault_1 : decode cX6_fault 1 = .ok (.getfield 62, 3) := by decide +kernel
theorem dX6_fault_4 : decode cX6_fault 4 = .ok (.ireturn, 1) := by decide +kernel
theorem dX6_many_0 : decode cX6_many 0 = .ok (.iload_n 1, 1) := by decide +kernel
theorem dX6_many_1 : decode cX6_many 1 = .ok (.lookupswitch 40 #[(0, 27), (1, 32)], 27) := by decide +kernel
theorem dX6_many_28 : decode cX6_many 28 = .ok (.aload_n 0, 1) := by decide +kernel
theorem dX6_many_29 : decode cX6_many 29 = .ok (.getfield 55, 3) := by decide +kernel
theorem dX6_many_32 : decode cX6_many 32 = .ok (.ireturn, 1) := by decide +kernel
theorem dX6_many_33 : decode cX6_many 33 = .ok (.aload_n 0, 1) := by decide +kernel
theorem dX6_many_34 : decode cX6_many 34 = .ok (.getfield 26, 3) := by decide +kernel
theorem dX6_many_37 : decode cX6_many 37 = .ok (.getfield 90, 3) := by decide +kernel
theorem dX6_many_40 : decode cX6_many 40 = .ok (.ireturn, 1) := by decide +kernel
theorem dX6_many_41 : decode cX6_many 41 = .ok (.bipush (-2), 2) := by decide +kernel
theorem dX6_many_43 : decode cX6_many 43 = .ok (.ireturn, 1) := by decide +kernel
theorem dX6_tellingOfChildhood_0 : decode cX6_tellingOfChildhood 0 = .ok (.aload_n 0, 1) := by decide +kernel
theorem dX6_tellingOfChildhood_1 : decode cX6_tellingOfChildhood 1 = .ok (.iconst 1, 1) := by decide +kernel
theorem dX6_tellingOfChildhood_2 : decode cX6_tellingOfChildhood 2 = .ok (.invokevirtual 239, 3) := by decide +kernel
theorem dX6_tellingOfChildhood_5 : decode cX6_tellingOfChildhood 5 = .ok (.aload_n 1, 1) := by decide +kernel
theorem dX6_tellingOfChildhood_6 : decode cX6_tellingOfChildhood 6 = .ok (.getfield 105, 3) := by decide +kernel
theorem dX6_tellingOfChildhood_9 : decode cX6_tellingOfChildhood 9 = .ok (.ireturn, 1) := by decide +kernel
theorem dX6_tellingOfSad_0 : decode cX6_tellingOfSad 0 = .ok (.aload_n 0, 1) := by decide +kernel
theorem dX6_tellingOfSad_1 : decode cX6_tellingOfSad 1 = .ok (.iconst 2, 1) := by decide +kernel
theorem dX6_tellingOfSad_2 : decode cX6_tellingOfSad 2 = .ok (.invokevirtual 239, 3) := by decide +kernel
theorem dX6_tellingOfSad_5 : decode cX6_tellingOfSad 5 = .ok (.aload_n 0, 1) := by decide +kernel
theorem dX6_tellingOfSad_6 : decode cX6_tellingOfSad 6 = .ok (.aload_n 1, 1) := by decide +kernel
theorem dX6_tellingOfSad_7 : decode cX6_tellingOfSad 7 = .ok (.invokevirtual 236, 3) := by decide +kernel
theorem dX6_tellingOfSad_10 : decode cX6_tellingOfSad 10 = .ok (.bipush 100, 2) := by decide +kernel
theorem dX6_tellingOfSad_12 : decode cX6_tellingOfSad 12 = .ok (.iadd, 1) := by decide +kernel
theorem dX6_tellingOfSad_13 : decode cX6_tellingOfSad 13 = .ok (.ireturn, 1) := by decide +kernel
theorem dX6_tellingOfTwin_0 : decode cX6_tellingOfTwin 0 = .ok (.aload_n 0, 1) := by decide +kernel
theorem dX6_tellingOfTwin_1 : decode cX6_tellingOfTwin 1 = .ok (.iconst 3, 1) := by decide +kernel
theorem dX6_tellingOfTwin_2 : decode cX6_tellingOfTwin 2 = .ok (.invokevirtual 239, 3) := by decide +kernel
theorem dX6_tellingOfTwin_5 : decode cX6_tellingOfTwin 5 = .ok (.aload_n 0, 1) := by decide +kernel
theorem dX6_tellingOfTwin_6 : decode cX6_tellingOfTwin 6 = .ok (.aload_n 1, 1) := by decide +kernel
theorem dX6_tellingOfTwin_7 : decode cX6_tellingOfTwin 7 = .ok (.invokevirtual 233, 3) := by decide +kernel
theorem dX6_tellingOfTwin_10 : decode cX6_tellingOfTwin 10 = .ok (.istore_n 2, 1) := by decide +kernel
theorem dX6_tellingOfTwin_11 : decode cX6_tellingOfTwin 11 = .ok (.iload_n 2, 1) := by decide +kernel
theorem dX6_tellingOfTwin_12 : decode cX6_tellingOfTwin 12 = .ok (.aload_n 0, 1) := by decide +kernel
theorem dX6_tellingOfTwin_13 : decode cX6_tellingOfTwin 13 = .ok (.aload_n 1, 1) := by decide +kernel
theorem dX6_tellingOfTwin_14 : decode cX6_tellingOfTwin 14 = .ok (.invokevirtual 236, 3) := by decide +kernel
theorem dX6_tellingOfTwin_17 : decode cX6_tellingOfTwin 17 = .ok (.iadd, 1) := by decide +kernel
theorem dX6_tellingOfTwin_18 : decode cX6_tellingOfTwin 18 = .ok (.ireturn, 1) := by decide +kernel
theorem dX6_leaveInTrace_0 : decode cX6_leaveInTrace 0 = .ok (.aload_n 0, 1) := by decide +kernel
theorem dX6_leaveInTrace_1 : decode cX6_leaveInTrace 1 = .ok (.bipush 31, 2) := by decide +kernel
theorem dX6_leaveInTrace_3 : decode cX6_leaveInTrace 3 = .ok (.aload_n 0, 1) := by decide +kernel
theorem dX6_leaveInTrace_4 : decode cX6_leaveInTrace 4 = .ok (.getfield 59, 3) := by decide +kernel
theorem dX6_leaveInTrace_7 : decode cX6_leaveInTrace 7 = .ok (.imul, 1) := by decide +kernel
theorem dX6_leaveInTrace_8 : decode cX6_leaveInTrace 8 = .ok (.iload_n 1, 1) := by decide +kernel
theorem dX6_leaveInTrace_9 : decode cX6_leaveInTrace 9 = .ok (.iadd, 1) := by decide +kernel
theorem dX6_leaveInTrace_10 : decode cX6_leaveInTrace 10 = .ok (.putfield 59, 3) := by decide +kernel
theorem dX6_leaveInTrace_13 : decode cX6_leaveInTrace 13 = .ok (.return_, 1) := by decide +kernel
theorem dX6_faultAnswer_0 : decode cX6_faultAnswer 0 = .ok (.aload_n 0, 1) := by decide +kernel
theorem dX6_faultAnswer_1 : decode cX6_faultAnswer 1 = .ok (.iload_n 1, 1) := by decide +kernel
theorem dX6_faultAnswer_2 : decode cX6_faultAnswer 2 = .ok (.putfield 62, 3) := by decide +kernel
theorem dX6_faultAnswer_5 : decode cX6_faultAnswer 5 = .ok (.bipush (-10), 2) := by decide +kernel
theorem dX6_faultAnswer_7 : decode cX6_faultAnswer 7 = .ok (.iload_n 1, 1) := by decide +kernel
theorem dX6_faultAnswer_8 : decode cX6_faultAnswer 8 = .ok (.isub, 1) := by decide +kernel
theorem dX6_faultAnswer_9 : decode cX6_faultAnswer 9 = .ok (.ireturn, 1) := by decide +kernel
theorem dX6_takeRow_0 : decode cX6_takeRow 0 = .ok (.aload_n 0, 1) := by decide +kernel
theorem dX6_takeRow_1 : decode cX6_takeRow 1 = .ok (.getfield 13, 3) := by decide +kernel
theorem dX6_takeRow_4 : decode cX6_takeRow 4 = .ok (.iload_n 1, 1) := by decide +kernel
theorem dX6_takeRow_5 : decode cX6_takeRow 5 = .ok (.aaload, 1) := by decide +kernel
theorem dX6_takeRow_6 : decode cX6_takeRow 6 = .ok (.iload_n 2, 1) := by decide +kernel
theorem dX6_takeRow_7 : decode cX6_takeRow 7 = .ok (.iload_n 3, 1) := by decide +kernel
theorem dX6_takeRow_8 : decode cX6_takeRow 8 = .ok (.iconst 2, 1) := by decide +kernel
theorem dX6_takeRow_9 : decode cX6_takeRow 9 = .ok (.iload 4, 2) := by decide +kernel
theorem dX6_takeRow_11 : decode cX6_takeRow 11 = .ok (.imul, 1) := by decide +kernel
theorem dX6_takeRow_12 : decode cX6_takeRow 12 = .ok (.invokevirtual 74, 3) := by decide +kernel
theorem dX6_takeRow_15 : decode cX6_takeRow 15 = .ok (.istore 5, 2) := by decide +kernel
theorem dX6_takeRow_17 : decode cX6_takeRow 17 = .ok (.iload 5, 2) := by decide +kernel
theorem dX6_takeRow_19 : decode cX6_takeRow 19 = .ok (.ifCond .eq 10, 3) := by decide +kernel
theorem dX6_takeRow_22 : decode cX6_takeRow 22 = .ok (.aload_n 0, 1) := by decide +kernel
theorem dX6_takeRow_23 : decode cX6_takeRow 23 = .ok (.iload 5, 2) := by decide +kernel
theorem dX6_takeRow_25 : decode cX6_takeRow 25 = .ok (.invokevirtual 78, 3) := by decide +kernel
theorem dX6_takeRow_28 : decode cX6_takeRow 28 = .ok (.ireturn, 1) := by decide +kernel
theorem dX6_takeRow_29 : decode cX6_takeRow 29 = .ok (.iconst 0, 1) := by decide +kernel
theorem dX6_takeRow_30 : decode cX6_takeRow 30 = .ok (.istore 6, 2) := by decide +kernel
theorem dX6_takeRow_32 : decode cX6_takeRow 32 = .ok (.iload 6, 2) := by decide +kernel
theorem dX6_takeRow_34 : decode cX6_takeRow 34 = .ok (.iconst 2, 1) := by decide +kernel
theorem dX6_takeRow_35 : decode cX6_takeRow 35 = .ok (.iload 4, 2) := by decide +kernel
theorem dX6_takeRow_37 : decode cX6_takeRow 37 = .ok (.imul, 1) := by decide +kernel
theorem dX6_takeRow_38 : decode cX6_takeRow 38 = .ok (.if_icmp .ge 45, 3) := by decide +kernel
theorem dX6_takeRow_41 : decode cX6_takeRow 41 = .ok (.aload_n 0, 1) := by decide +kernel
theorem dX6_takeRow_42 : decode cX6_takeRow 42 = .ok (.getfield 13, 3) := by decide +kernel
theorem dX6_takeRow_45 : decode cX6_takeRow 45 = .ok (.iload_n 1, 1) := by decide +kernel
theorem dX6_takeRow_46 : decode cX6_takeRow 46 = .ok (.aaload, 1) := by decide +kernel
theorem dX6_takeRow_47 : decode cX6_takeRow 47 = .ok (.getfield 213, 3) := by decide +kernel
theorem dX6_takeRow_50 : decode cX6_takeRow 50 = .ok (.iload_n 3, 1) := by decide +kernel
theorem dX6_takeRow_51 : decode cX6_takeRow 51 = .ok (.iload 6, 2) := by decide +kernel
theorem dX6_takeRow_53 : decode cX6_takeRow 53 = .ok (.iadd, 1) := by decide +kernel
theorem dX6_takeRow_54 : decode cX6_takeRow 54 = .ok (.iaload, 1) := by decide +kernel
theorem dX6_takeRow_55 : decode cX6_takeRow 55 = .ok (.istore 7, 2) := by decide +kernel
theorem dX6_takeRow_57 : decode cX6_takeRow 57 = .ok (.aload_n 0, 1) := by decide +kernel
theorem dX6_takeRow_58 : decode cX6_takeRow 58 = .ok (.iload 7, 2) := by decide +kernel
theorem dX6_takeRow_60 : decode cX6_takeRow 60 = .ok (.invokevirtual 93, 3) := by decide +kernel
theorem dX6_takeRow_63 : decode cX6_takeRow 63 = .ok (.ifCond .ne 5, 3) := by decide +kernel
theorem dX6_takeRow_66 : decode cX6_takeRow 66 = .ok (.iconst (-1), 1) := by decide +kernel
theorem dX6_takeRow_67 : decode cX6_takeRow 67 = .ok (.ireturn, 1) := by decide +kernel
theorem dX6_takeRow_68 : decode cX6_takeRow 68 = .ok (.aload_n 0, 1) := by decide +kernel
theorem dX6_takeRow_69 : decode cX6_takeRow 69 = .ok (.getfield 51, 3) := by decide +kernel
theorem dX6_takeRow_72 : decode cX6_takeRow 72 = .ok (.iload 6, 2) := by decide +kernel
theorem dX6_takeRow_74 : decode cX6_takeRow 74 = .ok (.iload 7, 2) := by decide +kernel
theorem dX6_takeRow_76 : decode cX6_takeRow 76 = .ok (.iastore, 1) := by decide +kernel
theorem dX6_takeRow_77 : decode cX6_takeRow 77 = .ok (.iinc 6 1, 3) := by decide +kernel
theorem dX6_takeRow_80 : decode cX6_takeRow 80 = .ok (.goto (-48), 3) := by decide +kernel
theorem dX6_takeRow_83 : decode cX6_takeRow 83 = .ok (.iconst 0, 1) := by decide +kernel
theorem dX6_takeRow_84 : decode cX6_takeRow 84 = .ok (.ireturn, 1) := by decide +kernel
theorem dX6_isPerson_0 : decode cX6_isPerson 0 = .ok (.iload_n 1, 1) := by decide +kernel
theorem dX6_isPerson_1 : decode cX6_isPerson 1 = .ok (.ifCond .lt 15, 3) := by decide +kernel
theorem dX6_isPerson_4 : decode cX6_isPerson 4 = .ok (.iload_n 1, 1) := by decide +kernel
theorem dX6_isPerson_5 : decode cX6_isPerson 5 = .ok (.aload_n 0, 1) := by decide +kernel
theorem dX6_isPerson_6 : decode cX6_isPerson 6 = .ok (.getfield 55, 3) := by decide +kernel
theorem dX6_isPerson_9 : decode cX6_isPerson 9 = .ok (.if_icmp .ge 7, 3) := by decide +kernel
theorem dX6_isPerson_12 : decode cX6_isPerson 12 = .ok (.iconst 1, 1) := by decide +kernel
theorem dX6_isPerson_13 : decode cX6_isPerson 13 = .ok (.goto 4, 3) := by decide +kernel
theorem dX6_isPerson_16 : decode cX6_isPerson 16 = .ok (.iconst 0, 1) := by decide +kernel
theorem dX6_isPerson_17 : decode cX6_isPerson 17 = .ok (.ireturn, 1) := by decide +kernel
theorem dX6_isSheet_0 : decode cX6_isSheet 0 = .ok (.iload_n 0, 1) := by decide +kernel
theorem dX6_isSheet_1 : decode cX6_isSheet 1 = .ok (.ifCond .lt 12, 3) := by decide +kernel
theorem dX6_isSheet_4 : decode cX6_isSheet 4 = .ok (.iload_n 0, 1) := by decide +kernel
theorem dX6_isSheet_5 : decode cX6_isSheet 5 = .ok (.iconst 4, 1) := by decide +kernel
theorem dX6_isSheet_6 : decode cX6_isSheet 6 = .ok (.if_icmp .ge 7, 3) := by decide +kernel
theorem dX6_isSheet_9 : decode cX6_isSheet 9 = .ok (.iconst 1, 1) := by decide +kernel
theorem dX6_isSheet_10 : decode cX6_isSheet 10 = .ok (.goto 4, 3) := by decide +kernel
theorem dX6_isSheet_13 : decode cX6_isSheet 13 = .ok (.iconst 0, 1) := by decide +kernel
theorem dX6_isSheet_14 : decode cX6_isSheet 14 = .ok (.ireturn, 1) := by decide +kernel
theorem dX6_isLane_0 : decode cX6_isLane 0 = .ok (.iload_n 0, 1) := by decide +kernel
theorem dX6_isLane_1 : decode cX6_isLane 1 = .ok (.ifCond .lt 12, 3) := by decide +kernel
theorem dX6_isLane_4 : decode cX6_isLane 4 = .ok (.iload_n 0, 1) := by decide +kernel
theorem dX6_isLane_5 : decode cX6_isLane 5 = .ok (.iconst 3, 1) := by decide +kernel
theorem dX6_isLane_6 : decode cX6_isLane 6 = .ok (.if_icmp .ge 7, 3) := by decide +kernel
theorem dX6_isLane_9 : decode cX6_isLane 9 = .ok (.iconst 1, 1) := by decide +kernel
theorem dX6_isLane_10 : decode cX6_isLane 10 = .ok (.goto 4, 3) := by decide +kernel
theorem dX6_isLane_13 : decode cX6_isLane 13 = .ok (.iconst 0, 1) := by decide +kernel
theorem dX6_isLane_14 : decode cX6_isLane 14 = .ok (.ireturn, 1) := by decide +kernel
theorem dX6_isLoanCount_0 : decode cX6_isLoanCount 0 = .ok (.iload_n 0, 1) := by decide +kernel
theorem dX6_isLoanCount_1 : decode cX6_isLoanCount 1 = .ok (.ifCond .lt 13, 3) := by decide +kernel
theorem dX6_isLoanCount_4 : decode cX6_isLoanCount 4 = .ok (.iload_n 0, 1) := by decide +kernel
theorem dX6_isLoanCount_5 : decode cX6_isLoanCount 5 = .ok (.bipush 20, 2) := by decide +kernel
theorem dX6_isLoanCount_7 : decode cX6_isLoanCount 7 = .ok (.if_icmp .gt 7, 3) := by decide +kernel
theorem dX6_isLoanCount_10 : decode cX6_isLoanCount 10 = .ok (.iconst 1, 1) := by decide +kernel
theorem dX6_isLoanCount_11 : decode cX6_isLoanCount 11 = .ok (.goto 4, 3) := by decide +kernel
theorem dX6_isLoanCount_14 : decode cX6_isLoanCount 14 = .ok (.iconst 0, 1) := by decide +kernel
theorem dX6_isLoanCount_15 : decode cX6_isLoanCount 15 = .ok (.ireturn, 1) := by decide +kernel
theorem dX6_isLoanQuestion_0 : decode cX6_isLoanQuestion 0 = .ok (.iload_n 0, 1) := by decide +kernel
theorem dX6_isLoanQuestion_1 : decode cX6_isLoanQuestion 1 = .ok (.ifCond .lt 10, 3) := by decide +kernel
theorem dX6_isLoanQuestion_4 : decode cX6_isLoanQuestion 4 = .ok (.iload_n 0, 1) := by decide +kernel
theorem dX6_isLoanQuestion_5 : decode cX6_isLoanQuestion 5 = .ok (.iconst 3, 1) := by decide +kernel
theorem dX6_isLoanQuestion_6 : decode cX6_isLoanQuestion 6 = .ok (.if_icmp .gt 5, 3) := by decide +kernel
theorem dX6_isLoanQuestion_9 : decode cX6_isLoanQuestion 9 = .ok (.iconst 1, 1) := by decide +kernel
theorem dX6_isLoanQuestion_10 : decode cX6_isLoanQuestion 10 = .ok (.ireturn, 1) := by decide +kernel
theorem dX6_isLoanQuestion_11 : decode cX6_isLoanQuestion 11 = .ok (.iload_n 0, 1) := by decide +kernel
theorem dX6_isLoanQuestion_12 : decode cX6_isLoanQuestion 12 = .ok (.bipush 10, 2) := by decide +kernel
theorem dX6_isLoanQuestion_14 : decode cX6_isLoanQuestion 14 = .ok (.if_icmp .lt 22, 3) := by decide +kernel
theorem dX6_isLoanQuestion_17 : decode cX6_isLoanQuestion 17 = .ok (.iload_n 0, 1) := by decide +kernel
theorem dX6_isLoanQuestion_18 : decode cX6_isLoanQuestion 18 = .ok (.bipush 40, 2) := by decide +kernel
theorem dX6_isLoanQuestion_20 : decode cX6_isLoanQuestion 20 = .ok (.if_icmp .ge 16, 3) := by decide +kernel
theorem dX6_isLoanQuestion_23 : decode cX6_isLoanQuestion 23 = .ok (.iload_n 0, 1) := by decide +kernel
theorem dX6_isLoanQuestion_24 : decode cX6_isLoanQuestion 24 = .ok (.bipush 10, 2) := by decide +kernel
theorem dX6_isLoanQuestion_26 : decode cX6_isLoanQuestion 26 = .ok (.irem, 1) := by decide +kernel
theorem dX6_isLoanQuestion_27 : decode cX6_isLoanQuestion 27 = .ok (.bipush 6, 2) := by decide +kernel
theorem dX6_isLoanQuestion_29 : decode cX6_isLoanQuestion 29 = .ok (.if_icmp .ge 7, 3) := by decide +kernel
theorem dX6_isLoanQuestion_32 : decode cX6_isLoanQuestion 32 = .ok (.iconst 1, 1) := by decide +kernel
theorem dX6_isLoanQuestion_33 : decode cX6_isLoanQuestion 33 = .ok (.goto 4, 3) := by decide +kernel
theorem dX6_isLoanQuestion_36 : decode cX6_isLoanQuestion 36 = .ok (.iconst 0, 1) := by decide +kernel
theorem dX6_isLoanQuestion_37 : decode cX6_isLoanQuestion 37 = .ok (.ireturn, 1) := by decide +kernel
theorem dX6_lastsOf_0 : decode cX6_lastsOf 0 = .ok (.iload_n 0, 1) := by decide +kernel
theorem dX6_lastsOf_1 : decode cX6_lastsOf 1 = .ok (.lookupswitch 37 #[(1, 33), (2, 27)], 27) := by decide +kernel
theorem dX6_lastsOf_28 : decode cX6_lastsOf 28 = .ok (.iconst 2, 1) := by decide +kernel
theorem dX6_lastsOf_29 : decode cX6_lastsOf 29 = .ok (.iload_n 1, 1) := by decide +kernel
theorem dX6_lastsOf_30 : decode cX6_lastsOf 30 = .ok (.iconst 1, 1) := by decide +kernel
theorem dX6_lastsOf_31 : decode cX6_lastsOf 31 = .ok (.iadd, 1) := by decide +kernel
theorem dX6_lastsOf_32 : decode cX6_lastsOf 32 = .ok (.imul, 1) := by decide +kernel
theorem dX6_lastsOf_33 : decode cX6_lastsOf 33 = .ok (.ireturn, 1) := by decide +kernel
theorem dX6_lastsOf_34 : decode cX6_lastsOf 34 = .ok (.iload_n 1, 1) := by decide +kernel
theorem dX6_lastsOf_35 : decode cX6_lastsOf 35 = .ok (.iconst 1, 1) := by decide +kernel
theorem dX6_lastsOf_36 : decode cX6_lastsOf 36 = .ok (.iadd, 1) := by decide +kernel
theorem dX6_lastsOf_37 : decode cX6_lastsOf 37 = .ok (.ireturn, 1) := by decide +kernel
theorem dX6_lastsOf_38 : decode cX6_lastsOf 38 = .ok (.iload_n 1, 1) := by decide +kernel
theorem dX6_lastsOf_39 : decode cX6_lastsOf 39 = .ok (.ireturn, 1) := by decide +kernel
theorem dX6_cutToLane_0 : decode cX6_cutToLane 0 = .ok (.iload_n 0, 1) := by decide +kernel
theorem dX6_cutToLane_1 : decode cX6_cutToLane 1 = .ok (.lookupswitch 33 #[(0, 27), (1, 30)], 27) := by decide +kernel
theorem dX6_cutToLane_28 : decode cX6_cutToLane 28 = .ok (.iload_n 1, 1) := by decide +kernel
theorem dX6_cutToLane_29 : decode cX6_cutToLane 29 = .ok (.i2b, 1) := by decide +kernel
theorem dX6_cutToLane_30 : decode cX6_cutToLane 30 = .ok (.ireturn, 1) := by decide +kernel
theorem dX6_cutToLane_31 : decode cX6_cutToLane 31 = .ok (.iload_n 1, 1) := by decide +kernel
theorem dX6_cutToLane_32 : decode cX6_cutToLane 32 = .ok (.i2s, 1) := by decide +kernel
theorem dX6_cutToLane_33 : decode cX6_cutToLane 33 = .ok (.ireturn, 1) := by decide +kernel
theorem dX6_cutToLane_34 : decode cX6_cutToLane 34 = .ok (.iload_n 1, 1) := by decide +kernel
theorem dX6_cutToLane_35 : decode cX6_cutToLane 35 = .ok (.ireturn, 1) := by decide +kernel
theorem dX6_firstFaultOfText_0 : decode cX6_firstFaultOfText 0 = .ok (.iconst 0, 1) := by decide +kernel
theorem dX6_firstFaultOfText_1 : decode cX6_firstFaultOfText 1 = .ok (.istore_n 3, 1) := by decide +kernel
theorem dX6_firstFaultOfText_2 : decode cX6_firstFaultOfText 2 = .ok (.iconst 0, 1) := by decide +kernel
theorem dX6_firstFaultOfText_3 : decode cX6_firstFaultOfText 3 = .ok (.istore 4, 2) := by decide +kernel
theorem dX6_firstFaultOfText_5 : decode cX6_firstFaultOfText 5 = .ok (.iload 4, 2) := by decide +kernel
theorem dX6_firstFaultOfText_7 : decode cX6_firstFaultOfText 7 = .ok (.iload_n 2, 1) := by decide +kernel
theorem dX6_firstFaultOfText_8 : decode cX6_firstFaultOfText 8 = .ok (.if_icmp .ge 37, 3) := by decide +kernel
theorem dX6_firstFaultOfText_11 : decode cX6_firstFaultOfText 11 = .ok (.aload_n 0, 1) := by decide +kernel
theorem dX6_firstFaultOfText_12 : decode cX6_firstFaultOfText 12 = .ok (.getfield 213, 3) := by decide +kernel
theorem dX6_firstFaultOfText_15 : decode cX6_firstFaultOfText 15 = .ok (.iload_n 1, 1) := by decide +kernel
theorem dX6_firstFaultOfText_16 : decode cX6_firstFaultOfText 16 = .ok (.iload 4, 2) := by decide +kernel
theorem dX6_firstFaultOfText_18 : decode cX6_firstFaultOfText 18 = .ok (.iadd, 1) := by decide +kernel
theorem dX6_firstFaultOfText_19 : decode cX6_firstFaultOfText 19 = .ok (.iaload, 1) := by decide +kernel
theorem dX6_firstFaultOfText_20 : decode cX6_firstFaultOfText 20 = .ok (.istore 5, 2) := by decide +kernel
theorem dX6_firstFaultOfText_22 : decode cX6_firstFaultOfText 22 = .ok (.iload 4, 2) := by decide +kernel
theorem dX6_firstFaultOfText_24 : decode cX6_firstFaultOfText 24 = .ok (.iload_n 3, 1) := by decide +kernel
theorem dX6_firstFaultOfText_25 : decode cX6_firstFaultOfText 25 = .ok (.iload 5, 2) := by decide +kernel
theorem dX6_firstFaultOfText_27 : decode cX6_firstFaultOfText 27 = .ok (.invokestatic 243, 3) := by decide +kernel
theorem dX6_firstFaultOfText_30 : decode cX6_firstFaultOfText 30 = .ok (.ifCond .ne 6, 3) := by decide +kernel
theorem dX6_firstFaultOfText_33 : decode cX6_firstFaultOfText 33 = .ok (.iload 4, 2) := by decide +kernel
theorem dX6_firstFaultOfText_35 : decode cX6_firstFaultOfText 35 = .ok (.ireturn, 1) := by decide +kernel
theorem dX6_firstFaultOfText_36 : decode cX6_firstFaultOfText 36 = .ok (.iload 5, 2) := by decide +kernel
theorem dX6_firstFaultOfText_38 : decode cX6_firstFaultOfText 38 = .ok (.istore_n 3, 1) := by decide +kernel
theorem dX6_firstFaultOfText_39 : decode cX6_firstFaultOfText 39 = .ok (.iinc 4 1, 3) := by decide +kernel
theorem dX6_firstFaultOfText_42 : decode cX6_firstFaultOfText 42 = .ok (.goto (-37), 3) := by decide +kernel
theorem dX6_firstFaultOfText_45 : decode cX6_firstFaultOfText 45 = .ok (.iload_n 2, 1) := by decide +kernel
theorem dX6_firstFaultOfText_46 : decode cX6_firstFaultOfText 46 = .ok (.bipush 6, 2) := by decide +kernel
theorem dX6_firstFaultOfText_48 : decode cX6_firstFaultOfText 48 = .ok (.irem, 1) := by decide +kernel
theorem dX6_firstFaultOfText_49 : decode cX6_firstFaultOfText 49 = .ok (.iconst 1, 1) := by decide +kernel
theorem dX6_firstFaultOfText_50 : decode cX6_firstFaultOfText 50 = .ok (.if_icmp .ne 13, 3) := by decide +kernel
theorem dX6_firstFaultOfText_53 : decode cX6_firstFaultOfText 53 = .ok (.iload_n 2, 1) := by decide +kernel
theorem dX6_firstFaultOfText_54 : decode cX6_firstFaultOfText 54 = .ok (.bipush 12, 2) := by decide +kernel
theorem dX6_firstFaultOfText_56 : decode cX6_firstFaultOfText 56 = .ok (.if_icmp .le 7, 3) := by decide +kernel
theorem dX6_firstFaultOfText_59 : decode cX6_firstFaultOfText 59 = .ok (.iconst 1, 1) := by decide +kernel
theorem dX6_firstFaultOfText_60 : decode cX6_firstFaultOfText 60 = .ok (.goto 4, 3) := by decide +kernel
theorem dX6_firstFaultOfText_63 : decode cX6_firstFaultOfText 63 = .ok (.iconst 0, 1) := by decide +kernel
theorem dX6_firstFaultOfText_64 : decode cX6_firstFaultOfText 64 = .ok (.istore 4, 2) := by decide +kernel
theorem dX6_firstFaultOfText_66 : decode cX6_firstFaultOfText 66 = .ok (.iload 4, 2) := by decide +kernel
theorem dX6_firstFaultOfText_68 : decode cX6_firstFaultOfText 68 = .ok (.ifCond .eq 8, 3) := by decide +kernel
theorem dX6_firstFaultOfText_71 : decode cX6_firstFaultOfText 71 = .ok (.bipush (-9), 2) := by decide +kernel
theorem dX6_firstFaultOfText_73 : decode cX6_firstFaultOfText 73 = .ok (.goto 4, 3) := by decide +kernel
theorem dX6_firstFaultOfText_76 : decode cX6_firstFaultOfText 76 = .ok (.iload_n 2, 1) := by decide +kernel
theorem dX6_firstFaultOfText_77 : decode cX6_firstFaultOfText 77 = .ok (.ireturn, 1) := by decide +kernel
theorem dX6_textGoesOn_0 : decode cX6_textGoesOn 0 = .ok (.iload_n 0, 1) := by decide +kernel
theorem dX6_textGoesOn_1 : decode cX6_textGoesOn 1 = .ok (.ifCond .ne 15, 3) := by decide +kernel
theorem dX6_textGoesOn_4 : decode cX6_textGoesOn 4 = .ok (.iload_n 2, 1) := by decide +kernel
theorem dX6_textGoesOn_5 : decode cX6_textGoesOn 5 = .ok (.bipush 107, 2) := by decide +kernel
theorem dX6_textGoesOn_7 : decode cX6_textGoesOn 7 = .ok (.if_icmp .ne 7, 3) := by decide +kernel
theorem dX6_textGoesOn_10 : decode cX6_textGoesOn 10 = .ok (.iconst 1, 1) := by decide +kernel
theorem dX6_textGoesOn_11 : decode cX6_textGoesOn 11 = .ok (.goto 4, 3) := by decide +kernel
theorem dX6_textGoesOn_14 : decode cX6_textGoesOn 14 = .ok (.iconst 0, 1) := by decide +kernel
theorem dX6_textGoesOn_15 : decode cX6_textGoesOn 15 = .ok (.ireturn, 1) := by decide +kernel
theorem dX6_textGoesOn_16 : decode cX6_textGoesOn 16 = .ok (.iload_n 0, 1) := by decide +kernel
theorem dX6_textGoesOn_17 : decode cX6_textGoesOn 17 = .ok (.bipush 36, 2) := by decide +kernel
theorem dX6_textGoesOn_19 : decode cX6_textGoesOn 19 = .ok (.if_icmp .le 5, 3) := by decide +kernel
theorem dX6_textGoesOn_22 : decode cX6_textGoesOn 22 = .ok (.iconst 0, 1) := by decide +kernel
theorem dX6_textGoesOn_23 : decode cX6_textGoesOn 23 = .ok (.ireturn, 1) := by decide +kernel
theorem dX6_textGoesOn_24 : decode cX6_textGoesOn 24 = .ok (.iload_n 0, 1) := by decide +kernel
theorem dX6_textGoesOn_25 : decode cX6_textGoesOn 25 = .ok (.iconst 1, 1) := by decide +kernel
theorem dX6_textGoesOn_26 : decode cX6_textGoesOn 26 = .ok (.isub, 1) := by decide +kernel
theorem dX6_textGoesOn_27 : decode cX6_textGoesOn 27 = .ok (.bipush 6, 2) := by decide +kernel
theorem dX6_textGoesOn_29 : decode cX6_textGoesOn 29 = .ok (.irem, 1) := by decide +kernel
theorem dX6_textGoesOn_30 : decode cX6_textGoesOn 30 = .ok (.tableswitch 135 0 4 #[34, 46, 70, 88, 117], 34) := by decide +kernel
theorem dX6_textGoesOn_64 : decode cX6_textGoesOn 64 = .ok (.iload_n 2, 1) := by decide +kernel
theorem dX6_textGoesOn_65 : decode cX6_textGoesOn 65 = .ok (.bipush 59, 2) := by decide +kernel
theorem dX6_textGoesOn_67 : decode cX6_textGoesOn 67 = .ok (.if_icmp .ne 7, 3) := by decide +kernel
theorem dX6_textGoesOn_70 : decode cX6_textGoesOn 70 = .ok (.iconst 1, 1) := by decide +kernel
theorem dX6_textGoesOn_71 : decode cX6_textGoesOn 71 = .ok (.goto 4, 3) := by decide +kernel
theorem dX6_textGoesOn_74 : decode cX6_textGoesOn 74 = .ok (.iconst 0, 1) := by decide +kernel
theorem dX6_textGoesOn_75 : decode cX6_textGoesOn 75 = .ok (.ireturn, 1) := by decide +kernel
theorem dX6_textGoesOn_76 : decode cX6_textGoesOn 76 = .ok (.iload_n 2, 1) := by decide +kernel
theorem dX6_textGoesOn_77 : decode cX6_textGoesOn 77 = .ok (.bipush 99, 2) := by decide +kernel
theorem dX6_textGoesOn_79 : decode cX6_textGoesOn 79 = .ok (.if_icmp .eq 15, 3) := by decide +kernel
theorem dX6_textGoesOn_82 : decode cX6_textGoesOn 82 = .ok (.iload_n 2, 1) := by decide +kernel
theorem dX6_textGoesOn_83 : decode cX6_textGoesOn 83 = .ok (.bipush 115, 2) := by decide +kernel
theorem dX6_textGoesOn_85 : decode cX6_textGoesOn 85 = .ok (.if_icmp .eq 9, 3) := by decide +kernel
theorem dX6_textGoesOn_88 : decode cX6_textGoesOn 88 = .ok (.iload_n 2, 1) := by decide +kernel
theorem dX6_textGoesOn_89 : decode cX6_textGoesOn 89 = .ok (.bipush 116, 2) := by decide +kernel
theorem dX6_textGoesOn_91 : decode cX6_textGoesOn 91 = .ok (.if_icmp .ne 7, 3) := by decide +kernel
theorem dX6_textGoesOn_94 : decode cX6_textGoesOn 94 = .ok (.iconst 1, 1) := by decide +kernel
theorem dX6_textGoesOn_95 : decode cX6_textGoesOn 95 = .ok (.goto 4, 3) := by decide +kernel
theorem dX6_textGoesOn_98 : decode cX6_textGoesOn 98 = .ok (.iconst 0, 1) := by decide +kernel
theorem dX6_textGoesOn_99 : decode cX6_textGoesOn 99 = .ok (.ireturn, 1) := by decide +kernel
theorem dX6_textGoesOn_100 : decode cX6_textGoesOn 100 = .ok (.iload_n 2, 1) := by decide +kernel
theorem dX6_textGoesOn_101 : decode cX6_textGoesOn 101 = .ok (.bipush 48, 2) := by decide +kernel
theorem dX6_textGoesOn_103 : decode cX6_textGoesOn 103 = .ok (.if_icmp .lt 13, 3) := by decide +kernel
theorem dX6_textGoesOn_106 : decode cX6_textGoesOn 106 = .ok (.iload_n 2, 1) := by decide +kernel
theorem dX6_textGoesOn_107 : decode cX6_textGoesOn 107 = .ok (.bipush 54, 2) := by decide +kernel
theorem dX6_textGoesOn_109 : decode cX6_textGoesOn 109 = .ok (.if_icmp .gt 7, 3) := by decide +kernel
theorem dX6_textGoesOn_112 : decode cX6_textGoesOn 112 = .ok (.iconst 1, 1) := by decide +kernel
theorem dX6_textGoesOn_113 : decode cX6_textGoesOn 113 = .ok (.goto 4, 3) := by decide +kernel
theorem dX6_textGoesOn_116 : decode cX6_textGoesOn 116 = .ok (.iconst 0, 1) := by decide +kernel
theorem dX6_textGoesOn_117 : decode cX6_textGoesOn 117 = .ok (.ireturn, 1) := by decide +kernel
theorem dX6_textGoesOn_118 : decode cX6_textGoesOn 118 = .ok (.iload_n 2, 1) := by decide +kernel
theorem dX6_textGoesOn_119 : decode cX6_textGoesOn 119 = .ok (.bipush 48, 2) := by decide +kernel
theorem dX6_textGoesOn_121 : decode cX6_textGoesOn 121 = .ok (.if_icmp .lt 24, 3) := by decide +kernel
theorem dX6_textGoesOn_124 : decode cX6_textGoesOn 124 = .ok (.iload_n 2, 1) := by decide +kernel
theorem dX6_textGoesOn_125 : decode cX6_textGoesOn 125 = .ok (.iload_n 1, 1) := by decide +kernel
theorem dX6_textGoesOn_126 : decode cX6_textGoesOn 126 = .ok (.bipush 54, 2) := by decide +kernel
theorem dX6_textGoesOn_128 : decode cX6_textGoesOn 128 = .ok (.if_icmp .ne 8, 3) := by decide +kernel
theorem dX6_textGoesOn_131 : decode cX6_textGoesOn 131 = .ok (.bipush 51, 2) := by decide +kernel
theorem dX6_textGoesOn_133 : decode cX6_textGoesOn 133 = .ok (.goto 5, 3) := by decide +kernel
theorem dX6_textGoesOn_136 : decode cX6_textGoesOn 136 = .ok (.bipush 57, 2) := by decide +kernel
theorem dX6_textGoesOn_138 : decode cX6_textGoesOn 138 = .ok (.if_icmp .gt 7, 3) := by decide +kernel
theorem dX6_textGoesOn_141 : decode cX6_textGoesOn 141 = .ok (.iconst 1, 1) := by decide +kernel
theorem dX6_textGoesOn_142 : decode cX6_textGoesOn 142 = .ok (.goto 4, 3) := by decide +kernel
theorem dX6_textGoesOn_145 : decode cX6_textGoesOn 145 = .ok (.iconst 0, 1) := by decide +kernel
theorem dX6_textGoesOn_146 : decode cX6_textGoesOn 146 = .ok (.ireturn, 1) := by decide +kernel
theorem dX6_textGoesOn_147 : decode cX6_textGoesOn 147 = .ok (.iload_n 2, 1) := by decide +kernel
theorem dX6_textGoesOn_148 : decode cX6_textGoesOn 148 = .ok (.bipush 48, 2) := by decide +kernel
theorem dX6_textGoesOn_150 : decode cX6_textGoesOn 150 = .ok (.if_icmp .lt 13, 3) := by decide +kernel
theorem dX6_textGoesOn_153 : decode cX6_textGoesOn 153 = .ok (.iload_n 2, 1) := by decide +kernel
theorem dX6_textGoesOn_154 : decode cX6_textGoesOn 154 = .ok (.bipush 54, 2) := by decide +kernel
theorem dX6_textGoesOn_156 : decode cX6_textGoesOn 156 = .ok (.if_icmp .gt 7, 3) := by decide +kernel
theorem dX6_textGoesOn_159 : decode cX6_textGoesOn 159 = .ok (.iconst 1, 1) := by decide +kernel
theorem dX6_textGoesOn_160 : decode cX6_textGoesOn 160 = .ok (.goto 4, 3) := by decide +kernel
theorem dX6_textGoesOn_163 : decode cX6_textGoesOn 163 = .ok (.iconst 0, 1) := by decide +kernel
theorem dX6_textGoesOn_164 : decode cX6_textGoesOn 164 = .ok (.ireturn, 1) := by decide +kernel
theorem dX6_textGoesOn_165 : decode cX6_textGoesOn 165 = .ok (.iload_n 2, 1) := by decide +kernel
theorem dX6_textGoesOn_166 : decode cX6_textGoesOn 166 = .ok (.bipush 49, 2) := by decide +kernel
theorem dX6_textGoesOn_168 : decode cX6_textGoesOn 168 = .ok (.if_icmp .lt 13, 3) := by decide +kernel
theorem dX6_textGoesOn_171 : decode cX6_textGoesOn 171 = .ok (.iload_n 2, 1) := by decide +kernel
theorem dX6_textGoesOn_172 : decode cX6_textGoesOn 172 = .ok (.bipush 57, 2) := by decide +kernel
theorem dX6_textGoesOn_174 : decode cX6_textGoesOn 174 = .ok (.if_icmp .gt 7, 3) := by decide +kernel
theorem dX6_textGoesOn_177 : decode cX6_textGoesOn 177 = .ok (.iconst 1, 1) := by decide +kernel
theorem dX6_textGoesOn_178 : decode cX6_textGoesOn 178 = .ok (.goto 4, 3) := by decide +kernel
theorem dX6_textGoesOn_181 : decode cX6_textGoesOn 181 = .ok (.iconst 0, 1) := by decide +kernel
theorem dX6_textGoesOn_182 : decode cX6_textGoesOn 182 = .ok (.ireturn, 1) := by decide +kernel
theorem dX7_init_0 : decode cX7_init 0 = .ok (.aload_n 0, 1) := by decide +kernel
theorem dX7_init_1 : decode cX7_init 1 = .ok (.invokespecial 1, 3) := by decide +kernel
theorem dX7_init_4 : decode cX7_init 4 = .ok (.aload_n 0, 1) := by decide +kernel
theorem dX7_init_5 : decode cX7_init 5 = .ok (.bipush 6, 2) := by decide +kernel
theorem dX7_init_7 : decode cX7_init 7 = .ok (.newarray .int, 2) := by decide +kernel
theorem dX7_init_9 : decode cX7_init 9 = .ok (.putfield 7, 3) := by decide +kernel
theorem dX7_init_12 : decode cX7_init 12 = .ok (.aload_n 0, 1) := by decide +kernel
theorem dX7_init_13 : decode cX7_init 13 = .ok (.bipush 6, 2) := by decide +kernel
theorem dX7_init_15 : decode cX7_init 15 = .ok (.newarray .int, 2) := by decide +kernel
theorem dX7_init_17 : decode cX7_init 17 = .ok (.putfield 13, 3) := by decide +kernel
theorem dX7_init_20 : decode cX7_init 20 = .ok (.aload_n 0, 1) := by decide +kernel
theorem dX7_init_21 : decode cX7_init 21 = .ok (.bipush 6, 2) := by decide +kernel
theorem dX7_init_23 : decode cX7_init 23 = .ok (.newarray .int, 2) := by decide +kernel
theorem dX7_init_25 : decode cX7_init 25 = .ok (.putfield 16, 3) := by decide +kernel
theorem dX7_init_28 : decode cX7_init 28 = .ok (.aload_n 0, 1) := by decide +kernel
theorem dX7_init_29 : decode cX7_init 29 = .ok (.bipush 6, 2) := by decide +kernel
theorem dX7_init_31 : decode cX7_init 31 = .ok (.newarray .int, 2) := by decide +kernel
theorem dX7_init_33 : decode cX7_init 33 = .ok (.putfield 19, 3) := by decide +kernel
theorem dX7_init_36 : decode cX7_init 36 = .ok (.aload_n 0, 1) := by decide +kernel
theorem dX7_init_37 : decode cX7_init 37 = .ok (.bipush 6, 2) := by decide +kernel
theorem dX7_init_39 : decode cX7_init 39 = .ok (.newarray .int, 2) := by decide +kernel
theorem dX7_init_41 : decode cX7_init 41 = .ok (.putfield 22, 3) := by decide +kernel
theorem dX7_init_44 : decode cX7_init 44 = .ok (.aload_n 0, 1) := by decide +kernel
theorem dX7_init_45 : decode cX7_init 45 = .ok (.bipush 6, 2) := by decide +kernel
theorem dX7_init_47 : decode cX7_init 47 = .ok (.newarray .int, 2) := by decide +kernel
theorem dX7_init_49 : decode cX7_init 49 = .ok (.putfield 25, 3) := by decide +kernel
theorem dX7_init_52 : decode cX7_init 52 = .ok (.aload_n 0, 1) := by decide +kernel
theorem dX7_init_53 : decode cX7_init 53 = .ok (.bipush 6, 2) := by decide +kernel
theorem dX7_init_55 : decode cX7_init 55 = .ok (.newarray .int, 2) := by decide +kernel
theorem dX7_init_57 : decode cX7_init 57 = .ok (.putfield 28, 3) := by decide +kernel
theorem dX7_init_60 : decode cX7_init 60 = .ok (.aload_n 0, 1) := by decide +kernel
theorem dX7_init_61 : decode cX7_init 61 = .ok (.bipush 6, 2) := by decide +kernel
theorem dX7_init_63 : decode cX7_init 63 = .ok (.newarray .int, 2) := by decide +kernel
theorem dX7_init_65 : decode cX7_init 65 = .ok (.putfield 31, 3) := by decide +kernel
theorem dX7_init_68 : decode cX7_init 68 = .ok (.aload_n 0, 1) := by decide +kernel
theorem dX7_init_69 : decode cX7_init 69 = .ok (.bipush 6, 2) := by decide +kernel
theorem dX7_init_71 : decode cX7_init 71 = .ok (.newarray .int, 2) := by decide +kernel
theorem dX7_init_73 : decode cX7_init 73 = .ok (.putfield 34, 3) := by decide +kernel
theorem dX7_init_76 : decode cX7_init 76 = .ok (.aload_n 0, 1) := by decide +kernel
theorem dX7_init_77 : decode cX7_init 77 = .ok (.bipush 6, 2) := by decide +kernel
theorem dX7_init_79 : decode cX7_init 79 = .ok (.newarray .int, 2) := by decide +kernel
theorem dX7_init_81 : decode cX7_init 81 = .ok (.putfield 37, 3) := by decide +kernel
theorem dX7_init_84 : decode cX7_init 84 = .ok (.aload_n 0, 1) := by decide +kernel
theorem dX7_init_85 : decode cX7_init 85 = .ok (.bipush 6, 2) := by decide +kernel
theorem dX7_init_87 : decode cX7_init 87 = .ok (.newarray .int, 2) := by decide +kernel
theorem dX7_init_89 : decode cX7_init 89 = .ok (.putfield 40, 3) := by decide +kernel
theorem dX7_init_92 : decode cX7_init 92 = .ok (.aload_n 0, 1) := by decide +kernel
theorem dX7_init_93 : decode cX7_init 93 = .ok (.bipush 6, 2) := by decide +kernel
theorem dX7_init_95 : decode cX7_init 95 = .ok (.newarray .int, 2) := by decide +kernel
theorem dX7_init_97 : decode cX7_init 97 = .ok (.putfield 43, 3) := by decide +kernel
theorem dX7_init_100 : decode cX7_init 100 = .ok (.aload_n 0, 1) := by decide +kernel
theorem dX7_init_101 : decode cX7_init 101 = .ok (.bipush 6, 2) := by decide +kernel
theorem dX7_init_103 : decode cX7_init 103 = .ok (.newarray .int, 2) := by decide +kernel
theorem dX7_init_105 : decode cX7_init 105 = .ok (.putfield 46, 3) := by decide +kernel
theorem dX7_init_108 : decode cX7_init 108 = .ok (.aload_n 0, 1) := by decide +kernel
theorem dX7_init_109 : decode cX7_init 109 = .ok (.iconst 3, 1) := by decide +kernel
theorem dX7_init_110 : decode cX7_init 110 = .ok (.newarray .int, 2) := by decide +kernel
theorem dX7_init_112 : decode cX7_init 112 = .ok (.putfield 49, 3) := by decide +kernel
theorem dX7_init_115 : decode cX7_init 115 = .ok (.aload_n 0, 1) := by decide +kernel
theorem dX7_init_116 : decode cX7_init 116 = .ok (.bipush 6, 2) := by decide +kernel
theorem dX7_init_118 : decode cX7_init 118 = .ok (.newarray .int, 2) := by decide +kernel
theorem dX7_init_120 : decode cX7_init 120 = .ok (.putfield 52, 3) := by decide +kernel
theorem dX7_init_123 : decode cX7_init 123 = .ok (.aload_n 0, 1) := by decide +kernel
theorem dX7_init_124 : decode cX7_init 124 = .ok (.bipush 8, 2) := by decide +kernel
theorem dX7_init_126 : decode cX7_init 126 = .ok (.newarray .int, 2) := by decide +kernel
theorem dX7_init_128 : decode cX7_init 128 = .ok (.putfield 55, 3) := by decide +kernel
theorem dX7_init_131 : decode cX7_init 131 = .ok (.aload_n 0, 1) := by decide +kernel
theorem dX7_init_132 : decode cX7_init 132 = .ok (.bipush 8, 2) := by decide +kernel
theorem dX7_init_134 : decode cX7_init 134 = .ok (.newarray .int, 2) := by decide +kernel
theorem dX7_init_136 : decode cX7_init 136 = .ok (.putfield 58, 3) := by decide +kernel
theorem dX7_init_139 : decode cX7_init 139 = .ok (.aload_n 0, 1) := by decide +kernel
theorem dX7_init_140 : decode cX7_init 140 = .ok (.bipush 8, 2) := by decide +kernel
theorem dX7_init_142 : decode cX7_init 142 = .ok (.newarray .boolean, 2) := by decide +kernel
theorem dX7_init_144 : decode cX7_init 144 = .ok (.putfield 61, 3) := by decide +kernel
theorem dX7_init_147 : decode cX7_init 147 = .ok (.aload_n 0, 1) := by decide +kernel
theorem dX7_init_148 : decode cX7_init 148 = .ok (.iconst 4, 1) := by decide +kernel
theorem dX7_init_149 : decode cX7_init 149 = .ok (.newarray .int, 2) := by decide +kernel
theorem dX7_init_151 : decode cX7_init 151 = .ok (.putfield 65, 3) := by decide +kernel
theorem dX7_init_154 : decode cX7_init 154 = .ok (.aload_n 0, 1) := by decide +kernel
theorem dX7_init_155 : decode cX7_init 155 = .ok (.iconst 4, 1) := by decide +kernel
theorem dX7_init_156 : decode cX7_init 156 = .ok (.newarray .int, 2) := by decide +kernel
theorem dX7_init_158 : decode cX7_init 158 = .ok (.putfield 68, 3) := by decide +kernel
theorem dX7_init_161 : decode cX7_init 161 = .ok (.aload_n 0, 1) := by decide +kernel
theorem dX7_init_162 : decode cX7_init 162 = .ok (.sipush 240, 3) := by decide +kernel
theorem dX7_init_165 : decode cX7_init 165 = .ok (.newarray .int, 2) := by decide +kernel
theorem dX7_init_167 : decode cX7_init 167 = .ok (.putfield 71, 3) := by decide +kernel
theorem dX7_init_170 : decode cX7_init 170 = .ok (.aload_n 0, 1) := by decide +kernel
theorem dX7_init_171 : decode cX7_init 171 = .ok (.bipush 60, 2) := by decide +kernel
theorem dX7_init_173 : decode cX7_init 173 = .ok (.newarray .int, 2) := by decide +kernel
theorem dX7_init_175 : decode cX7_init 175 = .ok (.putfield 74, 3) := by decide +kernel
theorem dX7_init_178 : decode cX7_init 178 = .ok (.iconst 0, 1) := by decide +kernel
theorem dX7_init_179 : decode cX7_init 179 = .ok (.istore_n 1, 1) := by decide +kernel
theorem dX7_init_180 : decode cX7_init 180 = .ok (.iload_n 1, 1) := by decide +kernel
theorem dX7_init_181 : decode cX7_init 181 = .ok (.iconst 4, 1) := by decide +kernel
theorem dX7_init_182 : decode cX7_init 182 = .ok (.if_icmp .ge 16, 3) := by decide +kernel
theorem dX7_init_185 : decode cX7_init 185 = .ok (.aload_n 0, 1) := by decide +kernel
theorem dX7_init_186 : decode cX7_init 186 = .ok (.getfield 65, 3) := by decide +kernel
theorem dX7_init_189 : decode cX7_init 189 = .ok (.iload_n 1, 1) := by decide +kernel
theorem dX7_init_190 : decode cX7_init 190 = .ok (.iconst (-1), 1) := by decide +kernel
theorem dX7_init_191 : decode cX7_init 191 = .ok (.iastore, 1) := by decide +kernel
theorem dX7_init_192 : decode cX7_init 192 = .ok (.iinc 1 1, 3) := by decide +kernel
theorem dX7_init_195 : decode cX7_init 195 = .ok (.goto (-15), 3) := by decide +kernel
theorem dX7_init_198 : decode cX7_init 198 = .ok (.return_, 1) := by decide +kernel
theorem dX7_in_0 : decode cX7_in 0 = .ok (.lload_n 0, 1) := by decide +kernel
theorem dX7_in_1 : decode cX7_in 1 = .ok (.lload_n 2, 1) := by decide +kernel
theorem dX7_in_2 : decode cX7_in 2 = .ok (.lcmp, 1) := by decide +kernel
theorem dX7_in_3 : decode cX7_in 3 = .ok (.ifCond .lt 14, 3) := by decide +kernel
theorem dX7_in_6 : decode cX7_in 6 = .ok (.lload_n 0, 1) := by decide +kernel
theorem dX7_in_7 : decode cX7_in 7 = .ok (.lload 4, 2) := by decide +kernel
theorem dX7_in_9 : decode cX7_in 9 = .ok (.lcmp, 1) := by decide +kernel
theorem dX7_in_10 : decode cX7_in 10 = .ok (.ifCond .gt 7, 3) := by decide +kernel
theorem dX7_in_13 : decode cX7_in 13 = .ok (.iconst 1, 1) := by decide +kernel
theorem dX7_in_14 : decode cX7_in 14 = .ok (.goto 4, 3) := by decide +kernel
theorem dX7_in_17 : decode cX7_in 17 = .ok (.iconst 0, 1) := by decide +kernel
theorem dX7_in_18 : decode cX7_in 18 = .ok (.ireturn, 1) := by decide +kernel
theorem dX7_lost_0 : decode cX7_lost 0 = .ok (.ldc2_w 77, 3) := by decide +kernel
theorem dX7_lost_3 : decode cX7_lost 3 = .ok (.lreturn, 1) := by decide +kernel
theorem dX7_isIn_0 : decode cX7_isIn 0 = .ok (.iload_n 0, 1) := by decide +kernel
theorem dX7_isIn_1 : decode cX7_isIn 1 = .ok (.iload_n 1, 1) := by decide +kernel
theorem dX7_isIn_2 : decode cX7_isIn 2 = .ok (.ishr, 1) := by decide +kernel
theorem dX7_isIn_3 : decode cX7_isIn 3 = .ok (.iconst 1, 1) := by decide +kernel
theorem dX7_isIn_4 : decode cX7_isIn 4 = .ok (.iand, 1) := by decide +kernel
theorem dX7_isIn_5 : decode cX7_isIn 5 = .ok (.iconst 1, 1) := by decide +kernel
theorem dX7_isIn_6 : decode cX7_isIn 6 = .ok (.if_icmp .ne 7, 3) := by decide +kernel
theorem dX7_isIn_9 : decode cX7_isIn 9 = .ok (.iconst 1, 1) := by decide +kernel
theorem dX7_isIn_10 : decode cX7_isIn 10 = .ok (.goto 4, 3) := by decide +kernel
theorem dX7_isIn_13 : decode cX7_isIn 13 = .ok (.iconst 0, 1) := by decide +kernel
theorem dX7_isIn_14 : decode cX7_isIn 14 = .ok (.ireturn, 1) := by decide +kernel
theorem dX7_refused_0 : decode cX7_refused 0 = .ok (.aload_n 0, 1) := by decide +kernel
theorem dX7_refused_1 : decode cX7_refused 1 = .ok (.iconst 0, 1) := by decide +kernel
theorem dX7_refused_2 : decode cX7_refused 2 = .ok (.putfield 79, 3) := by decide +kernel
theorem dX7_refused_5 : decode cX7_refused 5 = .ok (.iload_n 1, 1) := by decide +kernel
theorem dX7_refused_6 : decode cX7_refused 6 = .ok (.ireturn, 1) := by decide +kernel
theorem dX7_failed_0 : decode cX7_failed 0 = .ok (.aload_n 0, 1) := by decide +kernel
theorem dX7_failed_1 : decode cX7_failed 1 = .ok (.iload_n 1, 1) := by decide +kernel
theorem dX7_failed_2 : decode cX7_failed 2 = .ok (.putfield 79, 3) := by decide +kernel
theorem dX7_failed_5 : decode cX7_failed 5 = .ok (.bipush (-10), 2) := by decide +kernel
theorem dX7_failed_7 : decode cX7_failed 7 = .ok (.iload_n 1, 1) := by decide +kernel
theorem dX7_failed_8 : decode cX7_failed 8 = .ok (.isub, 1) := by decide +kernel
theorem dX7_failed_9 : decode cX7_failed 9 = .ok (.ireturn, 1) := by decide +kernel
theorem dX7_failedLong_0 : decode cX7_failedLong 0 = .ok (.aload_n 0, 1) := by decide +kernel
theorem dX7_failedLong_1 : decode cX7_failedLong 1 = .ok (.iload_n 1, 1) := by decide +kernel
theorem dX7_failedLong_2 : decode cX7_failedLong 2 = .ok (.putfield 79, 3) := by decide +kernel
theorem dX7_failedLong_5 : decode cX7_failedLong 5 = .ok (.invokestatic 83, 3) := by decide +kernel
theorem dX7_failedLong_8 : decode cX7_failedLong 8 = .ok (.lreturn, 1) := by decide +kernel
theorem dX7_noPerson_0 : decode cX7_noPerson 0 = .ok (.iload_n 1, 1) := by decide +kernel
theorem dX7_noPerson_1 : decode cX7_noPerson 1 = .ok (.i2l, 1) := by decide +kernel
theorem dX7_noPerson_2 : decode cX7_noPerson 2 = .ok (.lconst 0, 1) := by decide +kernel
theorem dX7_noPerson_3 : decode cX7_noPerson 3 = .ok (.aload_n 0, 1) := by decide +kernel
theorem dX7_noPerson_4 : decode cX7_noPerson 4 = .ok (.getfield 87, 3) := by decide +kernel
theorem dX7_noPerson_7 : decode cX7_noPerson 7 = .ok (.i2l, 1) := by decide +kernel
theorem dX7_noPerson_8 : decode cX7_noPerson 8 = .ok (.lconst 1, 1) := by decide +kernel
theorem dX7_noPerson_9 : decode cX7_noPerson 9 = .ok (.lsub, 1) := by decide +kernel
theorem dX7_noPerson_10 : decode cX7_noPerson 10 = .ok (.invokestatic 90, 3) := by decide +kernel
theorem dX7_noPerson_13 : decode cX7_noPerson 13 = .ok (.ifCond .ne 7, 3) := by decide +kernel
theorem dX7_noPerson_16 : decode cX7_noPerson 16 = .ok (.iconst 1, 1) := by decide +kernel
theorem dX7_noPerson_17 : decode cX7_noPerson 17 = .ok (.goto 4, 3) := by decide +kernel
theorem dX7_noPerson_20 : decode cX7_noPerson 20 = .ok (.iconst 0, 1) := by decide +kernel
theorem dX7_noPerson_21 : decode cX7_noPerson 21 = .ok (.ireturn, 1) := by decide +kernel
theorem dX7_codeAt_0 : decode cX7_codeAt 0 = .ok (.aload_n 0, 1) := by decide +kernel
theorem dX7_codeAt_1 : decode cX7_codeAt 1 = .ok (.getfield 94, 3) := by decide +kernel
theorem dX7_codeAt_4 : decode cX7_codeAt 4 = .ok (.iload_n 2, 1) := by decide +kernel
theorem dX7_codeAt_5 : decode cX7_codeAt 5 = .ok (.if_icmp .ge 17, 3) := by decide +kernel
theorem dX7_codeAt_8 : decode cX7_codeAt 8 = .ok (.aload_n 0, 1) := by decide +kernel
theorem dX7_codeAt_9 : decode cX7_codeAt 9 = .ok (.getfield 71, 3) := by decide +kernel
theorem dX7_codeAt_12 : decode cX7_codeAt 12 = .ok (.iload_n 1, 1) := by decide +kernel
theorem dX7_codeAt_13 : decode cX7_codeAt 13 = .ok (.aload_n 0, 1) := by decide +kernel
theorem dX7_codeAt_14 : decode cX7_codeAt 14 = .ok (.getfield 94, 3) := by decide +kernel
theorem dX7_codeAt_17 : decode cX7_codeAt 17 = .ok (.iadd, 1) := by decide +kernel
theorem dX7_codeAt_18 : decode cX7_codeAt 18 = .ok (.iaload, 1) := by decide +kernel
theorem dX7_codeAt_19 : decode cX7_codeAt 19 = .ok (.goto 5, 3) := by decide +kernel
theorem dX7_codeAt_22 : decode cX7_codeAt 22 = .ok (.bipush (-9), 2) := by decide +kernel
theorem dX7_codeAt_24 : decode cX7_codeAt 24 = .ok (.ireturn, 1) := by decide +kernel
theorem dX7_figure_0 : decode cX7_figure 0 = .ok (.aload_n 0, 1) := by decide +kernel
theorem dX7_figure_1 : decode cX7_figure 1 = .ok (.iload_n 1, 1) := by decide +kernel
theorem dX7_figure_2 : decode cX7_figure 2 = .ok (.iload_n 2, 1) := by decide +kernel
theorem dX7_figure_3 : decode cX7_figure 3 = .ok (.invokevirtual 97, 3) := by decide +kernel
theorem dX7_figure_6 : decode cX7_figure 6 = .ok (.bipush 48, 2) := by decide +kernel
theorem dX7_figure_8 : decode cX7_figure 8 = .ok (.isub, 1) := by decide +kernel
theorem dX7_figure_9 : decode cX7_figure 9 = .ok (.istore 5, 2) := by decide +kernel
theorem dX7_figure_11 : decode cX7_figure 11 = .ok (.iload 5, 2) := by decide +kernel
theorem dX7_figure_13 : decode cX7_figure 13 = .ok (.i2l, 1) := by decide +kernel
theorem dX7_figure_14 : decode cX7_figure 14 = .ok (.iload_n 3, 1) := by decide +kernel
theorem dX7_figure_15 : decode cX7_figure 15 = .ok (.i2l, 1) := by decide +kernel
theorem dX7_figure_16 : decode cX7_figure 16 = .ok (.iload 4, 2) := by decide +kernel
theorem dX7_figure_18 : decode cX7_figure 18 = .ok (.i2l, 1) := by decide +kernel
theorem dX7_figure_19 : decode cX7_figure 19 = .ok (.invokestatic 90, 3) := by decide +kernel
theorem dX7_figure_22 : decode cX7_figure 22 = .ok (.istore 6, 2) := by decide +kernel
theorem dX7_figure_24 : decode cX7_figure 24 = .ok (.aload_n 0, 1) := by decide +kernel
theorem dX7_figure_25 : decode cX7_figure 25 = .ok (.dup, 1) := by decide +kernel
theorem dX7_figure_26 : decode cX7_figure 26 = .ok (.getfield 94, 3) := by decide +kernel
theorem dX7_figure_29 : decode cX7_figure 29 = .ok (.iload 6, 2) := by decide +kernel
theorem dX7_figure_31 : decode cX7_figure 31 = .ok (.ifCond .eq 7, 3) := by decide +kernel
theorem dX7_figure_34 : decode cX7_figure 34 = .ok (.iconst 1, 1) := by decide +kernel
theorem dX7_figure_35 : decode cX7_figure 35 = .ok (.goto 4, 3) := by decide +kernel
theorem dX7_figure_38 : decode cX7_figure 38 = .ok (.iconst 0, 1) := by decide +kernel
theorem dX7_figure_39 : decode cX7_figure 39 = .ok (.iadd, 1) := by decide +kernel
theorem dX7_figure_40 : decode cX7_figure 40 = .ok (.putfield 94, 3) := by decide +kernel
theorem dX7_figure_43 : decode cX7_figure 43 = .ok (.iload 6, 2) := by decide +kernel
theorem dX7_figure_45 : decode cX7_figure 45 = .ok (.ifCond .eq 8, 3) := by decide +kernel
theorem dX7_figure_48 : decode cX7_figure 48 = .ok (.iload 5, 2) := by decide +kernel
theorem dX7_figure_50 : decode cX7_figure 50 = .ok (.goto 5, 3) := by decide +kernel
theorem dX7_figure_53 : decode cX7_figure 53 = .ok (.bipush (-9), 2) := by decide +kernel
theorem dX7_figure_55 : decode cX7_figure 55 = .ok (.ireturn, 1) := by decide +kernel
theorem dX7_readsPerson_0 : decode cX7_readsPerson 0 = .ok (.aload_n 0, 1) := by decide +kernel
theorem dX7_readsPerson_1 : decode cX7_readsPerson 1 = .ok (.getfield 101, 3) := by decide +kernel
theorem dX7_readsPerson_4 : decode cX7_readsPerson 4 = .ok (.bipush 6, 2) := by decide +kernel
theorem dX7_readsPerson_6 : decode cX7_readsPerson 6 = .ok (.if_icmp .eq 14, 3) := by decide +kernel
theorem dX7_readsPerson_9 : decode cX7_readsPerson 9 = .ok (.aload_n 0, 1) := by decide +kernel
theorem dX7_readsPerson_10 : decode cX7_readsPerson 10 = .ok (.iload_n 1, 1) := by decide +kernel
theorem dX7_readsPerson_11 : decode cX7_readsPerson 11 = .ok (.iload_n 2, 1) := by decide +kernel
theorem dX7_readsPerson_12 : decode cX7_readsPerson 12 = .ok (.invokevirtual 97, 3) := by decide +kernel
theorem dX7_readsPerson_15 : decode cX7_readsPerson 15 = .ok (.bipush 59, 2) := by decide +kernel
theorem dX7_readsPerson_17 : decode cX7_readsPerson 17 = .ok (.if_icmp .eq 5, 3) := by decide +kernel
theorem dX7_readsPerson_20 : decode cX7_readsPerson 20 = .ok (.iconst 0, 1) := by decide +kernel
theorem dX7_readsPerson_21 : decode cX7_readsPerson 21 = .ok (.ireturn, 1) := by decide +kernel
theorem dX7_readsPerson_22 : decode cX7_readsPerson 22 = .ok (.aload_n 0, 1) := by decide +kernel
theorem dX7_readsPerson_23 : decode cX7_readsPerson 23 = .ok (.dup, 1) := by decide +kernel
theorem dX7_readsPerson_24 : decode cX7_readsPerson 24 = .ok (.getfield 94, 3) := by decide +kernel
theorem dX7_readsPerson_27 : decode cX7_readsPerson 27 = .ok (.iconst 1, 1) := by decide +kernel
theorem dX7_readsPerson_28 : decode cX7_readsPerson 28 = .ok (.iadd, 1) := by decide +kernel
theorem dX7_readsPerson_29 : decode cX7_readsPerson 29 = .ok (.putfield 94, 3) := by decide +kernel
theorem dX7_readsPerson_32 : decode cX7_readsPerson 32 = .ok (.aload_n 0, 1) := by decide +kernel
theorem dX7_readsPerson_33 : decode cX7_readsPerson 33 = .ok (.iload_n 1, 1) := by decide +kernel
theorem dX7_readsPerson_34 : decode cX7_readsPerson 34 = .ok (.iload_n 2, 1) := by decide +kernel
theorem dX7_readsPerson_35 : decode cX7_readsPerson 35 = .ok (.invokevirtual 97, 3) := by decide +kernel
theorem dX7_readsPerson_38 : decode cX7_readsPerson 38 = .ok (.istore_n 3, 1) := by decide +kernel
theorem dX7_readsPerson_39 : decode cX7_readsPerson 39 = .ok (.iload_n 3, 1) := by decide +kernel
theorem dX7_readsPerson_40 : decode cX7_readsPerson 40 = .ok (.bipush 99, 2) := by decide +kernel
theorem dX7_readsPerson_42 : decode cX7_readsPerson 42 = .ok (.if_icmp .eq 17, 3) := by decide +kernel
theorem dX7_readsPerson_45 : decode cX7_readsPerson 45 = .ok (.iload_n 3, 1) := by decide +kernel
theorem dX7_readsPerson_46 : decode cX7_readsPerson 46 = .ok (.bipush 115, 2) := by decide +kernel
theorem dX7_readsPerson_48 : decode cX7_readsPerson 48 = .ok (.if_icmp .eq 11, 3) := by decide +kernel
theorem dX7_readsPerson_51 : decode cX7_readsPerson 51 = .ok (.iload_n 3, 1) := by decide +kernel
theorem dX7_readsPerson_52 : decode cX7_readsPerson 52 = .ok (.bipush 116, 2) := by decide +kernel
theorem dX7_readsPerson_54 : decode cX7_readsPerson 54 = .ok (.if_icmp .eq 5, 3) := by decide +kernel
theorem dX7_readsPerson_57 : decode cX7_readsPerson 57 = .ok (.iconst 0, 1) := by decide +kernel
theorem dX7_readsPerson_58 : decode cX7_readsPerson 58 = .ok (.ireturn, 1) := by decide +kernel
theorem dX7_readsPerson_59 : decode cX7_readsPerson 59 = .ok (.aload_n 0, 1) := by decide +kernel
theorem dX7_readsPerson_60 : decode cX7_readsPerson 60 = .ok (.dup, 1) := by decide +kernel
theorem dX7_readsPerson_61 : decode cX7_readsPerson 61 = .ok (.getfield 94, 3) := by decide +kernel
theorem dX7_readsPerson_64 : decode cX7_readsPerson 64 = .ok (.iconst 1, 1) := by decide +kernel
theorem dX7_readsPerson_65 : decode cX7_readsPerson 65 = .ok (.iadd, 1) := by decide +kernel
theorem dX7_readsPerson_66 : decode cX7_readsPerson 66 = .ok (.putfield 94, 3) := by decide +kernel
theorem dX7_readsPerson_69 : decode cX7_readsPerson 69 = .ok (.aload_n 0, 1) := by decide +kernel
theorem dX7_readsPerson_70 : decode cX7_readsPerson 70 = .ok (.iload_n 1, 1) := by decide +kernel
theorem dX7_readsPerson_71 : decode cX7_readsPerson 71 = .ok (.iload_n 2, 1) := by decide +kernel
theorem dX7_readsPerson_72 : decode cX7_readsPerson 72 = .ok (.iconst 0, 1) := by decide +kernel
theorem dX7_readsPerson_73 : decode cX7_readsPerson 73 = .ok (.bipush 6, 2) := by decide +kernel
theorem dX7_readsPerson_75 : decode cX7_readsPerson 75 = .ok (.invokevirtual 104, 3) := by decide +kernel
theorem dX7_readsPerson_78 : decode cX7_readsPerson 78 = .ok (.istore 4, 2) := by decide +kernel
theorem dX7_readsPerson_80 : decode cX7_readsPerson 80 = .ok (.iload 4, 2) := by decide +kernel
theorem dX7_readsPerson_82 : decode cX7_readsPerson 82 = .ok (.ifCond .ge 8, 3) := by decide +kernel
theorem dX7_readsPerson_85 : decode cX7_readsPerson 85 = .ok (.bipush (-9), 2) := by decide +kernel
theorem dX7_readsPerson_87 : decode cX7_readsPerson 87 = .ok (.goto 23, 3) := by decide +kernel
theorem dX7_readsPerson_90 : decode cX7_readsPerson 90 = .ok (.aload_n 0, 1) := by decide +kernel
theorem dX7_readsPerson_91 : decode cX7_readsPerson 91 = .ok (.iload_n 1, 1) := by decide +kernel
theorem dX7_readsPerson_92 : decode cX7_readsPerson 92 = .ok (.iload_n 2, 1) := by decide +kernel
theorem dX7_readsPerson_93 : decode cX7_readsPerson 93 = .ok (.iconst 0, 1) := by decide +kernel
theorem dX7_readsPerson_94 : decode cX7_readsPerson 94 = .ok (.iload 4, 2) := by decide +kernel
theorem dX7_readsPerson_96 : decode cX7_readsPerson 96 = .ok (.bipush 6, 2) := by decide +kernel
theorem dX7_readsPerson_98 : decode cX7_readsPerson 98 = .ok (.if_icmp .ne 7, 3) := by decide +kernel
theorem dX7_readsPerson_101 : decode cX7_readsPerson 101 = .ok (.iconst 3, 1) := by decide +kernel
theorem dX7_readsPerson_102 : decode cX7_readsPerson 102 = .ok (.goto 5, 3) := by decide +kernel
theorem dX7_readsPerson_105 : decode cX7_readsPerson 105 = .ok (.bipush 9, 2) := by decide +kernel
theorem dX7_readsPerson_107 : decode cX7_readsPerson 107 = .ok (.invokevirtual 104, 3) := by decide +kernel
theorem dX7_readsPerson_110 : decode cX7_readsPerson 110 = .ok (.istore 5, 2) := by decide +kernel
theorem dX7_readsPerson_112 : decode cX7_readsPerson 112 = .ok (.iload 5, 2) := by decide +kernel
theorem dX7_readsPerson_114 : decode cX7_readsPerson 114 = .ok (.ifCond .ge 8, 3) := by decide +kernel
theorem dX7_readsPerson_117 : decode cX7_readsPerson 117 = .ok (.bipush (-9), 2) := by decide +kernel
theorem dX7_readsPerson_119 : decode cX7_readsPerson 119 = .ok (.goto 12, 3) := by decide +kernel
theorem dX7_readsPerson_122 : decode cX7_readsPerson 122 = .ok (.aload_n 0, 1) := by decide +kernel
theorem dX7_readsPerson_123 : decode cX7_readsPerson 123 = .ok (.iload_n 1, 1) := by decide +kernel
theorem dX7_readsPerson_124 : decode cX7_readsPerson 124 = .ok (.iload_n 2, 1) := by decide +kernel
theorem dX7_readsPerson_125 : decode cX7_readsPerson 125 = .ok (.iconst 0, 1) := by decide +kernel
theorem dX7_readsPerson_126 : decode cX7_readsPerson 126 = .ok (.bipush 6, 2) := by decide +kernel
theorem dX7_readsPerson_128 : decode cX7_readsPerson 128 = .ok (.invokevirtual 104, 3) := by decide +kernel
theorem dX7_readsPerson_131 : decode cX7_readsPerson 131 = .ok (.istore 6, 2) := by decide +kernel
theorem dX7_readsPerson_133 : decode cX7_readsPerson 133 = .ok (.iload 6, 2) := by decide +kernel
theorem dX7_readsPerson_135 : decode cX7_readsPerson 135 = .ok (.ifCond .ge 8, 3) := by decide +kernel
theorem dX7_readsPerson_138 : decode cX7_readsPerson 138 = .ok (.bipush (-9), 2) := by decide +kernel
theorem dX7_readsPerson_140 : decode cX7_readsPerson 140 = .ok (.goto 12, 3) := by decide +kernel
theorem dX7_readsPerson_143 : decode cX7_readsPerson 143 = .ok (.aload_n 0, 1) := by decide +kernel
theorem dX7_readsPerson_144 : decode cX7_readsPerson 144 = .ok (.iload_n 1, 1) := by decide +kernel
theorem dX7_readsPerson_145 : decode cX7_readsPerson 145 = .ok (.iload_n 2, 1) := by decide +kernel
theorem dX7_readsPerson_146 : decode cX7_readsPerson 146 = .ok (.iconst 1, 1) := by decide +kernel
theorem dX7_readsPerson_147 : decode cX7_readsPerson 147 = .ok (.bipush 9, 2) := by decide +kernel
theorem dX7_readsPerson_149 : decode cX7_readsPerson 149 = .ok (.invokevirtual 104, 3) := by decide +kernel
theorem dX7_readsPerson_152 : decode cX7_readsPerson 152 = .ok (.istore 7, 2) := by decide +kernel
theorem dX7_readsPerson_154 : decode cX7_readsPerson 154 = .ok (.iload 7, 2) := by decide +kernel
theorem dX7_readsPerson_156 : decode cX7_readsPerson 156 = .ok (.ifCond .ge 5, 3) := by decide +kernel
theorem dX7_readsPerson_159 : decode cX7_readsPerson 159 = .ok (.iconst 0, 1) := by decide +kernel
theorem dX7_readsPerson_160 : decode cX7_readsPerson 160 = .ok (.ireturn, 1) := by decide +kernel
theorem dX7_readsPerson_161 : decode cX7_readsPerson 161 = .ok (.aload_n 0, 1) := by decide +kernel
theorem dX7_readsPerson_162 : decode cX7_readsPerson 162 = .ok (.getfield 22, 3) := by decide +kernel
theorem dX7_readsPerson_165 : decode cX7_readsPerson 165 = .ok (.aload_n 0, 1) := by decide +kernel
theorem dX7_readsPerson_166 : decode cX7_readsPerson 166 = .ok (.getfield 101, 3) := by decide +kernel
theorem dX7_readsPerson_169 : decode cX7_readsPerson 169 = .ok (.iload_n 3, 1) := by decide +kernel
theorem dX7_readsPerson_170 : decode cX7_readsPerson 170 = .ok (.bipush 99, 2) := by decide +kernel
theorem dX7_readsPerson_172 : decode cX7_readsPerson 172 = .ok (.if_icmp .ne 7, 3) := by decide +kernel
theorem dX7_readsPerson_175 : decode cX7_readsPerson 175 = .ok (.iconst 0, 1) := by decide +kernel
theorem dX7_readsPerson_176 : decode cX7_readsPerson 176 = .ok (.goto 14, 3) := by decide +kernel
theorem dX7_readsPerson_179 : decode cX7_readsPerson 179 = .ok (.iload_n 3, 1) := by decide +kernel
theorem dX7_readsPerson_180 : decode cX7_readsPerson 180 = .ok (.bipush 115, 2) := by decide +kernel
theorem dX7_readsPerson_182 : decode cX7_readsPerson 182 = .ok (.if_icmp .ne 7, 3) := by decide +kernel
theorem dX7_readsPerson_185 : decode cX7_readsPerson 185 = .ok (.iconst 1, 1) := by decide +kernel
theorem dX7_readsPerson_186 : decode cX7_readsPerson 186 = .ok (.goto 4, 3) := by decide +kernel
theorem dX7_readsPerson_189 : decode cX7_readsPerson 189 = .ok (.iconst 2, 1) := by decide +kernel
theorem dX7_readsPerson_190 : decode cX7_readsPerson 190 = .ok (.iastore, 1) := by decide +kernel
theorem dX7_readsPerson_191 : decode cX7_readsPerson 191 = .ok (.aload_n 0, 1) := by decide +kernel
theorem dX7_readsPerson_192 : decode cX7_readsPerson 192 = .ok (.getfield 25, 3) := by decide +kernel
theorem dX7_readsPerson_195 : decode cX7_readsPerson 195 = .ok (.aload_n 0, 1) := by decide +kernel
theorem dX7_readsPerson_196 : decode cX7_readsPerson 196 = .ok (.getfield 101, 3) := by decide +kernel
theorem dX7_readsPerson_199 : decode cX7_readsPerson 199 = .ok (.bipush 10, 2) := by decide +kernel
theorem dX7_readsPerson_201 : decode cX7_readsPerson 201 = .ok (.iload 4, 2) := by decide +kernel
theorem dX7_readsPerson_203 : decode cX7_readsPerson 203 = .ok (.imul, 1) := by decide +kernel
theorem dX7_readsPerson_204 : decode cX7_readsPerson 204 = .ok (.iload 5, 2) := by decide +kernel
theorem dX7_readsPerson_206 : decode cX7_readsPerson 206 = .ok (.iadd, 1) := by decide +kernel
theorem dX7_readsPerson_207 : decode cX7_readsPerson 207 = .ok (.iastore, 1) := by decide +kernel
theorem dX7_readsPerson_208 : decode cX7_readsPerson 208 = .ok (.aload_n 0, 1) := by decide +kernel
theorem dX7_readsPerson_209 : decode cX7_readsPerson 209 = .ok (.getfield 28, 3) := by decide +kernel
theorem dX7_readsPerson_212 : decode cX7_readsPerson 212 = .ok (.aload_n 0, 1) := by decide +kernel
theorem dX7_readsPerson_213 : decode cX7_readsPerson 213 = .ok (.getfield 101, 3) := by decide +kernel
theorem dX7_readsPerson_216 : decode cX7_readsPerson 216 = .ok (.iload 6, 2) := by decide +kernel
theorem dX7_readsPerson_218 : decode cX7_readsPerson 218 = .ok (.iastore, 1) := by decide +kernel
theorem dX7_readsPerson_219 : decode cX7_readsPerson 219 = .ok (.aload_n 0, 1) := by decide +kernel
theorem dX7_readsPerson_220 : decode cX7_readsPerson 220 = .ok (.getfield 31, 3) := by decide +kernel
theorem dX7_readsPerson_223 : decode cX7_readsPerson 223 = .ok (.aload_n 0, 1) := by decide +kernel
theorem dX7_readsPerson_224 : decode cX7_readsPerson 224 = .ok (.getfield 101, 3) := by decide +kernel
theorem dX7_readsPerson_227 : decode cX7_readsPerson 227 = .ok (.iload 7, 2) := by decide +kernel
theorem dX7_readsPerson_229 : decode cX7_readsPerson 229 = .ok (.iastore, 1) := by decide +kernel
theorem dX7_readsPerson_230 : decode cX7_readsPerson 230 = .ok (.aload_n 0, 1) := by decide +kernel
theorem dX7_readsPerson_231 : decode cX7_readsPerson 231 = .ok (.dup, 1) := by decide +kernel
theorem dX7_readsPerson_232 : decode cX7_readsPerson 232 = .ok (.getfield 101, 3) := by decide +kernel
theorem dX7_readsPerson_235 : decode cX7_readsPerson 235 = .ok (.iconst 1, 1) := by decide +kernel
theorem dX7_readsPerson_236 : decode cX7_readsPerson 236 = .ok (.iadd, 1) := by decide +kernel
theorem dX7_readsPerson_237 : decode cX7_readsPerson 237 = .ok (.putfield 101, 3) := by decide +kernel
theorem dX7_readsPerson_240 : decode cX7_readsPerson 240 = .ok (.iconst 1, 1) := by decide +kernel
theorem dX7_readsPerson_241 : decode cX7_readsPerson 241 = .ok (.ireturn, 1) := by decide +kernel
theorem dX7_readsCounter_0 : decode cX7_readsCounter 0 = .ok (.aload_n 0, 1) := by decide +kernel
theorem dX7_readsCounter_1 : decode cX7_readsCounter 1 = .ok (.iconst 0, 1) := by decide +kernel
theorem dX7_readsCounter_2 : decode cX7_readsCounter 2 = .ok (.putfield 94, 3) := by decide +kernel
theorem dX7_readsCounter_5 : decode cX7_readsCounter 5 = .ok (.aload_n 0, 1) := by decide +kernel
theorem dX7_readsCounter_6 : decode cX7_readsCounter 6 = .ok (.iconst 0, 1) := by decide +kernel
theorem dX7_readsCounter_7 : decode cX7_readsCounter 7 = .ok (.putfield 101, 3) := by decide +kernel
theorem dX7_readsCounter_10 : decode cX7_readsCounter 10 = .ok (.aload_n 0, 1) := by decide +kernel
theorem dX7_readsCounter_11 : decode cX7_readsCounter 11 = .ok (.iload_n 1, 1) := by decide +kernel
theorem dX7_readsCounter_12 : decode cX7_readsCounter 12 = .ok (.iload_n 2, 1) := by decide +kernel
theorem dX7_readsCounter_13 : decode cX7_readsCounter 13 = .ok (.invokevirtual 97, 3) := by decide +kernel
theorem dX7_readsCounter_16 : decode cX7_readsCounter 16 = .ok (.bipush 107, 2) := by decide +kernel
theorem dX7_readsCounter_18 : decode cX7_readsCounter 18 = .ok (.if_icmp .ne 7, 3) := by decide +kernel
theorem dX7_readsCounter_21 : decode cX7_readsCounter 21 = .ok (.iconst 1, 1) := by decide +kernel
theorem dX7_readsCounter_22 : decode cX7_readsCounter 22 = .ok (.goto 4, 3) := by decide +kernel
theorem dX7_readsCounter_25 : decode cX7_readsCounter 25 = .ok (.iconst 0, 1) := by decide +kernel
theorem dX7_readsCounter_26 : decode cX7_readsCounter 26 = .ok (.istore_n 3, 1) := by decide +kernel
theorem dX7_readsCounter_27 : decode cX7_readsCounter 27 = .ok (.aload_n 0, 1) := by decide +kernel
theorem dX7_readsCounter_28 : decode cX7_readsCounter 28 = .ok (.dup, 1) := by decide +kernel
theorem dX7_readsCounter_29 : decode cX7_readsCounter 29 = .ok (.getfield 94, 3) := by decide +kernel
theorem dX7_readsCounter_32 : decode cX7_readsCounter 32 = .ok (.iload_n 3, 1) := by decide +kernel
theorem dX7_readsCounter_33 : decode cX7_readsCounter 33 = .ok (.ifCond .eq 7, 3) := by decide +kernel
theorem dX7_readsCounter_36 : decode cX7_readsCounter 36 = .ok (.iconst 1, 1) := by decide +kernel
theorem dX7_readsCounter_37 : decode cX7_readsCounter 37 = .ok (.goto 4, 3) := by decide +kernel
theorem dX7_readsCounter_40 : decode cX7_readsCounter 40 = .ok (.iconst 0, 1) := by decide +kernel
theorem dX7_readsCounter_41 : decode cX7_readsCounter 41 = .ok (.iadd, 1) := by decide +kernel
theorem dX7_readsCounter_42 : decode cX7_readsCounter 42 = .ok (.putfield 94, 3) := by decide +kernel
theorem dX7_readsCounter_45 : decode cX7_readsCounter 45 = .ok (.iload_n 3, 1) := by decide +kernel
theorem dX7_readsCounter_46 : decode cX7_readsCounter 46 = .ok (.ifCond .eq 29, 3) := by decide +kernel
theorem dX7_readsCounter_49 : decode cX7_readsCounter 49 = .ok (.aload_n 0, 1) := by decide +kernel
theorem dX7_readsCounter_50 : decode cX7_readsCounter 50 = .ok (.getfield 101, 3) := by decide +kernel
theorem dX7_readsCounter_53 : decode cX7_readsCounter 53 = .ok (.iconst 2, 1) := by decide +kernel
theorem dX7_readsCounter_54 : decode cX7_readsCounter 54 = .ok (.if_icmp .lt 11, 3) := by decide +kernel
theorem dX7_readsCounter_57 : decode cX7_readsCounter 57 = .ok (.aload_n 0, 1) := by decide +kernel
theorem dX7_readsCounter_58 : decode cX7_readsCounter 58 = .ok (.getfield 94, 3) := by decide +kernel
theorem dX7_readsCounter_61 : decode cX7_readsCounter 61 = .ok (.iload_n 2, 1) := by decide +kernel
theorem dX7_readsCounter_62 : decode cX7_readsCounter 62 = .ok (.if_icmp .ge 13, 3) := by decide +kernel
theorem dX7_readsCounter_65 : decode cX7_readsCounter 65 = .ok (.aload_n 0, 1) := by decide +kernel
theorem dX7_readsCounter_66 : decode cX7_readsCounter 66 = .ok (.iload_n 1, 1) := by decide +kernel
theorem dX7_readsCounter_67 : decode cX7_readsCounter 67 = .ok (.iload_n 2, 1) := by decide +kernel
theorem dX7_readsCounter_68 : decode cX7_readsCounter 68 = .ok (.invokevirtual 108, 3) := by decide +kernel
theorem dX7_readsCounter_71 : decode cX7_readsCounter 71 = .ok (.istore_n 3, 1) := by decide +kernel
theorem dX7_readsCounter_72 : decode cX7_readsCounter 72 = .ok (.goto (-27), 3) := by decide +kernel
theorem dX7_readsCounter_75 : decode cX7_readsCounter 75 = .ok (.iload_n 3, 1) := by decide +kernel
theorem dX7_readsCounter_76 : decode cX7_readsCounter 76 = .ok (.ireturn, 1) := by decide +kernel
theorem dX7_cellsBarred_0 : decode cX7_cellsBarred 0 = .ok (.aload_n 0, 1) := by decide +kernel
theorem dX7_cellsBarred_1 : decode cX7_cellsBarred 1 = .ok (.getfield 65, 3) := by decide +kernel
theorem dX7_cellsBarred_4 : decode cX7_cellsBarred 4 = .ok (.iload_n 1, 1) := by decide +kernel
theorem dX7_cellsBarred_5 : decode cX7_cellsBarred 5 = .ok (.iaload, 1) := by decide +kernel
theorem dX7_cellsBarred_6 : decode cX7_cellsBarred 6 = .ok (.ifCond .lt 19, 3) := by decide +kernel
theorem dX7_cellsBarred_9 : decode cX7_cellsBarred 9 = .ok (.aload_n 0, 1) := by decide +kernel
theorem dX7_cellsBarred_10 : decode cX7_cellsBarred 10 = .ok (.getfield 68, 3) := by decide +kernel
theorem dX7_cellsBarred_13 : decode cX7_cellsBarred 13 = .ok (.iload_n 1, 1) := by decide +kernel
theorem dX7_cellsBarred_14 : decode cX7_cellsBarred 14 = .ok (.iaload, 1) := by decide +kernel
theorem dX7_cellsBarred_15 : decode cX7_cellsBarred 15 = .ok (.iload_n 2, 1) := by decide +kernel
theorem dX7_cellsBarred_16 : decode cX7_cellsBarred 16 = .ok (.if_icmp .eq 9, 3) := by decide +kernel
theorem dX7_cellsBarred_19 : decode cX7_cellsBarred 19 = .ok (.aload_n 0, 1) := by decide +kernel
theorem dX7_cellsBarred_20 : decode cX7_cellsBarred 20 = .ok (.iconst 2, 1) := by decide +kernel
theorem dX7_cellsBarred_21 : decode cX7_cellsBarred 21 = .ok (.invokevirtual 112, 3) := by decide +kernel
theorem dX7_cellsBarred_24 : decode cX7_cellsBarred 24 = .ok (.ireturn, 1) := by decide +kernel
theorem dX7_cellsBarred_25 : decode cX7_cellsBarred 25 = .ok (.aload_n 0, 1) := by decide +kernel
theorem dX7_cellsBarred_26 : decode cX7_cellsBarred 26 = .ok (.getfield 65, 3) := by decide +kernel
theorem dX7_cellsBarred_29 : decode cX7_cellsBarred 29 = .ok (.iload_n 1, 1) := by decide +kernel
theorem dX7_cellsBarred_30 : decode cX7_cellsBarred 30 = .ok (.iaload, 1) := by decide +kernel
theorem dX7_cellsBarred_31 : decode cX7_cellsBarred 31 = .ok (.ifCond .ge 9, 3) := by decide +kernel
theorem dX7_cellsBarred_34 : decode cX7_cellsBarred 34 = .ok (.aload_n 0, 1) := by decide +kernel
theorem dX7_cellsBarred_35 : decode cX7_cellsBarred 35 = .ok (.iconst 1, 1) := by decide +kernel
theorem dX7_cellsBarred_36 : decode cX7_cellsBarred 36 = .ok (.invokevirtual 112, 3) := by decide +kernel
theorem dX7_cellsBarred_39 : decode cX7_cellsBarred 39 = .ok (.ireturn, 1) := by decide +kernel
theorem dX7_cellsBarred_40 : decode cX7_cellsBarred 40 = .ok (.lload 4, 2) := by decide +kernel
theorem dX7_cellsBarred_42 : decode cX7_cellsBarred 42 = .ok (.lconst 0, 1) := by decide +kernel
theorem dX7_cellsBarred_43 : decode cX7_cellsBarred 43 = .ok (.lcmp, 1) := by decide +kernel
theorem dX7_cellsBarred_44 : decode cX7_cellsBarred 44 = .ok (.ifCond .ge 9, 3) := by decide +kernel
theorem dX7_cellsBarred_47 : decode cX7_cellsBarred 47 = .ok (.aload_n 0, 1) := by decide +kernel
theorem dX7_cellsBarred_48 : decode cX7_cellsBarred 48 = .ok (.iconst 4, 1) := by decide +kernel
theorem dX7_cellsBarred_49 : decode cX7_cellsBarred 49 = .ok (.invokevirtual 112, 3) := by decide +kernel
theorem dX7_cellsBarred_52 : decode cX7_cellsBarred 52 = .ok (.ireturn, 1) := by decide +kernel
theorem dX7_cellsBarred_53 : decode cX7_cellsBarred 53 = .ok (.iload_n 3, 1) := by decide +kernel
theorem dX7_cellsBarred_54 : decode cX7_cellsBarred 54 = .ok (.lload 4, 2) := by decide +kernel
theorem dX7_cellsBarred_56 : decode cX7_cellsBarred 56 = .ok (.aload_n 0, 1) := by decide +kernel
theorem dX7_cellsBarred_57 : decode cX7_cellsBarred 57 = .ok (.getfield 65, 3) := by decide +kernel
theorem dX7_cellsBarred_60 : decode cX7_cellsBarred 60 = .ok (.iload_n 1, 1) := by decide +kernel
theorem dX7_cellsBarred_61 : decode cX7_cellsBarred 61 = .ok (.iaload, 1) := by decide +kernel
theorem dX7_cellsBarred_62 : decode cX7_cellsBarred 62 = .ok (.invokestatic 116, 3) := by decide +kernel
theorem dX7_cellsBarred_65 : decode cX7_cellsBarred 65 = .ok (.ifCond .eq 11, 3) := by decide +kernel
theorem dX7_cellsBarred_68 : decode cX7_cellsBarred 68 = .ok (.aload_n 0, 1) := by decide +kernel
theorem dX7_cellsBarred_69 : decode cX7_cellsBarred 69 = .ok (.iconst 3, 1) := by decide +kernel
theorem dX7_cellsBarred_70 : decode cX7_cellsBarred 70 = .ok (.invokevirtual 112, 3) := by decide +kernel
theorem dX7_cellsBarred_73 : decode cX7_cellsBarred 73 = .ok (.goto 4, 3) := by decide +kernel
theorem dX7_cellsBarred_76 : decode cX7_cellsBarred 76 = .ok (.iconst 0, 1) := by decide +kernel
theorem dX7_cellsBarred_77 : decode cX7_cellsBarred 77 = .ok (.ireturn, 1) := by decide +kernel
theorem dX7_counter_0 : decode cX7_counter 0 = .ok (.iload_n 1, 1) := by decide +kernel
theorem dX7_counter_1 : decode cX7_counter 1 = .ok (.invokestatic 120, 3) := by decide +kernel
theorem dX7_counter_4 : decode cX7_counter 4 = .ok (.ifCond .eq 9, 3) := by decide +kernel
theorem dX7_counter_7 : decode cX7_counter 7 = .ok (.aload_n 0, 1) := by decide +kernel
theorem dX7_counter_8 : decode cX7_counter 8 = .ok (.iconst (-1), 1) := by decide +kernel
theorem dX7_counter_9 : decode cX7_counter 9 = .ok (.invokevirtual 124, 3) := by decide +kernel
theorem dX7_counter_12 : decode cX7_counter 12 = .ok (.ireturn, 1) := by decide +kernel
theorem dX7_counter_13 : decode cX7_counter 13 = .ok (.iload_n 2, 1) := by decide +kernel
theorem dX7_counter_14 : decode cX7_counter 14 = .ok (.i2l, 1) := by decide +kernel
theorem dX7_counter_15 : decode cX7_counter 15 = .ok (.lconst 0, 1) := by decide +kernel
theorem dX7_counter_16 : decode cX7_counter 16 = .ok (.ldc2_w 127, 3) := by decide +kernel
theorem dX7_counter_19 : decode cX7_counter 19 = .ok (.invokestatic 90, 3) := by decide +kernel
theorem dX7_counter_22 : decode cX7_counter 22 = .ok (.ifCond .ne 10, 3) := by decide +kernel
theorem dX7_counter_25 : decode cX7_counter 25 = .ok (.aload_n 0, 1) := by decide +kernel
theorem dX7_counter_26 : decode cX7_counter 26 = .ok (.bipush (-2), 2) := by decide +kernel
theorem dX7_counter_28 : decode cX7_counter 28 = .ok (.invokevirtual 124, 3) := by decide +kernel
theorem dX7_counter_31 : decode cX7_counter 31 = .ok (.ireturn, 1) := by decide +kernel
theorem dX7_counter_32 : decode cX7_counter 32 = .ok (.aload_n 0, 1) := by decide +kernel
theorem dX7_counter_33 : decode cX7_counter 33 = .ok (.iload_n 1, 1) := by decide +kernel
theorem dX7_counter_34 : decode cX7_counter 34 = .ok (.iload_n 2, 1) := by decide +kernel
theorem dX7_counter_35 : decode cX7_counter 35 = .ok (.iload_n 3, 1) := by decide +kernel
theorem dX7_counter_36 : decode cX7_counter 36 = .ok (.iload 4, 2) := by decide +kernel
theorem dX7_counter_38 : decode cX7_counter 38 = .ok (.i2l, 1) := by decide +kernel
theorem dX7_counter_39 : decode cX7_counter 39 = .ok (.invokevirtual 129, 3) := by decide +kernel
theorem dX7_counter_42 : decode cX7_counter 42 = .ok (.istore 5, 2) := by decide +kernel
theorem dX7_counter_44 : decode cX7_counter 44 = .ok (.iload 5, 2) := by decide +kernel
theorem dX7_counter_46 : decode cX7_counter 46 = .ok (.ifCond .ge 6, 3) := by decide +kernel
theorem dX7_counter_49 : decode cX7_counter 49 = .ok (.iload 5, 2) := by decide +kernel
theorem dX7_counter_51 : decode cX7_counter 51 = .ok (.ireturn, 1) := by decide +kernel
theorem dX7_counter_52 : decode cX7_counter 52 = .ok (.aload_n 0, 1) := by decide +kernel
theorem dX7_counter_53 : decode cX7_counter 53 = .ok (.bipush 60, 2) := by decide +kernel
theorem dX7_counter_55 : decode cX7_counter 55 = .ok (.iload_n 1, 1) := by decide +kernel
theorem dX7_counter_56 : decode cX7_counter 56 = .ok (.imul, 1) := by decide +kernel
theorem dX7_counter_57 : decode cX7_counter 57 = .ok (.iload_n 3, 1) := by decide +kernel
theorem dX7_counter_58 : decode cX7_counter 58 = .ok (.iadd, 1) := by decide +kernel
theorem dX7_counter_59 : decode cX7_counter 59 = .ok (.iload 4, 2) := by decide +kernel
theorem dX7_counter_61 : decode cX7_counter 61 = .ok (.invokevirtual 133, 3) := by decide +kernel
theorem dX7_counter_64 : decode cX7_counter 64 = .ok (.ifCond .ne 15, 3) := by decide +kernel
theorem dX7_counter_67 : decode cX7_counter 67 = .ok (.aload_n 0, 1) := by decide +kernel
theorem dX7_counter_68 : decode cX7_counter 68 = .ok (.bipush (-100), 2) := by decide +kernel
theorem dX7_counter_70 : decode cX7_counter 70 = .ok (.aload_n 0, 1) := by decide +kernel
theorem dX7_counter_71 : decode cX7_counter 71 = .ok (.getfield 94, 3) := by decide +kernel
theorem dX7_counter_74 : decode cX7_counter 74 = .ok (.isub, 1) := by decide +kernel
theorem dX7_counter_75 : decode cX7_counter 75 = .ok (.invokevirtual 124, 3) := by decide +kernel
theorem dX7_counter_78 : decode cX7_counter 78 = .ok (.ireturn, 1) := by decide +kernel
theorem dX7_counter_79 : decode cX7_counter 79 = .ok (.aload_n 0, 1) := by decide +kernel
theorem dX7_counter_80 : decode cX7_counter 80 = .ok (.aload_n 0, 1) := by decide +kernel
theorem dX7_counter_81 : decode cX7_counter 81 = .ok (.getfield 101, 3) := by decide +kernel
theorem dX7_counter_84 : decode cX7_counter 84 = .ok (.putfield 87, 3) := by decide +kernel
theorem dX7_counter_87 : decode cX7_counter 87 = .ok (.iconst 0, 1) := by decide +kernel
theorem dX7_counter_88 : decode cX7_counter 88 = .ok (.istore 6, 2) := by decide +kernel
theorem dX7_counter_90 : decode cX7_counter 90 = .ok (.iload 6, 2) := by decide +kernel
theorem dX7_counter_92 : decode cX7_counter 92 = .ok (.aload_n 0, 1) := by decide +kernel
theorem dX7_counter_93 : decode cX7_counter 93 = .ok (.getfield 87, 3) := by decide +kernel
theorem dX7_counter_96 : decode cX7_counter 96 = .ok (.if_icmp .ge 65, 3) := by decide +kernel
theorem dX7_counter_99 : decode cX7_counter 99 = .ok (.aload_n 0, 1) := by decide +kernel
theorem dX7_counter_100 : decode cX7_counter 100 = .ok (.getfield 7, 3) := by decide +kernel
theorem dX7_counter_103 : decode cX7_counter 103 = .ok (.iload 6, 2) := by decide +kernel
theorem dX7_counter_105 : decode cX7_counter 105 = .ok (.aload_n 0, 1) := by decide +kernel
theorem dX7_counter_106 : decode cX7_counter 106 = .ok (.getfield 22, 3) := by decide +kernel
theorem dX7_counter_109 : decode cX7_counter 109 = .ok (.iload 6, 2) := by decide +kernel
theorem dX7_counter_111 : decode cX7_counter 111 = .ok (.iaload, 1) := by decide +kernel
theorem dX7_counter_112 : decode cX7_counter 112 = .ok (.iastore, 1) := by decide +kernel
theorem dX7_counter_113 : decode cX7_counter 113 = .ok (.aload_n 0, 1) := by decide +kernel
theorem dX7_counter_114 : decode cX7_counter 114 = .ok (.getfield 13, 3) := by decide +kernel
theorem dX7_counter_117 : decode cX7_counter 117 = .ok (.iload 6, 2) := by decide +kernel
theorem dX7_counter_119 : decode cX7_counter 119 = .ok (.aload_n 0, 1) := by decide +kernel
theorem dX7_counter_120 : decode cX7_counter 120 = .ok (.getfield 25, 3) := by decide +kernel
theorem dX7_counter_123 : decode cX7_counter 123 = .ok (.iload 6, 2) := by decide +kernel
theorem dX7_counter_125 : decode cX7_counter 125 = .ok (.iaload, 1) := by decide +kernel
theorem dX7_counter_126 : decode cX7_counter 126 = .ok (.iastore, 1) := by decide +kernel
theorem dX7_counter_127 : decode cX7_counter 127 = .ok (.aload_n 0, 1) := by decide +kernel
theorem dX7_counter_128 : decode cX7_counter 128 = .ok (.getfield 16, 3) := by decide +kernel
theorem dX7_counter_131 : decode cX7_counter 131 = .ok (.iload 6, 2) := by decide +kernel
theorem dX7_counter_133 : decode cX7_counter 133 = .ok (.aload_n 0, 1) := by decide +kernel
theorem dX7_counter_134 : decode cX7_counter 134 = .ok (.getfield 28, 3) := by decide +kernel
theorem dX7_counter_137 : decode cX7_counter 137 = .ok (.iload 6, 2) := by decide +kernel
theorem dX7_counter_139 : decode cX7_counter 139 = .ok (.iaload, 1) := by decide +kernel
theorem dX7_counter_140 : decode cX7_counter 140 = .ok (.iastore, 1) := by decide +kernel
theorem dX7_counter_141 : decode cX7_counter 141 = .ok (.aload_n 0, 1) := by decide +kernel
theorem dX7_counter_142 : decode cX7_counter 142 = .ok (.getfield 19, 3) := by decide +kernel
theorem dX7_counter_145 : decode cX7_counter 145 = .ok (.iload 6, 2) := by decide +kernel
theorem dX7_counter_147 : decode cX7_counter 147 = .ok (.aload_n 0, 1) := by decide +kernel
theorem dX7_counter_148 : decode cX7_counter 148 = .ok (.getfield 31, 3) := by decide +kernel
theorem dX7_counter_151 : decode cX7_counter 151 = .ok (.iload 6, 2) := by decide +kernel
theorem dX7_counter_153 : decode cX7_counter 153 = .ok (.iaload, 1) := by decide +kernel
theorem dX7_counter_154 : decode cX7_counter 154 = .ok (.iastore, 1) := by decide +kernel
theorem dX7_counter_155 : decode cX7_counter 155 = .ok (.iinc 6 1, 3) := by decide +kernel
theorem dX7_counter_158 : decode cX7_counter 158 = .ok (.goto (-68), 3) := by decide +kernel
theorem dX7_counter_161 : decode cX7_counter 161 = .ok (.aload_n 0, 1) := by decide +kernel
theorem dX7_counter_162 : decode cX7_counter 162 = .ok (.iconst 0, 1) := by decide +kernel
theorem dX7_counter_163 : decode cX7_counter 163 = .ok (.putfield 136, 3) := by decide +kernel
theorem dX7_counter_166 : decode cX7_counter 166 = .ok (.aload_n 0, 1) := by decide +kernel
theorem dX7_counter_167 : decode cX7_counter 167 = .ok (.aload_n 0, 1) := by decide +kernel
theorem dX7_counter_168 : decode cX7_counter 168 = .ok (.getfield 87, 3) := by decide +kernel
theorem dX7_counter_171 : decode cX7_counter 171 = .ok (.invokevirtual 124, 3) := by decide +kernel
theorem dX7_counter_174 : decode cX7_counter 174 = .ok (.ireturn, 1) := by decide +kernel
theorem dX7_lastsOf_0 : decode cX7_lastsOf 0 = .ok (.aload_n 0, 1) := by decide +kernel
theorem dX7_lastsOf_1 : decode cX7_lastsOf 1 = .ok (.getfield 19, 3) := by decide +kernel
theorem dX7_lastsOf_4 : decode cX7_lastsOf 4 = .ok (.iload_n 1, 1) := by decide +kernel
theorem dX7_lastsOf_5 : decode cX7_lastsOf 5 = .ok (.iaload, 1) := by decide +kernel
theorem dX7_lastsOf_6 : decode cX7_lastsOf 6 = .ok (.istore_n 2, 1) := by decide +kernel
theorem dX7_lastsOf_7 : decode cX7_lastsOf 7 = .ok (.aload_n 0, 1) := by decide +kernel
theorem dX7_lastsOf_8 : decode cX7_lastsOf 8 = .ok (.getfield 7, 3) := by decide +kernel
theorem dX7_lastsOf_11 : decode cX7_lastsOf 11 = .ok (.iload_n 1, 1) := by decide +kernel
theorem dX7_lastsOf_12 : decode cX7_lastsOf 12 = .ok (.iaload, 1) := by decide +kernel
theorem dX7_lastsOf_13 : decode cX7_lastsOf 13 = .ok (.ifCond .ne 7, 3) := by decide +kernel
theorem dX7_lastsOf_16 : decode cX7_lastsOf 16 = .ok (.iload_n 2, 1) := by decide +kernel
theorem dX7_lastsOf_17 : decode cX7_lastsOf 17 = .ok (.goto 24, 3) := by decide +kernel
theorem dX7_lastsOf_20 : decode cX7_lastsOf 20 = .ok (.aload_n 0, 1) := by decide +kernel
theorem dX7_lastsOf_21 : decode cX7_lastsOf 21 = .ok (.getfield 7, 3) := by decide +kernel
theorem dX7_lastsOf_24 : decode cX7_lastsOf 24 = .ok (.iload_n 1, 1) := by decide +kernel
theorem dX7_lastsOf_25 : decode cX7_lastsOf 25 = .ok (.iaload, 1) := by decide +kernel
theorem dX7_lastsOf_26 : decode cX7_lastsOf 26 = .ok (.iconst 1, 1) := by decide +kernel
theorem dX7_lastsOf_27 : decode cX7_lastsOf 27 = .ok (.if_icmp .ne 9, 3) := by decide +kernel
theorem dX7_lastsOf_30 : decode cX7_lastsOf 30 = .ok (.iload_n 2, 1) := by decide +kernel
theorem dX7_lastsOf_31 : decode cX7_lastsOf 31 = .ok (.iconst 1, 1) := by decide +kernel
theorem dX7_lastsOf_32 : decode cX7_lastsOf 32 = .ok (.iadd, 1) := by decide +kernel
theorem dX7_lastsOf_33 : decode cX7_lastsOf 33 = .ok (.goto 8, 3) := by decide +kernel
theorem dX7_lastsOf_36 : decode cX7_lastsOf 36 = .ok (.iconst 2, 1) := by decide +kernel
theorem dX7_lastsOf_37 : decode cX7_lastsOf 37 = .ok (.iload_n 2, 1) := by decide +kernel
theorem dX7_lastsOf_38 : decode cX7_lastsOf 38 = .ok (.iconst 1, 1) := by decide +kernel
theorem dX7_lastsOf_39 : decode cX7_lastsOf 39 = .ok (.iadd, 1) := by decide +kernel
theorem dX7_lastsOf_40 : decode cX7_lastsOf 40 = .ok (.imul, 1) := by decide +kernel
theorem dX7_lastsOf_41 : decode cX7_lastsOf 41 = .ok (.ireturn, 1) := by decide +kernel
theorem dX7_ofPerson_0 : decode cX7_ofPerson 0 = .ok (.aload_n 0, 1) := by decide +kernel
theorem dX7_ofPerson_1 : decode cX7_ofPerson 1 = .ok (.iload_n 1, 1) := by decide +kernel
theorem dX7_ofPerson_2 : decode cX7_ofPerson 2 = .ok (.invokevirtual 139, 3) := by decide +kernel
theorem dX7_ofPerson_5 : decode cX7_ofPerson 5 = .ok (.ifCond .eq 5, 3) := by decide +kernel
theorem dX7_ofPerson_8 : decode cX7_ofPerson 8 = .ok (.iconst (-1), 1) := by decide +kernel
theorem dX7_ofPerson_9 : decode cX7_ofPerson 9 = .ok (.ireturn, 1) := by decide +kernel
theorem dX7_ofPerson_10 : decode cX7_ofPerson 10 = .ok (.iload_n 2, 1) := by decide +kernel
theorem dX7_ofPerson_11 : decode cX7_ofPerson 11 = .ok (.tableswitch 67 0 4 #[33, 40, 47, 54, 61], 33) := by decide +kernel
theorem dX7_ofPerson_44 : decode cX7_ofPerson 44 = .ok (.aload_n 0, 1) := by decide +kernel
theorem dX7_ofPerson_45 : decode cX7_ofPerson 45 = .ok (.getfield 7, 3) := by decide +kernel
theorem dX7_ofPerson_48 : decode cX7_ofPerson 48 = .ok (.iload_n 1, 1) := by decide +kernel
theorem dX7_ofPerson_49 : decode cX7_ofPerson 49 = .ok (.iaload, 1) := by decide +kernel
theorem dX7_ofPerson_50 : decode cX7_ofPerson 50 = .ok (.ireturn, 1) := by decide +kernel
theorem dX7_ofPerson_51 : decode cX7_ofPerson 51 = .ok (.aload_n 0, 1) := by decide +kernel
theorem dX7_ofPerson_52 : decode cX7_ofPerson 52 = .ok (.getfield 13, 3) := by decide +kernel
theorem dX7_ofPerson_55 : decode cX7_ofPerson 55 = .ok (.iload_n 1, 1) := by decide +kernel
theorem dX7_ofPerson_56 : decode cX7_ofPerson 56 = .ok (.iaload, 1) := by decide +kernel
theorem dX7_ofPerson_57 : decode cX7_ofPerson 57 = .ok (.ireturn, 1) := by decide +kernel
theorem dX7_ofPerson_58 : decode cX7_ofPerson 58 = .ok (.aload_n 0, 1) := by decide +kernel
theorem dX7_ofPerson_59 : decode cX7_ofPerson 59 = .ok (.getfield 16, 3) := by decide +kernel
theorem dX7_ofPerson_62 : decode cX7_ofPerson 62 = .ok (.iload_n 1, 1) := by decide +kernel
theorem dX7_ofPerson_63 : decode cX7_ofPerson 63 = .ok (.iaload, 1) := by decide +kernel
end
section
theorem dX7_ofPerson_64 : decode cX7_ofPerson 64 = .ok (.ireturn, 1) := by decide +kernel
theorem dX7_ofPerson_65 : decode cX7_ofPerson 65 = .ok (.aload_n 0, 1) := by decide +kernel
theorem dX7_ofPerson_66 : decode cX7_ofPerson 66 = .ok (.getfield 19, 3) := by decide +kernel
theorem dX7_ofPerson_69 : decode cX7_ofPerson 69 = .ok (.iload_n 1, 1) := by decide +kernel
theorem dX7_ofPerson_70 : decode cX7_ofPerson 70 = .ok (.iaload, 1) := by decide +kernel
theorem dX7_ofPerson_71 : decode cX7_ofPerson 71 = .ok (.ireturn, 1) := by decide +kernel
theorem dX7_ofPerson_72 : decode cX7_ofPerson 72 = .ok (.aload_n 0, 1) := by decide +kernel
theorem dX7_ofPerson_73 : decode cX7_ofPerson 73 = .ok (.iload_n 1, 1) := by decide +kernel
theorem dX7_ofPerson_74 : decode cX7_ofPerson 74 = .ok (.invokevirtual 142, 3) := by decide +kernel
theorem dX7_ofPerson_77 : decode cX7_ofPerson 77 = .ok (.ireturn, 1) := by decide +kernel
theorem dX7_ofPerson_78 : decode cX7_ofPerson 78 = .ok (.bipush (-2), 2) := by decide +kernel
theorem dX7_ofPerson_80 : decode cX7_ofPerson 80 = .ok (.ireturn, 1) := by decide +kernel
theorem dX7_live_0 : decode cX7_live 0 = .ok (.aload_n 0, 1) := by decide +kernel
theorem dX7_live_1 : decode cX7_live 1 = .ok (.iload_n 1, 1) := by decide +kernel
theorem dX7_live_2 : decode cX7_live 2 = .ok (.invokevirtual 139, 3) := by decide +kernel
theorem dX7_live_5 : decode cX7_live 5 = .ok (.ifCond .eq 5, 3) := by decide +kernel
theorem dX7_live_8 : decode cX7_live 8 = .ok (.iconst (-1), 1) := by decide +kernel
theorem dX7_live_9 : decode cX7_live 9 = .ok (.ireturn, 1) := by decide +kernel
theorem dX7_live_10 : decode cX7_live 10 = .ok (.iload_n 2, 1) := by decide +kernel
theorem dX7_live_11 : decode cX7_live 11 = .ok (.i2l, 1) := by decide +kernel
theorem dX7_live_12 : decode cX7_live 12 = .ok (.lconst 0, 1) := by decide +kernel
theorem dX7_live_13 : decode cX7_live 13 = .ok (.ldc2_w 145, 3) := by decide +kernel
theorem dX7_live_16 : decode cX7_live 16 = .ok (.invokestatic 90, 3) := by decide +kernel
theorem dX7_live_19 : decode cX7_live 19 = .ok (.ifCond .ne 6, 3) := by decide +kernel
theorem dX7_live_22 : decode cX7_live 22 = .ok (.bipush (-2), 2) := by decide +kernel
theorem dX7_live_24 : decode cX7_live 24 = .ok (.ireturn, 1) := by decide +kernel
theorem dX7_live_25 : decode cX7_live 25 = .ok (.aload_n 0, 1) := by decide +kernel
theorem dX7_live_26 : decode cX7_live 26 = .ok (.getfield 13, 3) := by decide +kernel
theorem dX7_live_29 : decode cX7_live 29 = .ok (.iload_n 1, 1) := by decide +kernel
theorem dX7_live_30 : decode cX7_live 30 = .ok (.iaload, 1) := by decide +kernel
theorem dX7_live_31 : decode cX7_live 31 = .ok (.istore_n 3, 1) := by decide +kernel
theorem dX7_live_32 : decode cX7_live 32 = .ok (.aload_n 0, 1) := by decide +kernel
theorem dX7_live_33 : decode cX7_live 33 = .ok (.getfield 13, 3) := by decide +kernel
theorem dX7_live_36 : decode cX7_live 36 = .ok (.iload_n 1, 1) := by decide +kernel
theorem dX7_live_37 : decode cX7_live 37 = .ok (.iload_n 2, 1) := by decide +kernel
theorem dX7_live_38 : decode cX7_live 38 = .ok (.iastore, 1) := by decide +kernel
theorem dX7_live_39 : decode cX7_live 39 = .ok (.iload_n 3, 1) := by decide +kernel
theorem dX7_live_40 : decode cX7_live 40 = .ok (.ireturn, 1) := by decide +kernel
theorem dX7_want_0 : decode cX7_want 0 = .ok (.aload_n 0, 1) := by decide +kernel
theorem dX7_want_1 : decode cX7_want 1 = .ok (.iload_n 1, 1) := by decide +kernel
theorem dX7_want_2 : decode cX7_want 2 = .ok (.invokevirtual 139, 3) := by decide +kernel
theorem dX7_want_5 : decode cX7_want 5 = .ok (.ifCond .eq 5, 3) := by decide +kernel
theorem dX7_want_8 : decode cX7_want 8 = .ok (.iconst (-1), 1) := by decide +kernel
theorem dX7_want_9 : decode cX7_want 9 = .ok (.ireturn, 1) := by decide +kernel
theorem dX7_want_10 : decode cX7_want 10 = .ok (.iload_n 2, 1) := by decide +kernel
theorem dX7_want_11 : decode cX7_want 11 = .ok (.i2l, 1) := by decide +kernel
theorem dX7_want_12 : decode cX7_want 12 = .ok (.lconst 0, 1) := by decide +kernel
theorem dX7_want_13 : decode cX7_want 13 = .ok (.ldc2_w 147, 3) := by decide +kernel
theorem dX7_want_16 : decode cX7_want 16 = .ok (.invokestatic 90, 3) := by decide +kernel
theorem dX7_want_19 : decode cX7_want 19 = .ok (.ifCond .ne 6, 3) := by decide +kernel
theorem dX7_want_22 : decode cX7_want 22 = .ok (.bipush (-2), 2) := by decide +kernel
theorem dX7_want_24 : decode cX7_want 24 = .ok (.ireturn, 1) := by decide +kernel
theorem dX7_want_25 : decode cX7_want 25 = .ok (.aload_n 0, 1) := by decide +kernel
theorem dX7_want_26 : decode cX7_want 26 = .ok (.getfield 16, 3) := by decide +kernel
theorem dX7_want_29 : decode cX7_want 29 = .ok (.iload_n 1, 1) := by decide +kernel
theorem dX7_want_30 : decode cX7_want 30 = .ok (.iaload, 1) := by decide +kernel
theorem dX7_want_31 : decode cX7_want 31 = .ok (.istore_n 3, 1) := by decide +kernel
theorem dX7_want_32 : decode cX7_want 32 = .ok (.aload_n 0, 1) := by decide +kernel
theorem dX7_want_33 : decode cX7_want 33 = .ok (.getfield 16, 3) := by decide +kernel
theorem dX7_want_36 : decode cX7_want 36 = .ok (.iload_n 1, 1) := by decide +kernel
theorem dX7_want_37 : decode cX7_want 37 = .ok (.iload_n 2, 1) := by decide +kernel
theorem dX7_want_38 : decode cX7_want 38 = .ok (.iastore, 1) := by decide +kernel
theorem dX7_want_39 : decode cX7_want 39 = .ok (.iload_n 3, 1) := by decide +kernel
theorem dX7_want_40 : decode cX7_want 40 = .ok (.ireturn, 1) := by decide +kernel
theorem dX7_isMended_0 : decode cX7_isMended 0 = .ok (.aload_n 0, 1) := by decide +kernel
theorem dX7_isMended_1 : decode cX7_isMended 1 = .ok (.getfield 16, 3) := by decide +kernel
theorem dX7_isMended_4 : decode cX7_isMended 4 = .ok (.iload_n 1, 1) := by decide +kernel
theorem dX7_isMended_5 : decode cX7_isMended 5 = .ok (.iaload, 1) := by decide +kernel
theorem dX7_isMended_6 : decode cX7_isMended 6 = .ok (.bipush 6, 2) := by decide +kernel
theorem dX7_isMended_8 : decode cX7_isMended 8 = .ok (.if_icmp .eq 21, 3) := by decide +kernel
theorem dX7_isMended_11 : decode cX7_isMended 11 = .ok (.aload_n 0, 1) := by decide +kernel
theorem dX7_isMended_12 : decode cX7_isMended 12 = .ok (.getfield 43, 3) := by decide +kernel
theorem dX7_isMended_15 : decode cX7_isMended 15 = .ok (.iload_n 1, 1) := by decide +kernel
theorem dX7_isMended_16 : decode cX7_isMended 16 = .ok (.iaload, 1) := by decide +kernel
theorem dX7_isMended_17 : decode cX7_isMended 17 = .ok (.aload_n 0, 1) := by decide +kernel
theorem dX7_isMended_18 : decode cX7_isMended 18 = .ok (.getfield 16, 3) := by decide +kernel
theorem dX7_isMended_21 : decode cX7_isMended 21 = .ok (.iload_n 1, 1) := by decide +kernel
theorem dX7_isMended_22 : decode cX7_isMended 22 = .ok (.iaload, 1) := by decide +kernel
theorem dX7_isMended_23 : decode cX7_isMended 23 = .ok (.invokestatic 149, 3) := by decide +kernel
theorem dX7_isMended_26 : decode cX7_isMended 26 = .ok (.ifCond .eq 7, 3) := by decide +kernel
theorem dX7_isMended_29 : decode cX7_isMended 29 = .ok (.iconst 1, 1) := by decide +kernel
theorem dX7_isMended_30 : decode cX7_isMended 30 = .ok (.goto 4, 3) := by decide +kernel
theorem dX7_isMended_33 : decode cX7_isMended 33 = .ok (.iconst 0, 1) := by decide +kernel
theorem dX7_isMended_34 : decode cX7_isMended 34 = .ok (.ireturn, 1) := by decide +kernel
theorem dX7_mendedNow_0 : decode cX7_mendedNow 0 = .ok (.iconst 0, 1) := by decide +kernel
theorem dX7_mendedNow_1 : decode cX7_mendedNow 1 = .ok (.istore_n 1, 1) := by decide +kernel
theorem dX7_mendedNow_2 : decode cX7_mendedNow 2 = .ok (.iconst 0, 1) := by decide +kernel
theorem dX7_mendedNow_3 : decode cX7_mendedNow 3 = .ok (.istore_n 2, 1) := by decide +kernel
theorem dX7_mendedNow_4 : decode cX7_mendedNow 4 = .ok (.iload_n 2, 1) := by decide +kernel
theorem dX7_mendedNow_5 : decode cX7_mendedNow 5 = .ok (.aload_n 0, 1) := by decide +kernel
theorem dX7_mendedNow_6 : decode cX7_mendedNow 6 = .ok (.getfield 87, 3) := by decide +kernel
theorem dX7_mendedNow_9 : decode cX7_mendedNow 9 = .ok (.if_icmp .ge 27, 3) := by decide +kernel
theorem dX7_mendedNow_12 : decode cX7_mendedNow 12 = .ok (.iload_n 1, 1) := by decide +kernel
theorem dX7_mendedNow_13 : decode cX7_mendedNow 13 = .ok (.aload_n 0, 1) := by decide +kernel
theorem dX7_mendedNow_14 : decode cX7_mendedNow 14 = .ok (.iload_n 2, 1) := by decide +kernel
theorem dX7_mendedNow_15 : decode cX7_mendedNow 15 = .ok (.invokevirtual 152, 3) := by decide +kernel
theorem dX7_mendedNow_18 : decode cX7_mendedNow 18 = .ok (.ifCond .eq 9, 3) := by decide +kernel
theorem dX7_mendedNow_21 : decode cX7_mendedNow 21 = .ok (.iconst 1, 1) := by decide +kernel
theorem dX7_mendedNow_22 : decode cX7_mendedNow 22 = .ok (.iload_n 2, 1) := by decide +kernel
theorem dX7_mendedNow_23 : decode cX7_mendedNow 23 = .ok (.ishl, 1) := by decide +kernel
theorem dX7_mendedNow_24 : decode cX7_mendedNow 24 = .ok (.goto 4, 3) := by decide +kernel
theorem dX7_mendedNow_27 : decode cX7_mendedNow 27 = .ok (.iconst 0, 1) := by decide +kernel
theorem dX7_mendedNow_28 : decode cX7_mendedNow 28 = .ok (.ior, 1) := by decide +kernel
theorem dX7_mendedNow_29 : decode cX7_mendedNow 29 = .ok (.istore_n 1, 1) := by decide +kernel
theorem dX7_mendedNow_30 : decode cX7_mendedNow 30 = .ok (.iinc 2 1, 3) := by decide +kernel
theorem dX7_mendedNow_33 : decode cX7_mendedNow 33 = .ok (.goto (-29), 3) := by decide +kernel
theorem dX7_mendedNow_36 : decode cX7_mendedNow 36 = .ok (.iload_n 1, 1) := by decide +kernel
theorem dX7_mendedNow_37 : decode cX7_mendedNow 37 = .ok (.ireturn, 1) := by decide +kernel
theorem dX7_everybody_0 : decode cX7_everybody 0 = .ok (.iconst 1, 1) := by decide +kernel
theorem dX7_everybody_1 : decode cX7_everybody 1 = .ok (.aload_n 0, 1) := by decide +kernel
theorem dX7_everybody_2 : decode cX7_everybody 2 = .ok (.getfield 87, 3) := by decide +kernel
theorem dX7_everybody_5 : decode cX7_everybody 5 = .ok (.ishl, 1) := by decide +kernel
theorem dX7_everybody_6 : decode cX7_everybody 6 = .ok (.iconst 1, 1) := by decide +kernel
theorem dX7_everybody_7 : decode cX7_everybody 7 = .ok (.isub, 1) := by decide +kernel
theorem dX7_everybody_8 : decode cX7_everybody 8 = .ok (.ireturn, 1) := by decide +kernel
theorem dX7_sees_0 : decode cX7_sees 0 = .ok (.aload_n 0, 1) := by decide +kernel
theorem dX7_sees_1 : decode cX7_sees 1 = .ok (.getfield 34, 3) := by decide +kernel
theorem dX7_sees_4 : decode cX7_sees 4 = .ok (.iload_n 1, 1) := by decide +kernel
theorem dX7_sees_5 : decode cX7_sees 5 = .ok (.iaload, 1) := by decide +kernel
theorem dX7_sees_6 : decode cX7_sees 6 = .ok (.istore_n 2, 1) := by decide +kernel
theorem dX7_sees_7 : decode cX7_sees 7 = .ok (.aload_n 0, 1) := by decide +kernel
theorem dX7_sees_8 : decode cX7_sees 8 = .ok (.getfield 43, 3) := by decide +kernel
theorem dX7_sees_11 : decode cX7_sees 11 = .ok (.iload_n 1, 1) := by decide +kernel
theorem dX7_sees_12 : decode cX7_sees 12 = .ok (.dup2, 1) := by decide +kernel
theorem dX7_sees_13 : decode cX7_sees 13 = .ok (.iaload, 1) := by decide +kernel
theorem dX7_sees_14 : decode cX7_sees 14 = .ok (.aload_n 0, 1) := by decide +kernel
theorem dX7_sees_15 : decode cX7_sees 15 = .ok (.getfield 37, 3) := by decide +kernel
theorem dX7_sees_18 : decode cX7_sees 18 = .ok (.iload_n 2, 1) := by decide +kernel
theorem dX7_sees_19 : decode cX7_sees 19 = .ok (.iaload, 1) := by decide +kernel
theorem dX7_sees_20 : decode cX7_sees 20 = .ok (.ior, 1) := by decide +kernel
theorem dX7_sees_21 : decode cX7_sees 21 = .ok (.iastore, 1) := by decide +kernel
theorem dX7_sees_22 : decode cX7_sees 22 = .ok (.aload_n 0, 1) := by decide +kernel
theorem dX7_sees_23 : decode cX7_sees 23 = .ok (.getfield 46, 3) := by decide +kernel
theorem dX7_sees_26 : decode cX7_sees 26 = .ok (.iload_n 1, 1) := by decide +kernel
theorem dX7_sees_27 : decode cX7_sees 27 = .ok (.dup2, 1) := by decide +kernel
theorem dX7_sees_28 : decode cX7_sees 28 = .ok (.iaload, 1) := by decide +kernel
theorem dX7_sees_29 : decode cX7_sees 29 = .ok (.aload_n 0, 1) := by decide +kernel
theorem dX7_sees_30 : decode cX7_sees 30 = .ok (.getfield 37, 3) := by decide +kernel
theorem dX7_sees_33 : decode cX7_sees 33 = .ok (.iload_n 2, 1) := by decide +kernel
theorem dX7_sees_34 : decode cX7_sees 34 = .ok (.iaload, 1) := by decide +kernel
theorem dX7_sees_35 : decode cX7_sees 35 = .ok (.aload_n 0, 1) := by decide +kernel
theorem dX7_sees_36 : decode cX7_sees 36 = .ok (.getfield 16, 3) := by decide +kernel
theorem dX7_sees_39 : decode cX7_sees 39 = .ok (.iload_n 1, 1) := by decide +kernel
theorem dX7_sees_40 : decode cX7_sees 40 = .ok (.iaload, 1) := by decide +kernel
theorem dX7_sees_41 : decode cX7_sees 41 = .ok (.invokestatic 149, 3) := by decide +kernel
theorem dX7_sees_44 : decode cX7_sees 44 = .ok (.ifCond .eq 9, 3) := by decide +kernel
theorem dX7_sees_47 : decode cX7_sees 47 = .ok (.iconst 1, 1) := by decide +kernel
theorem dX7_sees_48 : decode cX7_sees 48 = .ok (.iload_n 2, 1) := by decide +kernel
theorem dX7_sees_49 : decode cX7_sees 49 = .ok (.ishl, 1) := by decide +kernel
theorem dX7_sees_50 : decode cX7_sees 50 = .ok (.goto 4, 3) := by decide +kernel
theorem dX7_sees_53 : decode cX7_sees 53 = .ok (.iconst 0, 1) := by decide +kernel
theorem dX7_sees_54 : decode cX7_sees 54 = .ok (.ior, 1) := by decide +kernel
theorem dX7_sees_55 : decode cX7_sees 55 = .ok (.iastore, 1) := by decide +kernel
theorem dX7_sees_56 : decode cX7_sees 56 = .ok (.return_, 1) := by decide +kernel
theorem dX7_begin_0 : decode cX7_begin 0 = .ok (.iconst 0, 1) := by decide +kernel
theorem dX7_begin_1 : decode cX7_begin 1 = .ok (.istore_n 1, 1) := by decide +kernel
theorem dX7_begin_2 : decode cX7_begin 2 = .ok (.iload_n 1, 1) := by decide +kernel
theorem dX7_begin_3 : decode cX7_begin 3 = .ok (.aload_n 0, 1) := by decide +kernel
theorem dX7_begin_4 : decode cX7_begin 4 = .ok (.getfield 87, 3) := by decide +kernel
theorem dX7_begin_7 : decode cX7_begin 7 = .ok (.if_icmp .ge 49, 3) := by decide +kernel
theorem dX7_begin_10 : decode cX7_begin 10 = .ok (.aload_n 0, 1) := by decide +kernel
theorem dX7_begin_11 : decode cX7_begin 11 = .ok (.getfield 34, 3) := by decide +kernel
theorem dX7_begin_14 : decode cX7_begin 14 = .ok (.iload_n 1, 1) := by decide +kernel
theorem dX7_begin_15 : decode cX7_begin 15 = .ok (.iload_n 1, 1) := by decide +kernel
theorem dX7_begin_16 : decode cX7_begin 16 = .ok (.iastore, 1) := by decide +kernel
theorem dX7_begin_17 : decode cX7_begin 17 = .ok (.aload_n 0, 1) := by decide +kernel
theorem dX7_begin_18 : decode cX7_begin 18 = .ok (.getfield 37, 3) := by decide +kernel
theorem dX7_begin_21 : decode cX7_begin 21 = .ok (.iload_n 1, 1) := by decide +kernel
theorem dX7_begin_22 : decode cX7_begin 22 = .ok (.aload_n 0, 1) := by decide +kernel
theorem dX7_begin_23 : decode cX7_begin 23 = .ok (.getfield 13, 3) := by decide +kernel
theorem dX7_begin_26 : decode cX7_begin 26 = .ok (.iload_n 1, 1) := by decide +kernel
theorem dX7_begin_27 : decode cX7_begin 27 = .ok (.iaload, 1) := by decide +kernel
theorem dX7_begin_28 : decode cX7_begin 28 = .ok (.iastore, 1) := by decide +kernel
theorem dX7_begin_29 : decode cX7_begin 29 = .ok (.aload_n 0, 1) := by decide +kernel
theorem dX7_begin_30 : decode cX7_begin 30 = .ok (.getfield 40, 3) := by decide +kernel
theorem dX7_begin_33 : decode cX7_begin 33 = .ok (.iload_n 1, 1) := by decide +kernel
theorem dX7_begin_34 : decode cX7_begin 34 = .ok (.iconst 0, 1) := by decide +kernel
theorem dX7_begin_35 : decode cX7_begin 35 = .ok (.iastore, 1) := by decide +kernel
theorem dX7_begin_36 : decode cX7_begin 36 = .ok (.aload_n 0, 1) := by decide +kernel
theorem dX7_begin_37 : decode cX7_begin 37 = .ok (.getfield 43, 3) := by decide +kernel
theorem dX7_begin_40 : decode cX7_begin 40 = .ok (.iload_n 1, 1) := by decide +kernel
theorem dX7_begin_41 : decode cX7_begin 41 = .ok (.iconst 0, 1) := by decide +kernel
theorem dX7_begin_42 : decode cX7_begin 42 = .ok (.iastore, 1) := by decide +kernel
theorem dX7_begin_43 : decode cX7_begin 43 = .ok (.aload_n 0, 1) := by decide +kernel
theorem dX7_begin_44 : decode cX7_begin 44 = .ok (.getfield 46, 3) := by decide +kernel
theorem dX7_begin_47 : decode cX7_begin 47 = .ok (.iload_n 1, 1) := by decide +kernel
theorem dX7_begin_48 : decode cX7_begin 48 = .ok (.iconst 0, 1) := by decide +kernel
theorem dX7_begin_49 : decode cX7_begin 49 = .ok (.iastore, 1) := by decide +kernel
theorem dX7_begin_50 : decode cX7_begin 50 = .ok (.iinc 1 1, 3) := by decide +kernel
theorem dX7_begin_53 : decode cX7_begin 53 = .ok (.goto (-51), 3) := by decide +kernel
theorem dX7_begin_56 : decode cX7_begin 56 = .ok (.iconst 0, 1) := by decide +kernel
theorem dX7_begin_57 : decode cX7_begin 57 = .ok (.istore_n 1, 1) := by decide +kernel
theorem dX7_begin_58 : decode cX7_begin 58 = .ok (.iload_n 1, 1) := by decide +kernel
theorem dX7_begin_59 : decode cX7_begin 59 = .ok (.aload_n 0, 1) := by decide +kernel
theorem dX7_begin_60 : decode cX7_begin 60 = .ok (.getfield 87, 3) := by decide +kernel
theorem dX7_begin_63 : decode cX7_begin 63 = .ok (.if_icmp .ge 14, 3) := by decide +kernel
theorem dX7_begin_66 : decode cX7_begin 66 = .ok (.aload_n 0, 1) := by decide +kernel
theorem dX7_begin_67 : decode cX7_begin 67 = .ok (.iload_n 1, 1) := by decide +kernel
theorem dX7_begin_68 : decode cX7_begin 68 = .ok (.invokevirtual 155, 3) := by decide +kernel
theorem dX7_begin_71 : decode cX7_begin 71 = .ok (.iinc 1 1, 3) := by decide +kernel
theorem dX7_begin_74 : decode cX7_begin 74 = .ok (.goto (-16), 3) := by decide +kernel
theorem dX7_begin_77 : decode cX7_begin 77 = .ok (.aload_n 0, 1) := by decide +kernel
theorem dX7_begin_78 : decode cX7_begin 78 = .ok (.bipush (-9), 2) := by decide +kernel
theorem dX7_begin_80 : decode cX7_begin 80 = .ok (.putfield 159, 3) := by decide +kernel
theorem dX7_begin_83 : decode cX7_begin 83 = .ok (.aload_n 0, 1) := by decide +kernel
theorem dX7_begin_84 : decode cX7_begin 84 = .ok (.bipush (-9), 2) := by decide +kernel
theorem dX7_begin_86 : decode cX7_begin 86 = .ok (.putfield 162, 3) := by decide +kernel
theorem dX7_begin_89 : decode cX7_begin 89 = .ok (.return_, 1) := by decide +kernel
theorem dX7_canLend_0 : decode cX7_canLend 0 = .ok (.iload_n 1, 1) := by decide +kernel
theorem dX7_canLend_1 : decode cX7_canLend 1 = .ok (.iload_n 2, 1) := by decide +kernel
theorem dX7_canLend_2 : decode cX7_canLend 2 = .ok (.if_icmp .eq 35, 3) := by decide +kernel
theorem dX7_canLend_5 : decode cX7_canLend 5 = .ok (.aload_n 0, 1) := by decide +kernel
theorem dX7_canLend_6 : decode cX7_canLend 6 = .ok (.getfield 37, 3) := by decide +kernel
theorem dX7_canLend_9 : decode cX7_canLend 9 = .ok (.aload_n 0, 1) := by decide +kernel
theorem dX7_canLend_10 : decode cX7_canLend 10 = .ok (.getfield 34, 3) := by decide +kernel
theorem dX7_canLend_13 : decode cX7_canLend 13 = .ok (.iload_n 1, 1) := by decide +kernel
theorem dX7_canLend_14 : decode cX7_canLend 14 = .ok (.iaload, 1) := by decide +kernel
theorem dX7_canLend_15 : decode cX7_canLend 15 = .ok (.iaload, 1) := by decide +kernel
theorem dX7_canLend_16 : decode cX7_canLend 16 = .ok (.ifCond .eq 21, 3) := by decide +kernel
theorem dX7_canLend_19 : decode cX7_canLend 19 = .ok (.aload_n 0, 1) := by decide +kernel
theorem dX7_canLend_20 : decode cX7_canLend 20 = .ok (.getfield 37, 3) := by decide +kernel
theorem dX7_canLend_23 : decode cX7_canLend 23 = .ok (.aload_n 0, 1) := by decide +kernel
theorem dX7_canLend_24 : decode cX7_canLend 24 = .ok (.getfield 34, 3) := by decide +kernel
theorem dX7_canLend_27 : decode cX7_canLend 27 = .ok (.iload_n 2, 1) := by decide +kernel
theorem dX7_canLend_28 : decode cX7_canLend 28 = .ok (.iaload, 1) := by decide +kernel
theorem dX7_canLend_29 : decode cX7_canLend 29 = .ok (.iaload, 1) := by decide +kernel
theorem dX7_canLend_30 : decode cX7_canLend 30 = .ok (.ifCond .eq 7, 3) := by decide +kernel
theorem dX7_canLend_33 : decode cX7_canLend 33 = .ok (.iconst 1, 1) := by decide +kernel
theorem dX7_canLend_34 : decode cX7_canLend 34 = .ok (.goto 4, 3) := by decide +kernel
theorem dX7_canLend_37 : decode cX7_canLend 37 = .ok (.iconst 0, 1) := by decide +kernel
theorem dX7_canLend_38 : decode cX7_canLend 38 = .ok (.ireturn, 1) := by decide +kernel
theorem dX7_wearsOff_0 : decode cX7_wearsOff 0 = .ok (.aload_n 0, 1) := by decide +kernel
theorem dX7_wearsOff_1 : decode cX7_wearsOff 1 = .ok (.getfield 40, 3) := by decide +kernel
theorem dX7_wearsOff_4 : decode cX7_wearsOff 4 = .ok (.iload_n 1, 1) := by decide +kernel
theorem dX7_wearsOff_5 : decode cX7_wearsOff 5 = .ok (.dup2, 1) := by decide +kernel
theorem dX7_wearsOff_6 : decode cX7_wearsOff 6 = .ok (.iaload, 1) := by decide +kernel
theorem dX7_wearsOff_7 : decode cX7_wearsOff 7 = .ok (.iconst 1, 1) := by decide +kernel
theorem dX7_wearsOff_8 : decode cX7_wearsOff 8 = .ok (.iadd, 1) := by decide +kernel
theorem dX7_wearsOff_9 : decode cX7_wearsOff 9 = .ok (.iastore, 1) := by decide +kernel
theorem dX7_wearsOff_10 : decode cX7_wearsOff 10 = .ok (.aload_n 0, 1) := by decide +kernel
theorem dX7_wearsOff_11 : decode cX7_wearsOff 11 = .ok (.getfield 40, 3) := by decide +kernel
theorem dX7_wearsOff_14 : decode cX7_wearsOff 14 = .ok (.iload_n 1, 1) := by decide +kernel
theorem dX7_wearsOff_15 : decode cX7_wearsOff 15 = .ok (.iaload, 1) := by decide +kernel
theorem dX7_wearsOff_16 : decode cX7_wearsOff 16 = .ok (.aload_n 0, 1) := by decide +kernel
theorem dX7_wearsOff_17 : decode cX7_wearsOff 17 = .ok (.iload_n 1, 1) := by decide +kernel
theorem dX7_wearsOff_18 : decode cX7_wearsOff 18 = .ok (.invokevirtual 142, 3) := by decide +kernel
theorem dX7_wearsOff_21 : decode cX7_wearsOff 21 = .ok (.if_icmp .le 20, 3) := by decide +kernel
theorem dX7_wearsOff_24 : decode cX7_wearsOff 24 = .ok (.aload_n 0, 1) := by decide +kernel
theorem dX7_wearsOff_25 : decode cX7_wearsOff 25 = .ok (.getfield 37, 3) := by decide +kernel
theorem dX7_wearsOff_28 : decode cX7_wearsOff 28 = .ok (.iload_n 1, 1) := by decide +kernel
theorem dX7_wearsOff_29 : decode cX7_wearsOff 29 = .ok (.dup2, 1) := by decide +kernel
theorem dX7_wearsOff_30 : decode cX7_wearsOff 30 = .ok (.iaload, 1) := by decide +kernel
theorem dX7_wearsOff_31 : decode cX7_wearsOff 31 = .ok (.aload_n 0, 1) := by decide +kernel
theorem dX7_wearsOff_32 : decode cX7_wearsOff 32 = .ok (.getfield 37, 3) := by decide +kernel
theorem dX7_wearsOff_35 : decode cX7_wearsOff 35 = .ok (.iload_n 1, 1) := by decide +kernel
theorem dX7_wearsOff_36 : decode cX7_wearsOff 36 = .ok (.iaload, 1) := by decide +kernel
theorem dX7_wearsOff_37 : decode cX7_wearsOff 37 = .ok (.iconst 1, 1) := by decide +kernel
theorem dX7_wearsOff_38 : decode cX7_wearsOff 38 = .ok (.isub, 1) := by decide +kernel
theorem dX7_wearsOff_39 : decode cX7_wearsOff 39 = .ok (.iand, 1) := by decide +kernel
theorem dX7_wearsOff_40 : decode cX7_wearsOff 40 = .ok (.iastore, 1) := by decide +kernel
theorem dX7_wearsOff_41 : decode cX7_wearsOff 41 = .ok (.return_, 1) := by decide +kernel
theorem dX7_lend_0 : decode cX7_lend 0 = .ok (.aload_n 0, 1) := by decide +kernel
theorem dX7_lend_1 : decode cX7_lend 1 = .ok (.getfield 34, 3) := by decide +kernel
theorem dX7_lend_4 : decode cX7_lend 4 = .ok (.iload_n 1, 1) := by decide +kernel
theorem dX7_lend_5 : decode cX7_lend 5 = .ok (.iaload, 1) := by decide +kernel
theorem dX7_lend_6 : decode cX7_lend 6 = .ok (.istore_n 3, 1) := by decide +kernel
theorem dX7_lend_7 : decode cX7_lend 7 = .ok (.aload_n 0, 1) := by decide +kernel
theorem dX7_lend_8 : decode cX7_lend 8 = .ok (.getfield 34, 3) := by decide +kernel
theorem dX7_lend_11 : decode cX7_lend 11 = .ok (.iload_n 1, 1) := by decide +kernel
theorem dX7_lend_12 : decode cX7_lend 12 = .ok (.aload_n 0, 1) := by decide +kernel
theorem dX7_lend_13 : decode cX7_lend 13 = .ok (.getfield 34, 3) := by decide +kernel
theorem dX7_lend_16 : decode cX7_lend 16 = .ok (.iload_n 2, 1) := by decide +kernel
theorem dX7_lend_17 : decode cX7_lend 17 = .ok (.iaload, 1) := by decide +kernel
theorem dX7_lend_18 : decode cX7_lend 18 = .ok (.iastore, 1) := by decide +kernel
theorem dX7_lend_19 : decode cX7_lend 19 = .ok (.aload_n 0, 1) := by decide +kernel
theorem dX7_lend_20 : decode cX7_lend 20 = .ok (.getfield 34, 3) := by decide +kernel
theorem dX7_lend_23 : decode cX7_lend 23 = .ok (.iload_n 2, 1) := by decide +kernel
theorem dX7_lend_24 : decode cX7_lend 24 = .ok (.iload_n 3, 1) := by decide +kernel
theorem dX7_lend_25 : decode cX7_lend 25 = .ok (.iastore, 1) := by decide +kernel
theorem dX7_lend_26 : decode cX7_lend 26 = .ok (.aload_n 0, 1) := by decide +kernel
theorem dX7_lend_27 : decode cX7_lend 27 = .ok (.aload_n 0, 1) := by decide +kernel
theorem dX7_lend_28 : decode cX7_lend 28 = .ok (.getfield 34, 3) := by decide +kernel
theorem dX7_lend_31 : decode cX7_lend 31 = .ok (.iload_n 1, 1) := by decide +kernel
theorem dX7_lend_32 : decode cX7_lend 32 = .ok (.iaload, 1) := by decide +kernel
theorem dX7_lend_33 : decode cX7_lend 33 = .ok (.invokevirtual 165, 3) := by decide +kernel
theorem dX7_lend_36 : decode cX7_lend 36 = .ok (.aload_n 0, 1) := by decide +kernel
theorem dX7_lend_37 : decode cX7_lend 37 = .ok (.aload_n 0, 1) := by decide +kernel
theorem dX7_lend_38 : decode cX7_lend 38 = .ok (.getfield 34, 3) := by decide +kernel
theorem dX7_lend_41 : decode cX7_lend 41 = .ok (.iload_n 2, 1) := by decide +kernel
theorem dX7_lend_42 : decode cX7_lend 42 = .ok (.iaload, 1) := by decide +kernel
theorem dX7_lend_43 : decode cX7_lend 43 = .ok (.invokevirtual 165, 3) := by decide +kernel
theorem dX7_lend_46 : decode cX7_lend 46 = .ok (.aload_n 0, 1) := by decide +kernel
theorem dX7_lend_47 : decode cX7_lend 47 = .ok (.iload_n 1, 1) := by decide +kernel
theorem dX7_lend_48 : decode cX7_lend 48 = .ok (.invokevirtual 155, 3) := by decide +kernel
theorem dX7_lend_51 : decode cX7_lend 51 = .ok (.aload_n 0, 1) := by decide +kernel
theorem dX7_lend_52 : decode cX7_lend 52 = .ok (.iload_n 2, 1) := by decide +kernel
theorem dX7_lend_53 : decode cX7_lend 53 = .ok (.invokevirtual 155, 3) := by decide +kernel
theorem dX7_lend_56 : decode cX7_lend 56 = .ok (.return_, 1) := by decide +kernel
theorem dX7_goLoans_0 : decode cX7_goLoans 0 = .ok (.aload_n 0, 1) := by decide +kernel
theorem dX7_goLoans_1 : decode cX7_goLoans 1 = .ok (.invokevirtual 168, 3) := by decide +kernel
theorem dX7_goLoans_4 : decode cX7_goLoans 4 = .ok (.aload_n 0, 1) := by decide +kernel
theorem dX7_goLoans_5 : decode cX7_goLoans 5 = .ok (.invokevirtual 171, 3) := by decide +kernel
theorem dX7_goLoans_8 : decode cX7_goLoans 8 = .ok (.aload_n 0, 1) := by decide +kernel
theorem dX7_goLoans_9 : decode cX7_goLoans 9 = .ok (.invokevirtual 175, 3) := by decide +kernel
theorem dX7_goLoans_12 : decode cX7_goLoans 12 = .ok (.if_icmp .ne 7, 3) := by decide +kernel
theorem dX7_goLoans_15 : decode cX7_goLoans 15 = .ok (.iconst 1, 1) := by decide +kernel
theorem dX7_goLoans_16 : decode cX7_goLoans 16 = .ok (.goto 4, 3) := by decide +kernel
theorem dX7_goLoans_19 : decode cX7_goLoans 19 = .ok (.iconst 0, 1) := by decide +kernel
theorem dX7_goLoans_20 : decode cX7_goLoans 20 = .ok (.istore_n 3, 1) := by decide +kernel
theorem dX7_goLoans_21 : decode cX7_goLoans 21 = .ok (.iconst 0, 1) := by decide +kernel
theorem dX7_goLoans_22 : decode cX7_goLoans 22 = .ok (.istore 4, 2) := by decide +kernel
theorem dX7_goLoans_24 : decode cX7_goLoans 24 = .ok (.iload 4, 2) := by decide +kernel
theorem dX7_goLoans_26 : decode cX7_goLoans 26 = .ok (.iload_n 2, 1) := by decide +kernel
theorem dX7_goLoans_27 : decode cX7_goLoans 27 = .ok (.if_icmp .ge 107, 3) := by decide +kernel
theorem dX7_goLoans_30 : decode cX7_goLoans 30 = .ok (.aload_n 0, 1) := by decide +kernel
theorem dX7_goLoans_31 : decode cX7_goLoans 31 = .ok (.getfield 159, 3) := by decide +kernel
theorem dX7_goLoans_34 : decode cX7_goLoans 34 = .ok (.ifCond .ge 100, 3) := by decide +kernel
theorem dX7_goLoans_37 : decode cX7_goLoans 37 = .ok (.aload_n 0, 1) := by decide +kernel
theorem dX7_goLoans_38 : decode cX7_goLoans 38 = .ok (.getfield 71, 3) := by decide +kernel
theorem dX7_goLoans_41 : decode cX7_goLoans 41 = .ok (.iload_n 1, 1) := by decide +kernel
theorem dX7_goLoans_42 : decode cX7_goLoans 42 = .ok (.iconst 2, 1) := by decide +kernel
theorem dX7_goLoans_43 : decode cX7_goLoans 43 = .ok (.iload 4, 2) := by decide +kernel
theorem dX7_goLoans_45 : decode cX7_goLoans 45 = .ok (.imul, 1) := by decide +kernel
theorem dX7_goLoans_46 : decode cX7_goLoans 46 = .ok (.iadd, 1) := by decide +kernel
theorem dX7_goLoans_47 : decode cX7_goLoans 47 = .ok (.iaload, 1) := by decide +kernel
theorem dX7_goLoans_48 : decode cX7_goLoans 48 = .ok (.istore 5, 2) := by decide +kernel
theorem dX7_goLoans_50 : decode cX7_goLoans 50 = .ok (.aload_n 0, 1) := by decide +kernel
theorem dX7_goLoans_51 : decode cX7_goLoans 51 = .ok (.getfield 71, 3) := by decide +kernel
theorem dX7_goLoans_54 : decode cX7_goLoans 54 = .ok (.iload_n 1, 1) := by decide +kernel
theorem dX7_goLoans_55 : decode cX7_goLoans 55 = .ok (.iconst 2, 1) := by decide +kernel
theorem dX7_goLoans_56 : decode cX7_goLoans 56 = .ok (.iload 4, 2) := by decide +kernel
theorem dX7_goLoans_58 : decode cX7_goLoans 58 = .ok (.imul, 1) := by decide +kernel
theorem dX7_goLoans_59 : decode cX7_goLoans 59 = .ok (.iadd, 1) := by decide +kernel
theorem dX7_goLoans_60 : decode cX7_goLoans 60 = .ok (.iconst 1, 1) := by decide +kernel
theorem dX7_goLoans_61 : decode cX7_goLoans 61 = .ok (.iadd, 1) := by decide +kernel
theorem dX7_goLoans_62 : decode cX7_goLoans 62 = .ok (.iaload, 1) := by decide +kernel
theorem dX7_goLoans_63 : decode cX7_goLoans 63 = .ok (.istore 6, 2) := by decide +kernel
theorem dX7_goLoans_65 : decode cX7_goLoans 65 = .ok (.aload_n 0, 1) := by decide +kernel
theorem dX7_goLoans_66 : decode cX7_goLoans 66 = .ok (.iload 5, 2) := by decide +kernel
theorem dX7_goLoans_68 : decode cX7_goLoans 68 = .ok (.iload 6, 2) := by decide +kernel
theorem dX7_goLoans_70 : decode cX7_goLoans 70 = .ok (.invokevirtual 178, 3) := by decide +kernel
theorem dX7_goLoans_73 : decode cX7_goLoans 73 = .ok (.ifCond .eq 49, 3) := by decide +kernel
theorem dX7_goLoans_76 : decode cX7_goLoans 76 = .ok (.aload_n 0, 1) := by decide +kernel
theorem dX7_goLoans_77 : decode cX7_goLoans 77 = .ok (.iload 5, 2) := by decide +kernel
theorem dX7_goLoans_79 : decode cX7_goLoans 79 = .ok (.iload 6, 2) := by decide +kernel
theorem dX7_goLoans_81 : decode cX7_goLoans 81 = .ok (.invokevirtual 181, 3) := by decide +kernel
theorem dX7_goLoans_84 : decode cX7_goLoans 84 = .ok (.aload_n 0, 1) := by decide +kernel
theorem dX7_goLoans_85 : decode cX7_goLoans 85 = .ok (.iload_n 3, 1) := by decide +kernel
theorem dX7_goLoans_86 : decode cX7_goLoans 86 = .ok (.ifCond .ne 26, 3) := by decide +kernel
theorem dX7_goLoans_89 : decode cX7_goLoans 89 = .ok (.aload_n 0, 1) := by decide +kernel
theorem dX7_goLoans_90 : decode cX7_goLoans 90 = .ok (.getfield 162, 3) := by decide +kernel
theorem dX7_goLoans_93 : decode cX7_goLoans 93 = .ok (.ifCond .ge 19, 3) := by decide +kernel
theorem dX7_goLoans_96 : decode cX7_goLoans 96 = .ok (.aload_n 0, 1) := by decide +kernel
theorem dX7_goLoans_97 : decode cX7_goLoans 97 = .ok (.invokevirtual 171, 3) := by decide +kernel
theorem dX7_goLoans_100 : decode cX7_goLoans 100 = .ok (.aload_n 0, 1) := by decide +kernel
theorem dX7_goLoans_101 : decode cX7_goLoans 101 = .ok (.invokevirtual 175, 3) := by decide +kernel
theorem dX7_goLoans_104 : decode cX7_goLoans 104 = .ok (.if_icmp .ne 8, 3) := by decide +kernel
theorem dX7_goLoans_107 : decode cX7_goLoans 107 = .ok (.iload 4, 2) := by decide +kernel
theorem dX7_goLoans_109 : decode cX7_goLoans 109 = .ok (.goto 7, 3) := by decide +kernel
theorem dX7_goLoans_112 : decode cX7_goLoans 112 = .ok (.aload_n 0, 1) := by decide +kernel
theorem dX7_goLoans_113 : decode cX7_goLoans 113 = .ok (.getfield 162, 3) := by decide +kernel
theorem dX7_goLoans_116 : decode cX7_goLoans 116 = .ok (.putfield 162, 3) := by decide +kernel
theorem dX7_goLoans_119 : decode cX7_goLoans 119 = .ok (.goto 9, 3) := by decide +kernel
theorem dX7_goLoans_122 : decode cX7_goLoans 122 = .ok (.aload_n 0, 1) := by decide +kernel
theorem dX7_goLoans_123 : decode cX7_goLoans 123 = .ok (.iload 4, 2) := by decide +kernel
theorem dX7_goLoans_125 : decode cX7_goLoans 125 = .ok (.putfield 159, 3) := by decide +kernel
theorem dX7_goLoans_128 : decode cX7_goLoans 128 = .ok (.iinc 4 1, 3) := by decide +kernel
theorem dX7_goLoans_131 : decode cX7_goLoans 131 = .ok (.goto (-107), 3) := by decide +kernel
theorem dX7_goLoans_134 : decode cX7_goLoans 134 = .ok (.return_, 1) := by decide +kernel
theorem dX7_homeBy_0 : decode cX7_homeBy 0 = .ok (.iconst 0, 1) := by decide +kernel
theorem dX7_homeBy_1 : decode cX7_homeBy 1 = .ok (.istore_n 1, 1) := by decide +kernel
theorem dX7_homeBy_2 : decode cX7_homeBy 2 = .ok (.iconst 0, 1) := by decide +kernel
theorem dX7_homeBy_3 : decode cX7_homeBy 3 = .ok (.istore_n 2, 1) := by decide +kernel
theorem dX7_homeBy_4 : decode cX7_homeBy 4 = .ok (.iconst 0, 1) := by decide +kernel
theorem dX7_homeBy_5 : decode cX7_homeBy 5 = .ok (.istore_n 3, 1) := by decide +kernel
theorem dX7_homeBy_6 : decode cX7_homeBy 6 = .ok (.iload_n 3, 1) := by decide +kernel
theorem dX7_homeBy_7 : decode cX7_homeBy 7 = .ok (.aload_n 0, 1) := by decide +kernel
theorem dX7_homeBy_8 : decode cX7_homeBy 8 = .ok (.getfield 87, 3) := by decide +kernel
theorem dX7_homeBy_11 : decode cX7_homeBy 11 = .ok (.if_icmp .ge 56, 3) := by decide +kernel
theorem dX7_homeBy_14 : decode cX7_homeBy 14 = .ok (.iload_n 2, 1) := by decide +kernel
theorem dX7_homeBy_15 : decode cX7_homeBy 15 = .ok (.iload_n 1, 1) := by decide +kernel
theorem dX7_homeBy_16 : decode cX7_homeBy 16 = .ok (.iload_n 3, 1) := by decide +kernel
theorem dX7_homeBy_17 : decode cX7_homeBy 17 = .ok (.invokestatic 149, 3) := by decide +kernel
theorem dX7_homeBy_20 : decode cX7_homeBy 20 = .ok (.ifCond .eq 7, 3) := by decide +kernel
theorem dX7_homeBy_23 : decode cX7_homeBy 23 = .ok (.iconst 0, 1) := by decide +kernel
theorem dX7_homeBy_24 : decode cX7_homeBy 24 = .ok (.goto 4, 3) := by decide +kernel
theorem dX7_homeBy_27 : decode cX7_homeBy 27 = .ok (.iconst 1, 1) := by decide +kernel
theorem dX7_homeBy_28 : decode cX7_homeBy 28 = .ok (.iadd, 1) := by decide +kernel
theorem dX7_homeBy_29 : decode cX7_homeBy 29 = .ok (.istore_n 2, 1) := by decide +kernel
theorem dX7_homeBy_30 : decode cX7_homeBy 30 = .ok (.iload_n 3, 1) := by decide +kernel
theorem dX7_homeBy_31 : decode cX7_homeBy 31 = .ok (.istore 4, 2) := by decide +kernel
theorem dX7_homeBy_33 : decode cX7_homeBy 33 = .ok (.iload_n 1, 1) := by decide +kernel
theorem dX7_homeBy_34 : decode cX7_homeBy 34 = .ok (.iload 4, 2) := by decide +kernel
theorem dX7_homeBy_36 : decode cX7_homeBy 36 = .ok (.invokestatic 149, 3) := by decide +kernel
theorem dX7_homeBy_39 : decode cX7_homeBy 39 = .ok (.ifCond .ne 22, 3) := by decide +kernel
theorem dX7_homeBy_42 : decode cX7_homeBy 42 = .ok (.iload_n 1, 1) := by decide +kernel
theorem dX7_homeBy_43 : decode cX7_homeBy 43 = .ok (.iconst 1, 1) := by decide +kernel
theorem dX7_homeBy_44 : decode cX7_homeBy 44 = .ok (.iload 4, 2) := by decide +kernel
theorem dX7_homeBy_46 : decode cX7_homeBy 46 = .ok (.ishl, 1) := by decide +kernel
theorem dX7_homeBy_47 : decode cX7_homeBy 47 = .ok (.ior, 1) := by decide +kernel
theorem dX7_homeBy_48 : decode cX7_homeBy 48 = .ok (.istore_n 1, 1) := by decide +kernel
theorem dX7_homeBy_49 : decode cX7_homeBy 49 = .ok (.aload_n 0, 1) := by decide +kernel
theorem dX7_homeBy_50 : decode cX7_homeBy 50 = .ok (.getfield 34, 3) := by decide +kernel
theorem dX7_homeBy_53 : decode cX7_homeBy 53 = .ok (.iload 4, 2) := by decide +kernel
theorem dX7_homeBy_55 : decode cX7_homeBy 55 = .ok (.iaload, 1) := by decide +kernel
theorem dX7_homeBy_56 : decode cX7_homeBy 56 = .ok (.istore 4, 2) := by decide +kernel
theorem dX7_homeBy_58 : decode cX7_homeBy 58 = .ok (.goto (-25), 3) := by decide +kernel
theorem dX7_homeBy_61 : decode cX7_homeBy 61 = .ok (.iinc 3 1, 3) := by decide +kernel
theorem dX7_homeBy_64 : decode cX7_homeBy 64 = .ok (.goto (-58), 3) := by decide +kernel
theorem dX7_homeBy_67 : decode cX7_homeBy 67 = .ok (.aload_n 0, 1) := by decide +kernel
theorem dX7_homeBy_68 : decode cX7_homeBy 68 = .ok (.getfield 87, 3) := by decide +kernel
theorem dX7_homeBy_71 : decode cX7_homeBy 71 = .ok (.iload_n 2, 1) := by decide +kernel
theorem dX7_homeBy_72 : decode cX7_homeBy 72 = .ok (.isub, 1) := by decide +kernel
theorem dX7_homeBy_73 : decode cX7_homeBy 73 = .ok (.ireturn, 1) := by decide +kernel
theorem dX7_pairsBarred_0 : decode cX7_pairsBarred 0 = .ok (.aload_n 0, 1) := by decide +kernel
theorem dX7_pairsBarred_1 : decode cX7_pairsBarred 1 = .ok (.iload_n 1, 1) := by decide +kernel
theorem dX7_pairsBarred_2 : decode cX7_pairsBarred 2 = .ok (.iload_n 2, 1) := by decide +kernel
theorem dX7_pairsBarred_3 : decode cX7_pairsBarred 3 = .ok (.iload_n 3, 1) := by decide +kernel
theorem dX7_pairsBarred_4 : decode cX7_pairsBarred 4 = .ok (.ldc2_w 127, 3) := by decide +kernel
theorem dX7_pairsBarred_7 : decode cX7_pairsBarred 7 = .ok (.iload 4, 2) := by decide +kernel
theorem dX7_pairsBarred_9 : decode cX7_pairsBarred 9 = .ok (.i2l, 1) := by decide +kernel
theorem dX7_pairsBarred_10 : decode cX7_pairsBarred 10 = .ok (.lmul, 1) := by decide +kernel
theorem dX7_pairsBarred_11 : decode cX7_pairsBarred 11 = .ok (.invokevirtual 129, 3) := by decide +kernel
theorem dX7_pairsBarred_14 : decode cX7_pairsBarred 14 = .ok (.istore 5, 2) := by decide +kernel
theorem dX7_pairsBarred_16 : decode cX7_pairsBarred 16 = .ok (.iload 5, 2) := by decide +kernel
theorem dX7_pairsBarred_18 : decode cX7_pairsBarred 18 = .ok (.ifCond .ge 6, 3) := by decide +kernel
theorem dX7_pairsBarred_21 : decode cX7_pairsBarred 21 = .ok (.iload 5, 2) := by decide +kernel
theorem dX7_pairsBarred_23 : decode cX7_pairsBarred 23 = .ok (.ireturn, 1) := by decide +kernel
theorem dX7_pairsBarred_24 : decode cX7_pairsBarred 24 = .ok (.iconst 0, 1) := by decide +kernel
theorem dX7_pairsBarred_25 : decode cX7_pairsBarred 25 = .ok (.istore 6, 2) := by decide +kernel
theorem dX7_pairsBarred_27 : decode cX7_pairsBarred 27 = .ok (.iload 6, 2) := by decide +kernel
theorem dX7_pairsBarred_29 : decode cX7_pairsBarred 29 = .ok (.iconst 2, 1) := by decide +kernel
theorem dX7_pairsBarred_30 : decode cX7_pairsBarred 30 = .ok (.iload 4, 2) := by decide +kernel
theorem dX7_pairsBarred_32 : decode cX7_pairsBarred 32 = .ok (.imul, 1) := by decide +kernel
theorem dX7_pairsBarred_33 : decode cX7_pairsBarred 33 = .ok (.if_icmp .ge 36, 3) := by decide +kernel
theorem dX7_pairsBarred_36 : decode cX7_pairsBarred 36 = .ok (.aload_n 0, 1) := by decide +kernel
theorem dX7_pairsBarred_37 : decode cX7_pairsBarred 37 = .ok (.aload_n 0, 1) := by decide +kernel
theorem dX7_pairsBarred_38 : decode cX7_pairsBarred 38 = .ok (.getfield 71, 3) := by decide +kernel
theorem dX7_pairsBarred_41 : decode cX7_pairsBarred 41 = .ok (.bipush 60, 2) := by decide +kernel
theorem dX7_pairsBarred_43 : decode cX7_pairsBarred 43 = .ok (.iload_n 1, 1) := by decide +kernel
theorem dX7_pairsBarred_44 : decode cX7_pairsBarred 44 = .ok (.imul, 1) := by decide +kernel
theorem dX7_pairsBarred_45 : decode cX7_pairsBarred 45 = .ok (.iload_n 3, 1) := by decide +kernel
theorem dX7_pairsBarred_46 : decode cX7_pairsBarred 46 = .ok (.iadd, 1) := by decide +kernel
theorem dX7_pairsBarred_47 : decode cX7_pairsBarred 47 = .ok (.iload 6, 2) := by decide +kernel
theorem dX7_pairsBarred_49 : decode cX7_pairsBarred 49 = .ok (.iadd, 1) := by decide +kernel
theorem dX7_pairsBarred_50 : decode cX7_pairsBarred 50 = .ok (.iaload, 1) := by decide +kernel
theorem dX7_pairsBarred_51 : decode cX7_pairsBarred 51 = .ok (.invokevirtual 139, 3) := by decide +kernel
theorem dX7_pairsBarred_54 : decode cX7_pairsBarred 54 = .ok (.ifCond .eq 9, 3) := by decide +kernel
theorem dX7_pairsBarred_57 : decode cX7_pairsBarred 57 = .ok (.aload_n 0, 1) := by decide +kernel
theorem dX7_pairsBarred_58 : decode cX7_pairsBarred 58 = .ok (.iconst (-1), 1) := by decide +kernel
theorem dX7_pairsBarred_59 : decode cX7_pairsBarred 59 = .ok (.invokevirtual 124, 3) := by decide +kernel
theorem dX7_pairsBarred_62 : decode cX7_pairsBarred 62 = .ok (.ireturn, 1) := by decide +kernel
theorem dX7_pairsBarred_63 : decode cX7_pairsBarred 63 = .ok (.iinc 6 1, 3) := by decide +kernel
theorem dX7_pairsBarred_66 : decode cX7_pairsBarred 66 = .ok (.goto (-39), 3) := by decide +kernel
theorem dX7_pairsBarred_69 : decode cX7_pairsBarred 69 = .ok (.aload_n 0, 1) := by decide +kernel
theorem dX7_pairsBarred_70 : decode cX7_pairsBarred 70 = .ok (.iconst 0, 1) := by decide +kernel
theorem dX7_pairsBarred_71 : decode cX7_pairsBarred 71 = .ok (.invokevirtual 124, 3) := by decide +kernel
theorem dX7_pairsBarred_74 : decode cX7_pairsBarred 74 = .ok (.ireturn, 1) := by decide +kernel
theorem dX7_loans_0 : decode cX7_loans 0 = .ok (.iload_n 1, 1) := by decide +kernel
theorem dX7_loans_1 : decode cX7_loans 1 = .ok (.invokestatic 120, 3) := by decide +kernel
theorem dX7_loans_4 : decode cX7_loans 4 = .ok (.ifCond .eq 9, 3) := by decide +kernel
theorem dX7_loans_7 : decode cX7_loans 7 = .ok (.aload_n 0, 1) := by decide +kernel
theorem dX7_loans_8 : decode cX7_loans 8 = .ok (.iconst (-1), 1) := by decide +kernel
theorem dX7_loans_9 : decode cX7_loans 9 = .ok (.invokevirtual 124, 3) := by decide +kernel
theorem dX7_loans_12 : decode cX7_loans 12 = .ok (.ireturn, 1) := by decide +kernel
theorem dX7_loans_13 : decode cX7_loans 13 = .ok (.iload 5, 2) := by decide +kernel
theorem dX7_loans_15 : decode cX7_loans 15 = .ok (.i2l, 1) := by decide +kernel
theorem dX7_loans_16 : decode cX7_loans 16 = .ok (.lconst 0, 1) := by decide +kernel
theorem dX7_loans_17 : decode cX7_loans 17 = .ok (.ldc2_w 185, 3) := by decide +kernel
theorem dX7_loans_20 : decode cX7_loans 20 = .ok (.invokestatic 90, 3) := by decide +kernel
theorem dX7_loans_23 : decode cX7_loans 23 = .ok (.ifCond .ne 48, 3) := by decide +kernel
theorem dX7_loans_26 : decode cX7_loans 26 = .ok (.iload 5, 2) := by decide +kernel
theorem dX7_loans_28 : decode cX7_loans 28 = .ok (.i2l, 1) := by decide +kernel
theorem dX7_loans_29 : decode cX7_loans 29 = .ok (.ldc2_w 187, 3) := by decide +kernel
theorem dX7_loans_32 : decode cX7_loans 32 = .ok (.ldc2_w 189, 3) := by decide +kernel
theorem dX7_loans_35 : decode cX7_loans 35 = .ok (.invokestatic 90, 3) := by decide +kernel
theorem dX7_loans_38 : decode cX7_loans 38 = .ok (.ifCond .ne 33, 3) := by decide +kernel
theorem dX7_loans_41 : decode cX7_loans 41 = .ok (.iload 5, 2) := by decide +kernel
theorem dX7_loans_43 : decode cX7_loans 43 = .ok (.i2l, 1) := by decide +kernel
theorem dX7_loans_44 : decode cX7_loans 44 = .ok (.ldc2_w 191, 3) := by decide +kernel
theorem dX7_loans_47 : decode cX7_loans 47 = .ok (.ldc2_w 193, 3) := by decide +kernel
theorem dX7_loans_50 : decode cX7_loans 50 = .ok (.invokestatic 90, 3) := by decide +kernel
theorem dX7_loans_53 : decode cX7_loans 53 = .ok (.ifCond .ne 18, 3) := by decide +kernel
theorem dX7_loans_56 : decode cX7_loans 56 = .ok (.iload 5, 2) := by decide +kernel
theorem dX7_loans_58 : decode cX7_loans 58 = .ok (.i2l, 1) := by decide +kernel
theorem dX7_loans_59 : decode cX7_loans 59 = .ok (.ldc2_w 195, 3) := by decide +kernel
theorem dX7_loans_62 : decode cX7_loans 62 = .ok (.ldc2_w 197, 3) := by decide +kernel
theorem dX7_loans_65 : decode cX7_loans 65 = .ok (.invokestatic 90, 3) := by decide +kernel
theorem dX7_loans_68 : decode cX7_loans 68 = .ok (.ifCond .eq 7, 3) := by decide +kernel
theorem dX7_loans_71 : decode cX7_loans 71 = .ok (.iconst 1, 1) := by decide +kernel
theorem dX7_loans_72 : decode cX7_loans 72 = .ok (.goto 4, 3) := by decide +kernel
theorem dX7_loans_75 : decode cX7_loans 75 = .ok (.iconst 0, 1) := by decide +kernel
theorem dX7_loans_76 : decode cX7_loans 76 = .ok (.istore 6, 2) := by decide +kernel
theorem dX7_loans_78 : decode cX7_loans 78 = .ok (.iload_n 2, 1) := by decide +kernel
theorem dX7_loans_79 : decode cX7_loans 79 = .ok (.i2l, 1) := by decide +kernel
theorem dX7_loans_80 : decode cX7_loans 80 = .ok (.lconst 0, 1) := by decide +kernel
theorem dX7_loans_81 : decode cX7_loans 81 = .ok (.ldc2_w 127, 3) := by decide +kernel
theorem dX7_loans_84 : decode cX7_loans 84 = .ok (.invokestatic 90, 3) := by decide +kernel
theorem dX7_loans_87 : decode cX7_loans 87 = .ok (.ifCond .eq 21, 3) := by decide +kernel
theorem dX7_loans_90 : decode cX7_loans 90 = .ok (.iload 4, 2) := by decide +kernel
theorem dX7_loans_92 : decode cX7_loans 92 = .ok (.i2l, 1) := by decide +kernel
theorem dX7_loans_93 : decode cX7_loans 93 = .ok (.lconst 0, 1) := by decide +kernel
theorem dX7_loans_94 : decode cX7_loans 94 = .ok (.ldc2_w 191, 3) := by decide +kernel
theorem dX7_loans_97 : decode cX7_loans 97 = .ok (.invokestatic 90, 3) := by decide +kernel
theorem dX7_loans_100 : decode cX7_loans 100 = .ok (.ifCond .eq 8, 3) := by decide +kernel
theorem dX7_loans_103 : decode cX7_loans 103 = .ok (.iload 6, 2) := by decide +kernel
theorem dX7_loans_105 : decode cX7_loans 105 = .ok (.ifCond .ne 10, 3) := by decide +kernel
theorem dX7_loans_108 : decode cX7_loans 108 = .ok (.aload_n 0, 1) := by decide +kernel
theorem dX7_loans_109 : decode cX7_loans 109 = .ok (.bipush (-2), 2) := by decide +kernel
theorem dX7_loans_111 : decode cX7_loans 111 = .ok (.invokevirtual 124, 3) := by decide +kernel
theorem dX7_loans_114 : decode cX7_loans 114 = .ok (.ireturn, 1) := by decide +kernel
theorem dX7_loans_115 : decode cX7_loans 115 = .ok (.aload_n 0, 1) := by decide +kernel
theorem dX7_loans_116 : decode cX7_loans 116 = .ok (.getfield 87, 3) := by decide +kernel
theorem dX7_loans_119 : decode cX7_loans 119 = .ok (.ifCond .ne 10, 3) := by decide +kernel
theorem dX7_loans_122 : decode cX7_loans 122 = .ok (.aload_n 0, 1) := by decide +kernel
theorem dX7_loans_123 : decode cX7_loans 123 = .ok (.bipush (-3), 2) := by decide +kernel
theorem dX7_loans_125 : decode cX7_loans 125 = .ok (.invokevirtual 124, 3) := by decide +kernel
theorem dX7_loans_128 : decode cX7_loans 128 = .ok (.ireturn, 1) := by decide +kernel
theorem dX7_loans_129 : decode cX7_loans 129 = .ok (.aload_n 0, 1) := by decide +kernel
theorem dX7_loans_130 : decode cX7_loans 130 = .ok (.iload_n 1, 1) := by decide +kernel
theorem dX7_loans_131 : decode cX7_loans 131 = .ok (.iload_n 2, 1) := by decide +kernel
theorem dX7_loans_132 : decode cX7_loans 132 = .ok (.iload_n 3, 1) := by decide +kernel
theorem dX7_loans_133 : decode cX7_loans 133 = .ok (.iload 4, 2) := by decide +kernel
theorem dX7_loans_135 : decode cX7_loans 135 = .ok (.invokevirtual 199, 3) := by decide +kernel
theorem dX7_loans_138 : decode cX7_loans 138 = .ok (.istore 7, 2) := by decide +kernel
theorem dX7_loans_140 : decode cX7_loans 140 = .ok (.iload 7, 2) := by decide +kernel
theorem dX7_loans_142 : decode cX7_loans 142 = .ok (.ifCond .ge 6, 3) := by decide +kernel
theorem dX7_loans_145 : decode cX7_loans 145 = .ok (.iload 7, 2) := by decide +kernel
theorem dX7_loans_147 : decode cX7_loans 147 = .ok (.ireturn, 1) := by decide +kernel
theorem dX7_loans_148 : decode cX7_loans 148 = .ok (.aload_n 0, 1) := by decide +kernel
theorem dX7_loans_149 : decode cX7_loans 149 = .ok (.bipush 60, 2) := by decide +kernel
theorem dX7_loans_151 : decode cX7_loans 151 = .ok (.iload_n 1, 1) := by decide +kernel
theorem dX7_loans_152 : decode cX7_loans 152 = .ok (.imul, 1) := by decide +kernel
theorem dX7_loans_153 : decode cX7_loans 153 = .ok (.iload_n 3, 1) := by decide +kernel
theorem dX7_loans_154 : decode cX7_loans 154 = .ok (.iadd, 1) := by decide +kernel
theorem dX7_loans_155 : decode cX7_loans 155 = .ok (.iload 4, 2) := by decide +kernel
theorem dX7_loans_157 : decode cX7_loans 157 = .ok (.invokevirtual 202, 3) := by decide +kernel
theorem dX7_loans_160 : decode cX7_loans 160 = .ok (.iload 5, 2) := by decide +kernel
theorem dX7_loans_162 : decode cX7_loans 162 = .ok (.iconst 1, 1) := by decide +kernel
theorem dX7_loans_163 : decode cX7_loans 163 = .ok (.if_icmp .ne 8, 3) := by decide +kernel
theorem dX7_loans_166 : decode cX7_loans 166 = .ok (.aload_n 0, 1) := by decide +kernel
theorem dX7_loans_167 : decode cX7_loans 167 = .ok (.getfield 159, 3) := by decide +kernel
theorem dX7_loans_170 : decode cX7_loans 170 = .ok (.ireturn, 1) := by decide +kernel
theorem dX7_loans_171 : decode cX7_loans 171 = .ok (.aload_n 0, 1) := by decide +kernel
theorem dX7_loans_172 : decode cX7_loans 172 = .ok (.getfield 159, 3) := by decide +kernel
theorem dX7_loans_175 : decode cX7_loans 175 = .ok (.ifCond .lt 11, 3) := by decide +kernel
theorem dX7_loans_178 : decode cX7_loans 178 = .ok (.bipush (-100), 2) := by decide +kernel
theorem dX7_loans_180 : decode cX7_loans 180 = .ok (.aload_n 0, 1) := by decide +kernel
theorem dX7_loans_181 : decode cX7_loans 181 = .ok (.getfield 159, 3) := by decide +kernel
theorem dX7_loans_184 : decode cX7_loans 184 = .ok (.isub, 1) := by decide +kernel
theorem dX7_loans_185 : decode cX7_loans 185 = .ok (.ireturn, 1) := by decide +kernel
theorem dX7_loans_186 : decode cX7_loans 186 = .ok (.iload 5, 2) := by decide +kernel
theorem dX7_loans_188 : decode cX7_loans 188 = .ok (.bipush 9, 2) := by decide +kernel
theorem dX7_loans_190 : decode cX7_loans 190 = .ok (.if_icmp .le 66, 3) := by decide +kernel
theorem dX7_loans_193 : decode cX7_loans 193 = .ok (.iload 5, 2) := by decide +kernel
theorem dX7_loans_195 : decode cX7_loans 195 = .ok (.bipush 10, 2) := by decide +kernel
theorem dX7_loans_197 : decode cX7_loans 197 = .ok (.irem, 1) := by decide +kernel
theorem dX7_loans_198 : decode cX7_loans 198 = .ok (.istore 8, 2) := by decide +kernel
theorem dX7_loans_200 : decode cX7_loans 200 = .ok (.aload_n 0, 1) := by decide +kernel
theorem dX7_loans_201 : decode cX7_loans 201 = .ok (.iload 8, 2) := by decide +kernel
theorem dX7_loans_203 : decode cX7_loans 203 = .ok (.invokevirtual 139, 3) := by decide +kernel
theorem dX7_loans_206 : decode cX7_loans 206 = .ok (.ifCond .eq 8, 3) := by decide +kernel
theorem dX7_loans_209 : decode cX7_loans 209 = .ok (.bipush (-9), 2) := by decide +kernel
theorem dX7_loans_211 : decode cX7_loans 211 = .ok (.goto 44, 3) := by decide +kernel
theorem dX7_loans_214 : decode cX7_loans 214 = .ok (.iload 5, 2) := by decide +kernel
theorem dX7_loans_216 : decode cX7_loans 216 = .ok (.bipush 20, 2) := by decide +kernel
theorem dX7_loans_218 : decode cX7_loans 218 = .ok (.if_icmp .ge 13, 3) := by decide +kernel
theorem dX7_loans_221 : decode cX7_loans 221 = .ok (.aload_n 0, 1) := by decide +kernel
theorem dX7_loans_222 : decode cX7_loans 222 = .ok (.getfield 34, 3) := by decide +kernel
theorem dX7_loans_225 : decode cX7_loans 225 = .ok (.iload 8, 2) := by decide +kernel
theorem dX7_loans_227 : decode cX7_loans 227 = .ok (.iaload, 1) := by decide +kernel
theorem dX7_loans_228 : decode cX7_loans 228 = .ok (.goto 27, 3) := by decide +kernel
theorem dX7_loans_231 : decode cX7_loans 231 = .ok (.iload 5, 2) := by decide +kernel
theorem dX7_loans_233 : decode cX7_loans 233 = .ok (.bipush 30, 2) := by decide +kernel
theorem dX7_loans_235 : decode cX7_loans 235 = .ok (.if_icmp .ge 13, 3) := by decide +kernel
theorem dX7_loans_238 : decode cX7_loans 238 = .ok (.aload_n 0, 1) := by decide +kernel
theorem dX7_loans_239 : decode cX7_loans 239 = .ok (.getfield 43, 3) := by decide +kernel
theorem dX7_loans_242 : decode cX7_loans 242 = .ok (.iload 8, 2) := by decide +kernel
theorem dX7_loans_244 : decode cX7_loans 244 = .ok (.iaload, 1) := by decide +kernel
theorem dX7_loans_245 : decode cX7_loans 245 = .ok (.goto 10, 3) := by decide +kernel
theorem dX7_loans_248 : decode cX7_loans 248 = .ok (.aload_n 0, 1) := by decide +kernel
theorem dX7_loans_249 : decode cX7_loans 249 = .ok (.getfield 37, 3) := by decide +kernel
theorem dX7_loans_252 : decode cX7_loans 252 = .ok (.iload 8, 2) := by decide +kernel
theorem dX7_loans_254 : decode cX7_loans 254 = .ok (.iaload, 1) := by decide +kernel
theorem dX7_loans_255 : decode cX7_loans 255 = .ok (.ireturn, 1) := by decide +kernel
theorem dX7_loans_256 : decode cX7_loans 256 = .ok (.iload 5, 2) := by decide +kernel
theorem dX7_loans_258 : decode cX7_loans 258 = .ok (.ifCond .ne 10, 3) := by decide +kernel
theorem dX7_loans_261 : decode cX7_loans 261 = .ok (.aload_n 0, 1) := by decide +kernel
theorem dX7_loans_262 : decode cX7_loans 262 = .ok (.invokevirtual 171, 3) := by decide +kernel
theorem dX7_loans_265 : decode cX7_loans 265 = .ok (.goto 20, 3) := by decide +kernel
theorem dX7_loans_268 : decode cX7_loans 268 = .ok (.iload 5, 2) := by decide +kernel
theorem dX7_loans_270 : decode cX7_loans 270 = .ok (.iconst 2, 1) := by decide +kernel
theorem dX7_loans_271 : decode cX7_loans 271 = .ok (.if_icmp .ne 10, 3) := by decide +kernel
theorem dX7_loans_274 : decode cX7_loans 274 = .ok (.aload_n 0, 1) := by decide +kernel
theorem dX7_loans_275 : decode cX7_loans 275 = .ok (.getfield 162, 3) := by decide +kernel
theorem dX7_loans_278 : decode cX7_loans 278 = .ok (.goto 7, 3) := by decide +kernel
theorem dX7_loans_281 : decode cX7_loans 281 = .ok (.aload_n 0, 1) := by decide +kernel
theorem dX7_loans_282 : decode cX7_loans 282 = .ok (.invokevirtual 205, 3) := by decide +kernel
theorem dX7_loans_285 : decode cX7_loans 285 = .ok (.ireturn, 1) := by decide +kernel
theorem dX7_isRow_0 : decode cX7_isRow 0 = .ok (.aload_n 0, 1) := by decide +kernel
theorem dX7_isRow_1 : decode cX7_isRow 1 = .ok (.invokevirtual 168, 3) := by decide +kernel
theorem dX7_isRow_4 : decode cX7_isRow 4 = .ok (.iload_n 1, 1) := by decide +kernel
theorem dX7_isRow_5 : decode cX7_isRow 5 = .ok (.istore 4, 2) := by decide +kernel
theorem dX7_isRow_7 : decode cX7_isRow 7 = .ok (.iconst 1, 1) := by decide +kernel
theorem dX7_isRow_8 : decode cX7_isRow 8 = .ok (.istore 5, 2) := by decide +kernel
theorem dX7_isRow_10 : decode cX7_isRow 10 = .ok (.iload_n 2, 1) := by decide +kernel
theorem dX7_isRow_11 : decode cX7_isRow 11 = .ok (.iconst 1, 1) := by decide +kernel
theorem dX7_isRow_12 : decode cX7_isRow 12 = .ok (.isub, 1) := by decide +kernel
theorem dX7_isRow_13 : decode cX7_isRow 13 = .ok (.istore 6, 2) := by decide +kernel
theorem dX7_isRow_15 : decode cX7_isRow 15 = .ok (.iload 6, 2) := by decide +kernel
theorem dX7_isRow_17 : decode cX7_isRow 17 = .ok (.ifCond .lt 28, 3) := by decide +kernel
theorem dX7_isRow_20 : decode cX7_isRow 20 = .ok (.aload_n 0, 1) := by decide +kernel
theorem dX7_isRow_21 : decode cX7_isRow 21 = .ok (.getfield 49, 3) := by decide +kernel
theorem dX7_isRow_24 : decode cX7_isRow 24 = .ok (.iload 6, 2) := by decide +kernel
theorem dX7_isRow_26 : decode cX7_isRow 26 = .ok (.iload 4, 2) := by decide +kernel
theorem dX7_isRow_28 : decode cX7_isRow 28 = .ok (.bipush 36, 2) := by decide +kernel
theorem dX7_isRow_30 : decode cX7_isRow 30 = .ok (.irem, 1) := by decide +kernel
theorem dX7_isRow_31 : decode cX7_isRow 31 = .ok (.iastore, 1) := by decide +kernel
theorem dX7_isRow_32 : decode cX7_isRow 32 = .ok (.iload 4, 2) := by decide +kernel
theorem dX7_isRow_34 : decode cX7_isRow 34 = .ok (.bipush 36, 2) := by decide +kernel
theorem dX7_isRow_36 : decode cX7_isRow 36 = .ok (.idiv, 1) := by decide +kernel
theorem dX7_isRow_37 : decode cX7_isRow 37 = .ok (.istore 4, 2) := by decide +kernel
theorem dX7_isRow_39 : decode cX7_isRow 39 = .ok (.iinc 6 (-1), 3) := by decide +kernel
theorem dX7_isRow_42 : decode cX7_isRow 42 = .ok (.goto (-27), 3) := by decide +kernel
theorem dX7_isRow_45 : decode cX7_isRow 45 = .ok (.iconst 0, 1) := by decide +kernel
theorem dX7_isRow_46 : decode cX7_isRow 46 = .ok (.istore 6, 2) := by decide +kernel
theorem dX7_isRow_48 : decode cX7_isRow 48 = .ok (.iload 6, 2) := by decide +kernel
theorem dX7_isRow_50 : decode cX7_isRow 50 = .ok (.iload_n 2, 1) := by decide +kernel
theorem dX7_isRow_51 : decode cX7_isRow 51 = .ok (.if_icmp .ge 85, 3) := by decide +kernel
theorem dX7_isRow_54 : decode cX7_isRow 54 = .ok (.iload 5, 2) := by decide +kernel
theorem dX7_isRow_56 : decode cX7_isRow 56 = .ok (.ifCond .eq 80, 3) := by decide +kernel
theorem dX7_isRow_59 : decode cX7_isRow 59 = .ok (.aload_n 0, 1) := by decide +kernel
theorem dX7_isRow_60 : decode cX7_isRow 60 = .ok (.getfield 49, 3) := by decide +kernel
theorem dX7_isRow_63 : decode cX7_isRow 63 = .ok (.iload 6, 2) := by decide +kernel
theorem dX7_isRow_65 : decode cX7_isRow 65 = .ok (.iaload, 1) := by decide +kernel
theorem dX7_isRow_66 : decode cX7_isRow 66 = .ok (.bipush 6, 2) := by decide +kernel
theorem dX7_isRow_68 : decode cX7_isRow 68 = .ok (.idiv, 1) := by decide +kernel
theorem dX7_isRow_69 : decode cX7_isRow 69 = .ok (.istore 7, 2) := by decide +kernel
theorem dX7_isRow_71 : decode cX7_isRow 71 = .ok (.aload_n 0, 1) := by decide +kernel
theorem dX7_isRow_72 : decode cX7_isRow 72 = .ok (.getfield 49, 3) := by decide +kernel
theorem dX7_isRow_75 : decode cX7_isRow 75 = .ok (.iload 6, 2) := by decide +kernel
theorem dX7_isRow_77 : decode cX7_isRow 77 = .ok (.iaload, 1) := by decide +kernel
theorem dX7_isRow_78 : decode cX7_isRow 78 = .ok (.bipush 6, 2) := by decide +kernel
theorem dX7_isRow_80 : decode cX7_isRow 80 = .ok (.irem, 1) := by decide +kernel
theorem dX7_isRow_81 : decode cX7_isRow 81 = .ok (.istore 8, 2) := by decide +kernel
theorem dX7_isRow_83 : decode cX7_isRow 83 = .ok (.iload 7, 2) := by decide +kernel
theorem dX7_isRow_85 : decode cX7_isRow 85 = .ok (.iload 8, 2) := by decide +kernel
theorem dX7_isRow_87 : decode cX7_isRow 87 = .ok (.if_icmp .ge 27, 3) := by decide +kernel
theorem dX7_isRow_90 : decode cX7_isRow 90 = .ok (.iload 8, 2) := by decide +kernel
theorem dX7_isRow_92 : decode cX7_isRow 92 = .ok (.aload_n 0, 1) := by decide +kernel
theorem dX7_isRow_93 : decode cX7_isRow 93 = .ok (.getfield 87, 3) := by decide +kernel
theorem dX7_isRow_96 : decode cX7_isRow 96 = .ok (.if_icmp .ge 18, 3) := by decide +kernel
theorem dX7_isRow_99 : decode cX7_isRow 99 = .ok (.aload_n 0, 1) := by decide +kernel
theorem dX7_isRow_100 : decode cX7_isRow 100 = .ok (.iload 7, 2) := by decide +kernel
theorem dX7_isRow_102 : decode cX7_isRow 102 = .ok (.iload 8, 2) := by decide +kernel
theorem dX7_isRow_104 : decode cX7_isRow 104 = .ok (.invokevirtual 178, 3) := by decide +kernel
theorem dX7_isRow_107 : decode cX7_isRow 107 = .ok (.ifCond .eq 7, 3) := by decide +kernel
theorem dX7_isRow_110 : decode cX7_isRow 110 = .ok (.iconst 1, 1) := by decide +kernel
theorem dX7_isRow_111 : decode cX7_isRow 111 = .ok (.goto 4, 3) := by decide +kernel
theorem dX7_isRow_114 : decode cX7_isRow 114 = .ok (.iconst 0, 1) := by decide +kernel
theorem dX7_isRow_115 : decode cX7_isRow 115 = .ok (.istore 5, 2) := by decide +kernel
theorem dX7_isRow_117 : decode cX7_isRow 117 = .ok (.iload 5, 2) := by decide +kernel
theorem dX7_isRow_119 : decode cX7_isRow 119 = .ok (.ifCond .eq 11, 3) := by decide +kernel
theorem dX7_isRow_122 : decode cX7_isRow 122 = .ok (.aload_n 0, 1) := by decide +kernel
theorem dX7_isRow_123 : decode cX7_isRow 123 = .ok (.iload 7, 2) := by decide +kernel
theorem dX7_isRow_125 : decode cX7_isRow 125 = .ok (.iload 8, 2) := by decide +kernel
theorem dX7_isRow_127 : decode cX7_isRow 127 = .ok (.invokevirtual 181, 3) := by decide +kernel
theorem dX7_isRow_130 : decode cX7_isRow 130 = .ok (.iinc 6 1, 3) := by decide +kernel
theorem dX7_isRow_133 : decode cX7_isRow 133 = .ok (.goto (-85), 3) := by decide +kernel
theorem dX7_isRow_136 : decode cX7_isRow 136 = .ok (.iload 5, 2) := by decide +kernel
theorem dX7_isRow_138 : decode cX7_isRow 138 = .ok (.ifCond .eq 18, 3) := by decide +kernel
theorem dX7_isRow_141 : decode cX7_isRow 141 = .ok (.iload_n 3, 1) := by decide +kernel
theorem dX7_isRow_142 : decode cX7_isRow 142 = .ok (.aload_n 0, 1) := by decide +kernel
theorem dX7_isRow_143 : decode cX7_isRow 143 = .ok (.invokevirtual 171, 3) := by decide +kernel
theorem dX7_isRow_146 : decode cX7_isRow 146 = .ok (.iconst (-1), 1) := by decide +kernel
theorem dX7_isRow_147 : decode cX7_isRow 147 = .ok (.ixor, 1) := by decide +kernel
theorem dX7_isRow_148 : decode cX7_isRow 148 = .ok (.iand, 1) := by decide +kernel
theorem dX7_isRow_149 : decode cX7_isRow 149 = .ok (.ifCond .ne 7, 3) := by decide +kernel
theorem dX7_isRow_152 : decode cX7_isRow 152 = .ok (.iconst 1, 1) := by decide +kernel
theorem dX7_isRow_153 : decode cX7_isRow 153 = .ok (.goto 4, 3) := by decide +kernel
theorem dX7_isRow_156 : decode cX7_isRow 156 = .ok (.iconst 0, 1) := by decide +kernel
theorem dX7_isRow_157 : decode cX7_isRow 157 = .ok (.ireturn, 1) := by decide +kernel
theorem dX7_fewest_0 : decode cX7_fewest 0 = .ok (.aload_n 0, 1) := by decide +kernel
theorem dX7_fewest_1 : decode cX7_fewest 1 = .ok (.getfield 87, 3) := by decide +kernel
theorem dX7_fewest_4 : decode cX7_fewest 4 = .ok (.ifCond .ne 6, 3) := by decide +kernel
theorem dX7_fewest_7 : decode cX7_fewest 7 = .ok (.bipush (-3), 2) := by decide +kernel
theorem dX7_fewest_9 : decode cX7_fewest 9 = .ok (.ireturn, 1) := by decide +kernel
theorem dX7_fewest_10 : decode cX7_fewest 10 = .ok (.iload_n 1, 1) := by decide +kernel
theorem dX7_fewest_11 : decode cX7_fewest 11 = .ok (.i2l, 1) := by decide +kernel
theorem dX7_fewest_12 : decode cX7_fewest 12 = .ok (.lconst 0, 1) := by decide +kernel
theorem dX7_fewest_13 : decode cX7_fewest 13 = .ok (.aload_n 0, 1) := by decide +kernel
theorem dX7_fewest_14 : decode cX7_fewest 14 = .ok (.invokevirtual 175, 3) := by decide +kernel
theorem dX7_fewest_17 : decode cX7_fewest 17 = .ok (.i2l, 1) := by decide +kernel
theorem dX7_fewest_18 : decode cX7_fewest 18 = .ok (.invokestatic 90, 3) := by decide +kernel
theorem dX7_fewest_21 : decode cX7_fewest 21 = .ok (.ifCond .eq 17, 3) := by decide +kernel
theorem dX7_fewest_24 : decode cX7_fewest 24 = .ok (.iload_n 2, 1) := by decide +kernel
theorem dX7_fewest_25 : decode cX7_fewest 25 = .ok (.i2l, 1) := by decide +kernel
theorem dX7_fewest_26 : decode cX7_fewest 26 = .ok (.ldc2_w 208, 3) := by decide +kernel
theorem dX7_fewest_29 : decode cX7_fewest 29 = .ok (.ldc2_w 127, 3) := by decide +kernel
theorem dX7_fewest_32 : decode cX7_fewest 32 = .ok (.invokestatic 90, 3) := by decide +kernel
theorem dX7_fewest_35 : decode cX7_fewest 35 = .ok (.ifCond .ne 6, 3) := by decide +kernel
theorem dX7_fewest_38 : decode cX7_fewest 38 = .ok (.bipush (-2), 2) := by decide +kernel
theorem dX7_fewest_40 : decode cX7_fewest 40 = .ok (.ireturn, 1) := by decide +kernel
theorem dX7_fewest_41 : decode cX7_fewest 41 = .ok (.iconst 1, 1) := by decide +kernel
theorem dX7_fewest_42 : decode cX7_fewest 42 = .ok (.istore_n 3, 1) := by decide +kernel
theorem dX7_fewest_43 : decode cX7_fewest 43 = .ok (.iconst 0, 1) := by decide +kernel
theorem dX7_fewest_44 : decode cX7_fewest 44 = .ok (.istore 4, 2) := by decide +kernel
theorem dX7_fewest_46 : decode cX7_fewest 46 = .ok (.iload 4, 2) := by decide +kernel
theorem dX7_fewest_48 : decode cX7_fewest 48 = .ok (.iconst 4, 1) := by decide +kernel
theorem dX7_fewest_49 : decode cX7_fewest 49 = .ok (.if_icmp .ge 84, 3) := by decide +kernel
theorem dX7_fewest_52 : decode cX7_fewest 52 = .ok (.iconst 0, 1) := by decide +kernel
theorem dX7_fewest_53 : decode cX7_fewest 53 = .ok (.istore 5, 2) := by decide +kernel
theorem dX7_fewest_55 : decode cX7_fewest 55 = .ok (.iload 5, 2) := by decide +kernel
theorem dX7_fewest_57 : decode cX7_fewest 57 = .ok (.iload_n 3, 1) := by decide +kernel
theorem dX7_fewest_58 : decode cX7_fewest 58 = .ok (.if_icmp .ge 64, 3) := by decide +kernel
theorem dX7_fewest_61 : decode cX7_fewest 61 = .ok (.aload_n 0, 1) := by decide +kernel
theorem dX7_fewest_62 : decode cX7_fewest 62 = .ok (.iload 5, 2) := by decide +kernel
theorem dX7_fewest_64 : decode cX7_fewest 64 = .ok (.iload 4, 2) := by decide +kernel
theorem dX7_fewest_66 : decode cX7_fewest 66 = .ok (.iload_n 1, 1) := by decide +kernel
theorem dX7_fewest_67 : decode cX7_fewest 67 = .ok (.invokevirtual 210, 3) := by decide +kernel
theorem dX7_fewest_70 : decode cX7_fewest 70 = .ok (.ifCond .eq 46, 3) := by decide +kernel
theorem dX7_fewest_73 : decode cX7_fewest 73 = .ok (.iload_n 2, 1) := by decide +kernel
theorem dX7_fewest_74 : decode cX7_fewest 74 = .ok (.ifCond .ge 8, 3) := by decide +kernel
theorem dX7_fewest_77 : decode cX7_fewest 77 = .ok (.iload 4, 2) := by decide +kernel
theorem dX7_fewest_79 : decode cX7_fewest 79 = .ok (.goto 36, 3) := by decide +kernel
theorem dX7_fewest_82 : decode cX7_fewest 82 = .ok (.iload_n 2, 1) := by decide +kernel
theorem dX7_fewest_83 : decode cX7_fewest 83 = .ok (.iload 4, 2) := by decide +kernel
theorem dX7_fewest_85 : decode cX7_fewest 85 = .ok (.if_icmp .ge 28, 3) := by decide +kernel
theorem dX7_fewest_88 : decode cX7_fewest 88 = .ok (.bipush 10, 2) := by decide +kernel
theorem dX7_fewest_90 : decode cX7_fewest 90 = .ok (.aload_n 0, 1) := by decide +kernel
theorem dX7_fewest_91 : decode cX7_fewest 91 = .ok (.getfield 49, 3) := by decide +kernel
theorem dX7_fewest_94 : decode cX7_fewest 94 = .ok (.iload_n 2, 1) := by decide +kernel
theorem dX7_fewest_95 : decode cX7_fewest 95 = .ok (.iaload, 1) := by decide +kernel
theorem dX7_fewest_96 : decode cX7_fewest 96 = .ok (.bipush 6, 2) := by decide +kernel
theorem dX7_fewest_98 : decode cX7_fewest 98 = .ok (.idiv, 1) := by decide +kernel
theorem dX7_fewest_99 : decode cX7_fewest 99 = .ok (.imul, 1) := by decide +kernel
theorem dX7_fewest_100 : decode cX7_fewest 100 = .ok (.aload_n 0, 1) := by decide +kernel
theorem dX7_fewest_101 : decode cX7_fewest 101 = .ok (.getfield 49, 3) := by decide +kernel
theorem dX7_fewest_104 : decode cX7_fewest 104 = .ok (.iload_n 2, 1) := by decide +kernel
theorem dX7_fewest_105 : decode cX7_fewest 105 = .ok (.iaload, 1) := by decide +kernel
theorem dX7_fewest_106 : decode cX7_fewest 106 = .ok (.bipush 6, 2) := by decide +kernel
theorem dX7_fewest_108 : decode cX7_fewest 108 = .ok (.irem, 1) := by decide +kernel
theorem dX7_fewest_109 : decode cX7_fewest 109 = .ok (.iadd, 1) := by decide +kernel
theorem dX7_fewest_110 : decode cX7_fewest 110 = .ok (.goto 5, 3) := by decide +kernel
theorem dX7_fewest_113 : decode cX7_fewest 113 = .ok (.bipush (-9), 2) := by decide +kernel
theorem dX7_fewest_115 : decode cX7_fewest 115 = .ok (.ireturn, 1) := by decide +kernel
theorem dX7_fewest_116 : decode cX7_fewest 116 = .ok (.iinc 5 1, 3) := by decide +kernel
theorem dX7_fewest_119 : decode cX7_fewest 119 = .ok (.goto (-64), 3) := by decide +kernel
theorem dX7_fewest_122 : decode cX7_fewest 122 = .ok (.iload_n 3, 1) := by decide +kernel
theorem dX7_fewest_123 : decode cX7_fewest 123 = .ok (.bipush 36, 2) := by decide +kernel
theorem dX7_fewest_125 : decode cX7_fewest 125 = .ok (.imul, 1) := by decide +kernel
theorem dX7_fewest_126 : decode cX7_fewest 126 = .ok (.istore_n 3, 1) := by decide +kernel
theorem dX7_fewest_127 : decode cX7_fewest 127 = .ok (.iinc 4 1, 3) := by decide +kernel
theorem dX7_fewest_130 : decode cX7_fewest 130 = .ok (.goto (-84), 3) := by decide +kernel
theorem dX7_fewest_133 : decode cX7_fewest 133 = .ok (.bipush (-9), 2) := by decide +kernel
theorem dX7_fewest_135 : decode cX7_fewest 135 = .ok (.ireturn, 1) := by decide +kernel
theorem dX7_matchBy_0 : decode cX7_matchBy 0 = .ok (.iload_n 1, 1) := by decide +kernel
theorem dX7_matchBy_1 : decode cX7_matchBy 1 = .ok (.istore_n 2, 1) := by decide +kernel
theorem dX7_matchBy_2 : decode cX7_matchBy 2 = .ok (.iconst 0, 1) := by decide +kernel
theorem dX7_matchBy_3 : decode cX7_matchBy 3 = .ok (.istore_n 3, 1) := by decide +kernel
theorem dX7_matchBy_4 : decode cX7_matchBy 4 = .ok (.iconst 0, 1) := by decide +kernel
theorem dX7_matchBy_5 : decode cX7_matchBy 5 = .ok (.istore 4, 2) := by decide +kernel
theorem dX7_matchBy_7 : decode cX7_matchBy 7 = .ok (.aload_n 0, 1) := by decide +kernel
theorem dX7_matchBy_8 : decode cX7_matchBy 8 = .ok (.getfield 87, 3) := by decide +kernel
theorem dX7_matchBy_11 : decode cX7_matchBy 11 = .ok (.iconst 1, 1) := by decide +kernel
theorem dX7_matchBy_12 : decode cX7_matchBy 12 = .ok (.isub, 1) := by decide +kernel
theorem dX7_matchBy_13 : decode cX7_matchBy 13 = .ok (.istore 5, 2) := by decide +kernel
theorem dX7_matchBy_15 : decode cX7_matchBy 15 = .ok (.iload 5, 2) := by decide +kernel
theorem dX7_matchBy_17 : decode cX7_matchBy 17 = .ok (.ifCond .lt 102, 3) := by decide +kernel
theorem dX7_matchBy_20 : decode cX7_matchBy 20 = .ok (.iload_n 2, 1) := by decide +kernel
theorem dX7_matchBy_21 : decode cX7_matchBy 21 = .ok (.aload_n 0, 1) := by decide +kernel
theorem dX7_matchBy_22 : decode cX7_matchBy 22 = .ok (.getfield 87, 3) := by decide +kernel
theorem dX7_matchBy_25 : decode cX7_matchBy 25 = .ok (.irem, 1) := by decide +kernel
theorem dX7_matchBy_26 : decode cX7_matchBy 26 = .ok (.istore 6, 2) := by decide +kernel
theorem dX7_matchBy_28 : decode cX7_matchBy 28 = .ok (.iload_n 2, 1) := by decide +kernel
theorem dX7_matchBy_29 : decode cX7_matchBy 29 = .ok (.aload_n 0, 1) := by decide +kernel
theorem dX7_matchBy_30 : decode cX7_matchBy 30 = .ok (.getfield 87, 3) := by decide +kernel
theorem dX7_matchBy_33 : decode cX7_matchBy 33 = .ok (.idiv, 1) := by decide +kernel
theorem dX7_matchBy_34 : decode cX7_matchBy 34 = .ok (.istore_n 2, 1) := by decide +kernel
theorem dX7_matchBy_35 : decode cX7_matchBy 35 = .ok (.aload_n 0, 1) := by decide +kernel
theorem dX7_matchBy_36 : decode cX7_matchBy 36 = .ok (.getfield 16, 3) := by decide +kernel
theorem dX7_matchBy_39 : decode cX7_matchBy 39 = .ok (.iload 5, 2) := by decide +kernel
theorem dX7_matchBy_41 : decode cX7_matchBy 41 = .ok (.iaload, 1) := by decide +kernel
theorem dX7_matchBy_42 : decode cX7_matchBy 42 = .ok (.bipush 6, 2) := by decide +kernel
theorem dX7_matchBy_44 : decode cX7_matchBy 44 = .ok (.if_icmp .eq 31, 3) := by decide +kernel
theorem dX7_matchBy_47 : decode cX7_matchBy 47 = .ok (.aload_n 0, 1) := by decide +kernel
theorem dX7_matchBy_48 : decode cX7_matchBy 48 = .ok (.getfield 13, 3) := by decide +kernel
theorem dX7_matchBy_51 : decode cX7_matchBy 51 = .ok (.iload 5, 2) := by decide +kernel
theorem dX7_matchBy_53 : decode cX7_matchBy 53 = .ok (.iaload, 1) := by decide +kernel
theorem dX7_matchBy_54 : decode cX7_matchBy 54 = .ok (.aload_n 0, 1) := by decide +kernel
theorem dX7_matchBy_55 : decode cX7_matchBy 55 = .ok (.getfield 13, 3) := by decide +kernel
theorem dX7_matchBy_58 : decode cX7_matchBy 58 = .ok (.iload 6, 2) := by decide +kernel
theorem dX7_matchBy_60 : decode cX7_matchBy 60 = .ok (.iaload, 1) := by decide +kernel
theorem dX7_matchBy_61 : decode cX7_matchBy 61 = .ok (.ior, 1) := by decide +kernel
theorem dX7_matchBy_62 : decode cX7_matchBy 62 = .ok (.aload_n 0, 1) := by decide +kernel
theorem dX7_matchBy_63 : decode cX7_matchBy 63 = .ok (.getfield 16, 3) := by decide +kernel
theorem dX7_matchBy_66 : decode cX7_matchBy 66 = .ok (.iload 5, 2) := by decide +kernel
theorem dX7_matchBy_68 : decode cX7_matchBy 68 = .ok (.iaload, 1) := by decide +kernel
theorem dX7_matchBy_69 : decode cX7_matchBy 69 = .ok (.invokestatic 149, 3) := by decide +kernel
theorem dX7_matchBy_72 : decode cX7_matchBy 72 = .ok (.ifCond .eq 7, 3) := by decide +kernel
theorem dX7_matchBy_75 : decode cX7_matchBy 75 = .ok (.iconst 1, 1) := by decide +kernel
theorem dX7_matchBy_76 : decode cX7_matchBy 76 = .ok (.goto 4, 3) := by decide +kernel
theorem dX7_matchBy_79 : decode cX7_matchBy 79 = .ok (.iconst 0, 1) := by decide +kernel
theorem dX7_matchBy_80 : decode cX7_matchBy 80 = .ok (.istore 7, 2) := by decide +kernel
theorem dX7_matchBy_82 : decode cX7_matchBy 82 = .ok (.iload 4, 2) := by decide +kernel
theorem dX7_matchBy_84 : decode cX7_matchBy 84 = .ok (.iload 7, 2) := by decide +kernel
theorem dX7_matchBy_86 : decode cX7_matchBy 86 = .ok (.ifCond .eq 7, 3) := by decide +kernel
theorem dX7_matchBy_89 : decode cX7_matchBy 89 = .ok (.iconst 1, 1) := by decide +kernel
theorem dX7_matchBy_90 : decode cX7_matchBy 90 = .ok (.goto 4, 3) := by decide +kernel
theorem dX7_matchBy_93 : decode cX7_matchBy 93 = .ok (.iconst 0, 1) := by decide +kernel
theorem dX7_matchBy_94 : decode cX7_matchBy 94 = .ok (.iadd, 1) := by decide +kernel
theorem dX7_matchBy_95 : decode cX7_matchBy 95 = .ok (.istore 4, 2) := by decide +kernel
theorem dX7_matchBy_97 : decode cX7_matchBy 97 = .ok (.iload_n 3, 1) := by decide +kernel
theorem dX7_matchBy_98 : decode cX7_matchBy 98 = .ok (.iconst 1, 1) := by decide +kernel
theorem dX7_matchBy_99 : decode cX7_matchBy 99 = .ok (.iload 6, 2) := by decide +kernel
theorem dX7_matchBy_101 : decode cX7_matchBy 101 = .ok (.ishl, 1) := by decide +kernel
theorem dX7_matchBy_102 : decode cX7_matchBy 102 = .ok (.ior, 1) := by decide +kernel
theorem dX7_matchBy_103 : decode cX7_matchBy 103 = .ok (.istore_n 3, 1) := by decide +kernel
theorem dX7_matchBy_104 : decode cX7_matchBy 104 = .ok (.aload_n 0, 1) := by decide +kernel
theorem dX7_matchBy_105 : decode cX7_matchBy 105 = .ok (.getfield 52, 3) := by decide +kernel
theorem dX7_matchBy_108 : decode cX7_matchBy 108 = .ok (.iload 5, 2) := by decide +kernel
theorem dX7_matchBy_110 : decode cX7_matchBy 110 = .ok (.iload 6, 2) := by decide +kernel
theorem dX7_matchBy_112 : decode cX7_matchBy 112 = .ok (.iastore, 1) := by decide +kernel
theorem dX7_matchBy_113 : decode cX7_matchBy 113 = .ok (.iinc 5 (-1), 3) := by decide +kernel
theorem dX7_matchBy_116 : decode cX7_matchBy 116 = .ok (.goto (-101), 3) := by decide +kernel
theorem dX7_matchBy_119 : decode cX7_matchBy 119 = .ok (.iload_n 3, 1) := by decide +kernel
theorem dX7_matchBy_120 : decode cX7_matchBy 120 = .ok (.aload_n 0, 1) := by decide +kernel
theorem dX7_matchBy_121 : decode cX7_matchBy 121 = .ok (.invokevirtual 175, 3) := by decide +kernel
theorem dX7_matchBy_124 : decode cX7_matchBy 124 = .ok (.if_icmp .ne 8, 3) := by decide +kernel
theorem dX7_matchBy_127 : decode cX7_matchBy 127 = .ok (.iload 4, 2) := by decide +kernel
theorem dX7_matchBy_129 : decode cX7_matchBy 129 = .ok (.goto 5, 3) := by decide +kernel
theorem dX7_matchBy_132 : decode cX7_matchBy 132 = .ok (.bipush (-9), 2) := by decide +kernel
theorem dX7_matchBy_134 : decode cX7_matchBy 134 = .ok (.ireturn, 1) := by decide +kernel
theorem dX7_match_0 : decode cX7_match 0 = .ok (.iload_n 1, 1) := by decide +kernel
theorem dX7_match_1 : decode cX7_match 1 = .ok (.iconst (-1), 1) := by decide +kernel
theorem dX7_match_2 : decode cX7_match 2 = .ok (.if_icmp .ge 5, 3) := by decide +kernel
theorem dX7_match_5 : decode cX7_match 5 = .ok (.iconst (-1), 1) := by decide +kernel
theorem dX7_match_6 : decode cX7_match 6 = .ok (.ireturn, 1) := by decide +kernel
theorem dX7_match_7 : decode cX7_match 7 = .ok (.aload_n 0, 1) := by decide +kernel
theorem dX7_match_8 : decode cX7_match 8 = .ok (.getfield 87, 3) := by decide +kernel
theorem dX7_match_11 : decode cX7_match 11 = .ok (.ifCond .ne 6, 3) := by decide +kernel
theorem dX7_match_14 : decode cX7_match 14 = .ok (.bipush (-3), 2) := by decide +kernel
theorem dX7_match_16 : decode cX7_match 16 = .ok (.ireturn, 1) := by decide +kernel
theorem dX7_match_17 : decode cX7_match 17 = .ok (.iconst 1, 1) := by decide +kernel
theorem dX7_match_18 : decode cX7_match 18 = .ok (.istore_n 2, 1) := by decide +kernel
theorem dX7_match_19 : decode cX7_match 19 = .ok (.iconst 0, 1) := by decide +kernel
theorem dX7_match_20 : decode cX7_match 20 = .ok (.istore_n 3, 1) := by decide +kernel
theorem dX7_match_21 : decode cX7_match 21 = .ok (.iload_n 3, 1) := by decide +kernel
theorem dX7_match_22 : decode cX7_match 22 = .ok (.aload_n 0, 1) := by decide +kernel
theorem dX7_match_23 : decode cX7_match 23 = .ok (.getfield 87, 3) := by decide +kernel
theorem dX7_match_26 : decode cX7_match 26 = .ok (.if_icmp .ge 16, 3) := by decide +kernel
theorem dX7_match_29 : decode cX7_match 29 = .ok (.iload_n 2, 1) := by decide +kernel
theorem dX7_match_30 : decode cX7_match 30 = .ok (.aload_n 0, 1) := by decide +kernel
theorem dX7_match_31 : decode cX7_match 31 = .ok (.getfield 87, 3) := by decide +kernel
theorem dX7_match_34 : decode cX7_match 34 = .ok (.imul, 1) := by decide +kernel
theorem dX7_match_35 : decode cX7_match 35 = .ok (.istore_n 2, 1) := by decide +kernel
theorem dX7_match_36 : decode cX7_match 36 = .ok (.iinc 3 1, 3) := by decide +kernel
theorem dX7_match_39 : decode cX7_match 39 = .ok (.goto (-18), 3) := by decide +kernel
theorem dX7_match_42 : decode cX7_match 42 = .ok (.iconst 0, 1) := by decide +kernel
theorem dX7_match_43 : decode cX7_match 43 = .ok (.istore_n 3, 1) := by decide +kernel
theorem dX7_match_44 : decode cX7_match 44 = .ok (.iconst (-1), 1) := by decide +kernel
theorem dX7_match_45 : decode cX7_match 45 = .ok (.istore 4, 2) := by decide +kernel
theorem dX7_match_47 : decode cX7_match 47 = .ok (.iconst 0, 1) := by decide +kernel
theorem dX7_match_48 : decode cX7_match 48 = .ok (.istore 5, 2) := by decide +kernel
theorem dX7_match_50 : decode cX7_match 50 = .ok (.iload 5, 2) := by decide +kernel
theorem dX7_match_52 : decode cX7_match 52 = .ok (.iload_n 2, 1) := by decide +kernel
theorem dX7_match_53 : decode cX7_match 53 = .ok (.if_icmp .ge 47, 3) := by decide +kernel
theorem dX7_match_56 : decode cX7_match 56 = .ok (.aload_n 0, 1) := by decide +kernel
theorem dX7_match_57 : decode cX7_match 57 = .ok (.iload 5, 2) := by decide +kernel
theorem dX7_match_59 : decode cX7_match 59 = .ok (.invokevirtual 214, 3) := by decide +kernel
theorem dX7_match_62 : decode cX7_match 62 = .ok (.istore 6, 2) := by decide +kernel
theorem dX7_match_64 : decode cX7_match 64 = .ok (.iload 6, 2) := by decide +kernel
theorem dX7_match_66 : decode cX7_match 66 = .ok (.iload 4, 2) := by decide +kernel
theorem dX7_match_68 : decode cX7_match 68 = .ok (.if_icmp .le 8, 3) := by decide +kernel
theorem dX7_match_71 : decode cX7_match 71 = .ok (.iload 5, 2) := by decide +kernel
theorem dX7_match_73 : decode cX7_match 73 = .ok (.goto 4, 3) := by decide +kernel
theorem dX7_match_76 : decode cX7_match 76 = .ok (.iload_n 3, 1) := by decide +kernel
theorem dX7_match_77 : decode cX7_match 77 = .ok (.istore_n 3, 1) := by decide +kernel
theorem dX7_match_78 : decode cX7_match 78 = .ok (.iload 6, 2) := by decide +kernel
theorem dX7_match_80 : decode cX7_match 80 = .ok (.iload 4, 2) := by decide +kernel
theorem dX7_match_82 : decode cX7_match 82 = .ok (.if_icmp .le 8, 3) := by decide +kernel
theorem dX7_match_85 : decode cX7_match 85 = .ok (.iload 6, 2) := by decide +kernel
theorem dX7_match_87 : decode cX7_match 87 = .ok (.goto 5, 3) := by decide +kernel
theorem dX7_match_90 : decode cX7_match 90 = .ok (.iload 4, 2) := by decide +kernel
theorem dX7_match_92 : decode cX7_match 92 = .ok (.istore 4, 2) := by decide +kernel
theorem dX7_match_94 : decode cX7_match 94 = .ok (.iinc 5 1, 3) := by decide +kernel
theorem dX7_match_97 : decode cX7_match 97 = .ok (.goto (-47), 3) := by decide +kernel
theorem dX7_match_100 : decode cX7_match 100 = .ok (.aload_n 0, 1) := by decide +kernel
theorem dX7_match_101 : decode cX7_match 101 = .ok (.iload_n 3, 1) := by decide +kernel
theorem dX7_match_102 : decode cX7_match 102 = .ok (.invokevirtual 214, 3) := by decide +kernel
theorem dX7_match_105 : decode cX7_match 105 = .ok (.pop, 1) := by decide +kernel
theorem dX7_match_106 : decode cX7_match 106 = .ok (.iload_n 1, 1) := by decide +kernel
theorem dX7_match_107 : decode cX7_match 107 = .ok (.ifCond .ge 8, 3) := by decide +kernel
theorem dX7_match_110 : decode cX7_match 110 = .ok (.iload 4, 2) := by decide +kernel
theorem dX7_match_112 : decode cX7_match 112 = .ok (.goto 22, 3) := by decide +kernel
theorem dX7_match_115 : decode cX7_match 115 = .ok (.aload_n 0, 1) := by decide +kernel
theorem dX7_match_116 : decode cX7_match 116 = .ok (.iload_n 1, 1) := by decide +kernel
theorem dX7_match_117 : decode cX7_match 117 = .ok (.invokevirtual 139, 3) := by decide +kernel
theorem dX7_match_120 : decode cX7_match 120 = .ok (.ifCond .eq 8, 3) := by decide +kernel
theorem dX7_match_123 : decode cX7_match 123 = .ok (.bipush (-9), 2) := by decide +kernel
theorem dX7_match_125 : decode cX7_match 125 = .ok (.goto 9, 3) := by decide +kernel
theorem dX7_match_128 : decode cX7_match 128 = .ok (.aload_n 0, 1) := by decide +kernel
theorem dX7_match_129 : decode cX7_match 129 = .ok (.getfield 52, 3) := by decide +kernel
theorem dX7_match_132 : decode cX7_match 132 = .ok (.iload_n 1, 1) := by decide +kernel
theorem dX7_match_133 : decode cX7_match 133 = .ok (.iaload, 1) := by decide +kernel
theorem dX7_match_134 : decode cX7_match 134 = .ok (.ireturn, 1) := by decide +kernel
theorem dX7_help_0 : decode cX7_help 0 = .ok (.aload_n 0, 1) := by decide +kernel
theorem dX7_help_1 : decode cX7_help 1 = .ok (.iload_n 1, 1) := by decide +kernel
theorem dX7_help_2 : decode cX7_help 2 = .ok (.invokevirtual 139, 3) := by decide +kernel
theorem dX7_help_5 : decode cX7_help 5 = .ok (.ifCond .eq 5, 3) := by decide +kernel
theorem dX7_help_8 : decode cX7_help 8 = .ok (.iconst (-1), 1) := by decide +kernel
theorem dX7_help_9 : decode cX7_help 9 = .ok (.ireturn, 1) := by decide +kernel
theorem dX7_help_10 : decode cX7_help 10 = .ok (.iconst 0, 1) := by decide +kernel
theorem dX7_help_11 : decode cX7_help 11 = .ok (.istore_n 2, 1) := by decide +kernel
theorem dX7_help_12 : decode cX7_help 12 = .ok (.iconst 0, 1) := by decide +kernel
theorem dX7_help_13 : decode cX7_help 13 = .ok (.istore_n 3, 1) := by decide +kernel
theorem dX7_help_14 : decode cX7_help 14 = .ok (.iload_n 3, 1) := by decide +kernel
theorem dX7_help_15 : decode cX7_help 15 = .ok (.aload_n 0, 1) := by decide +kernel
theorem dX7_help_16 : decode cX7_help 16 = .ok (.getfield 87, 3) := by decide +kernel
theorem dX7_help_19 : decode cX7_help 19 = .ok (.if_icmp .ge 60, 3) := by decide +kernel
theorem dX7_help_22 : decode cX7_help 22 = .ok (.aload_n 0, 1) := by decide +kernel
theorem dX7_help_23 : decode cX7_help 23 = .ok (.getfield 16, 3) := by decide +kernel
theorem dX7_help_26 : decode cX7_help 26 = .ok (.iload_n 3, 1) := by decide +kernel
theorem dX7_help_27 : decode cX7_help 27 = .ok (.iaload, 1) := by decide +kernel
theorem dX7_help_28 : decode cX7_help 28 = .ok (.istore 4, 2) := by decide +kernel
theorem dX7_help_30 : decode cX7_help 30 = .ok (.iload_n 2, 1) := by decide +kernel
theorem dX7_help_31 : decode cX7_help 31 = .ok (.iload 4, 2) := by decide +kernel
theorem dX7_help_33 : decode cX7_help 33 = .ok (.bipush 6, 2) := by decide +kernel
theorem dX7_help_35 : decode cX7_help 35 = .ok (.if_icmp .ge 35, 3) := by decide +kernel
theorem dX7_help_38 : decode cX7_help 38 = .ok (.aload_n 0, 1) := by decide +kernel
theorem dX7_help_39 : decode cX7_help 39 = .ok (.getfield 13, 3) := by decide +kernel
theorem dX7_help_42 : decode cX7_help 42 = .ok (.iload_n 1, 1) := by decide +kernel
theorem dX7_help_43 : decode cX7_help 43 = .ok (.iaload, 1) := by decide +kernel
theorem dX7_help_44 : decode cX7_help 44 = .ok (.iload 4, 2) := by decide +kernel
theorem dX7_help_46 : decode cX7_help 46 = .ok (.invokestatic 149, 3) := by decide +kernel
theorem dX7_help_49 : decode cX7_help 49 = .ok (.ifCond .eq 21, 3) := by decide +kernel
theorem dX7_help_52 : decode cX7_help 52 = .ok (.aload_n 0, 1) := by decide +kernel
theorem dX7_help_53 : decode cX7_help 53 = .ok (.getfield 13, 3) := by decide +kernel
theorem dX7_help_56 : decode cX7_help 56 = .ok (.iload_n 3, 1) := by decide +kernel
theorem dX7_help_57 : decode cX7_help 57 = .ok (.iaload, 1) := by decide +kernel
theorem dX7_help_58 : decode cX7_help 58 = .ok (.iload 4, 2) := by decide +kernel
theorem dX7_help_60 : decode cX7_help 60 = .ok (.invokestatic 149, 3) := by decide +kernel
theorem dX7_help_63 : decode cX7_help 63 = .ok (.ifCond .ne 7, 3) := by decide +kernel
theorem dX7_help_66 : decode cX7_help 66 = .ok (.iconst 1, 1) := by decide +kernel
theorem dX7_help_67 : decode cX7_help 67 = .ok (.goto 4, 3) := by decide +kernel
theorem dX7_help_70 : decode cX7_help 70 = .ok (.iconst 0, 1) := by decide +kernel
theorem dX7_help_71 : decode cX7_help 71 = .ok (.iadd, 1) := by decide +kernel
theorem dX7_help_72 : decode cX7_help 72 = .ok (.istore_n 2, 1) := by decide +kernel
theorem dX7_help_73 : decode cX7_help 73 = .ok (.iinc 3 1, 3) := by decide +kernel
theorem dX7_help_76 : decode cX7_help 76 = .ok (.goto (-62), 3) := by decide +kernel
theorem dX7_help_79 : decode cX7_help 79 = .ok (.iload_n 2, 1) := by decide +kernel
theorem dX7_help_80 : decode cX7_help 80 = .ok (.ireturn, 1) := by decide +kernel
theorem dX7_reading_0 : decode cX7_reading 0 = .ok (.aload_n 0, 1) := by decide +kernel
theorem dX7_reading_1 : decode cX7_reading 1 = .ok (.iload_n 1, 1) := by decide +kernel
theorem dX7_reading_2 : decode cX7_reading 2 = .ok (.invokevirtual 139, 3) := by decide +kernel
theorem dX7_reading_5 : decode cX7_reading 5 = .ok (.ifCond .ne 15, 3) := by decide +kernel
theorem dX7_reading_8 : decode cX7_reading 8 = .ok (.iload_n 2, 1) := by decide +kernel
theorem dX7_reading_9 : decode cX7_reading 9 = .ok (.i2l, 1) := by decide +kernel
theorem dX7_reading_10 : decode cX7_reading 10 = .ok (.lconst 0, 1) := by decide +kernel
theorem dX7_reading_11 : decode cX7_reading 11 = .ok (.ldc2_w 217, 3) := by decide +kernel
theorem dX7_reading_14 : decode cX7_reading 14 = .ok (.invokestatic 90, 3) := by decide +kernel
theorem dX7_reading_17 : decode cX7_reading 17 = .ok (.ifCond .ne 5, 3) := by decide +kernel
theorem dX7_reading_20 : decode cX7_reading 20 = .ok (.iconst (-1), 1) := by decide +kernel
theorem dX7_reading_21 : decode cX7_reading 21 = .ok (.ireturn, 1) := by decide +kernel
theorem dX7_reading_22 : decode cX7_reading 22 = .ok (.aload_n 0, 1) := by decide +kernel
theorem dX7_reading_23 : decode cX7_reading 23 = .ok (.getfield 136, 3) := by decide +kernel
theorem dX7_reading_26 : decode cX7_reading 26 = .ok (.bipush 8, 2) := by decide +kernel
theorem dX7_reading_28 : decode cX7_reading 28 = .ok (.if_icmp .ne 6, 3) := by decide +kernel
theorem dX7_reading_31 : decode cX7_reading 31 = .ok (.bipush (-4), 2) := by decide +kernel
theorem dX7_reading_33 : decode cX7_reading 33 = .ok (.ireturn, 1) := by decide +kernel
theorem dX7_reading_34 : decode cX7_reading 34 = .ok (.aload_n 0, 1) := by decide +kernel
theorem dX7_reading_35 : decode cX7_reading 35 = .ok (.getfield 55, 3) := by decide +kernel
theorem dX7_reading_38 : decode cX7_reading 38 = .ok (.aload_n 0, 1) := by decide +kernel
theorem dX7_reading_39 : decode cX7_reading 39 = .ok (.getfield 136, 3) := by decide +kernel
theorem dX7_reading_42 : decode cX7_reading 42 = .ok (.iload_n 1, 1) := by decide +kernel
theorem dX7_reading_43 : decode cX7_reading 43 = .ok (.iastore, 1) := by decide +kernel
theorem dX7_reading_44 : decode cX7_reading 44 = .ok (.aload_n 0, 1) := by decide +kernel
theorem dX7_reading_45 : decode cX7_reading 45 = .ok (.getfield 58, 3) := by decide +kernel
theorem dX7_reading_48 : decode cX7_reading 48 = .ok (.aload_n 0, 1) := by decide +kernel
theorem dX7_reading_49 : decode cX7_reading 49 = .ok (.getfield 136, 3) := by decide +kernel
theorem dX7_reading_52 : decode cX7_reading 52 = .ok (.iload_n 2, 1) := by decide +kernel
theorem dX7_reading_53 : decode cX7_reading 53 = .ok (.iastore, 1) := by decide +kernel
theorem dX7_reading_54 : decode cX7_reading 54 = .ok (.aload_n 0, 1) := by decide +kernel
theorem dX7_reading_55 : decode cX7_reading 55 = .ok (.getfield 61, 3) := by decide +kernel
theorem dX7_reading_58 : decode cX7_reading 58 = .ok (.aload_n 0, 1) := by decide +kernel
theorem dX7_reading_59 : decode cX7_reading 59 = .ok (.getfield 136, 3) := by decide +kernel
theorem dX7_reading_62 : decode cX7_reading 62 = .ok (.iload_n 3, 1) := by decide +kernel
theorem dX7_reading_63 : decode cX7_reading 63 = .ok (.bastore, 1) := by decide +kernel
theorem dX7_reading_64 : decode cX7_reading 64 = .ok (.aload_n 0, 1) := by decide +kernel
theorem dX7_reading_65 : decode cX7_reading 65 = .ok (.dup, 1) := by decide +kernel
theorem dX7_reading_66 : decode cX7_reading 66 = .ok (.getfield 136, 3) := by decide +kernel
theorem dX7_reading_69 : decode cX7_reading 69 = .ok (.iconst 1, 1) := by decide +kernel
theorem dX7_reading_70 : decode cX7_reading 70 = .ok (.iadd, 1) := by decide +kernel
theorem dX7_reading_71 : decode cX7_reading 71 = .ok (.putfield 136, 3) := by decide +kernel
theorem dX7_reading_74 : decode cX7_reading 74 = .ok (.aload_n 0, 1) := by decide +kernel
theorem dX7_reading_75 : decode cX7_reading 75 = .ok (.getfield 136, 3) := by decide +kernel
theorem dX7_reading_78 : decode cX7_reading 78 = .ok (.iconst 1, 1) := by decide +kernel
theorem dX7_reading_79 : decode cX7_reading 79 = .ok (.isub, 1) := by decide +kernel
theorem dX7_reading_80 : decode cX7_reading 80 = .ok (.ireturn, 1) := by decide +kernel
theorem dX7_back_0 : decode cX7_back 0 = .ok (.iload_n 1, 1) := by decide +kernel
theorem dX7_back_1 : decode cX7_back 1 = .ok (.i2l, 1) := by decide +kernel
theorem dX7_back_2 : decode cX7_back 2 = .ok (.lconst 0, 1) := by decide +kernel
theorem dX7_back_3 : decode cX7_back 3 = .ok (.aload_n 0, 1) := by decide +kernel
theorem dX7_back_4 : decode cX7_back 4 = .ok (.getfield 136, 3) := by decide +kernel
theorem dX7_back_7 : decode cX7_back 7 = .ok (.i2l, 1) := by decide +kernel
theorem dX7_back_8 : decode cX7_back 8 = .ok (.invokestatic 90, 3) := by decide +kernel
theorem dX7_back_11 : decode cX7_back 11 = .ok (.ifCond .ne 6, 3) := by decide +kernel
theorem dX7_back_14 : decode cX7_back 14 = .ok (.bipush (-2), 2) := by decide +kernel
theorem dX7_back_16 : decode cX7_back 16 = .ok (.ireturn, 1) := by decide +kernel
theorem dX7_back_17 : decode cX7_back 17 = .ok (.aload_n 0, 1) := by decide +kernel
theorem dX7_back_18 : decode cX7_back 18 = .ok (.dup, 1) := by decide +kernel
theorem dX7_back_19 : decode cX7_back 19 = .ok (.getfield 136, 3) := by decide +kernel
theorem dX7_back_22 : decode cX7_back 22 = .ok (.iload_n 1, 1) := by decide +kernel
theorem dX7_back_23 : decode cX7_back 23 = .ok (.isub, 1) := by decide +kernel
theorem dX7_back_24 : decode cX7_back 24 = .ok (.putfield 136, 3) := by decide +kernel
theorem dX7_back_27 : decode cX7_back 27 = .ok (.aload_n 0, 1) := by decide +kernel
theorem dX7_back_28 : decode cX7_back 28 = .ok (.getfield 136, 3) := by decide +kernel
theorem dX7_back_31 : decode cX7_back 31 = .ok (.ireturn, 1) := by decide +kernel
theorem dX7_areSo_0 : decode cX7_areSo 0 = .ok (.aload_n 0, 1) := by decide +kernel
theorem dX7_areSo_1 : decode cX7_areSo 1 = .ok (.iload_n 1, 1) := by decide +kernel
theorem dX7_areSo_2 : decode cX7_areSo 2 = .ok (.iload_n 2, 1) := by decide +kernel
theorem dX7_areSo_3 : decode cX7_areSo 3 = .ok (.invokevirtual 202, 3) := by decide +kernel
theorem dX7_areSo_6 : decode cX7_areSo 6 = .ok (.aload_n 0, 1) := by decide +kernel
theorem dX7_areSo_7 : decode cX7_areSo 7 = .ok (.getfield 159, 3) := by decide +kernel
theorem dX7_areSo_10 : decode cX7_areSo 10 = .ok (.ifCond .ge 7, 3) := by decide +kernel
theorem dX7_areSo_13 : decode cX7_areSo 13 = .ok (.iconst 1, 1) := by decide +kernel
theorem dX7_areSo_14 : decode cX7_areSo 14 = .ok (.goto 4, 3) := by decide +kernel
theorem dX7_areSo_17 : decode cX7_areSo 17 = .ok (.iconst 0, 1) := by decide +kernel
theorem dX7_areSo_18 : decode cX7_areSo 18 = .ok (.istore_n 3, 1) := by decide +kernel
theorem dX7_areSo_19 : decode cX7_areSo 19 = .ok (.iconst 0, 1) := by decide +kernel
theorem dX7_areSo_20 : decode cX7_areSo 20 = .ok (.istore 4, 2) := by decide +kernel
theorem dX7_areSo_22 : decode cX7_areSo 22 = .ok (.iload 4, 2) := by decide +kernel
theorem dX7_areSo_24 : decode cX7_areSo 24 = .ok (.aload_n 0, 1) := by decide +kernel
theorem dX7_areSo_25 : decode cX7_areSo 25 = .ok (.getfield 136, 3) := by decide +kernel
theorem dX7_areSo_28 : decode cX7_areSo 28 = .ok (.if_icmp .ge 51, 3) := by decide +kernel
theorem dX7_areSo_31 : decode cX7_areSo 31 = .ok (.iload_n 3, 1) := by decide +kernel
theorem dX7_areSo_32 : decode cX7_areSo 32 = .ok (.ifCond .eq 39, 3) := by decide +kernel
theorem dX7_areSo_35 : decode cX7_areSo 35 = .ok (.aload_n 0, 1) := by decide +kernel
theorem dX7_areSo_36 : decode cX7_areSo 36 = .ok (.getfield 43, 3) := by decide +kernel
theorem dX7_areSo_39 : decode cX7_areSo 39 = .ok (.aload_n 0, 1) := by decide +kernel
theorem dX7_areSo_40 : decode cX7_areSo 40 = .ok (.getfield 55, 3) := by decide +kernel
theorem dX7_areSo_43 : decode cX7_areSo 43 = .ok (.iload 4, 2) := by decide +kernel
theorem dX7_areSo_45 : decode cX7_areSo 45 = .ok (.iaload, 1) := by decide +kernel
theorem dX7_areSo_46 : decode cX7_areSo 46 = .ok (.iaload, 1) := by decide +kernel
theorem dX7_areSo_47 : decode cX7_areSo 47 = .ok (.aload_n 0, 1) := by decide +kernel
theorem dX7_areSo_48 : decode cX7_areSo 48 = .ok (.getfield 58, 3) := by decide +kernel
theorem dX7_areSo_51 : decode cX7_areSo 51 = .ok (.iload 4, 2) := by decide +kernel
theorem dX7_areSo_53 : decode cX7_areSo 53 = .ok (.iaload, 1) := by decide +kernel
theorem dX7_areSo_54 : decode cX7_areSo 54 = .ok (.invokestatic 149, 3) := by decide +kernel
theorem dX7_areSo_57 : decode cX7_areSo 57 = .ok (.aload_n 0, 1) := by decide +kernel
theorem dX7_areSo_58 : decode cX7_areSo 58 = .ok (.getfield 61, 3) := by decide +kernel
theorem dX7_areSo_61 : decode cX7_areSo 61 = .ok (.iload 4, 2) := by decide +kernel
theorem dX7_areSo_63 : decode cX7_areSo 63 = .ok (.baload, 1) := by decide +kernel
theorem dX7_areSo_64 : decode cX7_areSo 64 = .ok (.if_icmp .ne 7, 3) := by decide +kernel
theorem dX7_areSo_67 : decode cX7_areSo 67 = .ok (.iconst 1, 1) := by decide +kernel
theorem dX7_areSo_68 : decode cX7_areSo 68 = .ok (.goto 4, 3) := by decide +kernel
theorem dX7_areSo_71 : decode cX7_areSo 71 = .ok (.iconst 0, 1) := by decide +kernel
theorem dX7_areSo_72 : decode cX7_areSo 72 = .ok (.istore_n 3, 1) := by decide +kernel
theorem dX7_areSo_73 : decode cX7_areSo 73 = .ok (.iinc 4 1, 3) := by decide +kernel
theorem dX7_areSo_76 : decode cX7_areSo 76 = .ok (.goto (-54), 3) := by decide +kernel
theorem dX7_areSo_79 : decode cX7_areSo 79 = .ok (.iload_n 3, 1) := by decide +kernel
theorem dX7_areSo_80 : decode cX7_areSo 80 = .ok (.ireturn, 1) := by decide +kernel
theorem dX7_seenBarred_0 : decode cX7_seenBarred 0 = .ok (.aload_n 0, 1) := by decide +kernel
theorem dX7_seenBarred_1 : decode cX7_seenBarred 1 = .ok (.iload_n 1, 1) := by decide +kernel
theorem dX7_seenBarred_2 : decode cX7_seenBarred 2 = .ok (.invokevirtual 139, 3) := by decide +kernel
theorem dX7_seenBarred_5 : decode cX7_seenBarred 5 = .ok (.ifCond .ne 10, 3) := by decide +kernel
theorem dX7_seenBarred_8 : decode cX7_seenBarred 8 = .ok (.iload_n 2, 1) := by decide +kernel
theorem dX7_seenBarred_9 : decode cX7_seenBarred 9 = .ok (.invokestatic 120, 3) := by decide +kernel
theorem dX7_seenBarred_12 : decode cX7_seenBarred 12 = .ok (.ifCond .eq 9, 3) := by decide +kernel
theorem dX7_seenBarred_15 : decode cX7_seenBarred 15 = .ok (.aload_n 0, 1) := by decide +kernel
theorem dX7_seenBarred_16 : decode cX7_seenBarred 16 = .ok (.iconst (-1), 1) := by decide +kernel
theorem dX7_seenBarred_17 : decode cX7_seenBarred 17 = .ok (.invokevirtual 124, 3) := by decide +kernel
theorem dX7_seenBarred_20 : decode cX7_seenBarred 20 = .ok (.ireturn, 1) := by decide +kernel
theorem dX7_seenBarred_21 : decode cX7_seenBarred 21 = .ok (.iload_n 3, 1) := by decide +kernel
theorem dX7_seenBarred_22 : decode cX7_seenBarred 22 = .ok (.i2l, 1) := by decide +kernel
theorem dX7_seenBarred_23 : decode cX7_seenBarred 23 = .ok (.lconst 0, 1) := by decide +kernel
theorem dX7_seenBarred_24 : decode cX7_seenBarred 24 = .ok (.ldc2_w 127, 3) := by decide +kernel
theorem dX7_seenBarred_27 : decode cX7_seenBarred 27 = .ok (.invokestatic 90, 3) := by decide +kernel
theorem dX7_seenBarred_30 : decode cX7_seenBarred 30 = .ok (.ifCond .eq 21, 3) := by decide +kernel
theorem dX7_seenBarred_33 : decode cX7_seenBarred 33 = .ok (.iload 5, 2) := by decide +kernel
theorem dX7_seenBarred_35 : decode cX7_seenBarred 35 = .ok (.i2l, 1) := by decide +kernel
theorem dX7_seenBarred_36 : decode cX7_seenBarred 36 = .ok (.lconst 0, 1) := by decide +kernel
theorem dX7_seenBarred_37 : decode cX7_seenBarred 37 = .ok (.ldc2_w 191, 3) := by decide +kernel
theorem dX7_seenBarred_40 : decode cX7_seenBarred 40 = .ok (.invokestatic 90, 3) := by decide +kernel
theorem dX7_seenBarred_43 : decode cX7_seenBarred 43 = .ok (.ifCond .eq 8, 3) := by decide +kernel
theorem dX7_seenBarred_46 : decode cX7_seenBarred 46 = .ok (.iload 6, 2) := by decide +kernel
theorem dX7_seenBarred_48 : decode cX7_seenBarred 48 = .ok (.ifCond .ne 10, 3) := by decide +kernel
theorem dX7_seenBarred_51 : decode cX7_seenBarred 51 = .ok (.aload_n 0, 1) := by decide +kernel
theorem dX7_seenBarred_52 : decode cX7_seenBarred 52 = .ok (.bipush (-2), 2) := by decide +kernel
theorem dX7_seenBarred_54 : decode cX7_seenBarred 54 = .ok (.invokevirtual 124, 3) := by decide +kernel
theorem dX7_seenBarred_57 : decode cX7_seenBarred 57 = .ok (.ireturn, 1) := by decide +kernel
theorem dX7_seenBarred_58 : decode cX7_seenBarred 58 = .ok (.aload_n 0, 1) := by decide +kernel
theorem dX7_seenBarred_59 : decode cX7_seenBarred 59 = .ok (.iload_n 2, 1) := by decide +kernel
theorem dX7_seenBarred_60 : decode cX7_seenBarred 60 = .ok (.iload_n 3, 1) := by decide +kernel
theorem dX7_seenBarred_61 : decode cX7_seenBarred 61 = .ok (.iload 4, 2) := by decide +kernel
theorem dX7_seenBarred_63 : decode cX7_seenBarred 63 = .ok (.iload 5, 2) := by decide +kernel
theorem dX7_seenBarred_65 : decode cX7_seenBarred 65 = .ok (.invokevirtual 199, 3) := by decide +kernel
theorem dX7_seenBarred_68 : decode cX7_seenBarred 68 = .ok (.ireturn, 1) := by decide +kernel
theorem dX7_told_0 : decode cX7_told 0 = .ok (.aload_n 0, 1) := by decide +kernel
theorem dX7_told_1 : decode cX7_told 1 = .ok (.iload_n 1, 1) := by decide +kernel
theorem dX7_told_2 : decode cX7_told 2 = .ok (.iload_n 2, 1) := by decide +kernel
theorem dX7_told_3 : decode cX7_told 3 = .ok (.iload_n 3, 1) := by decide +kernel
theorem dX7_told_4 : decode cX7_told 4 = .ok (.iload 4, 2) := by decide +kernel
theorem dX7_told_6 : decode cX7_told 6 = .ok (.iload 5, 2) := by decide +kernel
theorem dX7_told_8 : decode cX7_told 8 = .ok (.iload 6, 2) := by decide +kernel
theorem dX7_told_10 : decode cX7_told 10 = .ok (.i2l, 1) := by decide +kernel
theorem dX7_told_11 : decode cX7_told 11 = .ok (.lconst 0, 1) := by decide +kernel
theorem dX7_told_12 : decode cX7_told 12 = .ok (.lconst 1, 1) := by decide +kernel
theorem dX7_told_13 : decode cX7_told 13 = .ok (.invokestatic 90, 3) := by decide +kernel
theorem dX7_told_16 : decode cX7_told 16 = .ok (.invokevirtual 219, 3) := by decide +kernel
theorem dX7_told_19 : decode cX7_told 19 = .ok (.istore 7, 2) := by decide +kernel
theorem dX7_told_21 : decode cX7_told 21 = .ok (.iload 7, 2) := by decide +kernel
theorem dX7_told_23 : decode cX7_told 23 = .ok (.ifCond .ge 6, 3) := by decide +kernel
theorem dX7_told_26 : decode cX7_told 26 = .ok (.iload 7, 2) := by decide +kernel
theorem dX7_told_28 : decode cX7_told 28 = .ok (.ireturn, 1) := by decide +kernel
theorem dX7_told_29 : decode cX7_told 29 = .ok (.aload_n 0, 1) := by decide +kernel
theorem dX7_told_30 : decode cX7_told 30 = .ok (.getfield 13, 3) := by decide +kernel
theorem dX7_told_33 : decode cX7_told 33 = .ok (.iload_n 1, 1) := by decide +kernel
theorem dX7_told_34 : decode cX7_told 34 = .ok (.iaload, 1) := by decide +kernel
theorem dX7_told_35 : decode cX7_told 35 = .ok (.istore 8, 2) := by decide +kernel
theorem dX7_told_37 : decode cX7_told 37 = .ok (.iconst 0, 1) := by decide +kernel
theorem dX7_told_38 : decode cX7_told 38 = .ok (.istore 9, 2) := by decide +kernel
theorem dX7_told_40 : decode cX7_told 40 = .ok (.bipush (-9), 2) := by decide +kernel
theorem dX7_told_42 : decode cX7_told 42 = .ok (.istore 10, 2) := by decide +kernel
theorem dX7_told_44 : decode cX7_told 44 = .ok (.iconst 0, 1) := by decide +kernel
theorem dX7_told_45 : decode cX7_told 45 = .ok (.istore 11, 2) := by decide +kernel
theorem dX7_told_47 : decode cX7_told 47 = .ok (.iload 11, 2) := by decide +kernel
theorem dX7_told_49 : decode cX7_told 49 = .ok (.bipush 64, 2) := by decide +kernel
theorem dX7_told_51 : decode cX7_told 51 = .ok (.if_icmp .ge 50, 3) := by decide +kernel
theorem dX7_told_54 : decode cX7_told 54 = .ok (.aload_n 0, 1) := by decide +kernel
theorem dX7_told_55 : decode cX7_told 55 = .ok (.getfield 13, 3) := by decide +kernel
theorem dX7_told_58 : decode cX7_told 58 = .ok (.iload_n 1, 1) := by decide +kernel
theorem dX7_told_59 : decode cX7_told 59 = .ok (.iload 11, 2) := by decide +kernel
theorem dX7_told_61 : decode cX7_told 61 = .ok (.iastore, 1) := by decide +kernel
theorem dX7_told_62 : decode cX7_told 62 = .ok (.aload_n 0, 1) := by decide +kernel
theorem dX7_told_63 : decode cX7_told 63 = .ok (.bipush 60, 2) := by decide +kernel
theorem dX7_told_65 : decode cX7_told 65 = .ok (.iload_n 2, 1) := by decide +kernel
theorem dX7_told_66 : decode cX7_told 66 = .ok (.imul, 1) := by decide +kernel
theorem dX7_told_67 : decode cX7_told 67 = .ok (.iload 4, 2) := by decide +kernel
theorem dX7_told_69 : decode cX7_told 69 = .ok (.iadd, 1) := by decide +kernel
theorem dX7_told_70 : decode cX7_told 70 = .ok (.iload 5, 2) := by decide +kernel
theorem dX7_told_72 : decode cX7_told 72 = .ok (.invokevirtual 223, 3) := by decide +kernel
theorem dX7_told_75 : decode cX7_told 75 = .ok (.ifCond .eq 20, 3) := by decide +kernel
theorem dX7_told_78 : decode cX7_told 78 = .ok (.iinc 9 1, 3) := by decide +kernel
theorem dX7_told_81 : decode cX7_told 81 = .ok (.iload 10, 2) := by decide +kernel
theorem dX7_told_83 : decode cX7_told 83 = .ok (.ifCond .ge 8, 3) := by decide +kernel
theorem dX7_told_86 : decode cX7_told 86 = .ok (.iload 11, 2) := by decide +kernel
theorem dX7_told_88 : decode cX7_told 88 = .ok (.goto 5, 3) := by decide +kernel
theorem dX7_told_91 : decode cX7_told 91 = .ok (.iload 10, 2) := by decide +kernel
theorem dX7_told_93 : decode cX7_told 93 = .ok (.istore 10, 2) := by decide +kernel
theorem dX7_told_95 : decode cX7_told 95 = .ok (.iinc 11 1, 3) := by decide +kernel
theorem dX7_told_98 : decode cX7_told 98 = .ok (.goto (-51), 3) := by decide +kernel
theorem dX7_told_101 : decode cX7_told 101 = .ok (.aload_n 0, 1) := by decide +kernel
theorem dX7_told_102 : decode cX7_told 102 = .ok (.getfield 13, 3) := by decide +kernel
theorem dX7_told_105 : decode cX7_told 105 = .ok (.iload_n 1, 1) := by decide +kernel
theorem dX7_told_106 : decode cX7_told 106 = .ok (.iload 8, 2) := by decide +kernel
theorem dX7_told_108 : decode cX7_told 108 = .ok (.iastore, 1) := by decide +kernel
theorem dX7_told_109 : decode cX7_told 109 = .ok (.iload 6, 2) := by decide +kernel
theorem dX7_told_111 : decode cX7_told 111 = .ok (.ifCond .ne 8, 3) := by decide +kernel
theorem dX7_told_114 : decode cX7_told 114 = .ok (.iload 9, 2) := by decide +kernel
theorem dX7_told_116 : decode cX7_told 116 = .ok (.goto 5, 3) := by decide +kernel
theorem dX7_told_119 : decode cX7_told 119 = .ok (.iload 10, 2) := by decide +kernel
theorem dX7_told_121 : decode cX7_told 121 = .ok (.ireturn, 1) := by decide +kernel
theorem dX7_kinds_0 : decode cX7_kinds 0 = .ok (.aload_n 0, 1) := by decide +kernel
theorem dX7_kinds_1 : decode cX7_kinds 1 = .ok (.iload_n 1, 1) := by decide +kernel
theorem dX7_kinds_2 : decode cX7_kinds 2 = .ok (.iload_n 2, 1) := by decide +kernel
theorem dX7_kinds_3 : decode cX7_kinds 3 = .ok (.iload_n 3, 1) := by decide +kernel
theorem dX7_kinds_4 : decode cX7_kinds 4 = .ok (.iload 4, 2) := by decide +kernel
theorem dX7_kinds_6 : decode cX7_kinds 6 = .ok (.iload 5, 2) := by decide +kernel
theorem dX7_kinds_8 : decode cX7_kinds 8 = .ok (.iconst 1, 1) := by decide +kernel
theorem dX7_kinds_9 : decode cX7_kinds 9 = .ok (.invokevirtual 219, 3) := by decide +kernel
theorem dX7_kinds_12 : decode cX7_kinds 12 = .ok (.istore 6, 2) := by decide +kernel
theorem dX7_kinds_14 : decode cX7_kinds 14 = .ok (.iload 6, 2) := by decide +kernel
theorem dX7_kinds_16 : decode cX7_kinds 16 = .ok (.ifCond .ge 6, 3) := by decide +kernel
theorem dX7_kinds_19 : decode cX7_kinds 19 = .ok (.iload 6, 2) := by decide +kernel
theorem dX7_kinds_21 : decode cX7_kinds 21 = .ok (.ireturn, 1) := by decide +kernel
theorem dX7_kinds_22 : decode cX7_kinds 22 = .ok (.aload_n 0, 1) := by decide +kernel
theorem dX7_kinds_23 : decode cX7_kinds 23 = .ok (.getfield 7, 3) := by decide +kernel
theorem dX7_kinds_26 : decode cX7_kinds 26 = .ok (.iload_n 1, 1) := by decide +kernel
theorem dX7_kinds_27 : decode cX7_kinds 27 = .ok (.iaload, 1) := by decide +kernel
theorem dX7_kinds_28 : decode cX7_kinds 28 = .ok (.istore 7, 2) := by decide +kernel
theorem dX7_kinds_30 : decode cX7_kinds 30 = .ok (.iconst 0, 1) := by decide +kernel
theorem dX7_kinds_31 : decode cX7_kinds 31 = .ok (.istore 8, 2) := by decide +kernel
theorem dX7_kinds_33 : decode cX7_kinds 33 = .ok (.iconst 0, 1) := by decide +kernel
theorem dX7_kinds_34 : decode cX7_kinds 34 = .ok (.istore 9, 2) := by decide +kernel
theorem dX7_kinds_36 : decode cX7_kinds 36 = .ok (.iload 9, 2) := by decide +kernel
theorem dX7_kinds_38 : decode cX7_kinds 38 = .ok (.iconst 3, 1) := by decide +kernel
theorem dX7_kinds_39 : decode cX7_kinds 39 = .ok (.if_icmp .ge 46, 3) := by decide +kernel
theorem dX7_kinds_42 : decode cX7_kinds 42 = .ok (.aload_n 0, 1) := by decide +kernel
theorem dX7_kinds_43 : decode cX7_kinds 43 = .ok (.getfield 7, 3) := by decide +kernel
theorem dX7_kinds_46 : decode cX7_kinds 46 = .ok (.iload_n 1, 1) := by decide +kernel
theorem dX7_kinds_47 : decode cX7_kinds 47 = .ok (.iload 9, 2) := by decide +kernel
theorem dX7_kinds_49 : decode cX7_kinds 49 = .ok (.iastore, 1) := by decide +kernel
theorem dX7_kinds_50 : decode cX7_kinds 50 = .ok (.iload 8, 2) := by decide +kernel
theorem dX7_kinds_52 : decode cX7_kinds 52 = .ok (.aload_n 0, 1) := by decide +kernel
theorem dX7_kinds_53 : decode cX7_kinds 53 = .ok (.bipush 60, 2) := by decide +kernel
theorem dX7_kinds_55 : decode cX7_kinds 55 = .ok (.iload_n 2, 1) := by decide +kernel
theorem dX7_kinds_56 : decode cX7_kinds 56 = .ok (.imul, 1) := by decide +kernel
theorem dX7_kinds_57 : decode cX7_kinds 57 = .ok (.iload 4, 2) := by decide +kernel
theorem dX7_kinds_59 : decode cX7_kinds 59 = .ok (.iadd, 1) := by decide +kernel
theorem dX7_kinds_60 : decode cX7_kinds 60 = .ok (.iload 5, 2) := by decide +kernel
theorem dX7_kinds_62 : decode cX7_kinds 62 = .ok (.invokevirtual 223, 3) := by decide +kernel
theorem dX7_kinds_65 : decode cX7_kinds 65 = .ok (.ifCond .eq 10, 3) := by decide +kernel
theorem dX7_kinds_68 : decode cX7_kinds 68 = .ok (.iconst 1, 1) := by decide +kernel
theorem dX7_kinds_69 : decode cX7_kinds 69 = .ok (.iload 9, 2) := by decide +kernel
theorem dX7_kinds_71 : decode cX7_kinds 71 = .ok (.ishl, 1) := by decide +kernel
theorem dX7_kinds_72 : decode cX7_kinds 72 = .ok (.goto 4, 3) := by decide +kernel
theorem dX7_kinds_75 : decode cX7_kinds 75 = .ok (.iconst 0, 1) := by decide +kernel
theorem dX7_kinds_76 : decode cX7_kinds 76 = .ok (.ior, 1) := by decide +kernel
theorem dX7_kinds_77 : decode cX7_kinds 77 = .ok (.istore 8, 2) := by decide +kernel
theorem dX7_kinds_79 : decode cX7_kinds 79 = .ok (.iinc 9 1, 3) := by decide +kernel
theorem dX7_kinds_82 : decode cX7_kinds 82 = .ok (.goto (-46), 3) := by decide +kernel
theorem dX7_kinds_85 : decode cX7_kinds 85 = .ok (.aload_n 0, 1) := by decide +kernel
theorem dX7_kinds_86 : decode cX7_kinds 86 = .ok (.getfield 7, 3) := by decide +kernel
theorem dX7_kinds_89 : decode cX7_kinds 89 = .ok (.iload_n 1, 1) := by decide +kernel
theorem dX7_kinds_90 : decode cX7_kinds 90 = .ok (.iload 7, 2) := by decide +kernel
theorem dX7_kinds_92 : decode cX7_kinds 92 = .ok (.iastore, 1) := by decide +kernel
theorem dX7_kinds_93 : decode cX7_kinds 93 = .ok (.iload 8, 2) := by decide +kernel
theorem dX7_kinds_95 : decode cX7_kinds 95 = .ok (.ireturn, 1) := by decide +kernel
theorem dX7_wears_0 : decode cX7_wears 0 = .ok (.aload_n 0, 1) := by decide +kernel
theorem dX7_wears_1 : decode cX7_wears 1 = .ok (.iload_n 1, 1) := by decide +kernel
theorem dX7_wears_2 : decode cX7_wears 2 = .ok (.iload_n 2, 1) := by decide +kernel
theorem dX7_wears_3 : decode cX7_wears 3 = .ok (.iload_n 3, 1) := by decide +kernel
theorem dX7_wears_4 : decode cX7_wears 4 = .ok (.iload 4, 2) := by decide +kernel
theorem dX7_wears_6 : decode cX7_wears 6 = .ok (.iload 5, 2) := by decide +kernel
theorem dX7_wears_8 : decode cX7_wears 8 = .ok (.iconst 1, 1) := by decide +kernel
theorem dX7_wears_9 : decode cX7_wears 9 = .ok (.invokevirtual 219, 3) := by decide +kernel
theorem dX7_wears_12 : decode cX7_wears 12 = .ok (.istore 6, 2) := by decide +kernel
theorem dX7_wears_14 : decode cX7_wears 14 = .ok (.iload 6, 2) := by decide +kernel
theorem dX7_wears_16 : decode cX7_wears 16 = .ok (.ifCond .ge 6, 3) := by decide +kernel
theorem dX7_wears_19 : decode cX7_wears 19 = .ok (.iload 6, 2) := by decide +kernel
theorem dX7_wears_21 : decode cX7_wears 21 = .ok (.ireturn, 1) := by decide +kernel
theorem dX7_wears_22 : decode cX7_wears 22 = .ok (.aload_n 0, 1) := by decide +kernel
theorem dX7_wears_23 : decode cX7_wears 23 = .ok (.getfield 19, 3) := by decide +kernel
theorem dX7_wears_26 : decode cX7_wears 26 = .ok (.iload_n 1, 1) := by decide +kernel
theorem dX7_wears_27 : decode cX7_wears 27 = .ok (.iaload, 1) := by decide +kernel
theorem dX7_wears_28 : decode cX7_wears 28 = .ok (.istore 7, 2) := by decide +kernel
theorem dX7_wears_30 : decode cX7_wears 30 = .ok (.iconst 0, 1) := by decide +kernel
theorem dX7_wears_31 : decode cX7_wears 31 = .ok (.istore 8, 2) := by decide +kernel
theorem dX7_wears_33 : decode cX7_wears 33 = .ok (.iconst 1, 1) := by decide +kernel
theorem dX7_wears_34 : decode cX7_wears 34 = .ok (.istore 9, 2) := by decide +kernel
theorem dX7_wears_36 : decode cX7_wears 36 = .ok (.iload 9, 2) := by decide +kernel
theorem dX7_wears_38 : decode cX7_wears 38 = .ok (.bipush 10, 2) := by decide +kernel
theorem dX7_wears_40 : decode cX7_wears 40 = .ok (.if_icmp .ge 46, 3) := by decide +kernel
theorem dX7_wears_43 : decode cX7_wears 43 = .ok (.aload_n 0, 1) := by decide +kernel
theorem dX7_wears_44 : decode cX7_wears 44 = .ok (.getfield 19, 3) := by decide +kernel
theorem dX7_wears_47 : decode cX7_wears 47 = .ok (.iload_n 1, 1) := by decide +kernel
theorem dX7_wears_48 : decode cX7_wears 48 = .ok (.iload 9, 2) := by decide +kernel
theorem dX7_wears_50 : decode cX7_wears 50 = .ok (.iastore, 1) := by decide +kernel
theorem dX7_wears_51 : decode cX7_wears 51 = .ok (.iload 8, 2) := by decide +kernel
theorem dX7_wears_53 : decode cX7_wears 53 = .ok (.aload_n 0, 1) := by decide +kernel
theorem dX7_wears_54 : decode cX7_wears 54 = .ok (.bipush 60, 2) := by decide +kernel
theorem dX7_wears_56 : decode cX7_wears 56 = .ok (.iload_n 2, 1) := by decide +kernel
theorem dX7_wears_57 : decode cX7_wears 57 = .ok (.imul, 1) := by decide +kernel
theorem dX7_wears_58 : decode cX7_wears 58 = .ok (.iload 4, 2) := by decide +kernel
theorem dX7_wears_60 : decode cX7_wears 60 = .ok (.iadd, 1) := by decide +kernel
theorem dX7_wears_61 : decode cX7_wears 61 = .ok (.iload 5, 2) := by decide +kernel
theorem dX7_wears_63 : decode cX7_wears 63 = .ok (.invokevirtual 223, 3) := by decide +kernel
theorem dX7_wears_66 : decode cX7_wears 66 = .ok (.ifCond .eq 10, 3) := by decide +kernel
theorem dX7_wears_69 : decode cX7_wears 69 = .ok (.iconst 1, 1) := by decide +kernel
theorem dX7_wears_70 : decode cX7_wears 70 = .ok (.iload 9, 2) := by decide +kernel
theorem dX7_wears_72 : decode cX7_wears 72 = .ok (.ishl, 1) := by decide +kernel
theorem dX7_wears_73 : decode cX7_wears 73 = .ok (.goto 4, 3) := by decide +kernel
theorem dX7_wears_76 : decode cX7_wears 76 = .ok (.iconst 0, 1) := by decide +kernel
theorem dX7_wears_77 : decode cX7_wears 77 = .ok (.ior, 1) := by decide +kernel
theorem dX7_wears_78 : decode cX7_wears 78 = .ok (.istore 8, 2) := by decide +kernel
theorem dX7_wears_80 : decode cX7_wears 80 = .ok (.iinc 9 1, 3) := by decide +kernel
theorem dX7_wears_83 : decode cX7_wears 83 = .ok (.goto (-47), 3) := by decide +kernel
theorem dX7_wears_86 : decode cX7_wears 86 = .ok (.aload_n 0, 1) := by decide +kernel
theorem dX7_wears_87 : decode cX7_wears 87 = .ok (.getfield 19, 3) := by decide +kernel
theorem dX7_wears_90 : decode cX7_wears 90 = .ok (.iload_n 1, 1) := by decide +kernel
theorem dX7_wears_91 : decode cX7_wears 91 = .ok (.iload 7, 2) := by decide +kernel
theorem dX7_wears_93 : decode cX7_wears 93 = .ok (.iastore, 1) := by decide +kernel
theorem dX7_wears_94 : decode cX7_wears 94 = .ok (.iload 8, 2) := by decide +kernel
theorem dX7_wears_96 : decode cX7_wears 96 = .ok (.ireturn, 1) := by decide +kernel
theorem dX7_odds_0 : decode cX7_odds 0 = .ok (.aload_n 0, 1) := by decide +kernel
theorem dX7_odds_1 : decode cX7_odds 1 = .ok (.iload_n 1, 1) := by decide +kernel
theorem dX7_odds_2 : decode cX7_odds 2 = .ok (.iload_n 2, 1) := by decide +kernel
theorem dX7_odds_3 : decode cX7_odds 3 = .ok (.iload_n 3, 1) := by decide +kernel
theorem dX7_odds_4 : decode cX7_odds 4 = .ok (.iload 4, 2) := by decide +kernel
theorem dX7_odds_6 : decode cX7_odds 6 = .ok (.iload 5, 2) := by decide +kernel
theorem dX7_odds_8 : decode cX7_odds 8 = .ok (.iload 6, 2) := by decide +kernel
theorem dX7_odds_10 : decode cX7_odds 10 = .ok (.i2l, 1) := by decide +kernel
theorem dX7_odds_11 : decode cX7_odds 11 = .ok (.lconst 0, 1) := by decide +kernel
theorem dX7_odds_12 : decode cX7_odds 12 = .ok (.lconst 1, 1) := by decide +kernel
theorem dX7_odds_13 : decode cX7_odds 13 = .ok (.invokestatic 90, 3) := by decide +kernel
theorem dX7_odds_16 : decode cX7_odds 16 = .ok (.invokevirtual 219, 3) := by decide +kernel
theorem dX7_odds_19 : decode cX7_odds 19 = .ok (.ifCond .ge 7, 3) := by decide +kernel
theorem dX7_odds_22 : decode cX7_odds 22 = .ok (.invokestatic 83, 3) := by decide +kernel
theorem dX7_odds_25 : decode cX7_odds 25 = .ok (.lreturn, 1) := by decide +kernel
theorem dX7_odds_26 : decode cX7_odds 26 = .ok (.aload_n 0, 1) := by decide +kernel
theorem dX7_odds_27 : decode cX7_odds 27 = .ok (.bipush 60, 2) := by decide +kernel
theorem dX7_odds_29 : decode cX7_odds 29 = .ok (.iload_n 2, 1) := by decide +kernel
theorem dX7_odds_30 : decode cX7_odds 30 = .ok (.imul, 1) := by decide +kernel
theorem dX7_odds_31 : decode cX7_odds 31 = .ok (.iload 4, 2) := by decide +kernel
theorem dX7_odds_33 : decode cX7_odds 33 = .ok (.iadd, 1) := by decide +kernel
theorem dX7_odds_34 : decode cX7_odds 34 = .ok (.iload 5, 2) := by decide +kernel
theorem dX7_odds_36 : decode cX7_odds 36 = .ok (.invokevirtual 202, 3) := by decide +kernel
theorem dX7_odds_39 : decode cX7_odds 39 = .ok (.aload_n 0, 1) := by decide +kernel
theorem dX7_odds_40 : decode cX7_odds 40 = .ok (.getfield 159, 3) := by decide +kernel
theorem dX7_odds_43 : decode cX7_odds 43 = .ok (.ifCond .lt 7, 3) := by decide +kernel
theorem dX7_odds_46 : decode cX7_odds 46 = .ok (.invokestatic 83, 3) := by decide +kernel
theorem dX7_odds_49 : decode cX7_odds 49 = .ok (.lreturn, 1) := by decide +kernel
theorem dX7_odds_50 : decode cX7_odds 50 = .ok (.aload_n 0, 1) := by decide +kernel
theorem dX7_odds_51 : decode cX7_odds 51 = .ok (.getfield 16, 3) := by decide +kernel
theorem dX7_odds_54 : decode cX7_odds 54 = .ok (.iload_n 1, 1) := by decide +kernel
theorem dX7_odds_55 : decode cX7_odds 55 = .ok (.iaload, 1) := by decide +kernel
theorem dX7_odds_56 : decode cX7_odds 56 = .ok (.bipush 6, 2) := by decide +kernel
theorem dX7_odds_58 : decode cX7_odds 58 = .ok (.if_icmp .ne 5, 3) := by decide +kernel
theorem dX7_odds_61 : decode cX7_odds 61 = .ok (.lconst 1, 1) := by decide +kernel
theorem dX7_odds_62 : decode cX7_odds 62 = .ok (.lreturn, 1) := by decide +kernel
theorem dX7_odds_63 : decode cX7_odds 63 = .ok (.iconst 0, 1) := by decide +kernel
theorem dX7_odds_64 : decode cX7_odds 64 = .ok (.istore 7, 2) := by decide +kernel
theorem dX7_odds_66 : decode cX7_odds 66 = .ok (.iconst 0, 1) := by decide +kernel
theorem dX7_odds_67 : decode cX7_odds 67 = .ok (.istore 8, 2) := by decide +kernel
theorem dX7_odds_69 : decode cX7_odds 69 = .ok (.iload 8, 2) := by decide +kernel
theorem dX7_odds_71 : decode cX7_odds 71 = .ok (.aload_n 0, 1) := by decide +kernel
theorem dX7_odds_72 : decode cX7_odds 72 = .ok (.getfield 87, 3) := by decide +kernel
theorem dX7_odds_75 : decode cX7_odds 75 = .ok (.if_icmp .ge 33, 3) := by decide +kernel
theorem dX7_odds_78 : decode cX7_odds 78 = .ok (.iload 7, 2) := by decide +kernel
theorem dX7_odds_80 : decode cX7_odds 80 = .ok (.aload_n 0, 1) := by decide +kernel
theorem dX7_odds_81 : decode cX7_odds 81 = .ok (.getfield 46, 3) := by decide +kernel
theorem dX7_odds_84 : decode cX7_odds 84 = .ok (.iload_n 1, 1) := by decide +kernel
theorem dX7_odds_85 : decode cX7_odds 85 = .ok (.iaload, 1) := by decide +kernel
theorem dX7_odds_86 : decode cX7_odds 86 = .ok (.iload 8, 2) := by decide +kernel
theorem dX7_odds_88 : decode cX7_odds 88 = .ok (.invokestatic 149, 3) := by decide +kernel
theorem dX7_odds_91 : decode cX7_odds 91 = .ok (.ifCond .eq 7, 3) := by decide +kernel
theorem dX7_odds_94 : decode cX7_odds 94 = .ok (.iconst 1, 1) := by decide +kernel
theorem dX7_odds_95 : decode cX7_odds 95 = .ok (.goto 4, 3) := by decide +kernel
theorem dX7_odds_98 : decode cX7_odds 98 = .ok (.iconst 0, 1) := by decide +kernel
theorem dX7_odds_99 : decode cX7_odds 99 = .ok (.iadd, 1) := by decide +kernel
theorem dX7_odds_100 : decode cX7_odds 100 = .ok (.istore 7, 2) := by decide +kernel
theorem dX7_odds_102 : decode cX7_odds 102 = .ok (.iinc 8 1, 3) := by decide +kernel
theorem dX7_odds_105 : decode cX7_odds 105 = .ok (.goto (-36), 3) := by decide +kernel
theorem dX7_odds_108 : decode cX7_odds 108 = .ok (.iload 6, 2) := by decide +kernel
theorem dX7_odds_110 : decode cX7_odds 110 = .ok (.ifCond .ne 12, 3) := by decide +kernel
theorem dX7_odds_113 : decode cX7_odds 113 = .ok (.lconst 1, 1) := by decide +kernel
theorem dX7_odds_114 : decode cX7_odds 114 = .ok (.iload 7, 2) := by decide +kernel
theorem dX7_odds_116 : decode cX7_odds 116 = .ok (.lshl, 1) := by decide +kernel
theorem dX7_odds_117 : decode cX7_odds 117 = .ok (.lconst 1, 1) := by decide +kernel
theorem dX7_odds_118 : decode cX7_odds 118 = .ok (.lsub, 1) := by decide +kernel
theorem dX7_odds_119 : decode cX7_odds 119 = .ok (.goto 7, 3) := by decide +kernel
theorem dX7_odds_122 : decode cX7_odds 122 = .ok (.lconst 1, 1) := by decide +kernel
theorem dX7_odds_123 : decode cX7_odds 123 = .ok (.iload 7, 2) := by decide +kernel
theorem dX7_odds_125 : decode cX7_odds 125 = .ok (.lshl, 1) := by decide +kernel
theorem dX7_odds_126 : decode cX7_odds 126 = .ok (.lreturn, 1) := by decide +kernel
theorem dX7_noSheet_0 : decode cX7_noSheet 0 = .ok (.iload_n 0, 1) := by decide +kernel
theorem dX7_noSheet_1 : decode cX7_noSheet 1 = .ok (.i2l, 1) := by decide +kernel
theorem dX7_noSheet_2 : decode cX7_noSheet 2 = .ok (.lconst 0, 1) := by decide +kernel
theorem dX7_noSheet_3 : decode cX7_noSheet 3 = .ok (.ldc2_w 185, 3) := by decide +kernel
theorem dX7_noSheet_6 : decode cX7_noSheet 6 = .ok (.invokestatic 90, 3) := by decide +kernel
theorem dX7_noSheet_9 : decode cX7_noSheet 9 = .ok (.ifCond .ne 7, 3) := by decide +kernel
theorem dX7_noSheet_12 : decode cX7_noSheet 12 = .ok (.iconst 1, 1) := by decide +kernel
theorem dX7_noSheet_13 : decode cX7_noSheet 13 = .ok (.goto 4, 3) := by decide +kernel
theorem dX7_noSheet_16 : decode cX7_noSheet 16 = .ok (.iconst 0, 1) := by decide +kernel
theorem dX7_noSheet_17 : decode cX7_noSheet 17 = .ok (.ireturn, 1) := by decide +kernel
theorem dX7_sheet_0 : decode cX7_sheet 0 = .ok (.iload_n 1, 1) := by decide +kernel
theorem dX7_sheet_1 : decode cX7_sheet 1 = .ok (.invokestatic 120, 3) := by decide +kernel
theorem dX7_sheet_4 : decode cX7_sheet 4 = .ok (.ifCond .eq 9, 3) := by decide +kernel
theorem dX7_sheet_7 : decode cX7_sheet 7 = .ok (.aload_n 0, 1) := by decide +kernel
theorem dX7_sheet_8 : decode cX7_sheet 8 = .ok (.iconst (-1), 1) := by decide +kernel
theorem dX7_sheet_9 : decode cX7_sheet 9 = .ok (.invokevirtual 124, 3) := by decide +kernel
theorem dX7_sheet_12 : decode cX7_sheet 12 = .ok (.ireturn, 1) := by decide +kernel
theorem dX7_sheet_13 : decode cX7_sheet 13 = .ok (.iload_n 2, 1) := by decide +kernel
theorem dX7_sheet_14 : decode cX7_sheet 14 = .ok (.i2l, 1) := by decide +kernel
theorem dX7_sheet_15 : decode cX7_sheet 15 = .ok (.lconst 0, 1) := by decide +kernel
theorem dX7_sheet_16 : decode cX7_sheet 16 = .ok (.ldc2_w 127, 3) := by decide +kernel
theorem dX7_sheet_19 : decode cX7_sheet 19 = .ok (.invokestatic 90, 3) := by decide +kernel
theorem dX7_sheet_22 : decode cX7_sheet 22 = .ok (.ifCond .eq 9, 3) := by decide +kernel
theorem dX7_sheet_25 : decode cX7_sheet 25 = .ok (.iload_n 3, 1) := by decide +kernel
theorem dX7_sheet_26 : decode cX7_sheet 26 = .ok (.bipush 60, 2) := by decide +kernel
theorem dX7_sheet_28 : decode cX7_sheet 28 = .ok (.if_icmp .le 10, 3) := by decide +kernel
theorem dX7_sheet_31 : decode cX7_sheet 31 = .ok (.aload_n 0, 1) := by decide +kernel
theorem dX7_sheet_32 : decode cX7_sheet 32 = .ok (.bipush (-2), 2) := by decide +kernel
theorem dX7_sheet_34 : decode cX7_sheet 34 = .ok (.invokevirtual 124, 3) := by decide +kernel
theorem dX7_sheet_37 : decode cX7_sheet 37 = .ok (.ireturn, 1) := by decide +kernel
theorem dX7_sheet_38 : decode cX7_sheet 38 = .ok (.iload_n 3, 1) := by decide +kernel
theorem dX7_sheet_39 : decode cX7_sheet 39 = .ok (.ifCond .ge 9, 3) := by decide +kernel
theorem dX7_sheet_42 : decode cX7_sheet 42 = .ok (.aload_n 0, 1) := by decide +kernel
theorem dX7_sheet_43 : decode cX7_sheet 43 = .ok (.iconst 4, 1) := by decide +kernel
theorem dX7_sheet_44 : decode cX7_sheet 44 = .ok (.invokevirtual 112, 3) := by decide +kernel
theorem dX7_sheet_47 : decode cX7_sheet 47 = .ok (.ireturn, 1) := by decide +kernel
theorem dX7_sheet_48 : decode cX7_sheet 48 = .ok (.aload_n 0, 1) := by decide +kernel
theorem dX7_sheet_49 : decode cX7_sheet 49 = .ok (.getfield 65, 3) := by decide +kernel
theorem dX7_sheet_52 : decode cX7_sheet 52 = .ok (.iload_n 1, 1) := by decide +kernel
theorem dX7_sheet_53 : decode cX7_sheet 53 = .ok (.iload_n 3, 1) := by decide +kernel
theorem dX7_sheet_54 : decode cX7_sheet 54 = .ok (.iastore, 1) := by decide +kernel
theorem dX7_sheet_55 : decode cX7_sheet 55 = .ok (.aload_n 0, 1) := by decide +kernel
theorem dX7_sheet_56 : decode cX7_sheet 56 = .ok (.getfield 68, 3) := by decide +kernel
theorem dX7_sheet_59 : decode cX7_sheet 59 = .ok (.iload_n 1, 1) := by decide +kernel
theorem dX7_sheet_60 : decode cX7_sheet 60 = .ok (.iload_n 2, 1) := by decide +kernel
theorem dX7_sheet_61 : decode cX7_sheet 61 = .ok (.iastore, 1) := by decide +kernel
theorem dX7_sheet_62 : decode cX7_sheet 62 = .ok (.iconst 0, 1) := by decide +kernel
theorem dX7_sheet_63 : decode cX7_sheet 63 = .ok (.istore 4, 2) := by decide +kernel
theorem dX7_sheet_65 : decode cX7_sheet 65 = .ok (.iload 4, 2) := by decide +kernel
theorem dX7_sheet_67 : decode cX7_sheet 67 = .ok (.iload_n 3, 1) := by decide +kernel
theorem dX7_sheet_68 : decode cX7_sheet 68 = .ok (.if_icmp .ge 22, 3) := by decide +kernel
theorem dX7_sheet_71 : decode cX7_sheet 71 = .ok (.aload_n 0, 1) := by decide +kernel
theorem dX7_sheet_72 : decode cX7_sheet 72 = .ok (.getfield 71, 3) := by decide +kernel
theorem dX7_sheet_75 : decode cX7_sheet 75 = .ok (.bipush 60, 2) := by decide +kernel
theorem dX7_sheet_77 : decode cX7_sheet 77 = .ok (.iload_n 1, 1) := by decide +kernel
theorem dX7_sheet_78 : decode cX7_sheet 78 = .ok (.imul, 1) := by decide +kernel
theorem dX7_sheet_79 : decode cX7_sheet 79 = .ok (.iload 4, 2) := by decide +kernel
theorem dX7_sheet_81 : decode cX7_sheet 81 = .ok (.iadd, 1) := by decide +kernel
theorem dX7_sheet_82 : decode cX7_sheet 82 = .ok (.iconst 0, 1) := by decide +kernel
theorem dX7_sheet_83 : decode cX7_sheet 83 = .ok (.iastore, 1) := by decide +kernel
theorem dX7_sheet_84 : decode cX7_sheet 84 = .ok (.iinc 4 1, 3) := by decide +kernel
theorem dX7_sheet_87 : decode cX7_sheet 87 = .ok (.goto (-22), 3) := by decide +kernel
theorem dX7_sheet_90 : decode cX7_sheet 90 = .ok (.aload_n 0, 1) := by decide +kernel
theorem dX7_sheet_91 : decode cX7_sheet 91 = .ok (.iconst 1, 1) := by decide +kernel
theorem dX7_sheet_92 : decode cX7_sheet 92 = .ok (.invokevirtual 124, 3) := by decide +kernel
theorem dX7_sheet_95 : decode cX7_sheet 95 = .ok (.ireturn, 1) := by decide +kernel
theorem dX7_lose_0 : decode cX7_lose 0 = .ok (.iload_n 1, 1) := by decide +kernel
theorem dX7_lose_1 : decode cX7_lose 1 = .ok (.invokestatic 120, 3) := by decide +kernel
theorem dX7_lose_4 : decode cX7_lose 4 = .ok (.ifCond .eq 5, 3) := by decide +kernel
theorem dX7_lose_7 : decode cX7_lose 7 = .ok (.iconst (-1), 1) := by decide +kernel
theorem dX7_lose_8 : decode cX7_lose 8 = .ok (.ireturn, 1) := by decide +kernel
theorem dX7_lose_9 : decode cX7_lose 9 = .ok (.aload_n 0, 1) := by decide +kernel
theorem dX7_lose_10 : decode cX7_lose 10 = .ok (.getfield 65, 3) := by decide +kernel
theorem dX7_lose_13 : decode cX7_lose 13 = .ok (.iload_n 1, 1) := by decide +kernel
theorem dX7_lose_14 : decode cX7_lose 14 = .ok (.iaload, 1) := by decide +kernel
theorem dX7_lose_15 : decode cX7_lose 15 = .ok (.ifCond .ge 7, 3) := by decide +kernel
theorem dX7_lose_18 : decode cX7_lose 18 = .ok (.iconst 0, 1) := by decide +kernel
theorem dX7_lose_19 : decode cX7_lose 19 = .ok (.goto 4, 3) := by decide +kernel
theorem dX7_lose_22 : decode cX7_lose 22 = .ok (.iconst 1, 1) := by decide +kernel
theorem dX7_lose_23 : decode cX7_lose 23 = .ok (.istore_n 2, 1) := by decide +kernel
theorem dX7_lose_24 : decode cX7_lose 24 = .ok (.aload_n 0, 1) := by decide +kernel
theorem dX7_lose_25 : decode cX7_lose 25 = .ok (.getfield 65, 3) := by decide +kernel
theorem dX7_lose_28 : decode cX7_lose 28 = .ok (.iload_n 1, 1) := by decide +kernel
theorem dX7_lose_29 : decode cX7_lose 29 = .ok (.iconst (-1), 1) := by decide +kernel
theorem dX7_lose_30 : decode cX7_lose 30 = .ok (.iastore, 1) := by decide +kernel
theorem dX7_lose_31 : decode cX7_lose 31 = .ok (.iload_n 2, 1) := by decide +kernel
theorem dX7_lose_32 : decode cX7_lose 32 = .ok (.ireturn, 1) := by decide +kernel
theorem dX7_noCell_0 : decode cX7_noCell 0 = .ok (.aload_n 0, 1) := by decide +kernel
theorem dX7_noCell_1 : decode cX7_noCell 1 = .ok (.getfield 65, 3) := by decide +kernel
theorem dX7_noCell_4 : decode cX7_noCell 4 = .ok (.iload_n 1, 1) := by decide +kernel
theorem dX7_noCell_5 : decode cX7_noCell 5 = .ok (.iaload, 1) := by decide +kernel
theorem dX7_noCell_6 : decode cX7_noCell 6 = .ok (.ifCond .ge 7, 3) := by decide +kernel
theorem dX7_noCell_9 : decode cX7_noCell 9 = .ok (.iconst 1, 1) := by decide +kernel
theorem dX7_noCell_10 : decode cX7_noCell 10 = .ok (.goto 26, 3) := by decide +kernel
theorem dX7_noCell_13 : decode cX7_noCell 13 = .ok (.iload_n 2, 1) := by decide +kernel
theorem dX7_noCell_14 : decode cX7_noCell 14 = .ok (.i2l, 1) := by decide +kernel
theorem dX7_noCell_15 : decode cX7_noCell 15 = .ok (.lconst 0, 1) := by decide +kernel
theorem dX7_noCell_16 : decode cX7_noCell 16 = .ok (.aload_n 0, 1) := by decide +kernel
theorem dX7_noCell_17 : decode cX7_noCell 17 = .ok (.getfield 65, 3) := by decide +kernel
theorem dX7_noCell_20 : decode cX7_noCell 20 = .ok (.iload_n 1, 1) := by decide +kernel
theorem dX7_noCell_21 : decode cX7_noCell 21 = .ok (.iaload, 1) := by decide +kernel
theorem dX7_noCell_22 : decode cX7_noCell 22 = .ok (.i2l, 1) := by decide +kernel
theorem dX7_noCell_23 : decode cX7_noCell 23 = .ok (.lconst 1, 1) := by decide +kernel
theorem dX7_noCell_24 : decode cX7_noCell 24 = .ok (.lsub, 1) := by decide +kernel
theorem dX7_noCell_25 : decode cX7_noCell 25 = .ok (.invokestatic 90, 3) := by decide +kernel
theorem dX7_noCell_28 : decode cX7_noCell 28 = .ok (.ifCond .eq 7, 3) := by decide +kernel
theorem dX7_noCell_31 : decode cX7_noCell 31 = .ok (.iconst 0, 1) := by decide +kernel
theorem dX7_noCell_32 : decode cX7_noCell 32 = .ok (.goto 4, 3) := by decide +kernel
theorem dX7_noCell_35 : decode cX7_noCell 35 = .ok (.iconst 3, 1) := by decide +kernel
theorem dX7_noCell_36 : decode cX7_noCell 36 = .ok (.ireturn, 1) := by decide +kernel
theorem dX7_put_0 : decode cX7_put 0 = .ok (.iload_n 1, 1) := by decide +kernel
theorem dX7_put_1 : decode cX7_put 1 = .ok (.invokestatic 120, 3) := by decide +kernel
theorem dX7_put_4 : decode cX7_put 4 = .ok (.ifCond .eq 9, 3) := by decide +kernel
theorem dX7_put_7 : decode cX7_put 7 = .ok (.aload_n 0, 1) := by decide +kernel
theorem dX7_put_8 : decode cX7_put 8 = .ok (.iconst (-1), 1) := by decide +kernel
theorem dX7_put_9 : decode cX7_put 9 = .ok (.invokevirtual 124, 3) := by decide +kernel
theorem dX7_put_12 : decode cX7_put 12 = .ok (.ireturn, 1) := by decide +kernel
theorem dX7_put_13 : decode cX7_put 13 = .ok (.aload_n 0, 1) := by decide +kernel
theorem dX7_put_14 : decode cX7_put 14 = .ok (.iload_n 1, 1) := by decide +kernel
theorem dX7_put_15 : decode cX7_put 15 = .ok (.iload_n 2, 1) := by decide +kernel
theorem dX7_put_16 : decode cX7_put 16 = .ok (.invokevirtual 226, 3) := by decide +kernel
theorem dX7_put_19 : decode cX7_put 19 = .ok (.ifCond .le 14, 3) := by decide +kernel
theorem dX7_put_22 : decode cX7_put 22 = .ok (.aload_n 0, 1) := by decide +kernel
theorem dX7_put_23 : decode cX7_put 23 = .ok (.aload_n 0, 1) := by decide +kernel
theorem dX7_put_24 : decode cX7_put 24 = .ok (.iload_n 1, 1) := by decide +kernel
theorem dX7_put_25 : decode cX7_put 25 = .ok (.iload_n 2, 1) := by decide +kernel
theorem dX7_put_26 : decode cX7_put 26 = .ok (.invokevirtual 226, 3) := by decide +kernel
theorem dX7_put_29 : decode cX7_put 29 = .ok (.invokevirtual 112, 3) := by decide +kernel
theorem dX7_put_32 : decode cX7_put 32 = .ok (.ireturn, 1) := by decide +kernel
theorem dX7_put_33 : decode cX7_put 33 = .ok (.aload_n 0, 1) := by decide +kernel
theorem dX7_put_34 : decode cX7_put 34 = .ok (.getfield 71, 3) := by decide +kernel
theorem dX7_put_37 : decode cX7_put 37 = .ok (.bipush 60, 2) := by decide +kernel
theorem dX7_put_39 : decode cX7_put 39 = .ok (.iload_n 1, 1) := by decide +kernel
theorem dX7_put_40 : decode cX7_put 40 = .ok (.imul, 1) := by decide +kernel
theorem dX7_put_41 : decode cX7_put 41 = .ok (.iload_n 2, 1) := by decide +kernel
theorem dX7_put_42 : decode cX7_put 42 = .ok (.iadd, 1) := by decide +kernel
theorem dX7_put_43 : decode cX7_put 43 = .ok (.aload_n 0, 1) := by decide +kernel
theorem dX7_put_44 : decode cX7_put 44 = .ok (.getfield 68, 3) := by decide +kernel
theorem dX7_put_47 : decode cX7_put 47 = .ok (.iload_n 1, 1) := by decide +kernel
theorem dX7_put_48 : decode cX7_put 48 = .ok (.iaload, 1) := by decide +kernel
theorem dX7_put_49 : decode cX7_put 49 = .ok (.ifCond .ne 8, 3) := by decide +kernel
theorem dX7_put_52 : decode cX7_put 52 = .ok (.iload_n 3, 1) := by decide +kernel
theorem dX7_put_53 : decode cX7_put 53 = .ok (.i2b, 1) := by decide +kernel
theorem dX7_put_54 : decode cX7_put 54 = .ok (.goto 19, 3) := by decide +kernel
theorem dX7_put_57 : decode cX7_put 57 = .ok (.aload_n 0, 1) := by decide +kernel
theorem dX7_put_58 : decode cX7_put 58 = .ok (.getfield 68, 3) := by decide +kernel
theorem dX7_put_61 : decode cX7_put 61 = .ok (.iload_n 1, 1) := by decide +kernel
theorem dX7_put_62 : decode cX7_put 62 = .ok (.iaload, 1) := by decide +kernel
theorem dX7_put_63 : decode cX7_put 63 = .ok (.iconst 1, 1) := by decide +kernel
theorem dX7_put_64 : decode cX7_put 64 = .ok (.if_icmp .ne 8, 3) := by decide +kernel
theorem dX7_put_67 : decode cX7_put 67 = .ok (.iload_n 3, 1) := by decide +kernel
theorem dX7_put_68 : decode cX7_put 68 = .ok (.i2s, 1) := by decide +kernel
theorem dX7_put_69 : decode cX7_put 69 = .ok (.goto 4, 3) := by decide +kernel
theorem dX7_put_72 : decode cX7_put 72 = .ok (.iload_n 3, 1) := by decide +kernel
end
section
theorem dX7_put_73 : decode cX7_put 73 = .ok (.iastore, 1) := by decide +kernel
theorem dX7_put_74 : decode cX7_put 74 = .ok (.aload_n 0, 1) := by decide +kernel
theorem dX7_put_75 : decode cX7_put 75 = .ok (.iconst 1, 1) := by decide +kernel
theorem dX7_put_76 : decode cX7_put 76 = .ok (.invokevirtual 124, 3) := by decide +kernel
theorem dX7_put_79 : decode cX7_put 79 = .ok (.ireturn, 1) := by decide +kernel
theorem dX7_cell_0 : decode cX7_cell 0 = .ok (.aload_n 0, 1) := by decide +kernel
theorem dX7_cell_1 : decode cX7_cell 1 = .ok (.iconst 0, 1) := by decide +kernel
theorem dX7_cell_2 : decode cX7_cell 2 = .ok (.putfield 79, 3) := by decide +kernel
theorem dX7_cell_5 : decode cX7_cell 5 = .ok (.iload_n 1, 1) := by decide +kernel
theorem dX7_cell_6 : decode cX7_cell 6 = .ok (.invokestatic 120, 3) := by decide +kernel
theorem dX7_cell_9 : decode cX7_cell 9 = .ok (.ifCond .ne 15, 3) := by decide +kernel
theorem dX7_cell_12 : decode cX7_cell 12 = .ok (.iload_n 3, 1) := by decide +kernel
theorem dX7_cell_13 : decode cX7_cell 13 = .ok (.i2l, 1) := by decide +kernel
theorem dX7_cell_14 : decode cX7_cell 14 = .ok (.lconst 0, 1) := by decide +kernel
theorem dX7_cell_15 : decode cX7_cell 15 = .ok (.ldc2_w 127, 3) := by decide +kernel
theorem dX7_cell_18 : decode cX7_cell 18 = .ok (.invokestatic 90, 3) := by decide +kernel
theorem dX7_cell_21 : decode cX7_cell 21 = .ok (.ifCond .ne 7, 3) := by decide +kernel
theorem dX7_cell_24 : decode cX7_cell 24 = .ok (.invokestatic 83, 3) := by decide +kernel
theorem dX7_cell_27 : decode cX7_cell 27 = .ok (.lreturn, 1) := by decide +kernel
theorem dX7_cell_28 : decode cX7_cell 28 = .ok (.aload_n 0, 1) := by decide +kernel
theorem dX7_cell_29 : decode cX7_cell 29 = .ok (.getfield 65, 3) := by decide +kernel
theorem dX7_cell_32 : decode cX7_cell 32 = .ok (.iload_n 1, 1) := by decide +kernel
theorem dX7_cell_33 : decode cX7_cell 33 = .ok (.iaload, 1) := by decide +kernel
theorem dX7_cell_34 : decode cX7_cell 34 = .ok (.ifCond .lt 19, 3) := by decide +kernel
theorem dX7_cell_37 : decode cX7_cell 37 = .ok (.aload_n 0, 1) := by decide +kernel
theorem dX7_cell_38 : decode cX7_cell 38 = .ok (.getfield 68, 3) := by decide +kernel
theorem dX7_cell_41 : decode cX7_cell 41 = .ok (.iload_n 1, 1) := by decide +kernel
theorem dX7_cell_42 : decode cX7_cell 42 = .ok (.iaload, 1) := by decide +kernel
theorem dX7_cell_43 : decode cX7_cell 43 = .ok (.iload_n 3, 1) := by decide +kernel
theorem dX7_cell_44 : decode cX7_cell 44 = .ok (.if_icmp .eq 9, 3) := by decide +kernel
theorem dX7_cell_47 : decode cX7_cell 47 = .ok (.aload_n 0, 1) := by decide +kernel
theorem dX7_cell_48 : decode cX7_cell 48 = .ok (.iconst 2, 1) := by decide +kernel
theorem dX7_cell_49 : decode cX7_cell 49 = .ok (.invokevirtual 229, 3) := by decide +kernel
theorem dX7_cell_52 : decode cX7_cell 52 = .ok (.lreturn, 1) := by decide +kernel
theorem dX7_cell_53 : decode cX7_cell 53 = .ok (.aload_n 0, 1) := by decide +kernel
theorem dX7_cell_54 : decode cX7_cell 54 = .ok (.iload_n 1, 1) := by decide +kernel
theorem dX7_cell_55 : decode cX7_cell 55 = .ok (.iload_n 2, 1) := by decide +kernel
theorem dX7_cell_56 : decode cX7_cell 56 = .ok (.invokevirtual 226, 3) := by decide +kernel
theorem dX7_cell_59 : decode cX7_cell 59 = .ok (.ifCond .le 16, 3) := by decide +kernel
theorem dX7_cell_62 : decode cX7_cell 62 = .ok (.aload_n 0, 1) := by decide +kernel
theorem dX7_cell_63 : decode cX7_cell 63 = .ok (.aload_n 0, 1) := by decide +kernel
theorem dX7_cell_64 : decode cX7_cell 64 = .ok (.iload_n 1, 1) := by decide +kernel
theorem dX7_cell_65 : decode cX7_cell 65 = .ok (.iload_n 2, 1) := by decide +kernel
theorem dX7_cell_66 : decode cX7_cell 66 = .ok (.invokevirtual 226, 3) := by decide +kernel
theorem dX7_cell_69 : decode cX7_cell 69 = .ok (.invokevirtual 229, 3) := by decide +kernel
theorem dX7_cell_72 : decode cX7_cell 72 = .ok (.goto 15, 3) := by decide +kernel
theorem dX7_cell_75 : decode cX7_cell 75 = .ok (.aload_n 0, 1) := by decide +kernel
theorem dX7_cell_76 : decode cX7_cell 76 = .ok (.getfield 71, 3) := by decide +kernel
theorem dX7_cell_79 : decode cX7_cell 79 = .ok (.bipush 60, 2) := by decide +kernel
theorem dX7_cell_81 : decode cX7_cell 81 = .ok (.iload_n 1, 1) := by decide +kernel
theorem dX7_cell_82 : decode cX7_cell 82 = .ok (.imul, 1) := by decide +kernel
theorem dX7_cell_83 : decode cX7_cell 83 = .ok (.iload_n 2, 1) := by decide +kernel
theorem dX7_cell_84 : decode cX7_cell 84 = .ok (.iadd, 1) := by decide +kernel
theorem dX7_cell_85 : decode cX7_cell 85 = .ok (.iaload, 1) := by decide +kernel
theorem dX7_cell_86 : decode cX7_cell 86 = .ok (.i2l, 1) := by decide +kernel
theorem dX7_cell_87 : decode cX7_cell 87 = .ok (.lreturn, 1) := by decide +kernel
theorem dX7_isBeyond_0 : decode cX7_isBeyond 0 = .ok (.iload_n 0, 1) := by decide +kernel
theorem dX7_isBeyond_1 : decode cX7_isBeyond 1 = .ok (.ifCond .lt 19, 3) := by decide +kernel
theorem dX7_isBeyond_4 : decode cX7_isBeyond 4 = .ok (.lload_n 1, 1) := by decide +kernel
theorem dX7_isBeyond_5 : decode cX7_isBeyond 5 = .ok (.lconst 0, 1) := by decide +kernel
theorem dX7_isBeyond_6 : decode cX7_isBeyond 6 = .ok (.lcmp, 1) := by decide +kernel
theorem dX7_isBeyond_7 : decode cX7_isBeyond 7 = .ok (.ifCond .lt 13, 3) := by decide +kernel
theorem dX7_isBeyond_10 : decode cX7_isBeyond 10 = .ok (.iload_n 0, 1) := by decide +kernel
theorem dX7_isBeyond_11 : decode cX7_isBeyond 11 = .ok (.i2l, 1) := by decide +kernel
theorem dX7_isBeyond_12 : decode cX7_isBeyond 12 = .ok (.lload_n 1, 1) := by decide +kernel
theorem dX7_isBeyond_13 : decode cX7_isBeyond 13 = .ok (.ladd, 1) := by decide +kernel
theorem dX7_isBeyond_14 : decode cX7_isBeyond 14 = .ok (.iload_n 3, 1) := by decide +kernel
theorem dX7_isBeyond_15 : decode cX7_isBeyond 15 = .ok (.i2l, 1) := by decide +kernel
theorem dX7_isBeyond_16 : decode cX7_isBeyond 16 = .ok (.lcmp, 1) := by decide +kernel
theorem dX7_isBeyond_17 : decode cX7_isBeyond 17 = .ok (.ifCond .le 7, 3) := by decide +kernel
theorem dX7_isBeyond_20 : decode cX7_isBeyond 20 = .ok (.iconst 1, 1) := by decide +kernel
theorem dX7_isBeyond_21 : decode cX7_isBeyond 21 = .ok (.goto 4, 3) := by decide +kernel
theorem dX7_isBeyond_24 : decode cX7_isBeyond 24 = .ok (.iconst 0, 1) := by decide +kernel
theorem dX7_isBeyond_25 : decode cX7_isBeyond 25 = .ok (.ireturn, 1) := by decide +kernel
theorem dX7_copy_0 : decode cX7_copy 0 = .ok (.iload_n 1, 1) := by decide +kernel
theorem dX7_copy_1 : decode cX7_copy 1 = .ok (.invokestatic 120, 3) := by decide +kernel
theorem dX7_copy_4 : decode cX7_copy 4 = .ok (.ifCond .ne 10, 3) := by decide +kernel
theorem dX7_copy_7 : decode cX7_copy 7 = .ok (.iload_n 3, 1) := by decide +kernel
theorem dX7_copy_8 : decode cX7_copy 8 = .ok (.invokestatic 120, 3) := by decide +kernel
theorem dX7_copy_11 : decode cX7_copy 11 = .ok (.ifCond .eq 9, 3) := by decide +kernel
theorem dX7_copy_14 : decode cX7_copy 14 = .ok (.aload_n 0, 1) := by decide +kernel
theorem dX7_copy_15 : decode cX7_copy 15 = .ok (.iconst (-1), 1) := by decide +kernel
theorem dX7_copy_16 : decode cX7_copy 16 = .ok (.invokevirtual 124, 3) := by decide +kernel
theorem dX7_copy_19 : decode cX7_copy 19 = .ok (.ireturn, 1) := by decide +kernel
theorem dX7_copy_20 : decode cX7_copy 20 = .ok (.aload_n 0, 1) := by decide +kernel
theorem dX7_copy_21 : decode cX7_copy 21 = .ok (.getfield 65, 3) := by decide +kernel
theorem dX7_copy_24 : decode cX7_copy 24 = .ok (.iload_n 1, 1) := by decide +kernel
theorem dX7_copy_25 : decode cX7_copy 25 = .ok (.iaload, 1) := by decide +kernel
theorem dX7_copy_26 : decode cX7_copy 26 = .ok (.ifCond .lt 12, 3) := by decide +kernel
theorem dX7_copy_29 : decode cX7_copy 29 = .ok (.aload_n 0, 1) := by decide +kernel
theorem dX7_copy_30 : decode cX7_copy 30 = .ok (.getfield 65, 3) := by decide +kernel
theorem dX7_copy_33 : decode cX7_copy 33 = .ok (.iload_n 3, 1) := by decide +kernel
theorem dX7_copy_34 : decode cX7_copy 34 = .ok (.iaload, 1) := by decide +kernel
theorem dX7_copy_35 : decode cX7_copy 35 = .ok (.ifCond .ge 9, 3) := by decide +kernel
theorem dX7_copy_38 : decode cX7_copy 38 = .ok (.aload_n 0, 1) := by decide +kernel
theorem dX7_copy_39 : decode cX7_copy 39 = .ok (.iconst 1, 1) := by decide +kernel
theorem dX7_copy_40 : decode cX7_copy 40 = .ok (.invokevirtual 112, 3) := by decide +kernel
theorem dX7_copy_43 : decode cX7_copy 43 = .ok (.ireturn, 1) := by decide +kernel
theorem dX7_copy_44 : decode cX7_copy 44 = .ok (.aload_n 0, 1) := by decide +kernel
theorem dX7_copy_45 : decode cX7_copy 45 = .ok (.getfield 68, 3) := by decide +kernel
theorem dX7_copy_48 : decode cX7_copy 48 = .ok (.iload_n 1, 1) := by decide +kernel
theorem dX7_copy_49 : decode cX7_copy 49 = .ok (.iaload, 1) := by decide +kernel
theorem dX7_copy_50 : decode cX7_copy 50 = .ok (.aload_n 0, 1) := by decide +kernel
theorem dX7_copy_51 : decode cX7_copy 51 = .ok (.getfield 68, 3) := by decide +kernel
theorem dX7_copy_54 : decode cX7_copy 54 = .ok (.iload_n 3, 1) := by decide +kernel
theorem dX7_copy_55 : decode cX7_copy 55 = .ok (.iaload, 1) := by decide +kernel
theorem dX7_copy_56 : decode cX7_copy 56 = .ok (.if_icmp .eq 9, 3) := by decide +kernel
theorem dX7_copy_59 : decode cX7_copy 59 = .ok (.aload_n 0, 1) := by decide +kernel
theorem dX7_copy_60 : decode cX7_copy 60 = .ok (.iconst 2, 1) := by decide +kernel
theorem dX7_copy_61 : decode cX7_copy 61 = .ok (.invokevirtual 112, 3) := by decide +kernel
theorem dX7_copy_64 : decode cX7_copy 64 = .ok (.ireturn, 1) := by decide +kernel
theorem dX7_copy_65 : decode cX7_copy 65 = .ok (.iload_n 2, 1) := by decide +kernel
theorem dX7_copy_66 : decode cX7_copy 66 = .ok (.iload 5, 2) := by decide +kernel
theorem dX7_copy_68 : decode cX7_copy 68 = .ok (.i2l, 1) := by decide +kernel
theorem dX7_copy_69 : decode cX7_copy 69 = .ok (.aload_n 0, 1) := by decide +kernel
theorem dX7_copy_70 : decode cX7_copy 70 = .ok (.getfield 65, 3) := by decide +kernel
theorem dX7_copy_73 : decode cX7_copy 73 = .ok (.iload_n 1, 1) := by decide +kernel
theorem dX7_copy_74 : decode cX7_copy 74 = .ok (.iaload, 1) := by decide +kernel
theorem dX7_copy_75 : decode cX7_copy 75 = .ok (.invokestatic 116, 3) := by decide +kernel
theorem dX7_copy_78 : decode cX7_copy 78 = .ok (.ifCond .ne 20, 3) := by decide +kernel
theorem dX7_copy_81 : decode cX7_copy 81 = .ok (.iload 4, 2) := by decide +kernel
theorem dX7_copy_83 : decode cX7_copy 83 = .ok (.iload 5, 2) := by decide +kernel
theorem dX7_copy_85 : decode cX7_copy 85 = .ok (.i2l, 1) := by decide +kernel
theorem dX7_copy_86 : decode cX7_copy 86 = .ok (.aload_n 0, 1) := by decide +kernel
theorem dX7_copy_87 : decode cX7_copy 87 = .ok (.getfield 65, 3) := by decide +kernel
theorem dX7_copy_90 : decode cX7_copy 90 = .ok (.iload_n 3, 1) := by decide +kernel
theorem dX7_copy_91 : decode cX7_copy 91 = .ok (.iaload, 1) := by decide +kernel
theorem dX7_copy_92 : decode cX7_copy 92 = .ok (.invokestatic 116, 3) := by decide +kernel
theorem dX7_copy_95 : decode cX7_copy 95 = .ok (.ifCond .eq 9, 3) := by decide +kernel
theorem dX7_copy_98 : decode cX7_copy 98 = .ok (.aload_n 0, 1) := by decide +kernel
theorem dX7_copy_99 : decode cX7_copy 99 = .ok (.iconst 3, 1) := by decide +kernel
theorem dX7_copy_100 : decode cX7_copy 100 = .ok (.invokevirtual 112, 3) := by decide +kernel
theorem dX7_copy_103 : decode cX7_copy 103 = .ok (.ireturn, 1) := by decide +kernel
theorem dX7_copy_104 : decode cX7_copy 104 = .ok (.iconst 0, 1) := by decide +kernel
theorem dX7_copy_105 : decode cX7_copy 105 = .ok (.istore 6, 2) := by decide +kernel
theorem dX7_copy_107 : decode cX7_copy 107 = .ok (.iload 6, 2) := by decide +kernel
theorem dX7_copy_109 : decode cX7_copy 109 = .ok (.iload 5, 2) := by decide +kernel
theorem dX7_copy_111 : decode cX7_copy 111 = .ok (.if_icmp .ge 30, 3) := by decide +kernel
theorem dX7_copy_114 : decode cX7_copy 114 = .ok (.aload_n 0, 1) := by decide +kernel
theorem dX7_copy_115 : decode cX7_copy 115 = .ok (.getfield 74, 3) := by decide +kernel
theorem dX7_copy_118 : decode cX7_copy 118 = .ok (.iload 6, 2) := by decide +kernel
theorem dX7_copy_120 : decode cX7_copy 120 = .ok (.aload_n 0, 1) := by decide +kernel
theorem dX7_copy_121 : decode cX7_copy 121 = .ok (.getfield 71, 3) := by decide +kernel
theorem dX7_copy_124 : decode cX7_copy 124 = .ok (.bipush 60, 2) := by decide +kernel
theorem dX7_copy_126 : decode cX7_copy 126 = .ok (.iload_n 1, 1) := by decide +kernel
theorem dX7_copy_127 : decode cX7_copy 127 = .ok (.imul, 1) := by decide +kernel
theorem dX7_copy_128 : decode cX7_copy 128 = .ok (.iload_n 2, 1) := by decide +kernel
theorem dX7_copy_129 : decode cX7_copy 129 = .ok (.iadd, 1) := by decide +kernel
theorem dX7_copy_130 : decode cX7_copy 130 = .ok (.iload 6, 2) := by decide +kernel
theorem dX7_copy_132 : decode cX7_copy 132 = .ok (.iadd, 1) := by decide +kernel
theorem dX7_copy_133 : decode cX7_copy 133 = .ok (.iaload, 1) := by decide +kernel
theorem dX7_copy_134 : decode cX7_copy 134 = .ok (.iastore, 1) := by decide +kernel
theorem dX7_copy_135 : decode cX7_copy 135 = .ok (.iinc 6 1, 3) := by decide +kernel
theorem dX7_copy_138 : decode cX7_copy 138 = .ok (.goto (-31), 3) := by decide +kernel
theorem dX7_copy_141 : decode cX7_copy 141 = .ok (.iconst 0, 1) := by decide +kernel
theorem dX7_copy_142 : decode cX7_copy 142 = .ok (.istore 6, 2) := by decide +kernel
theorem dX7_copy_144 : decode cX7_copy 144 = .ok (.iload 6, 2) := by decide +kernel
theorem dX7_copy_146 : decode cX7_copy 146 = .ok (.iload 5, 2) := by decide +kernel
theorem dX7_copy_148 : decode cX7_copy 148 = .ok (.if_icmp .ge 31, 3) := by decide +kernel
theorem dX7_copy_151 : decode cX7_copy 151 = .ok (.aload_n 0, 1) := by decide +kernel
theorem dX7_copy_152 : decode cX7_copy 152 = .ok (.getfield 71, 3) := by decide +kernel
theorem dX7_copy_155 : decode cX7_copy 155 = .ok (.bipush 60, 2) := by decide +kernel
theorem dX7_copy_157 : decode cX7_copy 157 = .ok (.iload_n 3, 1) := by decide +kernel
theorem dX7_copy_158 : decode cX7_copy 158 = .ok (.imul, 1) := by decide +kernel
theorem dX7_copy_159 : decode cX7_copy 159 = .ok (.iload 4, 2) := by decide +kernel
theorem dX7_copy_161 : decode cX7_copy 161 = .ok (.iadd, 1) := by decide +kernel
theorem dX7_copy_162 : decode cX7_copy 162 = .ok (.iload 6, 2) := by decide +kernel
theorem dX7_copy_164 : decode cX7_copy 164 = .ok (.iadd, 1) := by decide +kernel
theorem dX7_copy_165 : decode cX7_copy 165 = .ok (.aload_n 0, 1) := by decide +kernel
theorem dX7_copy_166 : decode cX7_copy 166 = .ok (.getfield 74, 3) := by decide +kernel
theorem dX7_copy_169 : decode cX7_copy 169 = .ok (.iload 6, 2) := by decide +kernel
theorem dX7_copy_171 : decode cX7_copy 171 = .ok (.iaload, 1) := by decide +kernel
theorem dX7_copy_172 : decode cX7_copy 172 = .ok (.iastore, 1) := by decide +kernel
theorem dX7_copy_173 : decode cX7_copy 173 = .ok (.iinc 6 1, 3) := by decide +kernel
theorem dX7_copy_176 : decode cX7_copy 176 = .ok (.goto (-32), 3) := by decide +kernel
theorem dX7_copy_179 : decode cX7_copy 179 = .ok (.aload_n 0, 1) := by decide +kernel
theorem dX7_copy_180 : decode cX7_copy 180 = .ok (.iload 5, 2) := by decide +kernel
theorem dX7_copy_182 : decode cX7_copy 182 = .ok (.invokevirtual 124, 3) := by decide +kernel
theorem dX7_copy_185 : decode cX7_copy 185 = .ok (.ireturn, 1) := by decide +kernel
theorem dX7_traced_0 : decode cX7_traced 0 = .ok (.aload_n 0, 1) := by decide +kernel
theorem dX7_traced_1 : decode cX7_traced 1 = .ok (.bipush 31, 2) := by decide +kernel
theorem dX7_traced_3 : decode cX7_traced 3 = .ok (.aload_n 0, 1) := by decide +kernel
theorem dX7_traced_4 : decode cX7_traced 4 = .ok (.getfield 233, 3) := by decide +kernel
theorem dX7_traced_7 : decode cX7_traced 7 = .ok (.imul, 1) := by decide +kernel
theorem dX7_traced_8 : decode cX7_traced 8 = .ok (.iload_n 1, 1) := by decide +kernel
theorem dX7_traced_9 : decode cX7_traced 9 = .ok (.iadd, 1) := by decide +kernel
theorem dX7_traced_10 : decode cX7_traced 10 = .ok (.putfield 233, 3) := by decide +kernel
theorem dX7_traced_13 : decode cX7_traced 13 = .ok (.return_, 1) := by decide +kernel
theorem dX7_tell_0 : decode cX7_tell 0 = .ok (.aload_n 0, 1) := by decide +kernel
theorem dX7_tell_1 : decode cX7_tell 1 = .ok (.iload_n 1, 1) := by decide +kernel
theorem dX7_tell_2 : decode cX7_tell 2 = .ok (.invokevirtual 139, 3) := by decide +kernel
theorem dX7_tell_5 : decode cX7_tell 5 = .ok (.ifCond .eq 5, 3) := by decide +kernel
theorem dX7_tell_8 : decode cX7_tell 8 = .ok (.iconst (-1), 1) := by decide +kernel
theorem dX7_tell_9 : decode cX7_tell 9 = .ok (.ireturn, 1) := by decide +kernel
theorem dX7_tell_10 : decode cX7_tell 10 = .ok (.aload_n 0, 1) := by decide +kernel
theorem dX7_tell_11 : decode cX7_tell 11 = .ok (.getfield 7, 3) := by decide +kernel
theorem dX7_tell_14 : decode cX7_tell 14 = .ok (.iload_n 1, 1) := by decide +kernel
theorem dX7_tell_15 : decode cX7_tell 15 = .ok (.iaload, 1) := by decide +kernel
theorem dX7_tell_16 : decode cX7_tell 16 = .ok (.istore_n 2, 1) := by decide +kernel
theorem dX7_tell_17 : decode cX7_tell 17 = .ok (.iload_n 2, 1) := by decide +kernel
theorem dX7_tell_18 : decode cX7_tell 18 = .ok (.iconst 2, 1) := by decide +kernel
theorem dX7_tell_19 : decode cX7_tell 19 = .ok (.if_icmp .ne 8, 3) := by decide +kernel
theorem dX7_tell_22 : decode cX7_tell 22 = .ok (.aload_n 0, 1) := by decide +kernel
theorem dX7_tell_23 : decode cX7_tell 23 = .ok (.iconst 3, 1) := by decide +kernel
theorem dX7_tell_24 : decode cX7_tell 24 = .ok (.invokevirtual 236, 3) := by decide +kernel
theorem dX7_tell_27 : decode cX7_tell 27 = .ok (.iload_n 2, 1) := by decide +kernel
theorem dX7_tell_28 : decode cX7_tell 28 = .ok (.ifCond .le 8, 3) := by decide +kernel
theorem dX7_tell_31 : decode cX7_tell 31 = .ok (.aload_n 0, 1) := by decide +kernel
theorem dX7_tell_32 : decode cX7_tell 32 = .ok (.iconst 2, 1) := by decide +kernel
theorem dX7_tell_33 : decode cX7_tell 33 = .ok (.invokevirtual 236, 3) := by decide +kernel
theorem dX7_tell_36 : decode cX7_tell 36 = .ok (.aload_n 0, 1) := by decide +kernel
theorem dX7_tell_37 : decode cX7_tell 37 = .ok (.iconst 1, 1) := by decide +kernel
theorem dX7_tell_38 : decode cX7_tell 38 = .ok (.invokevirtual 236, 3) := by decide +kernel
theorem dX7_tell_41 : decode cX7_tell 41 = .ok (.iload_n 2, 1) := by decide +kernel
theorem dX7_tell_42 : decode cX7_tell 42 = .ok (.iconst 2, 1) := by decide +kernel
theorem dX7_tell_43 : decode cX7_tell 43 = .ok (.if_icmp .ne 8, 3) := by decide +kernel
theorem dX7_tell_46 : decode cX7_tell 46 = .ok (.aload_n 0, 1) := by decide +kernel
theorem dX7_tell_47 : decode cX7_tell 47 = .ok (.iconst 1, 1) := by decide +kernel
theorem dX7_tell_48 : decode cX7_tell 48 = .ok (.invokevirtual 236, 3) := by decide +kernel
theorem dX7_tell_51 : decode cX7_tell 51 = .ok (.aload_n 0, 1) := by decide +kernel
theorem dX7_tell_52 : decode cX7_tell 52 = .ok (.getfield 19, 3) := by decide +kernel
theorem dX7_tell_55 : decode cX7_tell 55 = .ok (.iload_n 1, 1) := by decide +kernel
theorem dX7_tell_56 : decode cX7_tell 56 = .ok (.iaload, 1) := by decide +kernel
theorem dX7_tell_57 : decode cX7_tell 57 = .ok (.istore_n 3, 1) := by decide +kernel
theorem dX7_tell_58 : decode cX7_tell 58 = .ok (.iload_n 2, 1) := by decide +kernel
theorem dX7_tell_59 : decode cX7_tell 59 = .ok (.ifCond .ne 7, 3) := by decide +kernel
theorem dX7_tell_62 : decode cX7_tell 62 = .ok (.iload_n 3, 1) := by decide +kernel
theorem dX7_tell_63 : decode cX7_tell 63 = .ok (.goto 21, 3) := by decide +kernel
theorem dX7_tell_66 : decode cX7_tell 66 = .ok (.iload_n 2, 1) := by decide +kernel
theorem dX7_tell_67 : decode cX7_tell 67 = .ok (.iconst 1, 1) := by decide +kernel
theorem dX7_tell_68 : decode cX7_tell 68 = .ok (.if_icmp .ne 10, 3) := by decide +kernel
theorem dX7_tell_71 : decode cX7_tell 71 = .ok (.iload_n 3, 1) := by decide +kernel
theorem dX7_tell_72 : decode cX7_tell 72 = .ok (.bipush 100, 2) := by decide +kernel
theorem dX7_tell_74 : decode cX7_tell 74 = .ok (.iadd, 1) := by decide +kernel
theorem dX7_tell_75 : decode cX7_tell 75 = .ok (.goto 9, 3) := by decide +kernel
theorem dX7_tell_78 : decode cX7_tell 78 = .ok (.iconst 2, 1) := by decide +kernel
theorem dX7_tell_79 : decode cX7_tell 79 = .ok (.iload_n 3, 1) := by decide +kernel
theorem dX7_tell_80 : decode cX7_tell 80 = .ok (.imul, 1) := by decide +kernel
theorem dX7_tell_81 : decode cX7_tell 81 = .ok (.bipush 100, 2) := by decide +kernel
theorem dX7_tell_83 : decode cX7_tell 83 = .ok (.iadd, 1) := by decide +kernel
theorem dX7_tell_84 : decode cX7_tell 84 = .ok (.ireturn, 1) := by decide +kernel
theorem dX7_hand_0 : decode cX7_hand 0 = .ok (.aload_n 0, 1) := by decide +kernel
theorem dX7_hand_1 : decode cX7_hand 1 = .ok (.iload_n 1, 1) := by decide +kernel
theorem dX7_hand_2 : decode cX7_hand 2 = .ok (.invokevirtual 139, 3) := by decide +kernel
theorem dX7_hand_5 : decode cX7_hand 5 = .ok (.ifCond .eq 5, 3) := by decide +kernel
theorem dX7_hand_8 : decode cX7_hand 8 = .ok (.iconst (-1), 1) := by decide +kernel
theorem dX7_hand_9 : decode cX7_hand 9 = .ok (.ireturn, 1) := by decide +kernel
theorem dX7_hand_10 : decode cX7_hand 10 = .ok (.aload_n 0, 1) := by decide +kernel
theorem dX7_hand_11 : decode cX7_hand 11 = .ok (.aload_n 0, 1) := by decide +kernel
theorem dX7_hand_12 : decode cX7_hand 12 = .ok (.getfield 7, 3) := by decide +kernel
theorem dX7_hand_15 : decode cX7_hand 15 = .ok (.iload_n 1, 1) := by decide +kernel
theorem dX7_hand_16 : decode cX7_hand 16 = .ok (.iaload, 1) := by decide +kernel
theorem dX7_hand_17 : decode cX7_hand 17 = .ok (.iconst 2, 1) := by decide +kernel
theorem dX7_hand_18 : decode cX7_hand 18 = .ok (.if_icmp .ne 7, 3) := by decide +kernel
theorem dX7_hand_21 : decode cX7_hand 21 = .ok (.iconst 5, 1) := by decide +kernel
theorem dX7_hand_22 : decode cX7_hand 22 = .ok (.goto 4, 3) := by decide +kernel
theorem dX7_hand_25 : decode cX7_hand 25 = .ok (.iconst 4, 1) := by decide +kernel
theorem dX7_hand_26 : decode cX7_hand 26 = .ok (.invokevirtual 236, 3) := by decide +kernel
theorem dX7_hand_29 : decode cX7_hand 29 = .ok (.aload_n 0, 1) := by decide +kernel
theorem dX7_hand_30 : decode cX7_hand 30 = .ok (.getfield 7, 3) := by decide +kernel
theorem dX7_hand_33 : decode cX7_hand 33 = .ok (.iload_n 1, 1) := by decide +kernel
theorem dX7_hand_34 : decode cX7_hand 34 = .ok (.iaload, 1) := by decide +kernel
theorem dX7_hand_35 : decode cX7_hand 35 = .ok (.iconst 2, 1) := by decide +kernel
theorem dX7_hand_36 : decode cX7_hand 36 = .ok (.if_icmp .ne 8, 3) := by decide +kernel
theorem dX7_hand_39 : decode cX7_hand 39 = .ok (.bipush 40, 2) := by decide +kernel
theorem dX7_hand_41 : decode cX7_hand 41 = .ok (.goto 4, 3) := by decide +kernel
theorem dX7_hand_44 : decode cX7_hand 44 = .ok (.iload_n 1, 1) := by decide +kernel
theorem dX7_hand_45 : decode cX7_hand 45 = .ok (.ireturn, 1) := by decide +kernel
theorem dX7_as_0 : decode cX7_as 0 = .ok (.aload_n 0, 1) := by decide +kernel
theorem dX7_as_1 : decode cX7_as 1 = .ok (.iload_n 1, 1) := by decide +kernel
theorem dX7_as_2 : decode cX7_as 2 = .ok (.invokevirtual 139, 3) := by decide +kernel
theorem dX7_as_5 : decode cX7_as 5 = .ok (.ifCond .eq 9, 3) := by decide +kernel
theorem dX7_as_8 : decode cX7_as 8 = .ok (.aload_n 0, 1) := by decide +kernel
theorem dX7_as_9 : decode cX7_as 9 = .ok (.iconst (-1), 1) := by decide +kernel
theorem dX7_as_10 : decode cX7_as 10 = .ok (.invokevirtual 124, 3) := by decide +kernel
theorem dX7_as_13 : decode cX7_as 13 = .ok (.ireturn, 1) := by decide +kernel
theorem dX7_as_14 : decode cX7_as 14 = .ok (.iload_n 2, 1) := by decide +kernel
theorem dX7_as_15 : decode cX7_as 15 = .ok (.i2l, 1) := by decide +kernel
theorem dX7_as_16 : decode cX7_as 16 = .ok (.lconst 0, 1) := by decide +kernel
theorem dX7_as_17 : decode cX7_as 17 = .ok (.ldc2_w 127, 3) := by decide +kernel
theorem dX7_as_20 : decode cX7_as 20 = .ok (.invokestatic 90, 3) := by decide +kernel
theorem dX7_as_23 : decode cX7_as 23 = .ok (.ifCond .ne 10, 3) := by decide +kernel
theorem dX7_as_26 : decode cX7_as 26 = .ok (.aload_n 0, 1) := by decide +kernel
theorem dX7_as_27 : decode cX7_as 27 = .ok (.bipush (-2), 2) := by decide +kernel
theorem dX7_as_29 : decode cX7_as 29 = .ok (.invokevirtual 124, 3) := by decide +kernel
theorem dX7_as_32 : decode cX7_as 32 = .ok (.ireturn, 1) := by decide +kernel
theorem dX7_as_33 : decode cX7_as 33 = .ok (.aload_n 0, 1) := by decide +kernel
theorem dX7_as_34 : decode cX7_as 34 = .ok (.getfield 7, 3) := by decide +kernel
theorem dX7_as_37 : decode cX7_as 37 = .ok (.iload_n 1, 1) := by decide +kernel
theorem dX7_as_38 : decode cX7_as 38 = .ok (.iaload, 1) := by decide +kernel
theorem dX7_as_39 : decode cX7_as 39 = .ok (.iload_n 2, 1) := by decide +kernel
theorem dX7_as_40 : decode cX7_as 40 = .ok (.if_icmp .lt 11, 3) := by decide +kernel
theorem dX7_as_43 : decode cX7_as 43 = .ok (.aload_n 0, 1) := by decide +kernel
theorem dX7_as_44 : decode cX7_as 44 = .ok (.iconst 1, 1) := by decide +kernel
theorem dX7_as_45 : decode cX7_as 45 = .ok (.invokevirtual 124, 3) := by decide +kernel
theorem dX7_as_48 : decode cX7_as 48 = .ok (.goto 8, 3) := by decide +kernel
theorem dX7_as_51 : decode cX7_as 51 = .ok (.aload_n 0, 1) := by decide +kernel
theorem dX7_as_52 : decode cX7_as 52 = .ok (.iconst 2, 1) := by decide +kernel
theorem dX7_as_53 : decode cX7_as 53 = .ok (.invokevirtual 112, 3) := by decide +kernel
theorem dX7_as_56 : decode cX7_as 56 = .ok (.ireturn, 1) := by decide +kernel
theorem dX7_trace_0 : decode cX7_trace 0 = .ok (.aload_n 0, 1) := by decide +kernel
theorem dX7_trace_1 : decode cX7_trace 1 = .ok (.getfield 233, 3) := by decide +kernel
theorem dX7_trace_4 : decode cX7_trace 4 = .ok (.ireturn, 1) := by decide +kernel
theorem dX7_fault_0 : decode cX7_fault 0 = .ok (.aload_n 0, 1) := by decide +kernel
theorem dX7_fault_1 : decode cX7_fault 1 = .ok (.getfield 79, 3) := by decide +kernel
theorem dX7_fault_4 : decode cX7_fault 4 = .ok (.ireturn, 1) := by decide +kernel
theorem dX7_many_0 : decode cX7_many 0 = .ok (.iload_n 1, 1) := by decide +kernel
theorem dX7_many_1 : decode cX7_many 1 = .ok (.ifCond .ne 10, 3) := by decide +kernel
theorem dX7_many_4 : decode cX7_many 4 = .ok (.aload_n 0, 1) := by decide +kernel
theorem dX7_many_5 : decode cX7_many 5 = .ok (.getfield 87, 3) := by decide +kernel
theorem dX7_many_8 : decode cX7_many 8 = .ok (.goto 17, 3) := by decide +kernel
theorem dX7_many_11 : decode cX7_many 11 = .ok (.iload_n 1, 1) := by decide +kernel
theorem dX7_many_12 : decode cX7_many 12 = .ok (.iconst 1, 1) := by decide +kernel
theorem dX7_many_13 : decode cX7_many 13 = .ok (.if_icmp .ne 10, 3) := by decide +kernel
theorem dX7_many_16 : decode cX7_many 16 = .ok (.aload_n 0, 1) := by decide +kernel
theorem dX7_many_17 : decode cX7_many 17 = .ok (.getfield 136, 3) := by decide +kernel
theorem dX7_many_20 : decode cX7_many 20 = .ok (.goto 5, 3) := by decide +kernel
theorem dX7_many_23 : decode cX7_many 23 = .ok (.bipush (-2), 2) := by decide +kernel
theorem dX7_many_25 : decode cX7_many 25 = .ok (.ireturn, 1) := by decide +kernel
theorem dJ6_bitCount_0f7a4_0 : decode cJ6_bitCount_0f7a4 0 = .ok (.iload_n 0, 1) := by decide +kernel
theorem dJ6_bitCount_0f7a4_1 : decode cJ6_bitCount_0f7a4 1 = .ok (.iload_n 0, 1) := by decide +kernel
theorem dJ6_bitCount_0f7a4_2 : decode cJ6_bitCount_0f7a4 2 = .ok (.iconst 1, 1) := by decide +kernel
theorem dJ6_bitCount_0f7a4_3 : decode cJ6_bitCount_0f7a4 3 = .ok (.iushr, 1) := by decide +kernel
theorem dJ6_bitCount_0f7a4_4 : decode cJ6_bitCount_0f7a4 4 = .ok (.ldc_w 265, 3) := by decide +kernel
theorem dJ6_bitCount_0f7a4_7 : decode cJ6_bitCount_0f7a4 7 = .ok (.iand, 1) := by decide +kernel
theorem dJ6_bitCount_0f7a4_8 : decode cJ6_bitCount_0f7a4 8 = .ok (.isub, 1) := by decide +kernel
theorem dJ6_bitCount_0f7a4_9 : decode cJ6_bitCount_0f7a4 9 = .ok (.istore_n 0, 1) := by decide +kernel
theorem dJ6_bitCount_0f7a4_10 : decode cJ6_bitCount_0f7a4 10 = .ok (.iload_n 0, 1) := by decide +kernel
theorem dJ6_bitCount_0f7a4_11 : decode cJ6_bitCount_0f7a4 11 = .ok (.ldc_w 266, 3) := by decide +kernel
theorem dJ6_bitCount_0f7a4_14 : decode cJ6_bitCount_0f7a4 14 = .ok (.iand, 1) := by decide +kernel
theorem dJ6_bitCount_0f7a4_15 : decode cJ6_bitCount_0f7a4 15 = .ok (.iload_n 0, 1) := by decide +kernel
theorem dJ6_bitCount_0f7a4_16 : decode cJ6_bitCount_0f7a4 16 = .ok (.iconst 2, 1) := by decide +kernel
theorem dJ6_bitCount_0f7a4_17 : decode cJ6_bitCount_0f7a4 17 = .ok (.iushr, 1) := by decide +kernel
theorem dJ6_bitCount_0f7a4_18 : decode cJ6_bitCount_0f7a4 18 = .ok (.ldc_w 266, 3) := by decide +kernel
theorem dJ6_bitCount_0f7a4_21 : decode cJ6_bitCount_0f7a4 21 = .ok (.iand, 1) := by decide +kernel
theorem dJ6_bitCount_0f7a4_22 : decode cJ6_bitCount_0f7a4 22 = .ok (.iadd, 1) := by decide +kernel
theorem dJ6_bitCount_0f7a4_23 : decode cJ6_bitCount_0f7a4 23 = .ok (.istore_n 0, 1) := by decide +kernel
theorem dJ6_bitCount_0f7a4_24 : decode cJ6_bitCount_0f7a4 24 = .ok (.iload_n 0, 1) := by decide +kernel
theorem dJ6_bitCount_0f7a4_25 : decode cJ6_bitCount_0f7a4 25 = .ok (.iload_n 0, 1) := by decide +kernel
theorem dJ6_bitCount_0f7a4_26 : decode cJ6_bitCount_0f7a4 26 = .ok (.iconst 4, 1) := by decide +kernel
theorem dJ6_bitCount_0f7a4_27 : decode cJ6_bitCount_0f7a4 27 = .ok (.iushr, 1) := by decide +kernel
theorem dJ6_bitCount_0f7a4_28 : decode cJ6_bitCount_0f7a4 28 = .ok (.iadd, 1) := by decide +kernel
theorem dJ6_bitCount_0f7a4_29 : decode cJ6_bitCount_0f7a4 29 = .ok (.ldc_w 267, 3) := by decide +kernel
theorem dJ6_bitCount_0f7a4_32 : decode cJ6_bitCount_0f7a4 32 = .ok (.iand, 1) := by decide +kernel
theorem dJ6_bitCount_0f7a4_33 : decode cJ6_bitCount_0f7a4 33 = .ok (.istore_n 0, 1) := by decide +kernel
theorem dJ6_bitCount_0f7a4_34 : decode cJ6_bitCount_0f7a4 34 = .ok (.iload_n 0, 1) := by decide +kernel
theorem dJ6_bitCount_0f7a4_35 : decode cJ6_bitCount_0f7a4 35 = .ok (.iload_n 0, 1) := by decide +kernel
theorem dJ6_bitCount_0f7a4_36 : decode cJ6_bitCount_0f7a4 36 = .ok (.bipush 8, 2) := by decide +kernel
theorem dJ6_bitCount_0f7a4_38 : decode cJ6_bitCount_0f7a4 38 = .ok (.iushr, 1) := by decide +kernel
theorem dJ6_bitCount_0f7a4_39 : decode cJ6_bitCount_0f7a4 39 = .ok (.iadd, 1) := by decide +kernel
theorem dJ6_bitCount_0f7a4_40 : decode cJ6_bitCount_0f7a4 40 = .ok (.istore_n 0, 1) := by decide +kernel
theorem dJ6_bitCount_0f7a4_41 : decode cJ6_bitCount_0f7a4 41 = .ok (.iload_n 0, 1) := by decide +kernel
theorem dJ6_bitCount_0f7a4_42 : decode cJ6_bitCount_0f7a4 42 = .ok (.iload_n 0, 1) := by decide +kernel
theorem dJ6_bitCount_0f7a4_43 : decode cJ6_bitCount_0f7a4 43 = .ok (.bipush 16, 2) := by decide +kernel
theorem dJ6_bitCount_0f7a4_45 : decode cJ6_bitCount_0f7a4 45 = .ok (.iushr, 1) := by decide +kernel
theorem dJ6_bitCount_0f7a4_46 : decode cJ6_bitCount_0f7a4 46 = .ok (.iadd, 1) := by decide +kernel
theorem dJ6_bitCount_0f7a4_47 : decode cJ6_bitCount_0f7a4 47 = .ok (.istore_n 0, 1) := by decide +kernel
theorem dJ6_bitCount_0f7a4_48 : decode cJ6_bitCount_0f7a4 48 = .ok (.iload_n 0, 1) := by decide +kernel
theorem dJ6_bitCount_0f7a4_49 : decode cJ6_bitCount_0f7a4 49 = .ok (.bipush 63, 2) := by decide +kernel
theorem dJ6_bitCount_0f7a4_51 : decode cJ6_bitCount_0f7a4 51 = .ok (.iand, 1) := by decide +kernel
theorem dJ6_bitCount_0f7a4_52 : decode cJ6_bitCount_0f7a4 52 = .ok (.ireturn, 1) := by decide +kernel
theorem dJ9_max_7cf53_0 : decode cJ9_max_7cf53 0 = .ok (.iload_n 0, 1) := by decide +kernel
theorem dJ9_max_7cf53_1 : decode cJ9_max_7cf53 1 = .ok (.iload_n 1, 1) := by decide +kernel
theorem dJ9_max_7cf53_2 : decode cJ9_max_7cf53 2 = .ok (.if_icmp .lt 7, 3) := by decide +kernel
theorem dJ9_max_7cf53_5 : decode cJ9_max_7cf53 5 = .ok (.iload_n 0, 1) := by decide +kernel
theorem dJ9_max_7cf53_6 : decode cJ9_max_7cf53 6 = .ok (.goto 4, 3) := by decide +kernel
theorem dJ9_max_7cf53_9 : decode cJ9_max_7cf53 9 = .ok (.iload_n 1, 1) := by decide +kernel
theorem dJ9_max_7cf53_10 : decode cJ9_max_7cf53 10 = .ok (.ireturn, 1) := by decide +kernel
theorem dJ9_min_7cf53_0 : decode cJ9_min_7cf53 0 = .ok (.iload_n 0, 1) := by decide +kernel
theorem dJ9_min_7cf53_1 : decode cJ9_min_7cf53 1 = .ok (.iload_n 1, 1) := by decide +kernel
theorem dJ9_min_7cf53_2 : decode cJ9_min_7cf53 2 = .ok (.if_icmp .gt 7, 3) := by decide +kernel
theorem dJ9_min_7cf53_5 : decode cJ9_min_7cf53 5 = .ok (.iload_n 0, 1) := by decide +kernel
theorem dJ9_min_7cf53_6 : decode cJ9_min_7cf53 6 = .ok (.goto 4, 3) := by decide +kernel
theorem dJ9_min_7cf53_9 : decode cJ9_min_7cf53 9 = .ok (.iload_n 1, 1) := by decide +kernel
theorem dJ9_min_7cf53_10 : decode cJ9_min_7cf53 10 = .ok (.ireturn, 1) := by decide +kernel
theorem dL_law_0 : decode cL_law 0 = .ok (.new 7, 3) := by decide +kernel
theorem dL_law_3 : decode cL_law 3 = .ok (.dup, 1) := by decide +kernel
theorem dL_law_4 : decode cL_law 4 = .ok (.invokespecial 9, 3) := by decide +kernel
theorem dL_law_7 : decode cL_law 7 = .ok (.astore_n 1, 1) := by decide +kernel
theorem dL_law_8 : decode cL_law 8 = .ok (.new 10, 3) := by decide +kernel
theorem dL_law_11 : decode cL_law 11 = .ok (.dup, 1) := by decide +kernel
theorem dL_law_12 : decode cL_law 12 = .ok (.invokespecial 12, 3) := by decide +kernel
theorem dL_law_15 : decode cL_law 15 = .ok (.astore_n 2, 1) := by decide +kernel
theorem dL_law_16 : decode cL_law 16 = .ok (.iconst 0, 1) := by decide +kernel
theorem dL_law_17 : decode cL_law 17 = .ok (.istore_n 3, 1) := by decide +kernel
theorem dL_law_18 : decode cL_law 18 = .ok (.iload_n 3, 1) := by decide +kernel
theorem dL_law_19 : decode cL_law 19 = .ok (.aload_n 0, 1) := by decide +kernel
theorem dL_law_20 : decode cL_law 20 = .ok (.arraylength, 1) := by decide +kernel
theorem dL_law_21 : decode cL_law 21 = .ok (.bipush 7, 2) := by decide +kernel
theorem dL_law_23 : decode cL_law 23 = .ok (.isub, 1) := by decide +kernel
theorem dL_law_24 : decode cL_law 24 = .ok (.if_icmp .gt 1127, 3) := by decide +kernel
theorem dL_law_27 : decode cL_law 27 = .ok (.aload_n 0, 1) := by decide +kernel
theorem dL_law_28 : decode cL_law 28 = .ok (.iload_n 3, 1) := by decide +kernel
theorem dL_law_29 : decode cL_law 29 = .ok (.iaload, 1) := by decide +kernel
theorem dL_law_30 : decode cL_law 30 = .ok (.bipush 31, 2) := by decide +kernel
theorem dL_law_32 : decode cL_law 32 = .ok (.iand, 1) := by decide +kernel
theorem dL_law_33 : decode cL_law 33 = .ok (.tableswitch 1112 0 24 #[115, 168, 201, 234, 267, 330, 363, 386, 409, 468, 491, 566, 629, 692, 768, 811, 834, 877, 921, 984, 1007, 1030, 1063, 1076, 1089], 115) := by decide +kernel
theorem dL_law_148 : decode cL_law 148 = .ok (.aload_n 1, 1) := by decide +kernel
theorem dL_law_149 : decode cL_law 149 = .ok (.aload_n 0, 1) := by decide +kernel
theorem dL_law_150 : decode cL_law 150 = .ok (.iload_n 3, 1) := by decide +kernel
theorem dL_law_151 : decode cL_law 151 = .ok (.iconst 1, 1) := by decide +kernel
theorem dL_law_152 : decode cL_law 152 = .ok (.iadd, 1) := by decide +kernel
theorem dL_law_153 : decode cL_law 153 = .ok (.iaload, 1) := by decide +kernel
theorem dL_law_154 : decode cL_law 154 = .ok (.aload_n 0, 1) := by decide +kernel
theorem dL_law_155 : decode cL_law 155 = .ok (.iload_n 3, 1) := by decide +kernel
theorem dL_law_156 : decode cL_law 156 = .ok (.iconst 2, 1) := by decide +kernel
theorem dL_law_157 : decode cL_law 157 = .ok (.iadd, 1) := by decide +kernel
theorem dL_law_158 : decode cL_law 158 = .ok (.iaload, 1) := by decide +kernel
theorem dL_law_159 : decode cL_law 159 = .ok (.aload_n 0, 1) := by decide +kernel
theorem dL_law_160 : decode cL_law 160 = .ok (.iload_n 3, 1) := by decide +kernel
theorem dL_law_161 : decode cL_law 161 = .ok (.iconst 3, 1) := by decide +kernel
theorem dL_law_162 : decode cL_law 162 = .ok (.iadd, 1) := by decide +kernel
theorem dL_law_163 : decode cL_law 163 = .ok (.iaload, 1) := by decide +kernel
theorem dL_law_164 : decode cL_law 164 = .ok (.aload_n 0, 1) := by decide +kernel
theorem dL_law_165 : decode cL_law 165 = .ok (.iload_n 3, 1) := by decide +kernel
theorem dL_law_166 : decode cL_law 166 = .ok (.iconst 4, 1) := by decide +kernel
theorem dL_law_167 : decode cL_law 167 = .ok (.iadd, 1) := by decide +kernel
theorem dL_law_168 : decode cL_law 168 = .ok (.iaload, 1) := by decide +kernel
theorem dL_law_169 : decode cL_law 169 = .ok (.invokevirtual 13, 3) := by decide +kernel
theorem dL_law_172 : decode cL_law 172 = .ok (.aload_n 2, 1) := by decide +kernel
theorem dL_law_173 : decode cL_law 173 = .ok (.aload_n 0, 1) := by decide +kernel
theorem dL_law_174 : decode cL_law 174 = .ok (.iload_n 3, 1) := by decide +kernel
theorem dL_law_175 : decode cL_law 175 = .ok (.iconst 1, 1) := by decide +kernel
theorem dL_law_176 : decode cL_law 176 = .ok (.iadd, 1) := by decide +kernel
theorem dL_law_177 : decode cL_law 177 = .ok (.iaload, 1) := by decide +kernel
theorem dL_law_178 : decode cL_law 178 = .ok (.aload_n 0, 1) := by decide +kernel
theorem dL_law_179 : decode cL_law 179 = .ok (.iload_n 3, 1) := by decide +kernel
theorem dL_law_180 : decode cL_law 180 = .ok (.iconst 2, 1) := by decide +kernel
theorem dL_law_181 : decode cL_law 181 = .ok (.iadd, 1) := by decide +kernel
theorem dL_law_182 : decode cL_law 182 = .ok (.iaload, 1) := by decide +kernel
theorem dL_law_183 : decode cL_law 183 = .ok (.aload_n 0, 1) := by decide +kernel
theorem dL_law_184 : decode cL_law 184 = .ok (.iload_n 3, 1) := by decide +kernel
theorem dL_law_185 : decode cL_law 185 = .ok (.iconst 3, 1) := by decide +kernel
theorem dL_law_186 : decode cL_law 186 = .ok (.iadd, 1) := by decide +kernel
theorem dL_law_187 : decode cL_law 187 = .ok (.iaload, 1) := by decide +kernel
theorem dL_law_188 : decode cL_law 188 = .ok (.aload_n 0, 1) := by decide +kernel
theorem dL_law_189 : decode cL_law 189 = .ok (.iload_n 3, 1) := by decide +kernel
theorem dL_law_190 : decode cL_law 190 = .ok (.iconst 4, 1) := by decide +kernel
theorem dL_law_191 : decode cL_law 191 = .ok (.iadd, 1) := by decide +kernel
theorem dL_law_192 : decode cL_law 192 = .ok (.iaload, 1) := by decide +kernel
theorem dL_law_193 : decode cL_law 193 = .ok (.invokevirtual 17, 3) := by decide +kernel
theorem dL_law_196 : decode cL_law 196 = .ok (.if_icmp .eq 949, 3) := by decide +kernel
theorem dL_law_199 : decode cL_law 199 = .ok (.iconst 0, 1) := by decide +kernel
theorem dL_law_200 : decode cL_law 200 = .ok (.ireturn, 1) := by decide +kernel
theorem dL_law_201 : decode cL_law 201 = .ok (.aload_n 1, 1) := by decide +kernel
theorem dL_law_202 : decode cL_law 202 = .ok (.aload_n 0, 1) := by decide +kernel
theorem dL_law_203 : decode cL_law 203 = .ok (.iload_n 3, 1) := by decide +kernel
theorem dL_law_204 : decode cL_law 204 = .ok (.iconst 1, 1) := by decide +kernel
theorem dL_law_205 : decode cL_law 205 = .ok (.iadd, 1) := by decide +kernel
theorem dL_law_206 : decode cL_law 206 = .ok (.iaload, 1) := by decide +kernel
theorem dL_law_207 : decode cL_law 207 = .ok (.aload_n 0, 1) := by decide +kernel
theorem dL_law_208 : decode cL_law 208 = .ok (.iload_n 3, 1) := by decide +kernel
theorem dL_law_209 : decode cL_law 209 = .ok (.iconst 2, 1) := by decide +kernel
theorem dL_law_210 : decode cL_law 210 = .ok (.iadd, 1) := by decide +kernel
theorem dL_law_211 : decode cL_law 211 = .ok (.iaload, 1) := by decide +kernel
theorem dL_law_212 : decode cL_law 212 = .ok (.invokevirtual 18, 3) := by decide +kernel
theorem dL_law_215 : decode cL_law 215 = .ok (.aload_n 2, 1) := by decide +kernel
theorem dL_law_216 : decode cL_law 216 = .ok (.aload_n 0, 1) := by decide +kernel
theorem dL_law_217 : decode cL_law 217 = .ok (.iload_n 3, 1) := by decide +kernel
theorem dL_law_218 : decode cL_law 218 = .ok (.iconst 1, 1) := by decide +kernel
theorem dL_law_219 : decode cL_law 219 = .ok (.iadd, 1) := by decide +kernel
theorem dL_law_220 : decode cL_law 220 = .ok (.iaload, 1) := by decide +kernel
theorem dL_law_221 : decode cL_law 221 = .ok (.aload_n 0, 1) := by decide +kernel
theorem dL_law_222 : decode cL_law 222 = .ok (.iload_n 3, 1) := by decide +kernel
theorem dL_law_223 : decode cL_law 223 = .ok (.iconst 2, 1) := by decide +kernel
theorem dL_law_224 : decode cL_law 224 = .ok (.iadd, 1) := by decide +kernel
theorem dL_law_225 : decode cL_law 225 = .ok (.iaload, 1) := by decide +kernel
theorem dL_law_226 : decode cL_law 226 = .ok (.invokevirtual 22, 3) := by decide +kernel
theorem dL_law_229 : decode cL_law 229 = .ok (.if_icmp .eq 916, 3) := by decide +kernel
theorem dL_law_232 : decode cL_law 232 = .ok (.iconst 0, 1) := by decide +kernel
theorem dL_law_233 : decode cL_law 233 = .ok (.ireturn, 1) := by decide +kernel
theorem dL_law_234 : decode cL_law 234 = .ok (.aload_n 1, 1) := by decide +kernel
theorem dL_law_235 : decode cL_law 235 = .ok (.aload_n 0, 1) := by decide +kernel
theorem dL_law_236 : decode cL_law 236 = .ok (.iload_n 3, 1) := by decide +kernel
theorem dL_law_237 : decode cL_law 237 = .ok (.iconst 1, 1) := by decide +kernel
theorem dL_law_238 : decode cL_law 238 = .ok (.iadd, 1) := by decide +kernel
theorem dL_law_239 : decode cL_law 239 = .ok (.iaload, 1) := by decide +kernel
theorem dL_law_240 : decode cL_law 240 = .ok (.aload_n 0, 1) := by decide +kernel
theorem dL_law_241 : decode cL_law 241 = .ok (.iload_n 3, 1) := by decide +kernel
theorem dL_law_242 : decode cL_law 242 = .ok (.iconst 2, 1) := by decide +kernel
theorem dL_law_243 : decode cL_law 243 = .ok (.iadd, 1) := by decide +kernel
theorem dL_law_244 : decode cL_law 244 = .ok (.iaload, 1) := by decide +kernel
theorem dL_law_245 : decode cL_law 245 = .ok (.invokevirtual 23, 3) := by decide +kernel
theorem dL_law_248 : decode cL_law 248 = .ok (.aload_n 2, 1) := by decide +kernel
theorem dL_law_249 : decode cL_law 249 = .ok (.aload_n 0, 1) := by decide +kernel
theorem dL_law_250 : decode cL_law 250 = .ok (.iload_n 3, 1) := by decide +kernel
theorem dL_law_251 : decode cL_law 251 = .ok (.iconst 1, 1) := by decide +kernel
theorem dL_law_252 : decode cL_law 252 = .ok (.iadd, 1) := by decide +kernel
theorem dL_law_253 : decode cL_law 253 = .ok (.iaload, 1) := by decide +kernel
theorem dL_law_254 : decode cL_law 254 = .ok (.aload_n 0, 1) := by decide +kernel
theorem dL_law_255 : decode cL_law 255 = .ok (.iload_n 3, 1) := by decide +kernel
theorem dL_law_256 : decode cL_law 256 = .ok (.iconst 2, 1) := by decide +kernel
theorem dL_law_257 : decode cL_law 257 = .ok (.iadd, 1) := by decide +kernel
theorem dL_law_258 : decode cL_law 258 = .ok (.iaload, 1) := by decide +kernel
theorem dL_law_259 : decode cL_law 259 = .ok (.invokevirtual 26, 3) := by decide +kernel
theorem dL_law_262 : decode cL_law 262 = .ok (.if_icmp .eq 883, 3) := by decide +kernel
theorem dL_law_265 : decode cL_law 265 = .ok (.iconst 0, 1) := by decide +kernel
theorem dL_law_266 : decode cL_law 266 = .ok (.ireturn, 1) := by decide +kernel
theorem dL_law_267 : decode cL_law 267 = .ok (.aload_n 1, 1) := by decide +kernel
theorem dL_law_268 : decode cL_law 268 = .ok (.aload_n 0, 1) := by decide +kernel
theorem dL_law_269 : decode cL_law 269 = .ok (.iload_n 3, 1) := by decide +kernel
theorem dL_law_270 : decode cL_law 270 = .ok (.iconst 1, 1) := by decide +kernel
theorem dL_law_271 : decode cL_law 271 = .ok (.iadd, 1) := by decide +kernel
theorem dL_law_272 : decode cL_law 272 = .ok (.iaload, 1) := by decide +kernel
theorem dL_law_273 : decode cL_law 273 = .ok (.aload_n 0, 1) := by decide +kernel
theorem dL_law_274 : decode cL_law 274 = .ok (.iload_n 3, 1) := by decide +kernel
theorem dL_law_275 : decode cL_law 275 = .ok (.iconst 2, 1) := by decide +kernel
theorem dL_law_276 : decode cL_law 276 = .ok (.iadd, 1) := by decide +kernel
theorem dL_law_277 : decode cL_law 277 = .ok (.iaload, 1) := by decide +kernel
theorem dL_law_278 : decode cL_law 278 = .ok (.invokevirtual 27, 3) := by decide +kernel
theorem dL_law_281 : decode cL_law 281 = .ok (.aload_n 2, 1) := by decide +kernel
theorem dL_law_282 : decode cL_law 282 = .ok (.aload_n 0, 1) := by decide +kernel
theorem dL_law_283 : decode cL_law 283 = .ok (.iload_n 3, 1) := by decide +kernel
theorem dL_law_284 : decode cL_law 284 = .ok (.iconst 1, 1) := by decide +kernel
theorem dL_law_285 : decode cL_law 285 = .ok (.iadd, 1) := by decide +kernel
theorem dL_law_286 : decode cL_law 286 = .ok (.iaload, 1) := by decide +kernel
theorem dL_law_287 : decode cL_law 287 = .ok (.aload_n 0, 1) := by decide +kernel
theorem dL_law_288 : decode cL_law 288 = .ok (.iload_n 3, 1) := by decide +kernel
theorem dL_law_289 : decode cL_law 289 = .ok (.iconst 2, 1) := by decide +kernel
theorem dL_law_290 : decode cL_law 290 = .ok (.iadd, 1) := by decide +kernel
theorem dL_law_291 : decode cL_law 291 = .ok (.iaload, 1) := by decide +kernel
theorem dL_law_292 : decode cL_law 292 = .ok (.invokevirtual 30, 3) := by decide +kernel
theorem dL_law_295 : decode cL_law 295 = .ok (.if_icmp .eq 850, 3) := by decide +kernel
theorem dL_law_298 : decode cL_law 298 = .ok (.iconst 0, 1) := by decide +kernel
theorem dL_law_299 : decode cL_law 299 = .ok (.ireturn, 1) := by decide +kernel
theorem dL_law_300 : decode cL_law 300 = .ok (.aload_n 1, 1) := by decide +kernel
theorem dL_law_301 : decode cL_law 301 = .ok (.aload_n 0, 1) := by decide +kernel
theorem dL_law_302 : decode cL_law 302 = .ok (.iload_n 3, 1) := by decide +kernel
theorem dL_law_303 : decode cL_law 303 = .ok (.iconst 1, 1) := by decide +kernel
theorem dL_law_304 : decode cL_law 304 = .ok (.iadd, 1) := by decide +kernel
theorem dL_law_305 : decode cL_law 305 = .ok (.iaload, 1) := by decide +kernel
theorem dL_law_306 : decode cL_law 306 = .ok (.aload_n 0, 1) := by decide +kernel
theorem dL_law_307 : decode cL_law 307 = .ok (.iload_n 3, 1) := by decide +kernel
theorem dL_law_308 : decode cL_law 308 = .ok (.iconst 2, 1) := by decide +kernel
theorem dL_law_309 : decode cL_law 309 = .ok (.iadd, 1) := by decide +kernel
theorem dL_law_310 : decode cL_law 310 = .ok (.iaload, 1) := by decide +kernel
theorem dL_law_311 : decode cL_law 311 = .ok (.aload_n 0, 1) := by decide +kernel
theorem dL_law_312 : decode cL_law 312 = .ok (.iload_n 3, 1) := by decide +kernel
theorem dL_law_313 : decode cL_law 313 = .ok (.iconst 3, 1) := by decide +kernel
theorem dL_law_314 : decode cL_law 314 = .ok (.iadd, 1) := by decide +kernel
theorem dL_law_315 : decode cL_law 315 = .ok (.iaload, 1) := by decide +kernel
theorem dL_law_316 : decode cL_law 316 = .ok (.aload_n 0, 1) := by decide +kernel
theorem dL_law_317 : decode cL_law 317 = .ok (.iload_n 3, 1) := by decide +kernel
theorem dL_law_318 : decode cL_law 318 = .ok (.iconst 4, 1) := by decide +kernel
theorem dL_law_319 : decode cL_law 319 = .ok (.iadd, 1) := by decide +kernel
theorem dL_law_320 : decode cL_law 320 = .ok (.iaload, 1) := by decide +kernel
theorem dL_law_321 : decode cL_law 321 = .ok (.aload_n 0, 1) := by decide +kernel
theorem dL_law_322 : decode cL_law 322 = .ok (.iload_n 3, 1) := by decide +kernel
theorem dL_law_323 : decode cL_law 323 = .ok (.iconst 5, 1) := by decide +kernel
theorem dL_law_324 : decode cL_law 324 = .ok (.iadd, 1) := by decide +kernel
theorem dL_law_325 : decode cL_law 325 = .ok (.iaload, 1) := by decide +kernel
theorem dL_law_326 : decode cL_law 326 = .ok (.invokevirtual 31, 3) := by decide +kernel
theorem dL_law_329 : decode cL_law 329 = .ok (.aload_n 2, 1) := by decide +kernel
theorem dL_law_330 : decode cL_law 330 = .ok (.aload_n 0, 1) := by decide +kernel
theorem dL_law_331 : decode cL_law 331 = .ok (.iload_n 3, 1) := by decide +kernel
theorem dL_law_332 : decode cL_law 332 = .ok (.iconst 1, 1) := by decide +kernel
theorem dL_law_333 : decode cL_law 333 = .ok (.iadd, 1) := by decide +kernel
theorem dL_law_334 : decode cL_law 334 = .ok (.iaload, 1) := by decide +kernel
theorem dL_law_335 : decode cL_law 335 = .ok (.aload_n 0, 1) := by decide +kernel
theorem dL_law_336 : decode cL_law 336 = .ok (.iload_n 3, 1) := by decide +kernel
theorem dL_law_337 : decode cL_law 337 = .ok (.iconst 2, 1) := by decide +kernel
theorem dL_law_338 : decode cL_law 338 = .ok (.iadd, 1) := by decide +kernel
theorem dL_law_339 : decode cL_law 339 = .ok (.iaload, 1) := by decide +kernel
theorem dL_law_340 : decode cL_law 340 = .ok (.aload_n 0, 1) := by decide +kernel
theorem dL_law_341 : decode cL_law 341 = .ok (.iload_n 3, 1) := by decide +kernel
theorem dL_law_342 : decode cL_law 342 = .ok (.iconst 3, 1) := by decide +kernel
theorem dL_law_343 : decode cL_law 343 = .ok (.iadd, 1) := by decide +kernel
theorem dL_law_344 : decode cL_law 344 = .ok (.iaload, 1) := by decide +kernel
theorem dL_law_345 : decode cL_law 345 = .ok (.aload_n 0, 1) := by decide +kernel
theorem dL_law_346 : decode cL_law 346 = .ok (.iload_n 3, 1) := by decide +kernel
theorem dL_law_347 : decode cL_law 347 = .ok (.iconst 4, 1) := by decide +kernel
theorem dL_law_348 : decode cL_law 348 = .ok (.iadd, 1) := by decide +kernel
theorem dL_law_349 : decode cL_law 349 = .ok (.iaload, 1) := by decide +kernel
theorem dL_law_350 : decode cL_law 350 = .ok (.aload_n 0, 1) := by decide +kernel
theorem dL_law_351 : decode cL_law 351 = .ok (.iload_n 3, 1) := by decide +kernel
theorem dL_law_352 : decode cL_law 352 = .ok (.iconst 5, 1) := by decide +kernel
theorem dL_law_353 : decode cL_law 353 = .ok (.iadd, 1) := by decide +kernel
theorem dL_law_354 : decode cL_law 354 = .ok (.iaload, 1) := by decide +kernel
theorem dL_law_355 : decode cL_law 355 = .ok (.invokevirtual 35, 3) := by decide +kernel
theorem dL_law_358 : decode cL_law 358 = .ok (.if_icmp .eq 787, 3) := by decide +kernel
theorem dL_law_361 : decode cL_law 361 = .ok (.iconst 0, 1) := by decide +kernel
theorem dL_law_362 : decode cL_law 362 = .ok (.ireturn, 1) := by decide +kernel
theorem dL_law_363 : decode cL_law 363 = .ok (.aload_n 1, 1) := by decide +kernel
theorem dL_law_364 : decode cL_law 364 = .ok (.aload_n 0, 1) := by decide +kernel
theorem dL_law_365 : decode cL_law 365 = .ok (.iload_n 3, 1) := by decide +kernel
theorem dL_law_366 : decode cL_law 366 = .ok (.iconst 1, 1) := by decide +kernel
theorem dL_law_367 : decode cL_law 367 = .ok (.iadd, 1) := by decide +kernel
theorem dL_law_368 : decode cL_law 368 = .ok (.iaload, 1) := by decide +kernel
theorem dL_law_369 : decode cL_law 369 = .ok (.aload_n 0, 1) := by decide +kernel
theorem dL_law_370 : decode cL_law 370 = .ok (.iload_n 3, 1) := by decide +kernel
theorem dL_law_371 : decode cL_law 371 = .ok (.iconst 2, 1) := by decide +kernel
theorem dL_law_372 : decode cL_law 372 = .ok (.iadd, 1) := by decide +kernel
theorem dL_law_373 : decode cL_law 373 = .ok (.iaload, 1) := by decide +kernel
theorem dL_law_374 : decode cL_law 374 = .ok (.invokevirtual 36, 3) := by decide +kernel
theorem dL_law_377 : decode cL_law 377 = .ok (.aload_n 2, 1) := by decide +kernel
theorem dL_law_378 : decode cL_law 378 = .ok (.aload_n 0, 1) := by decide +kernel
theorem dL_law_379 : decode cL_law 379 = .ok (.iload_n 3, 1) := by decide +kernel
theorem dL_law_380 : decode cL_law 380 = .ok (.iconst 1, 1) := by decide +kernel
theorem dL_law_381 : decode cL_law 381 = .ok (.iadd, 1) := by decide +kernel
theorem dL_law_382 : decode cL_law 382 = .ok (.iaload, 1) := by decide +kernel
theorem dL_law_383 : decode cL_law 383 = .ok (.aload_n 0, 1) := by decide +kernel
theorem dL_law_384 : decode cL_law 384 = .ok (.iload_n 3, 1) := by decide +kernel
theorem dL_law_385 : decode cL_law 385 = .ok (.iconst 2, 1) := by decide +kernel
theorem dL_law_386 : decode cL_law 386 = .ok (.iadd, 1) := by decide +kernel
theorem dL_law_387 : decode cL_law 387 = .ok (.iaload, 1) := by decide +kernel
theorem dL_law_388 : decode cL_law 388 = .ok (.invokevirtual 39, 3) := by decide +kernel
theorem dL_law_391 : decode cL_law 391 = .ok (.if_icmp .eq 754, 3) := by decide +kernel
theorem dL_law_394 : decode cL_law 394 = .ok (.iconst 0, 1) := by decide +kernel
theorem dL_law_395 : decode cL_law 395 = .ok (.ireturn, 1) := by decide +kernel
theorem dL_law_396 : decode cL_law 396 = .ok (.aload_n 1, 1) := by decide +kernel
theorem dL_law_397 : decode cL_law 397 = .ok (.aload_n 0, 1) := by decide +kernel
theorem dL_law_398 : decode cL_law 398 = .ok (.iload_n 3, 1) := by decide +kernel
theorem dL_law_399 : decode cL_law 399 = .ok (.iconst 1, 1) := by decide +kernel
theorem dL_law_400 : decode cL_law 400 = .ok (.iadd, 1) := by decide +kernel
theorem dL_law_401 : decode cL_law 401 = .ok (.iaload, 1) := by decide +kernel
theorem dL_law_402 : decode cL_law 402 = .ok (.invokevirtual 40, 3) := by decide +kernel
theorem dL_law_405 : decode cL_law 405 = .ok (.aload_n 2, 1) := by decide +kernel
theorem dL_law_406 : decode cL_law 406 = .ok (.aload_n 0, 1) := by decide +kernel
theorem dL_law_407 : decode cL_law 407 = .ok (.iload_n 3, 1) := by decide +kernel
theorem dL_law_408 : decode cL_law 408 = .ok (.iconst 1, 1) := by decide +kernel
theorem dL_law_409 : decode cL_law 409 = .ok (.iadd, 1) := by decide +kernel
theorem dL_law_410 : decode cL_law 410 = .ok (.iaload, 1) := by decide +kernel
theorem dL_law_411 : decode cL_law 411 = .ok (.invokevirtual 44, 3) := by decide +kernel
theorem dL_law_414 : decode cL_law 414 = .ok (.if_icmp .eq 731, 3) := by decide +kernel
theorem dL_law_417 : decode cL_law 417 = .ok (.iconst 0, 1) := by decide +kernel
theorem dL_law_418 : decode cL_law 418 = .ok (.ireturn, 1) := by decide +kernel
theorem dL_law_419 : decode cL_law 419 = .ok (.aload_n 1, 1) := by decide +kernel
theorem dL_law_420 : decode cL_law 420 = .ok (.aload_n 0, 1) := by decide +kernel
theorem dL_law_421 : decode cL_law 421 = .ok (.iload_n 3, 1) := by decide +kernel
theorem dL_law_422 : decode cL_law 422 = .ok (.iconst 1, 1) := by decide +kernel
theorem dL_law_423 : decode cL_law 423 = .ok (.iadd, 1) := by decide +kernel
theorem dL_law_424 : decode cL_law 424 = .ok (.iaload, 1) := by decide +kernel
theorem dL_law_425 : decode cL_law 425 = .ok (.invokevirtual 45, 3) := by decide +kernel
theorem dL_law_428 : decode cL_law 428 = .ok (.aload_n 2, 1) := by decide +kernel
theorem dL_law_429 : decode cL_law 429 = .ok (.aload_n 0, 1) := by decide +kernel
theorem dL_law_430 : decode cL_law 430 = .ok (.iload_n 3, 1) := by decide +kernel
theorem dL_law_431 : decode cL_law 431 = .ok (.iconst 1, 1) := by decide +kernel
theorem dL_law_432 : decode cL_law 432 = .ok (.iadd, 1) := by decide +kernel
theorem dL_law_433 : decode cL_law 433 = .ok (.iaload, 1) := by decide +kernel
theorem dL_law_434 : decode cL_law 434 = .ok (.invokevirtual 48, 3) := by decide +kernel
theorem dL_law_437 : decode cL_law 437 = .ok (.if_icmp .eq 708, 3) := by decide +kernel
theorem dL_law_440 : decode cL_law 440 = .ok (.iconst 0, 1) := by decide +kernel
theorem dL_law_441 : decode cL_law 441 = .ok (.ireturn, 1) := by decide +kernel
theorem dL_law_442 : decode cL_law 442 = .ok (.aload_n 1, 1) := by decide +kernel
theorem dL_law_443 : decode cL_law 443 = .ok (.aload_n 0, 1) := by decide +kernel
theorem dL_law_444 : decode cL_law 444 = .ok (.iload_n 3, 1) := by decide +kernel
theorem dL_law_445 : decode cL_law 445 = .ok (.iconst 1, 1) := by decide +kernel
theorem dL_law_446 : decode cL_law 446 = .ok (.iadd, 1) := by decide +kernel
theorem dL_law_447 : decode cL_law 447 = .ok (.iaload, 1) := by decide +kernel
theorem dL_law_448 : decode cL_law 448 = .ok (.aload_n 0, 1) := by decide +kernel
theorem dL_law_449 : decode cL_law 449 = .ok (.iload_n 3, 1) := by decide +kernel
theorem dL_law_450 : decode cL_law 450 = .ok (.iconst 2, 1) := by decide +kernel
theorem dL_law_451 : decode cL_law 451 = .ok (.iadd, 1) := by decide +kernel
theorem dL_law_452 : decode cL_law 452 = .ok (.iaload, 1) := by decide +kernel
theorem dL_law_453 : decode cL_law 453 = .ok (.aload_n 0, 1) := by decide +kernel
theorem dL_law_454 : decode cL_law 454 = .ok (.iload_n 3, 1) := by decide +kernel
theorem dL_law_455 : decode cL_law 455 = .ok (.iconst 3, 1) := by decide +kernel
theorem dL_law_456 : decode cL_law 456 = .ok (.iadd, 1) := by decide +kernel
theorem dL_law_457 : decode cL_law 457 = .ok (.iaload, 1) := by decide +kernel
theorem dL_law_458 : decode cL_law 458 = .ok (.ifCond .eq 7, 3) := by decide +kernel
theorem dL_law_461 : decode cL_law 461 = .ok (.iconst 1, 1) := by decide +kernel
theorem dL_law_462 : decode cL_law 462 = .ok (.goto 4, 3) := by decide +kernel
theorem dL_law_465 : decode cL_law 465 = .ok (.iconst 0, 1) := by decide +kernel
theorem dL_law_466 : decode cL_law 466 = .ok (.invokevirtual 49, 3) := by decide +kernel
theorem dL_law_469 : decode cL_law 469 = .ok (.aload_n 2, 1) := by decide +kernel
theorem dL_law_470 : decode cL_law 470 = .ok (.aload_n 0, 1) := by decide +kernel
theorem dL_law_471 : decode cL_law 471 = .ok (.iload_n 3, 1) := by decide +kernel
theorem dL_law_472 : decode cL_law 472 = .ok (.iconst 1, 1) := by decide +kernel
theorem dL_law_473 : decode cL_law 473 = .ok (.iadd, 1) := by decide +kernel
theorem dL_law_474 : decode cL_law 474 = .ok (.iaload, 1) := by decide +kernel
theorem dL_law_475 : decode cL_law 475 = .ok (.aload_n 0, 1) := by decide +kernel
theorem dL_law_476 : decode cL_law 476 = .ok (.iload_n 3, 1) := by decide +kernel
theorem dL_law_477 : decode cL_law 477 = .ok (.iconst 2, 1) := by decide +kernel
theorem dL_law_478 : decode cL_law 478 = .ok (.iadd, 1) := by decide +kernel
theorem dL_law_479 : decode cL_law 479 = .ok (.iaload, 1) := by decide +kernel
theorem dL_law_480 : decode cL_law 480 = .ok (.aload_n 0, 1) := by decide +kernel
theorem dL_law_481 : decode cL_law 481 = .ok (.iload_n 3, 1) := by decide +kernel
theorem dL_law_482 : decode cL_law 482 = .ok (.iconst 3, 1) := by decide +kernel
theorem dL_law_483 : decode cL_law 483 = .ok (.iadd, 1) := by decide +kernel
theorem dL_law_484 : decode cL_law 484 = .ok (.iaload, 1) := by decide +kernel
theorem dL_law_485 : decode cL_law 485 = .ok (.ifCond .eq 7, 3) := by decide +kernel
theorem dL_law_488 : decode cL_law 488 = .ok (.iconst 1, 1) := by decide +kernel
theorem dL_law_489 : decode cL_law 489 = .ok (.goto 4, 3) := by decide +kernel
theorem dL_law_492 : decode cL_law 492 = .ok (.iconst 0, 1) := by decide +kernel
theorem dL_law_493 : decode cL_law 493 = .ok (.invokevirtual 53, 3) := by decide +kernel
theorem dL_law_496 : decode cL_law 496 = .ok (.if_icmp .eq 649, 3) := by decide +kernel
theorem dL_law_499 : decode cL_law 499 = .ok (.iconst 0, 1) := by decide +kernel
theorem dL_law_500 : decode cL_law 500 = .ok (.ireturn, 1) := by decide +kernel
theorem dL_law_501 : decode cL_law 501 = .ok (.aload_n 1, 1) := by decide +kernel
theorem dL_law_502 : decode cL_law 502 = .ok (.aload_n 0, 1) := by decide +kernel
theorem dL_law_503 : decode cL_law 503 = .ok (.iload_n 3, 1) := by decide +kernel
theorem dL_law_504 : decode cL_law 504 = .ok (.iconst 1, 1) := by decide +kernel
theorem dL_law_505 : decode cL_law 505 = .ok (.iadd, 1) := by decide +kernel
theorem dL_law_506 : decode cL_law 506 = .ok (.iaload, 1) := by decide +kernel
theorem dL_law_507 : decode cL_law 507 = .ok (.invokevirtual 54, 3) := by decide +kernel
theorem dL_law_510 : decode cL_law 510 = .ok (.aload_n 2, 1) := by decide +kernel
theorem dL_law_511 : decode cL_law 511 = .ok (.aload_n 0, 1) := by decide +kernel
theorem dL_law_512 : decode cL_law 512 = .ok (.iload_n 3, 1) := by decide +kernel
theorem dL_law_513 : decode cL_law 513 = .ok (.iconst 1, 1) := by decide +kernel
theorem dL_law_514 : decode cL_law 514 = .ok (.iadd, 1) := by decide +kernel
theorem dL_law_515 : decode cL_law 515 = .ok (.iaload, 1) := by decide +kernel
theorem dL_law_516 : decode cL_law 516 = .ok (.invokevirtual 57, 3) := by decide +kernel
theorem dL_law_519 : decode cL_law 519 = .ok (.if_icmp .eq 626, 3) := by decide +kernel
theorem dL_law_522 : decode cL_law 522 = .ok (.iconst 0, 1) := by decide +kernel
theorem dL_law_523 : decode cL_law 523 = .ok (.ireturn, 1) := by decide +kernel
theorem dL_law_524 : decode cL_law 524 = .ok (.aload_n 1, 1) := by decide +kernel
theorem dL_law_525 : decode cL_law 525 = .ok (.aload_n 0, 1) := by decide +kernel
theorem dL_law_526 : decode cL_law 526 = .ok (.iload_n 3, 1) := by decide +kernel
theorem dL_law_527 : decode cL_law 527 = .ok (.iconst 1, 1) := by decide +kernel
theorem dL_law_528 : decode cL_law 528 = .ok (.iadd, 1) := by decide +kernel
theorem dL_law_529 : decode cL_law 529 = .ok (.iaload, 1) := by decide +kernel
theorem dL_law_530 : decode cL_law 530 = .ok (.aload_n 0, 1) := by decide +kernel
theorem dL_law_531 : decode cL_law 531 = .ok (.iload_n 3, 1) := by decide +kernel
theorem dL_law_532 : decode cL_law 532 = .ok (.iconst 2, 1) := by decide +kernel
theorem dL_law_533 : decode cL_law 533 = .ok (.iadd, 1) := by decide +kernel
theorem dL_law_534 : decode cL_law 534 = .ok (.iaload, 1) := by decide +kernel
theorem dL_law_535 : decode cL_law 535 = .ok (.aload_n 0, 1) := by decide +kernel
theorem dL_law_536 : decode cL_law 536 = .ok (.iload_n 3, 1) := by decide +kernel
theorem dL_law_537 : decode cL_law 537 = .ok (.iconst 3, 1) := by decide +kernel
theorem dL_law_538 : decode cL_law 538 = .ok (.iadd, 1) := by decide +kernel
theorem dL_law_539 : decode cL_law 539 = .ok (.iaload, 1) := by decide +kernel
theorem dL_law_540 : decode cL_law 540 = .ok (.aload_n 0, 1) := by decide +kernel
theorem dL_law_541 : decode cL_law 541 = .ok (.iload_n 3, 1) := by decide +kernel
theorem dL_law_542 : decode cL_law 542 = .ok (.iconst 4, 1) := by decide +kernel
theorem dL_law_543 : decode cL_law 543 = .ok (.iadd, 1) := by decide +kernel
theorem dL_law_544 : decode cL_law 544 = .ok (.iaload, 1) := by decide +kernel
theorem dL_law_545 : decode cL_law 545 = .ok (.aload_n 0, 1) := by decide +kernel
theorem dL_law_546 : decode cL_law 546 = .ok (.iload_n 3, 1) := by decide +kernel
theorem dL_law_547 : decode cL_law 547 = .ok (.iconst 5, 1) := by decide +kernel
theorem dL_law_548 : decode cL_law 548 = .ok (.iadd, 1) := by decide +kernel
theorem dL_law_549 : decode cL_law 549 = .ok (.iaload, 1) := by decide +kernel
theorem dL_law_550 : decode cL_law 550 = .ok (.aload_n 0, 1) := by decide +kernel
theorem dL_law_551 : decode cL_law 551 = .ok (.iload_n 3, 1) := by decide +kernel
theorem dL_law_552 : decode cL_law 552 = .ok (.bipush 6, 2) := by decide +kernel
theorem dL_law_554 : decode cL_law 554 = .ok (.iadd, 1) := by decide +kernel
theorem dL_law_555 : decode cL_law 555 = .ok (.iaload, 1) := by decide +kernel
theorem dL_law_556 : decode cL_law 556 = .ok (.invokevirtual 58, 3) := by decide +kernel
theorem dL_law_559 : decode cL_law 559 = .ok (.aload_n 2, 1) := by decide +kernel
theorem dL_law_560 : decode cL_law 560 = .ok (.aload_n 0, 1) := by decide +kernel
theorem dL_law_561 : decode cL_law 561 = .ok (.iload_n 3, 1) := by decide +kernel
theorem dL_law_562 : decode cL_law 562 = .ok (.iconst 1, 1) := by decide +kernel
theorem dL_law_563 : decode cL_law 563 = .ok (.iadd, 1) := by decide +kernel
theorem dL_law_564 : decode cL_law 564 = .ok (.iaload, 1) := by decide +kernel
theorem dL_law_565 : decode cL_law 565 = .ok (.aload_n 0, 1) := by decide +kernel
theorem dL_law_566 : decode cL_law 566 = .ok (.iload_n 3, 1) := by decide +kernel
theorem dL_law_567 : decode cL_law 567 = .ok (.iconst 2, 1) := by decide +kernel
theorem dL_law_568 : decode cL_law 568 = .ok (.iadd, 1) := by decide +kernel
theorem dL_law_569 : decode cL_law 569 = .ok (.iaload, 1) := by decide +kernel
theorem dL_law_570 : decode cL_law 570 = .ok (.aload_n 0, 1) := by decide +kernel
theorem dL_law_571 : decode cL_law 571 = .ok (.iload_n 3, 1) := by decide +kernel
theorem dL_law_572 : decode cL_law 572 = .ok (.iconst 3, 1) := by decide +kernel
theorem dL_law_573 : decode cL_law 573 = .ok (.iadd, 1) := by decide +kernel
theorem dL_law_574 : decode cL_law 574 = .ok (.iaload, 1) := by decide +kernel
theorem dL_law_575 : decode cL_law 575 = .ok (.aload_n 0, 1) := by decide +kernel
theorem dL_law_576 : decode cL_law 576 = .ok (.iload_n 3, 1) := by decide +kernel
theorem dL_law_577 : decode cL_law 577 = .ok (.iconst 4, 1) := by decide +kernel
theorem dL_law_578 : decode cL_law 578 = .ok (.iadd, 1) := by decide +kernel
theorem dL_law_579 : decode cL_law 579 = .ok (.iaload, 1) := by decide +kernel
theorem dL_law_580 : decode cL_law 580 = .ok (.aload_n 0, 1) := by decide +kernel
theorem dL_law_581 : decode cL_law 581 = .ok (.iload_n 3, 1) := by decide +kernel
theorem dL_law_582 : decode cL_law 582 = .ok (.iconst 5, 1) := by decide +kernel
theorem dL_law_583 : decode cL_law 583 = .ok (.iadd, 1) := by decide +kernel
theorem dL_law_584 : decode cL_law 584 = .ok (.iaload, 1) := by decide +kernel
theorem dL_law_585 : decode cL_law 585 = .ok (.aload_n 0, 1) := by decide +kernel
theorem dL_law_586 : decode cL_law 586 = .ok (.iload_n 3, 1) := by decide +kernel
theorem dL_law_587 : decode cL_law 587 = .ok (.bipush 6, 2) := by decide +kernel
theorem dL_law_589 : decode cL_law 589 = .ok (.iadd, 1) := by decide +kernel
theorem dL_law_590 : decode cL_law 590 = .ok (.iaload, 1) := by decide +kernel
theorem dL_law_591 : decode cL_law 591 = .ok (.invokevirtual 62, 3) := by decide +kernel
theorem dL_law_594 : decode cL_law 594 = .ok (.if_icmp .eq 551, 3) := by decide +kernel
theorem dL_law_597 : decode cL_law 597 = .ok (.iconst 0, 1) := by decide +kernel
theorem dL_law_598 : decode cL_law 598 = .ok (.ireturn, 1) := by decide +kernel
theorem dL_law_599 : decode cL_law 599 = .ok (.aload_n 1, 1) := by decide +kernel
theorem dL_law_600 : decode cL_law 600 = .ok (.aload_n 0, 1) := by decide +kernel
theorem dL_law_601 : decode cL_law 601 = .ok (.iload_n 3, 1) := by decide +kernel
theorem dL_law_602 : decode cL_law 602 = .ok (.iconst 1, 1) := by decide +kernel
theorem dL_law_603 : decode cL_law 603 = .ok (.iadd, 1) := by decide +kernel
theorem dL_law_604 : decode cL_law 604 = .ok (.iaload, 1) := by decide +kernel
theorem dL_law_605 : decode cL_law 605 = .ok (.aload_n 0, 1) := by decide +kernel
theorem dL_law_606 : decode cL_law 606 = .ok (.iload_n 3, 1) := by decide +kernel
theorem dL_law_607 : decode cL_law 607 = .ok (.iconst 2, 1) := by decide +kernel
theorem dL_law_608 : decode cL_law 608 = .ok (.iadd, 1) := by decide +kernel
theorem dL_law_609 : decode cL_law 609 = .ok (.iaload, 1) := by decide +kernel
theorem dL_law_610 : decode cL_law 610 = .ok (.aload_n 0, 1) := by decide +kernel
theorem dL_law_611 : decode cL_law 611 = .ok (.iload_n 3, 1) := by decide +kernel
theorem dL_law_612 : decode cL_law 612 = .ok (.iconst 3, 1) := by decide +kernel
theorem dL_law_613 : decode cL_law 613 = .ok (.iadd, 1) := by decide +kernel
theorem dL_law_614 : decode cL_law 614 = .ok (.iaload, 1) := by decide +kernel
theorem dL_law_615 : decode cL_law 615 = .ok (.aload_n 0, 1) := by decide +kernel
theorem dL_law_616 : decode cL_law 616 = .ok (.iload_n 3, 1) := by decide +kernel
theorem dL_law_617 : decode cL_law 617 = .ok (.iconst 4, 1) := by decide +kernel
theorem dL_law_618 : decode cL_law 618 = .ok (.iadd, 1) := by decide +kernel
theorem dL_law_619 : decode cL_law 619 = .ok (.iaload, 1) := by decide +kernel
theorem dL_law_620 : decode cL_law 620 = .ok (.aload_n 0, 1) := by decide +kernel
theorem dL_law_621 : decode cL_law 621 = .ok (.iload_n 3, 1) := by decide +kernel
theorem dL_law_622 : decode cL_law 622 = .ok (.iconst 5, 1) := by decide +kernel
theorem dL_law_623 : decode cL_law 623 = .ok (.iadd, 1) := by decide +kernel
theorem dL_law_624 : decode cL_law 624 = .ok (.iaload, 1) := by decide +kernel
theorem dL_law_625 : decode cL_law 625 = .ok (.invokevirtual 63, 3) := by decide +kernel
theorem dL_law_628 : decode cL_law 628 = .ok (.aload_n 2, 1) := by decide +kernel
theorem dL_law_629 : decode cL_law 629 = .ok (.aload_n 0, 1) := by decide +kernel
theorem dL_law_630 : decode cL_law 630 = .ok (.iload_n 3, 1) := by decide +kernel
theorem dL_law_631 : decode cL_law 631 = .ok (.iconst 1, 1) := by decide +kernel
theorem dL_law_632 : decode cL_law 632 = .ok (.iadd, 1) := by decide +kernel
theorem dL_law_633 : decode cL_law 633 = .ok (.iaload, 1) := by decide +kernel
theorem dL_law_634 : decode cL_law 634 = .ok (.aload_n 0, 1) := by decide +kernel
theorem dL_law_635 : decode cL_law 635 = .ok (.iload_n 3, 1) := by decide +kernel
theorem dL_law_636 : decode cL_law 636 = .ok (.iconst 2, 1) := by decide +kernel
theorem dL_law_637 : decode cL_law 637 = .ok (.iadd, 1) := by decide +kernel
theorem dL_law_638 : decode cL_law 638 = .ok (.iaload, 1) := by decide +kernel
theorem dL_law_639 : decode cL_law 639 = .ok (.aload_n 0, 1) := by decide +kernel
theorem dL_law_640 : decode cL_law 640 = .ok (.iload_n 3, 1) := by decide +kernel
theorem dL_law_641 : decode cL_law 641 = .ok (.iconst 3, 1) := by decide +kernel
theorem dL_law_642 : decode cL_law 642 = .ok (.iadd, 1) := by decide +kernel
theorem dL_law_643 : decode cL_law 643 = .ok (.iaload, 1) := by decide +kernel
theorem dL_law_644 : decode cL_law 644 = .ok (.aload_n 0, 1) := by decide +kernel
theorem dL_law_645 : decode cL_law 645 = .ok (.iload_n 3, 1) := by decide +kernel
theorem dL_law_646 : decode cL_law 646 = .ok (.iconst 4, 1) := by decide +kernel
theorem dL_law_647 : decode cL_law 647 = .ok (.iadd, 1) := by decide +kernel
theorem dL_law_648 : decode cL_law 648 = .ok (.iaload, 1) := by decide +kernel
theorem dL_law_649 : decode cL_law 649 = .ok (.aload_n 0, 1) := by decide +kernel
theorem dL_law_650 : decode cL_law 650 = .ok (.iload_n 3, 1) := by decide +kernel
theorem dL_law_651 : decode cL_law 651 = .ok (.iconst 5, 1) := by decide +kernel
theorem dL_law_652 : decode cL_law 652 = .ok (.iadd, 1) := by decide +kernel
theorem dL_law_653 : decode cL_law 653 = .ok (.iaload, 1) := by decide +kernel
theorem dL_law_654 : decode cL_law 654 = .ok (.invokevirtual 66, 3) := by decide +kernel
theorem dL_law_657 : decode cL_law 657 = .ok (.if_icmp .eq 488, 3) := by decide +kernel
theorem dL_law_660 : decode cL_law 660 = .ok (.iconst 0, 1) := by decide +kernel
theorem dL_law_661 : decode cL_law 661 = .ok (.ireturn, 1) := by decide +kernel
theorem dL_law_662 : decode cL_law 662 = .ok (.aload_n 1, 1) := by decide +kernel
theorem dL_law_663 : decode cL_law 663 = .ok (.aload_n 0, 1) := by decide +kernel
theorem dL_law_664 : decode cL_law 664 = .ok (.iload_n 3, 1) := by decide +kernel
theorem dL_law_665 : decode cL_law 665 = .ok (.iconst 1, 1) := by decide +kernel
theorem dL_law_666 : decode cL_law 666 = .ok (.iadd, 1) := by decide +kernel
theorem dL_law_667 : decode cL_law 667 = .ok (.iaload, 1) := by decide +kernel
theorem dL_law_668 : decode cL_law 668 = .ok (.aload_n 0, 1) := by decide +kernel
theorem dL_law_669 : decode cL_law 669 = .ok (.iload_n 3, 1) := by decide +kernel
theorem dL_law_670 : decode cL_law 670 = .ok (.iconst 2, 1) := by decide +kernel
theorem dL_law_671 : decode cL_law 671 = .ok (.iadd, 1) := by decide +kernel
theorem dL_law_672 : decode cL_law 672 = .ok (.iaload, 1) := by decide +kernel
theorem dL_law_673 : decode cL_law 673 = .ok (.aload_n 0, 1) := by decide +kernel
theorem dL_law_674 : decode cL_law 674 = .ok (.iload_n 3, 1) := by decide +kernel
theorem dL_law_675 : decode cL_law 675 = .ok (.iconst 3, 1) := by decide +kernel
theorem dL_law_676 : decode cL_law 676 = .ok (.iadd, 1) := by decide +kernel
theorem dL_law_677 : decode cL_law 677 = .ok (.iaload, 1) := by decide +kernel
theorem dL_law_678 : decode cL_law 678 = .ok (.aload_n 0, 1) := by decide +kernel
theorem dL_law_679 : decode cL_law 679 = .ok (.iload_n 3, 1) := by decide +kernel
theorem dL_law_680 : decode cL_law 680 = .ok (.iconst 4, 1) := by decide +kernel
theorem dL_law_681 : decode cL_law 681 = .ok (.iadd, 1) := by decide +kernel
theorem dL_law_682 : decode cL_law 682 = .ok (.iaload, 1) := by decide +kernel
theorem dL_law_683 : decode cL_law 683 = .ok (.aload_n 0, 1) := by decide +kernel
theorem dL_law_684 : decode cL_law 684 = .ok (.iload_n 3, 1) := by decide +kernel
theorem dL_law_685 : decode cL_law 685 = .ok (.iconst 5, 1) := by decide +kernel
theorem dL_law_686 : decode cL_law 686 = .ok (.iadd, 1) := by decide +kernel
theorem dL_law_687 : decode cL_law 687 = .ok (.iaload, 1) := by decide +kernel
theorem dL_law_688 : decode cL_law 688 = .ok (.invokevirtual 67, 3) := by decide +kernel
theorem dL_law_691 : decode cL_law 691 = .ok (.aload_n 2, 1) := by decide +kernel
theorem dL_law_692 : decode cL_law 692 = .ok (.aload_n 0, 1) := by decide +kernel
theorem dL_law_693 : decode cL_law 693 = .ok (.iload_n 3, 1) := by decide +kernel
theorem dL_law_694 : decode cL_law 694 = .ok (.iconst 1, 1) := by decide +kernel
theorem dL_law_695 : decode cL_law 695 = .ok (.iadd, 1) := by decide +kernel
theorem dL_law_696 : decode cL_law 696 = .ok (.iaload, 1) := by decide +kernel
theorem dL_law_697 : decode cL_law 697 = .ok (.aload_n 0, 1) := by decide +kernel
theorem dL_law_698 : decode cL_law 698 = .ok (.iload_n 3, 1) := by decide +kernel
theorem dL_law_699 : decode cL_law 699 = .ok (.iconst 2, 1) := by decide +kernel
theorem dL_law_700 : decode cL_law 700 = .ok (.iadd, 1) := by decide +kernel
theorem dL_law_701 : decode cL_law 701 = .ok (.iaload, 1) := by decide +kernel
theorem dL_law_702 : decode cL_law 702 = .ok (.aload_n 0, 1) := by decide +kernel
theorem dL_law_703 : decode cL_law 703 = .ok (.iload_n 3, 1) := by decide +kernel
theorem dL_law_704 : decode cL_law 704 = .ok (.iconst 3, 1) := by decide +kernel
theorem dL_law_705 : decode cL_law 705 = .ok (.iadd, 1) := by decide +kernel
theorem dL_law_706 : decode cL_law 706 = .ok (.iaload, 1) := by decide +kernel
theorem dL_law_707 : decode cL_law 707 = .ok (.aload_n 0, 1) := by decide +kernel
theorem dL_law_708 : decode cL_law 708 = .ok (.iload_n 3, 1) := by decide +kernel
theorem dL_law_709 : decode cL_law 709 = .ok (.iconst 4, 1) := by decide +kernel
theorem dL_law_710 : decode cL_law 710 = .ok (.iadd, 1) := by decide +kernel
theorem dL_law_711 : decode cL_law 711 = .ok (.iaload, 1) := by decide +kernel
theorem dL_law_712 : decode cL_law 712 = .ok (.aload_n 0, 1) := by decide +kernel
theorem dL_law_713 : decode cL_law 713 = .ok (.iload_n 3, 1) := by decide +kernel
theorem dL_law_714 : decode cL_law 714 = .ok (.iconst 5, 1) := by decide +kernel
theorem dL_law_715 : decode cL_law 715 = .ok (.iadd, 1) := by decide +kernel
theorem dL_law_716 : decode cL_law 716 = .ok (.iaload, 1) := by decide +kernel
theorem dL_law_717 : decode cL_law 717 = .ok (.invokevirtual 70, 3) := by decide +kernel
theorem dL_law_720 : decode cL_law 720 = .ok (.if_icmp .eq 425, 3) := by decide +kernel
theorem dL_law_723 : decode cL_law 723 = .ok (.iconst 0, 1) := by decide +kernel
theorem dL_law_724 : decode cL_law 724 = .ok (.ireturn, 1) := by decide +kernel
theorem dL_law_725 : decode cL_law 725 = .ok (.aload_n 1, 1) := by decide +kernel
theorem dL_law_726 : decode cL_law 726 = .ok (.aload_n 0, 1) := by decide +kernel
theorem dL_law_727 : decode cL_law 727 = .ok (.iload_n 3, 1) := by decide +kernel
theorem dL_law_728 : decode cL_law 728 = .ok (.iconst 1, 1) := by decide +kernel
theorem dL_law_729 : decode cL_law 729 = .ok (.iadd, 1) := by decide +kernel
theorem dL_law_730 : decode cL_law 730 = .ok (.iaload, 1) := by decide +kernel
theorem dL_law_731 : decode cL_law 731 = .ok (.aload_n 0, 1) := by decide +kernel
theorem dL_law_732 : decode cL_law 732 = .ok (.iload_n 3, 1) := by decide +kernel
theorem dL_law_733 : decode cL_law 733 = .ok (.iconst 2, 1) := by decide +kernel
theorem dL_law_734 : decode cL_law 734 = .ok (.iadd, 1) := by decide +kernel
theorem dL_law_735 : decode cL_law 735 = .ok (.iaload, 1) := by decide +kernel
theorem dL_law_736 : decode cL_law 736 = .ok (.aload_n 0, 1) := by decide +kernel
theorem dL_law_737 : decode cL_law 737 = .ok (.iload_n 3, 1) := by decide +kernel
theorem dL_law_738 : decode cL_law 738 = .ok (.iconst 3, 1) := by decide +kernel
theorem dL_law_739 : decode cL_law 739 = .ok (.iadd, 1) := by decide +kernel
theorem dL_law_740 : decode cL_law 740 = .ok (.iaload, 1) := by decide +kernel
theorem dL_law_741 : decode cL_law 741 = .ok (.aload_n 0, 1) := by decide +kernel
theorem dL_law_742 : decode cL_law 742 = .ok (.iload_n 3, 1) := by decide +kernel
theorem dL_law_743 : decode cL_law 743 = .ok (.iconst 4, 1) := by decide +kernel
theorem dL_law_744 : decode cL_law 744 = .ok (.iadd, 1) := by decide +kernel
theorem dL_law_745 : decode cL_law 745 = .ok (.iaload, 1) := by decide +kernel
theorem dL_law_746 : decode cL_law 746 = .ok (.aload_n 0, 1) := by decide +kernel
theorem dL_law_747 : decode cL_law 747 = .ok (.iload_n 3, 1) := by decide +kernel
theorem dL_law_748 : decode cL_law 748 = .ok (.iconst 5, 1) := by decide +kernel
theorem dL_law_749 : decode cL_law 749 = .ok (.iadd, 1) := by decide +kernel
theorem dL_law_750 : decode cL_law 750 = .ok (.iaload, 1) := by decide +kernel
theorem dL_law_751 : decode cL_law 751 = .ok (.aload_n 0, 1) := by decide +kernel
theorem dL_law_752 : decode cL_law 752 = .ok (.iload_n 3, 1) := by decide +kernel
theorem dL_law_753 : decode cL_law 753 = .ok (.bipush 6, 2) := by decide +kernel
theorem dL_law_755 : decode cL_law 755 = .ok (.iadd, 1) := by decide +kernel
theorem dL_law_756 : decode cL_law 756 = .ok (.iaload, 1) := by decide +kernel
theorem dL_law_757 : decode cL_law 757 = .ok (.invokevirtual 71, 3) := by decide +kernel
theorem dL_law_760 : decode cL_law 760 = .ok (.aload_n 2, 1) := by decide +kernel
theorem dL_law_761 : decode cL_law 761 = .ok (.aload_n 0, 1) := by decide +kernel
theorem dL_law_762 : decode cL_law 762 = .ok (.iload_n 3, 1) := by decide +kernel
theorem dL_law_763 : decode cL_law 763 = .ok (.iconst 1, 1) := by decide +kernel
theorem dL_law_764 : decode cL_law 764 = .ok (.iadd, 1) := by decide +kernel
theorem dL_law_765 : decode cL_law 765 = .ok (.iaload, 1) := by decide +kernel
theorem dL_law_766 : decode cL_law 766 = .ok (.aload_n 0, 1) := by decide +kernel
theorem dL_law_767 : decode cL_law 767 = .ok (.iload_n 3, 1) := by decide +kernel
theorem dL_law_768 : decode cL_law 768 = .ok (.iconst 2, 1) := by decide +kernel
theorem dL_law_769 : decode cL_law 769 = .ok (.iadd, 1) := by decide +kernel
theorem dL_law_770 : decode cL_law 770 = .ok (.iaload, 1) := by decide +kernel
theorem dL_law_771 : decode cL_law 771 = .ok (.aload_n 0, 1) := by decide +kernel
theorem dL_law_772 : decode cL_law 772 = .ok (.iload_n 3, 1) := by decide +kernel
theorem dL_law_773 : decode cL_law 773 = .ok (.iconst 3, 1) := by decide +kernel
theorem dL_law_774 : decode cL_law 774 = .ok (.iadd, 1) := by decide +kernel
theorem dL_law_775 : decode cL_law 775 = .ok (.iaload, 1) := by decide +kernel
theorem dL_law_776 : decode cL_law 776 = .ok (.aload_n 0, 1) := by decide +kernel
theorem dL_law_777 : decode cL_law 777 = .ok (.iload_n 3, 1) := by decide +kernel
theorem dL_law_778 : decode cL_law 778 = .ok (.iconst 4, 1) := by decide +kernel
theorem dL_law_779 : decode cL_law 779 = .ok (.iadd, 1) := by decide +kernel
theorem dL_law_780 : decode cL_law 780 = .ok (.iaload, 1) := by decide +kernel
theorem dL_law_781 : decode cL_law 781 = .ok (.aload_n 0, 1) := by decide +kernel
theorem dL_law_782 : decode cL_law 782 = .ok (.iload_n 3, 1) := by decide +kernel
theorem dL_law_783 : decode cL_law 783 = .ok (.iconst 5, 1) := by decide +kernel
theorem dL_law_784 : decode cL_law 784 = .ok (.iadd, 1) := by decide +kernel
theorem dL_law_785 : decode cL_law 785 = .ok (.iaload, 1) := by decide +kernel
theorem dL_law_786 : decode cL_law 786 = .ok (.aload_n 0, 1) := by decide +kernel
theorem dL_law_787 : decode cL_law 787 = .ok (.iload_n 3, 1) := by decide +kernel
theorem dL_law_788 : decode cL_law 788 = .ok (.bipush 6, 2) := by decide +kernel
theorem dL_law_790 : decode cL_law 790 = .ok (.iadd, 1) := by decide +kernel
theorem dL_law_791 : decode cL_law 791 = .ok (.iaload, 1) := by decide +kernel
theorem dL_law_792 : decode cL_law 792 = .ok (.invokevirtual 75, 3) := by decide +kernel
theorem dL_law_795 : decode cL_law 795 = .ok (.lcmp, 1) := by decide +kernel
theorem dL_law_796 : decode cL_law 796 = .ok (.ifCond .eq 349, 3) := by decide +kernel
theorem dL_law_799 : decode cL_law 799 = .ok (.iconst 0, 1) := by decide +kernel
theorem dL_law_800 : decode cL_law 800 = .ok (.ireturn, 1) := by decide +kernel
theorem dL_law_801 : decode cL_law 801 = .ok (.aload_n 1, 1) := by decide +kernel
theorem dL_law_802 : decode cL_law 802 = .ok (.aload_n 0, 1) := by decide +kernel
theorem dL_law_803 : decode cL_law 803 = .ok (.iload_n 3, 1) := by decide +kernel
theorem dL_law_804 : decode cL_law 804 = .ok (.iconst 1, 1) := by decide +kernel
theorem dL_law_805 : decode cL_law 805 = .ok (.iadd, 1) := by decide +kernel
theorem dL_law_806 : decode cL_law 806 = .ok (.iaload, 1) := by decide +kernel
theorem dL_law_807 : decode cL_law 807 = .ok (.aload_n 0, 1) := by decide +kernel
theorem dL_law_808 : decode cL_law 808 = .ok (.iload_n 3, 1) := by decide +kernel
theorem dL_law_809 : decode cL_law 809 = .ok (.iconst 2, 1) := by decide +kernel
theorem dL_law_810 : decode cL_law 810 = .ok (.iadd, 1) := by decide +kernel
theorem dL_law_811 : decode cL_law 811 = .ok (.iaload, 1) := by decide +kernel
theorem dL_law_812 : decode cL_law 812 = .ok (.aload_n 0, 1) := by decide +kernel
theorem dL_law_813 : decode cL_law 813 = .ok (.iload_n 3, 1) := by decide +kernel
theorem dL_law_814 : decode cL_law 814 = .ok (.iconst 3, 1) := by decide +kernel
theorem dL_law_815 : decode cL_law 815 = .ok (.iadd, 1) := by decide +kernel
theorem dL_law_816 : decode cL_law 816 = .ok (.iaload, 1) := by decide +kernel
theorem dL_law_817 : decode cL_law 817 = .ok (.invokevirtual 76, 3) := by decide +kernel
theorem dL_law_820 : decode cL_law 820 = .ok (.aload_n 2, 1) := by decide +kernel
theorem dL_law_821 : decode cL_law 821 = .ok (.aload_n 0, 1) := by decide +kernel
theorem dL_law_822 : decode cL_law 822 = .ok (.iload_n 3, 1) := by decide +kernel
theorem dL_law_823 : decode cL_law 823 = .ok (.iconst 1, 1) := by decide +kernel
theorem dL_law_824 : decode cL_law 824 = .ok (.iadd, 1) := by decide +kernel
theorem dL_law_825 : decode cL_law 825 = .ok (.iaload, 1) := by decide +kernel
theorem dL_law_826 : decode cL_law 826 = .ok (.aload_n 0, 1) := by decide +kernel
theorem dL_law_827 : decode cL_law 827 = .ok (.iload_n 3, 1) := by decide +kernel
theorem dL_law_828 : decode cL_law 828 = .ok (.iconst 2, 1) := by decide +kernel
theorem dL_law_829 : decode cL_law 829 = .ok (.iadd, 1) := by decide +kernel
theorem dL_law_830 : decode cL_law 830 = .ok (.iaload, 1) := by decide +kernel
theorem dL_law_831 : decode cL_law 831 = .ok (.aload_n 0, 1) := by decide +kernel
theorem dL_law_832 : decode cL_law 832 = .ok (.iload_n 3, 1) := by decide +kernel
theorem dL_law_833 : decode cL_law 833 = .ok (.iconst 3, 1) := by decide +kernel
theorem dL_law_834 : decode cL_law 834 = .ok (.iadd, 1) := by decide +kernel
theorem dL_law_835 : decode cL_law 835 = .ok (.iaload, 1) := by decide +kernel
theorem dL_law_836 : decode cL_law 836 = .ok (.invokevirtual 80, 3) := by decide +kernel
theorem dL_law_839 : decode cL_law 839 = .ok (.if_icmp .eq 306, 3) := by decide +kernel
theorem dL_law_842 : decode cL_law 842 = .ok (.iconst 0, 1) := by decide +kernel
theorem dL_law_843 : decode cL_law 843 = .ok (.ireturn, 1) := by decide +kernel
theorem dL_law_844 : decode cL_law 844 = .ok (.aload_n 1, 1) := by decide +kernel
theorem dL_law_845 : decode cL_law 845 = .ok (.aload_n 0, 1) := by decide +kernel
theorem dL_law_846 : decode cL_law 846 = .ok (.iload_n 3, 1) := by decide +kernel
theorem dL_law_847 : decode cL_law 847 = .ok (.iconst 1, 1) := by decide +kernel
theorem dL_law_848 : decode cL_law 848 = .ok (.iadd, 1) := by decide +kernel
theorem dL_law_849 : decode cL_law 849 = .ok (.iaload, 1) := by decide +kernel
theorem dL_law_850 : decode cL_law 850 = .ok (.invokevirtual 81, 3) := by decide +kernel
theorem dL_law_853 : decode cL_law 853 = .ok (.aload_n 2, 1) := by decide +kernel
theorem dL_law_854 : decode cL_law 854 = .ok (.aload_n 0, 1) := by decide +kernel
theorem dL_law_855 : decode cL_law 855 = .ok (.iload_n 3, 1) := by decide +kernel
theorem dL_law_856 : decode cL_law 856 = .ok (.iconst 1, 1) := by decide +kernel
theorem dL_law_857 : decode cL_law 857 = .ok (.iadd, 1) := by decide +kernel
theorem dL_law_858 : decode cL_law 858 = .ok (.iaload, 1) := by decide +kernel
theorem dL_law_859 : decode cL_law 859 = .ok (.invokevirtual 84, 3) := by decide +kernel
theorem dL_law_862 : decode cL_law 862 = .ok (.if_icmp .eq 283, 3) := by decide +kernel
theorem dL_law_865 : decode cL_law 865 = .ok (.iconst 0, 1) := by decide +kernel
theorem dL_law_866 : decode cL_law 866 = .ok (.ireturn, 1) := by decide +kernel
theorem dL_law_867 : decode cL_law 867 = .ok (.aload_n 1, 1) := by decide +kernel
theorem dL_law_868 : decode cL_law 868 = .ok (.aload_n 0, 1) := by decide +kernel
theorem dL_law_869 : decode cL_law 869 = .ok (.iload_n 3, 1) := by decide +kernel
theorem dL_law_870 : decode cL_law 870 = .ok (.iconst 1, 1) := by decide +kernel
theorem dL_law_871 : decode cL_law 871 = .ok (.iadd, 1) := by decide +kernel
theorem dL_law_872 : decode cL_law 872 = .ok (.iaload, 1) := by decide +kernel
theorem dL_law_873 : decode cL_law 873 = .ok (.aload_n 0, 1) := by decide +kernel
theorem dL_law_874 : decode cL_law 874 = .ok (.iload_n 3, 1) := by decide +kernel
theorem dL_law_875 : decode cL_law 875 = .ok (.iconst 2, 1) := by decide +kernel
theorem dL_law_876 : decode cL_law 876 = .ok (.iadd, 1) := by decide +kernel
theorem dL_law_877 : decode cL_law 877 = .ok (.iaload, 1) := by decide +kernel
theorem dL_law_878 : decode cL_law 878 = .ok (.aload_n 0, 1) := by decide +kernel
theorem dL_law_879 : decode cL_law 879 = .ok (.iload_n 3, 1) := by decide +kernel
theorem dL_law_880 : decode cL_law 880 = .ok (.iconst 3, 1) := by decide +kernel
theorem dL_law_881 : decode cL_law 881 = .ok (.iadd, 1) := by decide +kernel
theorem dL_law_882 : decode cL_law 882 = .ok (.iaload, 1) := by decide +kernel
theorem dL_law_883 : decode cL_law 883 = .ok (.invokevirtual 85, 3) := by decide +kernel
theorem dL_law_886 : decode cL_law 886 = .ok (.aload_n 2, 1) := by decide +kernel
theorem dL_law_887 : decode cL_law 887 = .ok (.aload_n 0, 1) := by decide +kernel
theorem dL_law_888 : decode cL_law 888 = .ok (.iload_n 3, 1) := by decide +kernel
theorem dL_law_889 : decode cL_law 889 = .ok (.iconst 1, 1) := by decide +kernel
theorem dL_law_890 : decode cL_law 890 = .ok (.iadd, 1) := by decide +kernel
theorem dL_law_891 : decode cL_law 891 = .ok (.iaload, 1) := by decide +kernel
theorem dL_law_892 : decode cL_law 892 = .ok (.aload_n 0, 1) := by decide +kernel
theorem dL_law_893 : decode cL_law 893 = .ok (.iload_n 3, 1) := by decide +kernel
theorem dL_law_894 : decode cL_law 894 = .ok (.iconst 2, 1) := by decide +kernel
theorem dL_law_895 : decode cL_law 895 = .ok (.iadd, 1) := by decide +kernel
theorem dL_law_896 : decode cL_law 896 = .ok (.iaload, 1) := by decide +kernel
theorem dL_law_897 : decode cL_law 897 = .ok (.aload_n 0, 1) := by decide +kernel
theorem dL_law_898 : decode cL_law 898 = .ok (.iload_n 3, 1) := by decide +kernel
theorem dL_law_899 : decode cL_law 899 = .ok (.iconst 3, 1) := by decide +kernel
theorem dL_law_900 : decode cL_law 900 = .ok (.iadd, 1) := by decide +kernel
theorem dL_law_901 : decode cL_law 901 = .ok (.iaload, 1) := by decide +kernel
theorem dL_law_902 : decode cL_law 902 = .ok (.invokevirtual 88, 3) := by decide +kernel
theorem dL_law_905 : decode cL_law 905 = .ok (.if_icmp .eq 240, 3) := by decide +kernel
theorem dL_law_908 : decode cL_law 908 = .ok (.iconst 0, 1) := by decide +kernel
theorem dL_law_909 : decode cL_law 909 = .ok (.ireturn, 1) := by decide +kernel
theorem dL_law_910 : decode cL_law 910 = .ok (.aload_n 1, 1) := by decide +kernel
theorem dL_law_911 : decode cL_law 911 = .ok (.aload_n 0, 1) := by decide +kernel
theorem dL_law_912 : decode cL_law 912 = .ok (.iload_n 3, 1) := by decide +kernel
theorem dL_law_913 : decode cL_law 913 = .ok (.iconst 1, 1) := by decide +kernel
theorem dL_law_914 : decode cL_law 914 = .ok (.iadd, 1) := by decide +kernel
theorem dL_law_915 : decode cL_law 915 = .ok (.iaload, 1) := by decide +kernel
theorem dL_law_916 : decode cL_law 916 = .ok (.aload_n 0, 1) := by decide +kernel
theorem dL_law_917 : decode cL_law 917 = .ok (.iload_n 3, 1) := by decide +kernel
theorem dL_law_918 : decode cL_law 918 = .ok (.iconst 2, 1) := by decide +kernel
theorem dL_law_919 : decode cL_law 919 = .ok (.iadd, 1) := by decide +kernel
theorem dL_law_920 : decode cL_law 920 = .ok (.iaload, 1) := by decide +kernel
theorem dL_law_921 : decode cL_law 921 = .ok (.aload_n 0, 1) := by decide +kernel
theorem dL_law_922 : decode cL_law 922 = .ok (.iload_n 3, 1) := by decide +kernel
theorem dL_law_923 : decode cL_law 923 = .ok (.iconst 3, 1) := by decide +kernel
theorem dL_law_924 : decode cL_law 924 = .ok (.iadd, 1) := by decide +kernel
theorem dL_law_925 : decode cL_law 925 = .ok (.iaload, 1) := by decide +kernel
theorem dL_law_926 : decode cL_law 926 = .ok (.invokevirtual 89, 3) := by decide +kernel
theorem dL_law_929 : decode cL_law 929 = .ok (.aload_n 2, 1) := by decide +kernel
theorem dL_law_930 : decode cL_law 930 = .ok (.aload_n 0, 1) := by decide +kernel
theorem dL_law_931 : decode cL_law 931 = .ok (.iload_n 3, 1) := by decide +kernel
theorem dL_law_932 : decode cL_law 932 = .ok (.iconst 1, 1) := by decide +kernel
theorem dL_law_933 : decode cL_law 933 = .ok (.iadd, 1) := by decide +kernel
theorem dL_law_934 : decode cL_law 934 = .ok (.iaload, 1) := by decide +kernel
theorem dL_law_935 : decode cL_law 935 = .ok (.aload_n 0, 1) := by decide +kernel
theorem dL_law_936 : decode cL_law 936 = .ok (.iload_n 3, 1) := by decide +kernel
theorem dL_law_937 : decode cL_law 937 = .ok (.iconst 2, 1) := by decide +kernel
theorem dL_law_938 : decode cL_law 938 = .ok (.iadd, 1) := by decide +kernel
theorem dL_law_939 : decode cL_law 939 = .ok (.iaload, 1) := by decide +kernel
theorem dL_law_940 : decode cL_law 940 = .ok (.aload_n 0, 1) := by decide +kernel
theorem dL_law_941 : decode cL_law 941 = .ok (.iload_n 3, 1) := by decide +kernel
theorem dL_law_942 : decode cL_law 942 = .ok (.iconst 3, 1) := by decide +kernel
theorem dL_law_943 : decode cL_law 943 = .ok (.iadd, 1) := by decide +kernel
theorem dL_law_944 : decode cL_law 944 = .ok (.iaload, 1) := by decide +kernel
theorem dL_law_945 : decode cL_law 945 = .ok (.invokevirtual 93, 3) := by decide +kernel
theorem dL_law_948 : decode cL_law 948 = .ok (.lcmp, 1) := by decide +kernel
theorem dL_law_949 : decode cL_law 949 = .ok (.ifCond .eq 196, 3) := by decide +kernel
theorem dL_law_952 : decode cL_law 952 = .ok (.iconst 0, 1) := by decide +kernel
theorem dL_law_953 : decode cL_law 953 = .ok (.ireturn, 1) := by decide +kernel
theorem dL_law_954 : decode cL_law 954 = .ok (.aload_n 1, 1) := by decide +kernel
theorem dL_law_955 : decode cL_law 955 = .ok (.aload_n 0, 1) := by decide +kernel
theorem dL_law_956 : decode cL_law 956 = .ok (.iload_n 3, 1) := by decide +kernel
theorem dL_law_957 : decode cL_law 957 = .ok (.iconst 1, 1) := by decide +kernel
theorem dL_law_958 : decode cL_law 958 = .ok (.iadd, 1) := by decide +kernel
theorem dL_law_959 : decode cL_law 959 = .ok (.iaload, 1) := by decide +kernel
theorem dL_law_960 : decode cL_law 960 = .ok (.aload_n 0, 1) := by decide +kernel
theorem dL_law_961 : decode cL_law 961 = .ok (.iload_n 3, 1) := by decide +kernel
theorem dL_law_962 : decode cL_law 962 = .ok (.iconst 2, 1) := by decide +kernel
theorem dL_law_963 : decode cL_law 963 = .ok (.iadd, 1) := by decide +kernel
theorem dL_law_964 : decode cL_law 964 = .ok (.iaload, 1) := by decide +kernel
theorem dL_law_965 : decode cL_law 965 = .ok (.aload_n 0, 1) := by decide +kernel
theorem dL_law_966 : decode cL_law 966 = .ok (.iload_n 3, 1) := by decide +kernel
theorem dL_law_967 : decode cL_law 967 = .ok (.iconst 3, 1) := by decide +kernel
theorem dL_law_968 : decode cL_law 968 = .ok (.iadd, 1) := by decide +kernel
theorem dL_law_969 : decode cL_law 969 = .ok (.iaload, 1) := by decide +kernel
theorem dL_law_970 : decode cL_law 970 = .ok (.aload_n 0, 1) := by decide +kernel
theorem dL_law_971 : decode cL_law 971 = .ok (.iload_n 3, 1) := by decide +kernel
theorem dL_law_972 : decode cL_law 972 = .ok (.iconst 4, 1) := by decide +kernel
theorem dL_law_973 : decode cL_law 973 = .ok (.iadd, 1) := by decide +kernel
theorem dL_law_974 : decode cL_law 974 = .ok (.iaload, 1) := by decide +kernel
theorem dL_law_975 : decode cL_law 975 = .ok (.aload_n 0, 1) := by decide +kernel
theorem dL_law_976 : decode cL_law 976 = .ok (.iload_n 3, 1) := by decide +kernel
theorem dL_law_977 : decode cL_law 977 = .ok (.iconst 5, 1) := by decide +kernel
theorem dL_law_978 : decode cL_law 978 = .ok (.iadd, 1) := by decide +kernel
theorem dL_law_979 : decode cL_law 979 = .ok (.iaload, 1) := by decide +kernel
theorem dL_law_980 : decode cL_law 980 = .ok (.invokevirtual 94, 3) := by decide +kernel
theorem dL_law_983 : decode cL_law 983 = .ok (.aload_n 2, 1) := by decide +kernel
theorem dL_law_984 : decode cL_law 984 = .ok (.aload_n 0, 1) := by decide +kernel
theorem dL_law_985 : decode cL_law 985 = .ok (.iload_n 3, 1) := by decide +kernel
theorem dL_law_986 : decode cL_law 986 = .ok (.iconst 1, 1) := by decide +kernel
theorem dL_law_987 : decode cL_law 987 = .ok (.iadd, 1) := by decide +kernel
theorem dL_law_988 : decode cL_law 988 = .ok (.iaload, 1) := by decide +kernel
theorem dL_law_989 : decode cL_law 989 = .ok (.aload_n 0, 1) := by decide +kernel
theorem dL_law_990 : decode cL_law 990 = .ok (.iload_n 3, 1) := by decide +kernel
theorem dL_law_991 : decode cL_law 991 = .ok (.iconst 2, 1) := by decide +kernel
theorem dL_law_992 : decode cL_law 992 = .ok (.iadd, 1) := by decide +kernel
theorem dL_law_993 : decode cL_law 993 = .ok (.iaload, 1) := by decide +kernel
theorem dL_law_994 : decode cL_law 994 = .ok (.aload_n 0, 1) := by decide +kernel
theorem dL_law_995 : decode cL_law 995 = .ok (.iload_n 3, 1) := by decide +kernel
theorem dL_law_996 : decode cL_law 996 = .ok (.iconst 3, 1) := by decide +kernel
theorem dL_law_997 : decode cL_law 997 = .ok (.iadd, 1) := by decide +kernel
theorem dL_law_998 : decode cL_law 998 = .ok (.iaload, 1) := by decide +kernel
theorem dL_law_999 : decode cL_law 999 = .ok (.aload_n 0, 1) := by decide +kernel
theorem dL_law_1000 : decode cL_law 1000 = .ok (.iload_n 3, 1) := by decide +kernel
theorem dL_law_1001 : decode cL_law 1001 = .ok (.iconst 4, 1) := by decide +kernel
theorem dL_law_1002 : decode cL_law 1002 = .ok (.iadd, 1) := by decide +kernel
theorem dL_law_1003 : decode cL_law 1003 = .ok (.iaload, 1) := by decide +kernel
theorem dL_law_1004 : decode cL_law 1004 = .ok (.aload_n 0, 1) := by decide +kernel
theorem dL_law_1005 : decode cL_law 1005 = .ok (.iload_n 3, 1) := by decide +kernel
theorem dL_law_1006 : decode cL_law 1006 = .ok (.iconst 5, 1) := by decide +kernel
theorem dL_law_1007 : decode cL_law 1007 = .ok (.iadd, 1) := by decide +kernel
theorem dL_law_1008 : decode cL_law 1008 = .ok (.iaload, 1) := by decide +kernel
theorem dL_law_1009 : decode cL_law 1009 = .ok (.invokevirtual 97, 3) := by decide +kernel
theorem dL_law_1012 : decode cL_law 1012 = .ok (.if_icmp .eq 133, 3) := by decide +kernel
theorem dL_law_1015 : decode cL_law 1015 = .ok (.iconst 0, 1) := by decide +kernel
theorem dL_law_1016 : decode cL_law 1016 = .ok (.ireturn, 1) := by decide +kernel
theorem dL_law_1017 : decode cL_law 1017 = .ok (.aload_n 1, 1) := by decide +kernel
theorem dL_law_1018 : decode cL_law 1018 = .ok (.aload_n 0, 1) := by decide +kernel
theorem dL_law_1019 : decode cL_law 1019 = .ok (.iload_n 3, 1) := by decide +kernel
theorem dL_law_1020 : decode cL_law 1020 = .ok (.iconst 1, 1) := by decide +kernel
theorem dL_law_1021 : decode cL_law 1021 = .ok (.iadd, 1) := by decide +kernel
theorem dL_law_1022 : decode cL_law 1022 = .ok (.iaload, 1) := by decide +kernel
theorem dL_law_1023 : decode cL_law 1023 = .ok (.invokevirtual 98, 3) := by decide +kernel
theorem dL_law_1026 : decode cL_law 1026 = .ok (.aload_n 2, 1) := by decide +kernel
theorem dL_law_1027 : decode cL_law 1027 = .ok (.aload_n 0, 1) := by decide +kernel
theorem dL_law_1028 : decode cL_law 1028 = .ok (.iload_n 3, 1) := by decide +kernel
theorem dL_law_1029 : decode cL_law 1029 = .ok (.iconst 1, 1) := by decide +kernel
theorem dL_law_1030 : decode cL_law 1030 = .ok (.iadd, 1) := by decide +kernel
theorem dL_law_1031 : decode cL_law 1031 = .ok (.iaload, 1) := by decide +kernel
theorem dL_law_1032 : decode cL_law 1032 = .ok (.invokevirtual 101, 3) := by decide +kernel
theorem dL_law_1035 : decode cL_law 1035 = .ok (.if_icmp .eq 110, 3) := by decide +kernel
theorem dL_law_1038 : decode cL_law 1038 = .ok (.iconst 0, 1) := by decide +kernel
theorem dL_law_1039 : decode cL_law 1039 = .ok (.ireturn, 1) := by decide +kernel
theorem dL_law_1040 : decode cL_law 1040 = .ok (.aload_n 1, 1) := by decide +kernel
theorem dL_law_1041 : decode cL_law 1041 = .ok (.aload_n 0, 1) := by decide +kernel
theorem dL_law_1042 : decode cL_law 1042 = .ok (.iload_n 3, 1) := by decide +kernel
theorem dL_law_1043 : decode cL_law 1043 = .ok (.iconst 1, 1) := by decide +kernel
theorem dL_law_1044 : decode cL_law 1044 = .ok (.iadd, 1) := by decide +kernel
theorem dL_law_1045 : decode cL_law 1045 = .ok (.iaload, 1) := by decide +kernel
theorem dL_law_1046 : decode cL_law 1046 = .ok (.invokevirtual 102, 3) := by decide +kernel
theorem dL_law_1049 : decode cL_law 1049 = .ok (.aload_n 2, 1) := by decide +kernel
theorem dL_law_1050 : decode cL_law 1050 = .ok (.aload_n 0, 1) := by decide +kernel
theorem dL_law_1051 : decode cL_law 1051 = .ok (.iload_n 3, 1) := by decide +kernel
theorem dL_law_1052 : decode cL_law 1052 = .ok (.iconst 1, 1) := by decide +kernel
theorem dL_law_1053 : decode cL_law 1053 = .ok (.iadd, 1) := by decide +kernel
theorem dL_law_1054 : decode cL_law 1054 = .ok (.iaload, 1) := by decide +kernel
theorem dL_law_1055 : decode cL_law 1055 = .ok (.invokevirtual 105, 3) := by decide +kernel
theorem dL_law_1058 : decode cL_law 1058 = .ok (.if_icmp .eq 87, 3) := by decide +kernel
theorem dL_law_1061 : decode cL_law 1061 = .ok (.iconst 0, 1) := by decide +kernel
theorem dL_law_1062 : decode cL_law 1062 = .ok (.ireturn, 1) := by decide +kernel
theorem dL_law_1063 : decode cL_law 1063 = .ok (.aload_n 1, 1) := by decide +kernel
theorem dL_law_1064 : decode cL_law 1064 = .ok (.aload_n 0, 1) := by decide +kernel
theorem dL_law_1065 : decode cL_law 1065 = .ok (.iload_n 3, 1) := by decide +kernel
theorem dL_law_1066 : decode cL_law 1066 = .ok (.iconst 1, 1) := by decide +kernel
theorem dL_law_1067 : decode cL_law 1067 = .ok (.iadd, 1) := by decide +kernel
theorem dL_law_1068 : decode cL_law 1068 = .ok (.iaload, 1) := by decide +kernel
theorem dL_law_1069 : decode cL_law 1069 = .ok (.aload_n 0, 1) := by decide +kernel
theorem dL_law_1070 : decode cL_law 1070 = .ok (.iload_n 3, 1) := by decide +kernel
theorem dL_law_1071 : decode cL_law 1071 = .ok (.iconst 2, 1) := by decide +kernel
theorem dL_law_1072 : decode cL_law 1072 = .ok (.iadd, 1) := by decide +kernel
theorem dL_law_1073 : decode cL_law 1073 = .ok (.iaload, 1) := by decide +kernel
theorem dL_law_1074 : decode cL_law 1074 = .ok (.invokevirtual 106, 3) := by decide +kernel
theorem dL_law_1077 : decode cL_law 1077 = .ok (.aload_n 2, 1) := by decide +kernel
theorem dL_law_1078 : decode cL_law 1078 = .ok (.aload_n 0, 1) := by decide +kernel
theorem dL_law_1079 : decode cL_law 1079 = .ok (.iload_n 3, 1) := by decide +kernel
theorem dL_law_1080 : decode cL_law 1080 = .ok (.iconst 1, 1) := by decide +kernel
theorem dL_law_1081 : decode cL_law 1081 = .ok (.iadd, 1) := by decide +kernel
theorem dL_law_1082 : decode cL_law 1082 = .ok (.iaload, 1) := by decide +kernel
theorem dL_law_1083 : decode cL_law 1083 = .ok (.aload_n 0, 1) := by decide +kernel
theorem dL_law_1084 : decode cL_law 1084 = .ok (.iload_n 3, 1) := by decide +kernel
theorem dL_law_1085 : decode cL_law 1085 = .ok (.iconst 2, 1) := by decide +kernel
theorem dL_law_1086 : decode cL_law 1086 = .ok (.iadd, 1) := by decide +kernel
theorem dL_law_1087 : decode cL_law 1087 = .ok (.iaload, 1) := by decide +kernel
theorem dL_law_1088 : decode cL_law 1088 = .ok (.invokevirtual 109, 3) := by decide +kernel
theorem dL_law_1091 : decode cL_law 1091 = .ok (.if_icmp .eq 54, 3) := by decide +kernel
theorem dL_law_1094 : decode cL_law 1094 = .ok (.iconst 0, 1) := by decide +kernel
theorem dL_law_1095 : decode cL_law 1095 = .ok (.ireturn, 1) := by decide +kernel
theorem dL_law_1096 : decode cL_law 1096 = .ok (.aload_n 1, 1) := by decide +kernel
theorem dL_law_1097 : decode cL_law 1097 = .ok (.invokevirtual 110, 3) := by decide +kernel
theorem dL_law_1100 : decode cL_law 1100 = .ok (.aload_n 2, 1) := by decide +kernel
theorem dL_law_1101 : decode cL_law 1101 = .ok (.invokevirtual 114, 3) := by decide +kernel
theorem dL_law_1104 : decode cL_law 1104 = .ok (.if_icmp .eq 41, 3) := by decide +kernel
theorem dL_law_1107 : decode cL_law 1107 = .ok (.iconst 0, 1) := by decide +kernel
theorem dL_law_1108 : decode cL_law 1108 = .ok (.ireturn, 1) := by decide +kernel
theorem dL_law_1109 : decode cL_law 1109 = .ok (.aload_n 1, 1) := by decide +kernel
theorem dL_law_1110 : decode cL_law 1110 = .ok (.invokevirtual 115, 3) := by decide +kernel
theorem dL_law_1113 : decode cL_law 1113 = .ok (.aload_n 2, 1) := by decide +kernel
theorem dL_law_1114 : decode cL_law 1114 = .ok (.invokevirtual 118, 3) := by decide +kernel
theorem dL_law_1117 : decode cL_law 1117 = .ok (.if_icmp .eq 28, 3) := by decide +kernel
theorem dL_law_1120 : decode cL_law 1120 = .ok (.iconst 0, 1) := by decide +kernel
theorem dL_law_1121 : decode cL_law 1121 = .ok (.ireturn, 1) := by decide +kernel
theorem dL_law_1122 : decode cL_law 1122 = .ok (.aload_n 1, 1) := by decide +kernel
theorem dL_law_1123 : decode cL_law 1123 = .ok (.aload_n 0, 1) := by decide +kernel
theorem dL_law_1124 : decode cL_law 1124 = .ok (.iload_n 3, 1) := by decide +kernel
theorem dL_law_1125 : decode cL_law 1125 = .ok (.iconst 1, 1) := by decide +kernel
theorem dL_law_1126 : decode cL_law 1126 = .ok (.iadd, 1) := by decide +kernel
theorem dL_law_1127 : decode cL_law 1127 = .ok (.iaload, 1) := by decide +kernel
theorem dL_law_1128 : decode cL_law 1128 = .ok (.invokevirtual 119, 3) := by decide +kernel
theorem dL_law_1131 : decode cL_law 1131 = .ok (.aload_n 2, 1) := by decide +kernel
theorem dL_law_1132 : decode cL_law 1132 = .ok (.aload_n 0, 1) := by decide +kernel
theorem dL_law_1133 : decode cL_law 1133 = .ok (.iload_n 3, 1) := by decide +kernel
theorem dL_law_1134 : decode cL_law 1134 = .ok (.iconst 1, 1) := by decide +kernel
theorem dL_law_1135 : decode cL_law 1135 = .ok (.iadd, 1) := by decide +kernel
theorem dL_law_1136 : decode cL_law 1136 = .ok (.iaload, 1) := by decide +kernel
theorem dL_law_1137 : decode cL_law 1137 = .ok (.invokevirtual 122, 3) := by decide +kernel
theorem dL_law_1140 : decode cL_law 1140 = .ok (.if_icmp .eq 5, 3) := by decide +kernel
theorem dL_law_1143 : decode cL_law 1143 = .ok (.iconst 0, 1) := by decide +kernel
theorem dL_law_1144 : decode cL_law 1144 = .ok (.ireturn, 1) := by decide +kernel
theorem dL_law_1145 : decode cL_law 1145 = .ok (.iinc 3 7, 3) := by decide +kernel
theorem dL_law_1148 : decode cL_law 1148 = .ok (.goto (-1130), 3) := by decide +kernel
theorem dL_law_1151 : decode cL_law 1151 = .ok (.iconst 1, 1) := by decide +kernel
theorem dL_law_1152 : decode cL_law 1152 = .ok (.ireturn, 1) := by decide +kernel
end
section
def wAll : List Cond := lw_tbl.filter goodWord
theorem wAll_in {w : Cond} (h : w ∈ wAll) : w ∈ lw_tbl := (List.mem_filter.mp h).1
theorem wAll_ok (w : Cond) (h : w ∈ wAll) : (w.onTables && w.keeps) = true ∨ ∃ ty, w = .arrayClass ty := good_of_word (List.mem_filter.mp h).2
theorem gAll {c : Cond} (h : c ∈ wAll) : GoodIn wAll (c :: wAll) := fun w hw => ⟨(List.mem_cons.mp hw).elim (fun e => e ▸ h) id, (List.mem_cons.mp hw).elim (fun e => e ▸ wAll_ok c h) (wAll_ok w)⟩
theorem wIn {w : Cond} (h : w ∈ tables_1) (hg : goodWord w = true) : w ∈ wAll := List.mem_filter.mpr ⟨List.mem_append_right _ h, hg⟩
theorem wIn1 {w : Cond} (i : Nat) (h : tables_1_1[i]? = some w) (hg : goodWord w = true) : w ∈ wAll := wIn (List.mem_append_left _ (List.mem_of_getElem? h)) hg
theorem wIn2 {w : Cond} (i : Nat) (h : tables_1_2[i]? = some w) (hg : goodWord w = true) : w ∈ wAll := wIn (List.mem_append_right _ (List.mem_append_left _ (List.mem_of_getElem? h))) hg
theorem wIn3 {w : Cond} (i : Nat) (h : tables_1_3[i]? = some w) (hg : goodWord w = true) : w ∈ wAll := wIn (List.mem_append_right _ (List.mem_append_right _ (List.mem_append_left _ (List.mem_of_getElem? h)))) hg
theorem wIn4 {w : Cond} (i : Nat) (h : tables_1_4[i]? = some w) (hg : goodWord w = true) : w ∈ wAll := wIn (List.mem_append_right _ (List.mem_append_right _ (List.mem_append_right _ (List.mem_of_getElem? h)))) hg
theorem wInS {w : Cond} (i : Nat) (h : (k2_sels lw_privs)[i]? = some w) (hg : goodWord w = true) : w ∈ wAll := List.mem_filter.mpr ⟨List.mem_append_left _ (List.mem_of_getElem? h), hg⟩
theorem wN_L : Cond.initialized RL ∈ wAll := wIn1 0 rfl rfl
theorem wN_X6 : Cond.initialized RX6 ∈ wAll := wIn1 1 rfl rfl
theorem wN_X4 : Cond.initialized RX4 ∈ wAll := wIn1 2 rfl rfl
theorem wN_X0 : Cond.initialized RX0 ∈ wAll := wIn1 3 rfl rfl
theorem wN_X1 : Cond.initialized RX1 ∈ wAll := wIn1 4 rfl rfl
theorem wN_X2 : Cond.initialized RX2 ∈ wAll := wIn1 5 rfl rfl
theorem wN_X5 : Cond.initialized RX5 ∈ wAll := wIn1 6 rfl rfl
theorem wN_X3 : Cond.initialized RX3 ∈ wAll := wIn1 7 rfl rfl
theorem wN_X7 : Cond.initialized RX7 ∈ wAll := wIn1 8 rfl rfl
theorem wN_J9 : Cond.initialized RJ9 ∈ wAll := wIn1 9 rfl rfl
theorem wN_J6 : Cond.initialized RJ6 ∈ wAll := wIn1 10 rfl rfl
theorem wN_J10 : Cond.initialized RJ10 ∈ wAll := wIn1 11 rfl rfl
theorem wD_L_7 : Cond.classLink RL 7 RX6 ∈ wAll := wIn1 12 rfl rfl
theorem wX_X6 : Cond.instantiable RX6 10 ∈ wAll := wIn1 13 rfl rfl
theorem wM_L_9 : Cond.methodLink RL 9 yX6_init ∈ wAll := wIn1 14 rfl rfl
theorem wI_yX6_init : Cond.instanceMethod yX6_init ∈ wAll := wIn1 15 rfl rfl
theorem wC_yX6_init : Cond.code yX6_init cX6_init 2 none ∈ wAll := wIn1 16 rfl rfl
theorem wM_X6_3 : Cond.methodLink RX6 3 objectInit ∈ wAll := wIn1 17 rfl rfl
theorem wI_objectInit : Cond.instanceMethod objectInit ∈ wAll := wIn1 18 rfl rfl
theorem wC_objectInit : Cond.code objectInit ⟨#[0xb1]⟩ 1 none ∈ wAll := wIn1 19 rfl rfl
theorem wD_X6_11 : Cond.classLink RX6 11 RX5 ∈ wAll := wIn1 20 rfl rfl
theorem wR_X5 : Cond.arrayOver (.object "LentYouths$Sheet") ∈ lw_tbl := List.mem_append_right _ (List.mem_append_left _ (List.mem_of_getElem? (i := 21) rfl))
theorem wD_X6_17 : Cond.classLink RX6 17 RX3 ∈ wAll := wIn1 22 rfl rfl
theorem wR_X3 : Cond.arrayOver (.object "LentYouths$Person") ∈ lw_tbl := List.mem_append_right _ (List.mem_append_left _ (List.mem_of_getElem? (i := 23) rfl))
theorem wD_X6_23 : Cond.classLink RX6 23 RX4 ∈ wAll := wIn1 24 rfl rfl
theorem wX_X4 : Cond.instantiable RX4 4 ∈ wAll := wIn1 25 rfl rfl
theorem wQ_X6_25 : Cond.methodLinkNest RX6 25 yX4_init RX6 ∈ lw_tbl := List.mem_append_right _ (List.mem_append_left _ (List.mem_of_getElem? (i := 26) rfl))
theorem wI_yX4_init : Cond.instanceMethod yX4_init ∈ wAll := wIn1 27 rfl rfl
theorem wC_yX4_init : Cond.code yX4_init cX4_init 1 none ∈ wAll := wIn1 28 rfl rfl
theorem wM_X4_3 : Cond.methodLink RX4 3 objectInit ∈ wAll := wIn1 29 rfl rfl
theorem wF_X4_9 : Cond.fieldLink RX4 9 "LentYouths$Readings" "who" "[I" ∈ wAll := wIn1 30 rfl rfl
theorem wF_X4_15 : Cond.fieldLink RX4 15 "LentYouths$Readings" "scene" "[I" ∈ wAll := wIn1 31 rfl rfl
theorem wF_X4_18 : Cond.fieldLink RX4 18 "LentYouths$Readings" "knew" "[Z" ∈ wAll := wIn1 32 rfl rfl
theorem wF_X4_22 : Cond.fieldLink RX4 22 "LentYouths$Readings" "count" "I" ∈ wAll := wIn1 33 rfl rfl
theorem wF_X6_90 : Cond.fieldLink RX6 90 "LentYouths$Readings" "count" "I" ∈ wAll := wIn1 34 rfl rfl
theorem wY_X4_who : Cond.laysFinal RX4 "LentYouths$Readings" "who" "[I" ∈ wAll := wIn1 35 rfl rfl
theorem wY_X4_scene : Cond.laysFinal RX4 "LentYouths$Readings" "scene" "[I" ∈ wAll := wIn1 37 rfl rfl
theorem wY_X4_knew : Cond.laysFinal RX4 "LentYouths$Readings" "knew" "[Z" ∈ wAll := wIn1 39 rfl rfl
theorem wY_X4_count : Cond.lays RX4 "LentYouths$Readings" "count" "I" ∈ wAll := wIn1 41 rfl rfl
theorem wR_int : Cond.arrayClass .int ∈ wAll := wIn1 44 rfl rfl
theorem wR_boolean : Cond.arrayClass .boolean ∈ wAll := wIn1 45 rfl rfl
theorem wD_X6_30 : Cond.classLink RX6 30 RX0 ∈ wAll := wIn1 46 rfl rfl
theorem wX_X0 : Cond.instantiable RX0 8 ∈ wAll := wIn1 47 rfl rfl
theorem wQ_X6_32 : Cond.methodLinkNest RX6 32 yX0_init RX6 ∈ lw_tbl := List.mem_append_right _ (List.mem_append_left _ (List.mem_of_getElem? (i := 48) rfl))
theorem wI_yX0_init : Cond.instanceMethod yX0_init ∈ wAll := wIn1 49 rfl rfl
theorem wC_yX0_init : Cond.code yX0_init cX0_init 1 none ∈ wAll := wIn1 50 rfl rfl
theorem wM_X0_3 : Cond.methodLink RX0 3 objectInit ∈ wAll := wIn1 51 rfl rfl
theorem wD_X0_30 : Cond.classLink RX0 30 RX3 ∈ wAll := wIn1 52 rfl rfl
theorem wF_X0_9 : Cond.fieldLink RX0 9 "LentYouths$Exchange" "left" "[I" ∈ wAll := wIn1 53 rfl rfl
theorem wF_X6_152 : Cond.fieldLink RX6 152 "LentYouths$Exchange" "left" "[I" ∈ wAll := wIn1 54 rfl rfl
theorem wF_X0_15 : Cond.fieldLink RX0 15 "LentYouths$Exchange" "lasts" "[I" ∈ wAll := wIn1 55 rfl rfl
theorem wF_X0_18 : Cond.fieldLink RX0 18 "LentYouths$Exchange" "lent" "[I" ∈ wAll := wIn1 56 rfl rfl
theorem wF_X0_21 : Cond.fieldLink RX0 21 "LentYouths$Exchange" "holds" "[I" ∈ wAll := wIn1 57 rfl rfl
theorem wF_X6_146 : Cond.fieldLink RX6 146 "LentYouths$Exchange" "holds" "[I" ∈ wAll := wIn1 58 rfl rfl
theorem wF_X0_24 : Cond.fieldLink RX0 24 "LentYouths$Exchange" "knows" "[I" ∈ wAll := wIn1 59 rfl rfl
theorem wF_X4_26 : Cond.fieldLink RX4 26 "LentYouths$Exchange" "knows" "[I" ∈ wAll := wIn1 60 rfl rfl
theorem wF_X6_149 : Cond.fieldLink RX6 149 "LentYouths$Exchange" "knows" "[I" ∈ wAll := wIn1 61 rfl rfl
theorem wF_X0_27 : Cond.fieldLink RX0 27 "LentYouths$Exchange" "shown" "[I" ∈ wAll := wIn1 62 rfl rfl
theorem wF_X0_32 : Cond.fieldLink RX0 32 "LentYouths$Exchange" "persons" "[LLentYouths$Person;" ∈ wAll := wIn1 63 rfl rfl
theorem wF_X0_36 : Cond.fieldLink RX0 36 "LentYouths$Exchange" "people" "I" ∈ wAll := wIn1 64 rfl rfl
theorem wF_X1_40 : Cond.fieldLink RX1 40 "LentYouths$Exchange" "people" "I" ∈ wAll := wIn1 65 rfl rfl
theorem wY_X0_left : Cond.laysFinal RX0 "LentYouths$Exchange" "left" "[I" ∈ wAll := wIn1 66 rfl rfl
theorem wY_X0_lasts : Cond.laysFinal RX0 "LentYouths$Exchange" "lasts" "[I" ∈ wAll := wIn1 68 rfl rfl
theorem wY_X0_lent : Cond.laysFinal RX0 "LentYouths$Exchange" "lent" "[I" ∈ wAll := wIn1 70 rfl rfl
theorem wY_X0_holds : Cond.laysFinal RX0 "LentYouths$Exchange" "holds" "[I" ∈ wAll := wIn1 72 rfl rfl
theorem wY_X0_knows : Cond.laysFinal RX0 "LentYouths$Exchange" "knows" "[I" ∈ wAll := wIn1 74 rfl rfl
theorem wY_X0_shown : Cond.laysFinal RX0 "LentYouths$Exchange" "shown" "[I" ∈ wAll := wIn1 76 rfl rfl
theorem wY_X0_persons : Cond.lays RX0 "LentYouths$Exchange" "persons" "[LLentYouths$Person;" ∈ wAll := wIn1 78 rfl rfl
theorem wY_X0_people : Cond.lays RX0 "LentYouths$Exchange" "people" "I" ∈ wAll := wIn1 80 rfl rfl
theorem wD_X6_37 : Cond.classLink RX6 37 RX1 ∈ wAll := wIn1 83 rfl rfl
theorem wX_X1 : Cond.instantiable RX1 2 ∈ wAll := wIn1 84 rfl rfl
theorem wM_X6_39 : Cond.methodLink RX6 39 yX1_init ∈ wAll := wIn1 85 rfl rfl
theorem wI_yX1_init : Cond.instanceMethod yX1_init ∈ wAll := wIn1 86 rfl rfl
theorem wC_yX1_init : Cond.code yX1_init cX1_init 2 none ∈ wAll := wIn1 87 rfl rfl
theorem wM_X1_3 : Cond.methodLink RX1 3 objectInit ∈ wAll := wIn1 88 rfl rfl
theorem wD_X1_9 : Cond.classLink RX1 9 RX0 ∈ wAll := wIn1 89 rfl rfl
theorem wR_X0 : Cond.arrayOver (.object "LentYouths$Exchange") ∈ lw_tbl := List.mem_append_right _ (List.mem_append_left _ (List.mem_of_getElem? (i := 90) rfl))
theorem wQ_X1_21 : Cond.methodLinkNest RX1 21 yX0_init RX6 ∈ lw_tbl := List.mem_append_right _ (List.mem_append_left _ (List.mem_of_getElem? (i := 91) rfl))
theorem wF_X1_11 : Cond.fieldLink RX1 11 "LentYouths$FewestSearch" "behind" "[LLentYouths$Exchange;" ∈ wAll := wIn1 92 rfl rfl
theorem wF_X1_17 : Cond.fieldLink RX1 17 "LentYouths$FewestSearch" "found" "[I" ∈ wAll := wIn1 93 rfl rfl
theorem wY_X1_behind : Cond.laysFinal RX1 "LentYouths$FewestSearch" "behind" "[LLentYouths$Exchange;" ∈ wAll := wIn1 94 rfl rfl
theorem wY_X1_found : Cond.laysFinal RX1 "LentYouths$FewestSearch" "found" "[I" ∈ wAll := wIn1 96 rfl rfl
theorem wD_X6_44 : Cond.classLink RX6 44 RX2 ∈ wAll := wIn1 99 rfl rfl
theorem wX_X2 : Cond.instantiable RX2 2 ∈ wAll := wIn1 100 rfl rfl
theorem wQ_X6_46 : Cond.methodLinkNest RX6 46 yX2_init RX6 ∈ lw_tbl := List.mem_append_right _ (List.mem_append_left _ (List.mem_of_getElem? (i := 101) rfl))
theorem wI_yX2_init : Cond.instanceMethod yX2_init ∈ wAll := wIn1 102 rfl rfl
theorem wC_yX2_init : Cond.code yX2_init cX2_init 1 none ∈ wAll := wIn1 103 rfl rfl
theorem wM_X2_3 : Cond.methodLink RX2 3 objectInit ∈ wAll := wIn1 104 rfl rfl
theorem wF_X2_9 : Cond.fieldLink RX2 9 "LentYouths$Matching" "most" "[I" ∈ wAll := wIn1 105 rfl rfl
theorem wF_X2_15 : Cond.fieldLink RX2 15 "LentYouths$Matching" "gets" "[I" ∈ wAll := wIn1 106 rfl rfl
theorem wF_X6_168 : Cond.fieldLink RX6 168 "LentYouths$Matching" "gets" "[I" ∈ wAll := wIn1 107 rfl rfl
theorem wY_X2_most : Cond.laysFinal RX2 "LentYouths$Matching" "most" "[I" ∈ wAll := wIn1 108 rfl rfl
theorem wY_X2_gets : Cond.laysFinal RX2 "LentYouths$Matching" "gets" "[I" ∈ wAll := wIn1 110 rfl rfl
theorem wX_X5 : Cond.instantiable RX5 4 ∈ wAll := wIn1 113 rfl rfl
theorem wQ_X6_65 : Cond.methodLinkNest RX6 65 yX5_init RX6 ∈ lw_tbl := List.mem_append_right _ (List.mem_append_left _ (List.mem_of_getElem? (i := 114) rfl))
theorem wI_yX5_init : Cond.instanceMethod yX5_init ∈ wAll := wIn1 115 rfl rfl
theorem wC_yX5_init : Cond.code yX5_init cX5_init 1 none ∈ wAll := wIn1 116 rfl rfl
theorem wM_X5_3 : Cond.methodLink RX5 3 objectInit ∈ wAll := wIn1 117 rfl rfl
theorem wF_X5_9 : Cond.fieldLink RX5 9 "LentYouths$Sheet" "cells" "[I" ∈ wAll := wIn1 118 rfl rfl
theorem wF_X3_24 : Cond.fieldLink RX3 24 "LentYouths$Sheet" "cells" "[I" ∈ wAll := wIn1 119 rfl rfl
theorem wF_X6_213 : Cond.fieldLink RX6 213 "LentYouths$Sheet" "cells" "[I" ∈ wAll := wIn1 120 rfl rfl
theorem wF_X5_15 : Cond.fieldLink RX5 15 "LentYouths$Sheet" "present" "Z" ∈ wAll := wIn1 121 rfl rfl
theorem wF_X6_206 : Cond.fieldLink RX6 206 "LentYouths$Sheet" "present" "Z" ∈ wAll := wIn1 122 rfl rfl
theorem wF_X5_19 : Cond.fieldLink RX5 19 "LentYouths$Sheet" "lane" "I" ∈ wAll := wIn1 123 rfl rfl
theorem wF_X6_210 : Cond.fieldLink RX6 210 "LentYouths$Sheet" "lane" "I" ∈ wAll := wIn1 124 rfl rfl
theorem wF_X5_23 : Cond.fieldLink RX5 23 "LentYouths$Sheet" "count" "I" ∈ wAll := wIn1 125 rfl rfl
theorem wY_X5_cells : Cond.laysFinal RX5 "LentYouths$Sheet" "cells" "[I" ∈ wAll := wIn1 126 rfl rfl
theorem wY_X5_present : Cond.lays RX5 "LentYouths$Sheet" "present" "Z" ∈ wAll := wIn1 128 rfl rfl
theorem wY_X5_lane : Cond.lays RX5 "LentYouths$Sheet" "lane" "I" ∈ wAll := wIn1 130 rfl rfl
theorem wY_X5_count : Cond.lays RX5 "LentYouths$Sheet" "count" "I" ∈ wAll := wIn1 132 rfl rfl
theorem wX_X3 : Cond.instantiable RX3 4 ∈ wAll := wIn1 135 rfl rfl
theorem wQ_X6_66 : Cond.methodLinkNest RX6 66 yX3_init RX6 ∈ lw_tbl := List.mem_append_right _ (List.mem_append_left _ (List.mem_of_getElem? (i := 136) rfl))
theorem wI_yX3_init : Cond.instanceMethod yX3_init ∈ wAll := wIn1 137 rfl rfl
theorem wC_yX3_init : Cond.code yX3_init cX3_init 1 none ∈ wAll := wIn1 138 rfl rfl
theorem wM_X3_3 : Cond.methodLink RX3 3 objectInit ∈ wAll := wIn1 139 rfl rfl
theorem wF_X3_9 : Cond.fieldLink RX3 9 "LentYouths$Person" "kind" "I" ∈ wAll := wIn1 140 rfl rfl
theorem wF_X6_96 : Cond.fieldLink RX6 96 "LentYouths$Person" "kind" "I" ∈ wAll := wIn1 141 rfl rfl
theorem wF_X3_15 : Cond.fieldLink RX3 15 "LentYouths$Person" "scenes" "I" ∈ wAll := wIn1 142 rfl rfl
theorem wF_X0_46 : Cond.fieldLink RX0 46 "LentYouths$Person" "scenes" "I" ∈ wAll := wIn1 143 rfl rfl
theorem wF_X6_99 : Cond.fieldLink RX6 99 "LentYouths$Person" "scenes" "I" ∈ wAll := wIn1 144 rfl rfl
theorem wF_X2_37 : Cond.fieldLink RX2 37 "LentYouths$Person" "scenes" "I" ∈ wAll := wIn1 145 rfl rfl
theorem wF_X3_18 : Cond.fieldLink RX3 18 "LentYouths$Person" "wanted" "I" ∈ wAll := wIn1 146 rfl rfl
theorem wF_X6_102 : Cond.fieldLink RX6 102 "LentYouths$Person" "wanted" "I" ∈ wAll := wIn1 147 rfl rfl
theorem wF_X3_21 : Cond.fieldLink RX3 21 "LentYouths$Person" "wear" "I" ∈ wAll := wIn1 148 rfl rfl
theorem wF_X6_105 : Cond.fieldLink RX6 105 "LentYouths$Person" "wear" "I" ∈ wAll := wIn1 149 rfl rfl
theorem wY_X3_kind : Cond.lays RX3 "LentYouths$Person" "kind" "I" ∈ wAll := wIn1 150 rfl rfl
theorem wY_X3_scenes : Cond.lays RX3 "LentYouths$Person" "scenes" "I" ∈ wAll := wIn1 152 rfl rfl
theorem wY_X3_wanted : Cond.lays RX3 "LentYouths$Person" "wanted" "I" ∈ wAll := wIn1 154 rfl rfl
theorem wY_X3_wear : Cond.lays RX3 "LentYouths$Person" "wear" "I" ∈ wAll := wIn1 156 rfl rfl
theorem wF_X6_13 : Cond.fieldLink RX6 13 "LentYouths" "sheets" "[LLentYouths$Sheet;" ∈ wAll := wIn1 159 rfl rfl
theorem wF_X6_19 : Cond.fieldLink RX6 19 "LentYouths" "persons" "[LLentYouths$Person;" ∈ wAll := wIn1 160 rfl rfl
theorem wF_X6_26 : Cond.fieldLink RX6 26 "LentYouths" "readings" "LLentYouths$Readings;" ∈ wAll := wIn1 161 rfl rfl
theorem wF_X6_33 : Cond.fieldLink RX6 33 "LentYouths" "exchange" "LLentYouths$Exchange;" ∈ wAll := wIn1 162 rfl rfl
theorem wF_X6_40 : Cond.fieldLink RX6 40 "LentYouths" "search" "LLentYouths$FewestSearch;" ∈ wAll := wIn1 163 rfl rfl
theorem wF_X6_47 : Cond.fieldLink RX6 47 "LentYouths" "matching" "LLentYouths$Matching;" ∈ wAll := wIn1 164 rfl rfl
theorem wF_X6_51 : Cond.fieldLink RX6 51 "LentYouths" "row" "[I" ∈ wAll := wIn1 165 rfl rfl
theorem wF_X6_55 : Cond.fieldLink RX6 55 "LentYouths" "people" "I" ∈ wAll := wIn1 166 rfl rfl
theorem wF_X6_59 : Cond.fieldLink RX6 59 "LentYouths" "traced" "I" ∈ wAll := wIn1 167 rfl rfl
theorem wF_X6_62 : Cond.fieldLink RX6 62 "LentYouths" "latestFault" "I" ∈ wAll := wIn1 168 rfl rfl
theorem wY_X6_sheets : Cond.laysFinal RX6 "LentYouths" "sheets" "[LLentYouths$Sheet;" ∈ wAll := wIn1 169 rfl rfl
theorem wY_X6_persons : Cond.laysFinal RX6 "LentYouths" "persons" "[LLentYouths$Person;" ∈ wAll := wIn1 171 rfl rfl
theorem wY_X6_readings : Cond.laysFinal RX6 "LentYouths" "readings" "LLentYouths$Readings;" ∈ wAll := wIn1 173 rfl rfl
theorem wY_X6_exchange : Cond.laysFinal RX6 "LentYouths" "exchange" "LLentYouths$Exchange;" ∈ wAll := wIn1 175 rfl rfl
theorem wY_X6_search : Cond.laysFinal RX6 "LentYouths" "search" "LLentYouths$FewestSearch;" ∈ wAll := wIn1 177 rfl rfl
theorem wY_X6_matching : Cond.laysFinal RX6 "LentYouths" "matching" "LLentYouths$Matching;" ∈ wAll := wIn1 179 rfl rfl
theorem wY_X6_row : Cond.laysFinal RX6 "LentYouths" "row" "[I" ∈ wAll := wIn1 181 rfl rfl
theorem wY_X6_people : Cond.lays RX6 "LentYouths" "people" "I" ∈ wAll := wIn1 183 rfl rfl
theorem wY_X6_traced : Cond.lays RX6 "LentYouths" "traced" "I" ∈ wAll := wIn1 185 rfl rfl
theorem wY_X6_latestFault : Cond.lays RX6 "LentYouths" "latestFault" "I" ∈ wAll := wIn1 187 rfl rfl
theorem wM_L_13 : Cond.methodLink RL 13 yX6_counter ∈ wAll := wIn1 190 rfl rfl
theorem wI_yX6_counter : Cond.instanceMethod yX6_counter ∈ wAll := wIn1 191 rfl rfl
theorem wS_yX6_counter : Cond.selects RX6 yX6_counter yX6_counter ∈ wAll := wIn1 192 rfl rfl
theorem wC_yX6_counter : Cond.code yX6_counter cX6_counter 9 (some .int) ∈ wAll := wIn1 193 rfl rfl
theorem wM_X6_67 : Cond.methodLink RX6 67 yX6_isSheet ∈ wAll := wIn1 194 rfl rfl
theorem wT_yX6_isSheet : Cond.static yX6_isSheet ∈ wAll := wIn1 195 rfl rfl
theorem wC_yX6_isSheet : Cond.code yX6_isSheet cX6_isSheet 1 (some .boolean) ∈ wAll := wIn1 196 rfl rfl
theorem wM_X6_71 : Cond.methodLink RX6 71 yX6_isLane ∈ wAll := wIn1 197 rfl rfl
theorem wT_yX6_isLane : Cond.static yX6_isLane ∈ wAll := wIn1 198 rfl rfl
theorem wC_yX6_isLane : Cond.code yX6_isLane cX6_isLane 1 (some .boolean) ∈ wAll := wIn1 199 rfl rfl
theorem wM_X6_74 : Cond.methodLink RX6 74 yX5_faultOfCells ∈ wAll := wIn1 200 rfl rfl
theorem wI_yX5_faultOfCells : Cond.instanceMethod yX5_faultOfCells ∈ wAll := wIn1 201 rfl rfl
theorem wS_yX5_faultOfCells : Cond.selects RX5 yX5_faultOfCells yX5_faultOfCells ∈ wAll := wIn1 202 rfl rfl
theorem wC_yX5_faultOfCells : Cond.code yX5_faultOfCells cX5_faultOfCells 4 (some .int) ∈ wAll := wIn1 203 rfl rfl
theorem wM_X5_26 : Cond.methodLink RX5 26 yX5_hasCells ∈ wAll := wIn1 204 rfl rfl
theorem wI_yX5_hasCells : Cond.instanceMethod yX5_hasCells ∈ wAll := wIn1 205 rfl rfl
theorem wS_yX5_hasCells : Cond.selects RX5 yX5_hasCells yX5_hasCells ∈ wAll := wIn1 206 rfl rfl
theorem wC_yX5_hasCells : Cond.code yX5_hasCells cX5_hasCells 3 (some .boolean) ∈ wAll := wIn1 207 rfl rfl
theorem wM_X6_78 : Cond.methodLink RX6 78 yX6_faultAnswer ∈ wAll := wIn1 208 rfl rfl
theorem wI_yX6_faultAnswer : Cond.instanceMethod yX6_faultAnswer ∈ wAll := wIn1 210 rfl rfl
theorem wC_yX6_faultAnswer : Cond.code yX6_faultAnswer cX6_faultAnswer 2 (some .int) ∈ wAll := wIn1 211 rfl rfl
theorem wM_X6_82 : Cond.methodLink RX6 82 yX6_firstFaultOfText ∈ wAll := wIn1 212 rfl rfl
theorem wT_yX6_firstFaultOfText : Cond.static yX6_firstFaultOfText ∈ wAll := wIn1 213 rfl rfl
theorem wC_yX6_firstFaultOfText : Cond.code yX6_firstFaultOfText cX6_firstFaultOfText 6 (some .int) ∈ wAll := wIn1 214 rfl rfl
theorem wM_X6_243 : Cond.methodLink RX6 243 yX6_textGoesOn ∈ wAll := wIn1 215 rfl rfl
theorem wT_yX6_textGoesOn : Cond.static yX6_textGoesOn ∈ wAll := wIn1 216 rfl rfl
theorem wC_yX6_textGoesOn : Cond.code yX6_textGoesOn cX6_textGoesOn 3 (some .boolean) ∈ wAll := wIn1 217 rfl rfl
theorem wM_X6_86 : Cond.methodLink RX6 86 yX3_readFrom ∈ wAll := wIn1 218 rfl rfl
theorem wI_yX3_readFrom : Cond.instanceMethod yX3_readFrom ∈ wAll := wIn1 219 rfl rfl
theorem wS_yX3_readFrom : Cond.selects RX3 yX3_readFrom yX3_readFrom ∈ wAll := wIn1 220 rfl rfl
theorem wC_yX3_readFrom : Cond.code yX3_readFrom cX3_readFrom 4 none ∈ wAll := wIn1 221 rfl rfl
theorem wM_L_18 : Cond.methodLink RL 18 yX6_ofPerson ∈ wAll := wIn1 222 rfl rfl
theorem wI_yX6_ofPerson : Cond.instanceMethod yX6_ofPerson ∈ wAll := wIn1 223 rfl rfl
theorem wS_yX6_ofPerson : Cond.selects RX6 yX6_ofPerson yX6_ofPerson ∈ wAll := wIn1 224 rfl rfl
theorem wC_yX6_ofPerson : Cond.code yX6_ofPerson cX6_ofPerson 4 (some .int) ∈ wAll := wIn1 225 rfl rfl
theorem wM_X6_93 : Cond.methodLink RX6 93 yX6_isPerson ∈ wAll := wIn1 226 rfl rfl
theorem wI_yX6_isPerson : Cond.instanceMethod yX6_isPerson ∈ wAll := wIn1 228 rfl rfl
theorem wC_yX6_isPerson : Cond.code yX6_isPerson cX6_isPerson 2 (some .boolean) ∈ wAll := wIn1 229 rfl rfl
theorem wM_X6_108 : Cond.methodLink RX6 108 yX3_lasts ∈ wAll := wIn1 230 rfl rfl
theorem wI_yX3_lasts : Cond.instanceMethod yX3_lasts ∈ wAll := wIn1 231 rfl rfl
theorem wS_yX3_lasts : Cond.selects RX3 yX3_lasts yX3_lasts ∈ wAll := wIn1 232 rfl rfl
theorem wC_yX3_lasts : Cond.code yX3_lasts cX3_lasts 1 (some .int) ∈ wAll := wIn1 233 rfl rfl
theorem wQ_X3_30 : Cond.methodLinkNest RX3 30 yX6_lastsOf RX6 ∈ lw_tbl := List.mem_append_right _ (List.mem_append_left _ (List.mem_of_getElem? (i := 234) rfl))
theorem wT_yX6_lastsOf : Cond.static yX6_lastsOf ∈ wAll := wIn1 235 rfl rfl
theorem wC_yX6_lastsOf : Cond.code yX6_lastsOf cX6_lastsOf 2 (some .int) ∈ wAll := wIn1 236 rfl rfl
theorem wM_L_23 : Cond.methodLink RL 23 yX6_live ∈ wAll := wIn1 237 rfl rfl
theorem wI_yX6_live : Cond.instanceMethod yX6_live ∈ wAll := wIn1 238 rfl rfl
theorem wS_yX6_live : Cond.selects RX6 yX6_live yX6_live ∈ wAll := wIn1 239 rfl rfl
theorem wC_yX6_live : Cond.code yX6_live cX6_live 4 (some .int) ∈ wAll := wIn2 0 rfl rfl
theorem wM_L_27 : Cond.methodLink RL 27 yX6_want ∈ wAll := wIn2 1 rfl rfl
theorem wI_yX6_want : Cond.instanceMethod yX6_want ∈ wAll := wIn2 2 rfl rfl
theorem wS_yX6_want : Cond.selects RX6 yX6_want yX6_want ∈ wAll := wIn2 3 rfl rfl
theorem wC_yX6_want : Cond.code yX6_want cX6_want 4 (some .int) ∈ wAll := wIn2 4 rfl rfl
theorem wM_L_31 : Cond.methodLink RL 31 yX6_loans ∈ wAll := wIn2 5 rfl rfl
theorem wI_yX6_loans : Cond.instanceMethod yX6_loans ∈ wAll := wIn2 6 rfl rfl
theorem wS_yX6_loans : Cond.selects RX6 yX6_loans yX6_loans ∈ wAll := wIn2 7 rfl rfl
theorem wC_yX6_loans : Cond.code yX6_loans cX6_loans 8 (some .int) ∈ wAll := wIn2 8 rfl rfl
theorem wM_X6_112 : Cond.methodLink RX6 112 yX6_isLoanCount ∈ wAll := wIn2 9 rfl rfl
theorem wT_yX6_isLoanCount : Cond.static yX6_isLoanCount ∈ wAll := wIn2 10 rfl rfl
theorem wC_yX6_isLoanCount : Cond.code yX6_isLoanCount cX6_isLoanCount 1 (some .boolean) ∈ wAll := wIn2 11 rfl rfl
theorem wM_X6_115 : Cond.methodLink RX6 115 yX6_isLoanQuestion ∈ wAll := wIn2 12 rfl rfl
theorem wT_yX6_isLoanQuestion : Cond.static yX6_isLoanQuestion ∈ wAll := wIn2 13 rfl rfl
theorem wC_yX6_isLoanQuestion : Cond.code yX6_isLoanQuestion cX6_isLoanQuestion 1 (some .boolean) ∈ wAll := wIn2 14 rfl rfl
theorem wM_X6_118 : Cond.methodLink RX6 118 yX6_takeRow ∈ wAll := wIn2 15 rfl rfl
theorem wI_yX6_takeRow : Cond.instanceMethod yX6_takeRow ∈ wAll := wIn2 17 rfl rfl
theorem wC_yX6_takeRow : Cond.code yX6_takeRow cX6_takeRow 8 (some .int) ∈ wAll := wIn2 18 rfl rfl
theorem wM_X6_122 : Cond.methodLink RX6 122 yX0_begin ∈ wAll := wIn2 19 rfl rfl
theorem wI_yX0_begin : Cond.instanceMethod yX0_begin ∈ wAll := wIn2 20 rfl rfl
theorem wS_yX0_begin : Cond.selects RX0 yX0_begin yX0_begin ∈ wAll := wIn2 21 rfl rfl
theorem wC_yX0_begin : Cond.code yX0_begin cX0_begin 4 none ∈ wAll := wIn2 22 rfl rfl
theorem wM_X0_40 : Cond.methodLink RX0 40 yJ9_min_7cf53 ∈ wAll := wIn2 23 rfl rfl
theorem wT_yJ9_min_7cf53 : Cond.static yJ9_min_7cf53 ∈ wAll := wIn2 24 rfl rfl
theorem wC_yJ9_min_7cf53 : Cond.code yJ9_min_7cf53 cJ9_min_7cf53 2 (some .int) ∈ wAll := wIn2 25 rfl rfl
theorem wM_X0_49 : Cond.methodLink RX0 49 yX3_lasts ∈ wAll := wIn2 26 rfl rfl
theorem wM_X0_52 : Cond.methodLink RX0 52 yX0_place ∈ wAll := wIn2 27 rfl rfl
theorem wI_yX0_place : Cond.instanceMethod yX0_place ∈ wAll := wIn2 28 rfl rfl
theorem wS_yX0_place : Cond.selects RX0 yX0_place yX0_place ∈ wAll := wIn2 29 rfl rfl
theorem wC_yX0_place : Cond.code yX0_place cX0_place 4 none ∈ wAll := wIn2 30 rfl rfl
theorem wM_X6_126 : Cond.methodLink RX6 126 yX0_play ∈ wAll := wIn2 31 rfl rfl
theorem wI_yX0_play : Cond.instanceMethod yX0_play ∈ wAll := wIn2 32 rfl rfl
theorem wS_yX0_play : Cond.selects RX0 yX0_play yX0_play ∈ wAll := wIn2 33 rfl rfl
theorem wC_yX0_play : Cond.code yX0_play cX0_play 4 (some .int) ∈ wAll := wIn2 34 rfl rfl
theorem wM_X0_62 : Cond.methodLink RX0 62 yX0_canLend ∈ wAll := wIn2 35 rfl rfl
theorem wI_yX0_canLend : Cond.instanceMethod yX0_canLend ∈ wAll := wIn2 36 rfl rfl
theorem wS_yX0_canLend : Cond.selects RX0 yX0_canLend yX0_canLend ∈ wAll := wIn2 37 rfl rfl
theorem wC_yX0_canLend : Cond.code yX0_canLend cX0_canLend 3 (some .boolean) ∈ wAll := wIn2 38 rfl rfl
theorem wM_X0_66 : Cond.methodLink RX0 66 yX0_lend ∈ wAll := wIn2 39 rfl rfl
theorem wI_yX0_lend : Cond.instanceMethod yX0_lend ∈ wAll := wIn2 40 rfl rfl
theorem wS_yX0_lend : Cond.selects RX0 yX0_lend yX0_lend ∈ wAll := wIn2 41 rfl rfl
theorem wC_yX0_lend : Cond.code yX0_lend cX0_lend 4 none ∈ wAll := wIn2 42 rfl rfl
theorem wM_X0_73 : Cond.methodLink RX0 73 yX0_wearOff ∈ wAll := wIn2 43 rfl rfl
theorem wI_yX0_wearOff : Cond.instanceMethod yX0_wearOff ∈ wAll := wIn2 45 rfl rfl
theorem wC_yX0_wearOff : Cond.code yX0_wearOff cX0_wearOff 2 none ∈ wAll := wIn2 46 rfl rfl
theorem wM_X0_77 : Cond.methodLink RX0 77 yX0_show ∈ wAll := wIn2 47 rfl rfl
theorem wI_yX0_show : Cond.instanceMethod yX0_show ∈ wAll := wIn2 49 rfl rfl
theorem wC_yX0_show : Cond.code yX0_show cX0_show 2 none ∈ wAll := wIn2 50 rfl rfl
theorem wM_X6_130 : Cond.methodLink RX6 130 yX6_answerOfLoans ∈ wAll := wIn2 51 rfl rfl
theorem wI_yX6_answerOfLoans : Cond.instanceMethod yX6_answerOfLoans ∈ wAll := wIn2 53 rfl rfl
theorem wC_yX6_answerOfLoans : Cond.code yX6_answerOfLoans cX6_answerOfLoans 3 (some .int) ∈ wAll := wIn2 54 rfl rfl
theorem wM_X6_134 : Cond.methodLink RX6 134 yX0_mended ∈ wAll := wIn2 55 rfl rfl
theorem wI_yX0_mended : Cond.instanceMethod yX0_mended ∈ wAll := wIn2 56 rfl rfl
theorem wS_yX0_mended : Cond.selects RX0 yX0_mended yX0_mended ∈ wAll := wIn2 57 rfl rfl
theorem wC_yX0_mended : Cond.code yX0_mended cX0_mended 3 (some .int) ∈ wAll := wIn2 58 rfl rfl
theorem wM_X0_80 : Cond.methodLink RX0 80 yX3_isMendedBy ∈ wAll := wIn2 59 rfl rfl
theorem wI_yX3_isMendedBy : Cond.instanceMethod yX3_isMendedBy ∈ wAll := wIn2 60 rfl rfl
theorem wS_yX3_isMendedBy : Cond.selects RX3 yX3_isMendedBy yX3_isMendedBy ∈ wAll := wIn2 61 rfl rfl
theorem wC_yX3_isMendedBy : Cond.code yX3_isMendedBy cX3_isMendedBy 2 (some .boolean) ∈ wAll := wIn2 62 rfl rfl
theorem wM_X3_34 : Cond.methodLink RX3 34 yX3_wantedSet ∈ wAll := wIn2 63 rfl rfl
theorem wI_yX3_wantedSet : Cond.instanceMethod yX3_wantedSet ∈ wAll := wIn2 64 rfl rfl
theorem wS_yX3_wantedSet : Cond.selects RX3 yX3_wantedSet yX3_wantedSet ∈ wAll := wIn2 65 rfl rfl
theorem wC_yX3_wantedSet : Cond.code yX3_wantedSet cX3_wantedSet 1 (some .int) ∈ wAll := wIn2 66 rfl rfl
theorem wM_X6_137 : Cond.methodLink RX6 137 yX0_firstThatMendsAll ∈ wAll := wIn2 67 rfl rfl
theorem wI_yX0_firstThatMendsAll : Cond.instanceMethod yX0_firstThatMendsAll ∈ wAll := wIn2 68 rfl rfl
theorem wS_yX0_firstThatMendsAll : Cond.selects RX0 yX0_firstThatMendsAll yX0_firstThatMendsAll ∈ wAll := wIn2 69 rfl rfl
theorem wC_yX0_firstThatMendsAll : Cond.code yX0_firstThatMendsAll cX0_firstThatMendsAll 5 (some .int) ∈ wAll := wIn2 70 rfl rfl
theorem wM_X0_70 : Cond.methodLink RX0 70 yX0_mended ∈ wAll := wIn2 71 rfl rfl
theorem wM_X6_140 : Cond.methodLink RX6 140 yX0_loansHome ∈ wAll := wIn2 72 rfl rfl
theorem wI_yX0_loansHome : Cond.instanceMethod yX0_loansHome ∈ wAll := wIn2 73 rfl rfl
theorem wS_yX0_loansHome : Cond.selects RX0 yX0_loansHome yX0_loansHome ∈ wAll := wIn2 74 rfl rfl
theorem wC_yX0_loansHome : Cond.code yX0_loansHome cX0_loansHome 6 (some .int) ∈ wAll := wIn2 75 rfl rfl
theorem wM_X6_143 : Cond.methodLink RX6 143 yX6_answerOfOne ∈ wAll := wIn2 76 rfl rfl
theorem wI_yX6_answerOfOne : Cond.instanceMethod yX6_answerOfOne ∈ wAll := wIn2 78 rfl rfl
theorem wC_yX6_answerOfOne : Cond.code yX6_answerOfOne cX6_answerOfOne 3 (some .int) ∈ wAll := wIn2 79 rfl rfl
theorem wM_L_36 : Cond.methodLink RL 36 yX6_fewest ∈ wAll := wIn2 80 rfl rfl
theorem wI_yX6_fewest : Cond.instanceMethod yX6_fewest ∈ wAll := wIn2 81 rfl rfl
theorem wS_yX6_fewest : Cond.selects RX6 yX6_fewest yX6_fewest ∈ wAll := wIn2 82 rfl rfl
theorem wC_yX6_fewest : Cond.code yX6_fewest cX6_fewest 4 (some .int) ∈ wAll := wIn2 83 rfl rfl
theorem wM_X6_155 : Cond.methodLink RX6 155 yX1_find ∈ wAll := wIn2 84 rfl rfl
theorem wI_yX1_find : Cond.instanceMethod yX1_find ∈ wAll := wIn2 85 rfl rfl
theorem wS_yX1_find : Cond.selects RX1 yX1_find yX1_find ∈ wAll := wIn2 86 rfl rfl
theorem wC_yX1_find : Cond.code yX1_find cX1_find 5 (some .int) ∈ wAll := wIn2 87 rfl rfl
theorem wM_X1_22 : Cond.methodLink RX1 22 yX0_begin ∈ wAll := wIn2 88 rfl rfl
theorem wM_X1_26 : Cond.methodLink RX1 26 yX1_mends ∈ wAll := wIn2 89 rfl rfl
theorem wT_yX1_mends : Cond.static yX1_mends ∈ wAll := wIn2 90 rfl rfl
theorem wC_yX1_mends : Cond.code yX1_mends cX1_mends 8 (some .boolean) ∈ wAll := wIn2 91 rfl rfl
theorem wM_X1_30 : Cond.methodLink RX1 30 yX0_mended ∈ wAll := wIn2 92 rfl rfl
theorem wM_X1_34 : Cond.methodLink RX1 34 yJ6_bitCount_0f7a4 ∈ wAll := wIn2 93 rfl rfl
theorem wT_yJ6_bitCount_0f7a4 : Cond.static yJ6_bitCount_0f7a4 ∈ wAll := wIn2 94 rfl rfl
theorem wC_yJ6_bitCount_0f7a4 : Cond.code yJ6_bitCount_0f7a4 cJ6_bitCount_0f7a4 1 (some .int) ∈ wAll := wIn2 95 rfl rfl
theorem wK_J6_265 : Cond.constant RJ6 265 (1431655765) ∈ wAll := wIn2 96 rfl rfl
theorem wK_J6_266 : Cond.constant RJ6 266 (858993459) ∈ wAll := wIn2 97 rfl rfl
theorem wK_J6_267 : Cond.constant RJ6 267 (252645135) ∈ wAll := wIn2 98 rfl rfl
theorem wM_X1_44 : Cond.methodLink RX1 44 yX0_canLend ∈ wAll := wIn2 99 rfl rfl
theorem wM_X1_48 : Cond.methodLink RX1 48 yX0_becomeLike ∈ wAll := wIn2 100 rfl rfl
theorem wI_yX0_becomeLike : Cond.instanceMethod yX0_becomeLike ∈ wAll := wIn2 101 rfl rfl
theorem wS_yX0_becomeLike : Cond.selects RX0 yX0_becomeLike yX0_becomeLike ∈ wAll := wIn2 102 rfl rfl
theorem wC_yX0_becomeLike : Cond.code yX0_becomeLike cX0_becomeLike 2 none ∈ wAll := wIn2 103 rfl rfl
theorem wM_X0_56 : Cond.methodLink RX0 56 arraycopyName ∈ wAll := wIn2 104 rfl rfl
theorem wT_arraycopyName : Cond.static arraycopyName ∈ wAll := wIn2 105 rfl rfl
theorem wV_arraycopyName : Cond.native arraycopyName ∈ wAll := wIn2 106 rfl rfl
theorem wM_X1_52 : Cond.methodLink RX1 52 yX0_lend ∈ wAll := wIn2 107 rfl rfl
theorem wM_X6_159 : Cond.methodLink RX6 159 yX1_loanAt ∈ wAll := wIn2 108 rfl rfl
theorem wI_yX1_loanAt : Cond.instanceMethod yX1_loanAt ∈ wAll := wIn2 109 rfl rfl
theorem wS_yX1_loanAt : Cond.selects RX1 yX1_loanAt yX1_loanAt ∈ wAll := wIn2 110 rfl rfl
theorem wC_yX1_loanAt : Cond.code yX1_loanAt cX1_loanAt 2 (some .int) ∈ wAll := wIn2 111 rfl rfl
theorem wM_L_40 : Cond.methodLink RL 40 yX6_match ∈ wAll := wIn2 112 rfl rfl
theorem wI_yX6_match : Cond.instanceMethod yX6_match ∈ wAll := wIn2 113 rfl rfl
theorem wS_yX6_match : Cond.selects RX6 yX6_match yX6_match ∈ wAll := wIn2 114 rfl rfl
theorem wC_yX6_match : Cond.code yX6_match cX6_match 2 (some .int) ∈ wAll := wIn2 115 rfl rfl
theorem wM_X6_162 : Cond.methodLink RX6 162 yX2_make ∈ wAll := wIn2 116 rfl rfl
theorem wI_yX2_make : Cond.instanceMethod yX2_make ∈ wAll := wIn2 117 rfl rfl
theorem wS_yX2_make : Cond.selects RX2 yX2_make yX2_make ∈ wAll := wIn2 118 rfl rfl
theorem wC_yX2_make : Cond.code yX2_make cX2_make 6 none ∈ wAll := wIn2 119 rfl rfl
theorem wM_X2_18 : Cond.methodLink RX2 18 yX2_mendedFrom ∈ wAll := wIn2 120 rfl rfl
theorem wI_yX2_mendedFrom : Cond.instanceMethod yX2_mendedFrom ∈ wAll := wIn2 122 rfl rfl
theorem wC_yX2_mendedFrom : Cond.code yX2_mendedFrom cX2_mendedFrom 6 (some .int) ∈ wAll := wIn2 123 rfl rfl
theorem wM_X2_31 : Cond.methodLink RX2 31 yJ6_bitCount_0f7a4 ∈ wAll := wIn2 124 rfl rfl
theorem wM_X2_43 : Cond.methodLink RX2 43 yX3_isMendedBy ∈ wAll := wIn2 125 rfl rfl
theorem wM_X2_22 : Cond.methodLink RX2 22 yJ9_max_7cf53 ∈ wAll := wIn2 126 rfl rfl
theorem wT_yJ9_max_7cf53 : Cond.static yJ9_max_7cf53 ∈ wAll := wIn2 127 rfl rfl
theorem wC_yJ9_max_7cf53 : Cond.code yJ9_max_7cf53 cJ9_max_7cf53 2 (some .int) ∈ wAll := wIn2 128 rfl rfl
theorem wM_X2_28 : Cond.methodLink RX2 28 yX2_firstBest ∈ wAll := wIn2 129 rfl rfl
theorem wI_yX2_firstBest : Cond.instanceMethod yX2_firstBest ∈ wAll := wIn2 131 rfl rfl
theorem wC_yX2_firstBest : Cond.code yX2_firstBest cX2_firstBest 5 (some .int) ∈ wAll := wIn2 132 rfl rfl
theorem wM_X6_165 : Cond.methodLink RX6 165 yX2_mostMended ∈ wAll := wIn2 133 rfl rfl
theorem wI_yX2_mostMended : Cond.instanceMethod yX2_mostMended ∈ wAll := wIn2 134 rfl rfl
theorem wS_yX2_mostMended : Cond.selects RX2 yX2_mostMended yX2_mostMended ∈ wAll := wIn2 135 rfl rfl
theorem wC_yX2_mostMended : Cond.code yX2_mostMended cX2_mostMended 1 (some .int) ∈ wAll := wIn2 136 rfl rfl
theorem wM_L_45 : Cond.methodLink RL 45 yX6_help ∈ wAll := wIn2 137 rfl rfl
theorem wI_yX6_help : Cond.instanceMethod yX6_help ∈ wAll := wIn2 138 rfl rfl
theorem wS_yX6_help : Cond.selects RX6 yX6_help yX6_help ∈ wAll := wIn2 139 rfl rfl
theorem wC_yX6_help : Cond.code yX6_help cX6_help 5 (some .int) ∈ wAll := wIn2 140 rfl rfl
theorem wM_X6_171 : Cond.methodLink RX6 171 yX3_wantedSet ∈ wAll := wIn2 141 rfl rfl
theorem wM_L_49 : Cond.methodLink RL 49 yX6_reading ∈ wAll := wIn2 142 rfl rfl
theorem wI_yX6_reading : Cond.instanceMethod yX6_reading ∈ wAll := wIn2 143 rfl rfl
theorem wS_yX6_reading : Cond.selects RX6 yX6_reading yX6_reading ∈ wAll := wIn2 144 rfl rfl
theorem wC_yX6_reading : Cond.code yX6_reading cX6_reading 4 (some .int) ∈ wAll := wIn2 145 rfl rfl
theorem wM_X6_174 : Cond.methodLink RX6 174 yX4_add ∈ wAll := wIn2 146 rfl rfl
theorem wI_yX4_add : Cond.instanceMethod yX4_add ∈ wAll := wIn2 147 rfl rfl
theorem wS_yX4_add : Cond.selects RX4 yX4_add yX4_add ∈ wAll := wIn2 148 rfl rfl
theorem wC_yX4_add : Cond.code yX4_add cX4_add 4 (some .boolean) ∈ wAll := wIn2 149 rfl rfl
theorem wM_L_54 : Cond.methodLink RL 54 yX6_back ∈ wAll := wIn2 150 rfl rfl
theorem wI_yX6_back : Cond.instanceMethod yX6_back ∈ wAll := wIn2 151 rfl rfl
theorem wS_yX6_back : Cond.selects RX6 yX6_back yX6_back ∈ wAll := wIn2 152 rfl rfl
theorem wC_yX6_back : Cond.code yX6_back cX6_back 2 (some .int) ∈ wAll := wIn2 153 rfl rfl
theorem wM_L_58 : Cond.methodLink RL 58 yX6_told ∈ wAll := wIn2 154 rfl rfl
theorem wI_yX6_told : Cond.instanceMethod yX6_told ∈ wAll := wIn2 155 rfl rfl
theorem wS_yX6_told : Cond.selects RX6 yX6_told yX6_told ∈ wAll := wIn2 156 rfl rfl
theorem wC_yX6_told : Cond.code yX6_told cX6_told 12 (some .int) ∈ wAll := wIn2 157 rfl rfl
theorem wM_X6_178 : Cond.methodLink RX6 178 yX6_refusalOfReadLoans ∈ wAll := wIn2 158 rfl rfl
theorem wI_yX6_refusalOfReadLoans : Cond.instanceMethod yX6_refusalOfReadLoans ∈ wAll := wIn2 160 rfl rfl
theorem wC_yX6_refusalOfReadLoans : Cond.code yX6_refusalOfReadLoans cX6_refusalOfReadLoans 7 (some .int) ∈ wAll := wIn2 161 rfl rfl
theorem wM_X6_182 : Cond.methodLink RX6 182 yX6_couldBe ∈ wAll := wIn2 162 rfl rfl
theorem wI_yX6_couldBe : Cond.instanceMethod yX6_couldBe ∈ wAll := wIn2 164 rfl rfl
theorem wC_yX6_couldBe : Cond.code yX6_couldBe cX6_couldBe 5 (some .boolean) ∈ wAll := wIn2 165 rfl rfl
theorem wM_X6_194 : Cond.methodLink RX6 194 yX0_place ∈ wAll := wIn2 166 rfl rfl
theorem wM_X6_198 : Cond.methodLink RX6 198 yX4_areSoIn ∈ wAll := wIn2 167 rfl rfl
theorem wI_yX4_areSoIn : Cond.instanceMethod yX4_areSoIn ∈ wAll := wIn2 168 rfl rfl
theorem wS_yX4_areSoIn : Cond.selects RX4 yX4_areSoIn yX4_areSoIn ∈ wAll := wIn2 169 rfl rfl
theorem wC_yX4_areSoIn : Cond.code yX4_areSoIn cX4_areSoIn 4 (some .boolean) ∈ wAll := wIn2 170 rfl rfl
theorem wM_L_63 : Cond.methodLink RL 63 yX6_kinds ∈ wAll := wIn2 171 rfl rfl
theorem wI_yX6_kinds : Cond.instanceMethod yX6_kinds ∈ wAll := wIn2 172 rfl rfl
theorem wS_yX6_kinds : Cond.selects RX6 yX6_kinds yX6_kinds ∈ wAll := wIn2 173 rfl rfl
theorem wC_yX6_kinds : Cond.code yX6_kinds cX6_kinds 10 (some .int) ∈ wAll := wIn2 174 rfl rfl
theorem wM_X6_186 : Cond.methodLink RX6 186 yX6_lastsOf ∈ wAll := wIn2 175 rfl rfl
theorem wM_L_67 : Cond.methodLink RL 67 yX6_wears ∈ wAll := wIn2 176 rfl rfl
theorem wI_yX6_wears : Cond.instanceMethod yX6_wears ∈ wAll := wIn2 177 rfl rfl
theorem wS_yX6_wears : Cond.selects RX6 yX6_wears yX6_wears ∈ wAll := wIn2 178 rfl rfl
theorem wC_yX6_wears : Cond.code yX6_wears cX6_wears 10 (some .int) ∈ wAll := wIn2 179 rfl rfl
theorem wM_L_71 : Cond.methodLink RL 71 yX6_odds ∈ wAll := wIn2 180 rfl rfl
theorem wI_yX6_odds : Cond.instanceMethod yX6_odds ∈ wAll := wIn2 181 rfl rfl
theorem wS_yX6_odds : Cond.selects RX6 yX6_odds yX6_odds ∈ wAll := wIn2 182 rfl rfl
theorem wC_yX6_odds : Cond.code yX6_odds cX6_odds 9 (some .long) ∈ wAll := wIn2 183 rfl rfl
theorem wL_X6_189 : Cond.constantLong RX6 189 (-9223372036854775808) ∈ wAll := wIn2 184 rfl rfl
theorem wM_X6_191 : Cond.methodLink RX6 191 yX0_childhoodsThatShowed ∈ wAll := wIn2 185 rfl rfl
theorem wI_yX0_childhoodsThatShowed : Cond.instanceMethod yX0_childhoodsThatShowed ∈ wAll := wIn2 186 rfl rfl
theorem wS_yX0_childhoodsThatShowed : Cond.selects RX0 yX0_childhoodsThatShowed yX0_childhoodsThatShowed ∈ wAll := wIn2 187 rfl rfl
theorem wC_yX0_childhoodsThatShowed : Cond.code yX0_childhoodsThatShowed cX0_childhoodsThatShowed 5 (some .int) ∈ wAll := wIn2 188 rfl rfl
theorem wM_L_76 : Cond.methodLink RL 76 yX6_sheet ∈ wAll := wIn2 189 rfl rfl
theorem wI_yX6_sheet : Cond.instanceMethod yX6_sheet ∈ wAll := wIn2 190 rfl rfl
theorem wS_yX6_sheet : Cond.selects RX6 yX6_sheet yX6_sheet ∈ wAll := wIn2 191 rfl rfl
theorem wC_yX6_sheet : Cond.code yX6_sheet cX6_sheet 4 (some .int) ∈ wAll := wIn2 192 rfl rfl
theorem wM_X6_202 : Cond.methodLink RX6 202 yX5_renew ∈ wAll := wIn2 193 rfl rfl
theorem wI_yX5_renew : Cond.instanceMethod yX5_renew ∈ wAll := wIn2 194 rfl rfl
theorem wS_yX5_renew : Cond.selects RX5 yX5_renew yX5_renew ∈ wAll := wIn2 195 rfl rfl
theorem wC_yX5_renew : Cond.code yX5_renew cX5_renew 4 none ∈ wAll := wIn2 196 rfl rfl
theorem wM_L_81 : Cond.methodLink RL 81 yX6_lose ∈ wAll := wIn2 197 rfl rfl
theorem wI_yX6_lose : Cond.instanceMethod yX6_lose ∈ wAll := wIn2 198 rfl rfl
theorem wS_yX6_lose : Cond.selects RX6 yX6_lose yX6_lose ∈ wAll := wIn2 199 rfl rfl
theorem wC_yX6_lose : Cond.code yX6_lose cX6_lose 3 (some .int) ∈ wAll := wIn2 200 rfl rfl
theorem wM_L_85 : Cond.methodLink RL 85 yX6_put ∈ wAll := wIn2 201 rfl rfl
theorem wI_yX6_put : Cond.instanceMethod yX6_put ∈ wAll := wIn2 202 rfl rfl
theorem wS_yX6_put : Cond.selects RX6 yX6_put yX6_put ∈ wAll := wIn2 203 rfl rfl
theorem wC_yX6_put : Cond.code yX6_put cX6_put 6 (some .int) ∈ wAll := wIn2 204 rfl rfl
theorem wM_X6_216 : Cond.methodLink RX6 216 yX6_cutToLane ∈ wAll := wIn2 205 rfl rfl
theorem wT_yX6_cutToLane : Cond.static yX6_cutToLane ∈ wAll := wIn2 206 rfl rfl
theorem wC_yX6_cutToLane : Cond.code yX6_cutToLane cX6_cutToLane 2 (some .int) ∈ wAll := wIn2 207 rfl rfl
theorem wM_L_89 : Cond.methodLink RL 89 yX6_cell ∈ wAll := wIn2 208 rfl rfl
theorem wI_yX6_cell : Cond.instanceMethod yX6_cell ∈ wAll := wIn2 209 rfl rfl
theorem wS_yX6_cell : Cond.selects RX6 yX6_cell yX6_cell ∈ wAll := wIn2 210 rfl rfl
theorem wC_yX6_cell : Cond.code yX6_cell cX6_cell 4 (some .long) ∈ wAll := wIn2 211 rfl rfl
theorem wM_L_94 : Cond.methodLink RL 94 yX6_copy ∈ wAll := wIn2 212 rfl rfl
theorem wI_yX6_copy : Cond.instanceMethod yX6_copy ∈ wAll := wIn2 213 rfl rfl
theorem wS_yX6_copy : Cond.selects RX6 yX6_copy yX6_copy ∈ wAll := wIn2 214 rfl rfl
theorem wC_yX6_copy : Cond.code yX6_copy cX6_copy 8 (some .int) ∈ wAll := wIn2 215 rfl rfl
theorem wM_X6_219 : Cond.methodLink RX6 219 yX5_hasCells ∈ wAll := wIn2 216 rfl rfl
theorem wM_X6_223 : Cond.methodLink RX6 223 arraycopyName ∈ wAll := wIn2 217 rfl rfl
theorem wM_L_98 : Cond.methodLink RL 98 yX6_tell ∈ wAll := wIn2 218 rfl rfl
theorem wI_yX6_tell : Cond.instanceMethod yX6_tell ∈ wAll := wIn2 219 rfl rfl
theorem wS_yX6_tell : Cond.selects RX6 yX6_tell yX6_tell ∈ wAll := wIn2 220 rfl rfl
theorem wC_yX6_tell : Cond.code yX6_tell cX6_tell 2 (some .int) ∈ wAll := wIn2 221 rfl rfl
theorem wM_X6_229 : Cond.methodLink RX6 229 yX6_tellingOfTwin ∈ wAll := wIn2 222 rfl rfl
theorem wI_yX6_tellingOfTwin : Cond.instanceMethod yX6_tellingOfTwin ∈ wAll := wIn2 224 rfl rfl
theorem wC_yX6_tellingOfTwin : Cond.code yX6_tellingOfTwin cX6_tellingOfTwin 3 (some .int) ∈ wAll := wIn2 225 rfl rfl
theorem wM_X6_239 : Cond.methodLink RX6 239 yX6_leaveInTrace ∈ wAll := wIn2 226 rfl rfl
theorem wI_yX6_leaveInTrace : Cond.instanceMethod yX6_leaveInTrace ∈ wAll := wIn2 228 rfl rfl
theorem wC_yX6_leaveInTrace : Cond.code yX6_leaveInTrace cX6_leaveInTrace 2 none ∈ wAll := wIn2 229 rfl rfl
theorem wM_X6_233 : Cond.methodLink RX6 233 yX6_tellingOfSad ∈ wAll := wIn2 230 rfl rfl
theorem wI_yX6_tellingOfSad : Cond.instanceMethod yX6_tellingOfSad ∈ wAll := wIn2 232 rfl rfl
theorem wC_yX6_tellingOfSad : Cond.code yX6_tellingOfSad cX6_tellingOfSad 2 (some .int) ∈ wAll := wIn2 233 rfl rfl
theorem wM_X6_236 : Cond.methodLink RX6 236 yX6_tellingOfChildhood ∈ wAll := wIn2 234 rfl rfl
theorem wI_yX6_tellingOfChildhood : Cond.instanceMethod yX6_tellingOfChildhood ∈ wAll := wIn2 236 rfl rfl
theorem wC_yX6_tellingOfChildhood : Cond.code yX6_tellingOfChildhood cX6_tellingOfChildhood 2 (some .int) ∈ wAll := wIn2 237 rfl rfl
theorem wM_L_102 : Cond.methodLink RL 102 yX6_hand ∈ wAll := wIn2 238 rfl rfl
theorem wI_yX6_hand : Cond.instanceMethod yX6_hand ∈ wAll := wIn2 239 rfl rfl
theorem wS_yX6_hand : Cond.selects RX6 yX6_hand yX6_hand ∈ wAll := wIn3 0 rfl rfl
theorem wC_yX6_hand : Cond.code yX6_hand cX6_hand 2 (some .int) ∈ wAll := wIn3 1 rfl rfl
theorem wM_L_106 : Cond.methodLink RL 106 yX6_as ∈ wAll := wIn3 2 rfl rfl
theorem wI_yX6_as : Cond.instanceMethod yX6_as ∈ wAll := wIn3 3 rfl rfl
theorem wS_yX6_as : Cond.selects RX6 yX6_as yX6_as ∈ wAll := wIn3 4 rfl rfl
theorem wC_yX6_as : Cond.code yX6_as cX6_as 3 (some .int) ∈ wAll := wIn3 5 rfl rfl
theorem wM_L_110 : Cond.methodLink RL 110 yX6_trace ∈ wAll := wIn3 6 rfl rfl
theorem wI_yX6_trace : Cond.instanceMethod yX6_trace ∈ wAll := wIn3 7 rfl rfl
theorem wS_yX6_trace : Cond.selects RX6 yX6_trace yX6_trace ∈ wAll := wIn3 8 rfl rfl
theorem wC_yX6_trace : Cond.code yX6_trace cX6_trace 1 (some .int) ∈ wAll := wIn3 9 rfl rfl
theorem wM_L_115 : Cond.methodLink RL 115 yX6_fault ∈ wAll := wIn3 10 rfl rfl
theorem wI_yX6_fault : Cond.instanceMethod yX6_fault ∈ wAll := wIn3 11 rfl rfl
theorem wS_yX6_fault : Cond.selects RX6 yX6_fault yX6_fault ∈ wAll := wIn3 12 rfl rfl
theorem wC_yX6_fault : Cond.code yX6_fault cX6_fault 1 (some .int) ∈ wAll := wIn3 13 rfl rfl
theorem wM_L_119 : Cond.methodLink RL 119 yX6_many ∈ wAll := wIn3 14 rfl rfl
theorem wI_yX6_many : Cond.instanceMethod yX6_many ∈ wAll := wIn3 15 rfl rfl
theorem wS_yX6_many : Cond.selects RX6 yX6_many yX6_many ∈ wAll := wIn3 16 rfl rfl
theorem wC_yX6_many : Cond.code yX6_many cX6_many 2 (some .int) ∈ wAll := wIn3 17 rfl rfl
theorem wD_L_10 : Cond.classLink RL 10 RX7 ∈ wAll := wIn3 18 rfl rfl
theorem wX_X7 : Cond.instantiable RX7 30 ∈ wAll := wIn3 19 rfl rfl
theorem wM_L_12 : Cond.methodLink RL 12 yX7_init ∈ wAll := wIn3 20 rfl rfl
theorem wI_yX7_init : Cond.instanceMethod yX7_init ∈ wAll := wIn3 21 rfl rfl
theorem wC_yX7_init : Cond.code yX7_init cX7_init 2 none ∈ wAll := wIn3 22 rfl rfl
theorem wM_X7_1 : Cond.methodLink RX7 1 objectInit ∈ wAll := wIn3 23 rfl rfl
theorem wF_X7_79 : Cond.fieldLink RX7 79 "LentYouthsModel" "fault" "I" ∈ wAll := wIn3 24 rfl rfl
theorem wF_X7_87 : Cond.fieldLink RX7 87 "LentYouthsModel" "people" "I" ∈ wAll := wIn3 25 rfl rfl
theorem wF_X7_7 : Cond.fieldLink RX7 7 "LentYouthsModel" "kindOf" "[I" ∈ wAll := wIn3 26 rfl rfl
theorem wF_X7_13 : Cond.fieldLink RX7 13 "LentYouthsModel" "scenesOf" "[I" ∈ wAll := wIn3 27 rfl rfl
theorem wF_X7_16 : Cond.fieldLink RX7 16 "LentYouthsModel" "wantsOf" "[I" ∈ wAll := wIn3 28 rfl rfl
theorem wF_X7_19 : Cond.fieldLink RX7 19 "LentYouthsModel" "wearOf" "[I" ∈ wAll := wIn3 29 rfl rfl
theorem wF_X7_94 : Cond.fieldLink RX7 94 "LentYouthsModel" "readAt" "I" ∈ wAll := wIn3 30 rfl rfl
theorem wF_X7_101 : Cond.fieldLink RX7 101 "LentYouthsModel" "readPeople" "I" ∈ wAll := wIn3 31 rfl rfl
theorem wF_X7_22 : Cond.fieldLink RX7 22 "LentYouthsModel" "readKind" "[I" ∈ wAll := wIn3 32 rfl rfl
theorem wF_X7_25 : Cond.fieldLink RX7 25 "LentYouthsModel" "readScenes" "[I" ∈ wAll := wIn3 33 rfl rfl
theorem wF_X7_28 : Cond.fieldLink RX7 28 "LentYouthsModel" "readWants" "[I" ∈ wAll := wIn3 34 rfl rfl
theorem wF_X7_31 : Cond.fieldLink RX7 31 "LentYouthsModel" "readWear" "[I" ∈ wAll := wIn3 35 rfl rfl
theorem wF_X7_34 : Cond.fieldLink RX7 34 "LentYouthsModel" "hasNow" "[I" ∈ wAll := wIn3 36 rfl rfl
theorem wF_X7_37 : Cond.fieldLink RX7 37 "LentYouthsModel" "leftIn" "[I" ∈ wAll := wIn3 37 rfl rfl
theorem wF_X7_40 : Cond.fieldLink RX7 40 "LentYouthsModel" "lentOf" "[I" ∈ wAll := wIn3 38 rfl rfl
theorem wF_X7_43 : Cond.fieldLink RX7 43 "LentYouthsModel" "knowsNow" "[I" ∈ wAll := wIn3 39 rfl rfl
theorem wF_X7_46 : Cond.fieldLink RX7 46 "LentYouthsModel" "cameBy" "[I" ∈ wAll := wIn3 40 rfl rfl
theorem wF_X7_159 : Cond.fieldLink RX7 159 "LentYouthsModel" "firstWrong" "I" ∈ wAll := wIn3 41 rfl rfl
theorem wF_X7_162 : Cond.fieldLink RX7 162 "LentYouthsModel" "firstAll" "I" ∈ wAll := wIn3 42 rfl rfl
theorem wF_X7_49 : Cond.fieldLink RX7 49 "LentYouthsModel" "triedOf" "[I" ∈ wAll := wIn3 43 rfl rfl
theorem wF_X7_52 : Cond.fieldLink RX7 52 "LentYouthsModel" "getsOf" "[I" ∈ wAll := wIn3 44 rfl rfl
theorem wF_X7_136 : Cond.fieldLink RX7 136 "LentYouthsModel" "readings" "I" ∈ wAll := wIn3 45 rfl rfl
theorem wF_X7_55 : Cond.fieldLink RX7 55 "LentYouthsModel" "readingOf" "[I" ∈ wAll := wIn3 46 rfl rfl
theorem wF_X7_58 : Cond.fieldLink RX7 58 "LentYouthsModel" "readingScene" "[I" ∈ wAll := wIn3 47 rfl rfl
theorem wF_X7_61 : Cond.fieldLink RX7 61 "LentYouthsModel" "readingKnew" "[Z" ∈ wAll := wIn3 48 rfl rfl
theorem wF_X7_65 : Cond.fieldLink RX7 65 "LentYouthsModel" "sheetSize" "[I" ∈ wAll := wIn3 49 rfl rfl
theorem wF_X7_68 : Cond.fieldLink RX7 68 "LentYouthsModel" "sheetLane" "[I" ∈ wAll := wIn3 50 rfl rfl
theorem wF_X7_71 : Cond.fieldLink RX7 71 "LentYouthsModel" "sheet" "[I" ∈ wAll := wIn3 51 rfl rfl
theorem wF_X7_74 : Cond.fieldLink RX7 74 "LentYouthsModel" "hands" "[I" ∈ wAll := wIn3 52 rfl rfl
theorem wF_X7_233 : Cond.fieldLink RX7 233 "LentYouthsModel" "traceNow" "I" ∈ wAll := wIn3 53 rfl rfl
theorem wY_X7_fault : Cond.lays RX7 "LentYouthsModel" "fault" "I" ∈ wAll := wIn3 54 rfl rfl
theorem wY_X7_people : Cond.lays RX7 "LentYouthsModel" "people" "I" ∈ wAll := wIn3 56 rfl rfl
theorem wY_X7_kindOf : Cond.laysFinal RX7 "LentYouthsModel" "kindOf" "[I" ∈ wAll := wIn3 58 rfl rfl
theorem wY_X7_scenesOf : Cond.laysFinal RX7 "LentYouthsModel" "scenesOf" "[I" ∈ wAll := wIn3 60 rfl rfl
theorem wY_X7_wantsOf : Cond.laysFinal RX7 "LentYouthsModel" "wantsOf" "[I" ∈ wAll := wIn3 62 rfl rfl
theorem wY_X7_wearOf : Cond.laysFinal RX7 "LentYouthsModel" "wearOf" "[I" ∈ wAll := wIn3 64 rfl rfl
theorem wY_X7_readAt : Cond.lays RX7 "LentYouthsModel" "readAt" "I" ∈ wAll := wIn3 66 rfl rfl
theorem wY_X7_readPeople : Cond.lays RX7 "LentYouthsModel" "readPeople" "I" ∈ wAll := wIn3 68 rfl rfl
theorem wY_X7_readKind : Cond.laysFinal RX7 "LentYouthsModel" "readKind" "[I" ∈ wAll := wIn3 70 rfl rfl
theorem wY_X7_readScenes : Cond.laysFinal RX7 "LentYouthsModel" "readScenes" "[I" ∈ wAll := wIn3 72 rfl rfl
theorem wY_X7_readWants : Cond.laysFinal RX7 "LentYouthsModel" "readWants" "[I" ∈ wAll := wIn3 74 rfl rfl
theorem wY_X7_readWear : Cond.laysFinal RX7 "LentYouthsModel" "readWear" "[I" ∈ wAll := wIn3 76 rfl rfl
theorem wY_X7_hasNow : Cond.laysFinal RX7 "LentYouthsModel" "hasNow" "[I" ∈ wAll := wIn3 78 rfl rfl
theorem wY_X7_leftIn : Cond.laysFinal RX7 "LentYouthsModel" "leftIn" "[I" ∈ wAll := wIn3 80 rfl rfl
theorem wY_X7_lentOf : Cond.laysFinal RX7 "LentYouthsModel" "lentOf" "[I" ∈ wAll := wIn3 82 rfl rfl
theorem wY_X7_knowsNow : Cond.laysFinal RX7 "LentYouthsModel" "knowsNow" "[I" ∈ wAll := wIn3 84 rfl rfl
theorem wY_X7_cameBy : Cond.laysFinal RX7 "LentYouthsModel" "cameBy" "[I" ∈ wAll := wIn3 86 rfl rfl
theorem wY_X7_firstWrong : Cond.lays RX7 "LentYouthsModel" "firstWrong" "I" ∈ wAll := wIn3 88 rfl rfl
theorem wY_X7_firstAll : Cond.lays RX7 "LentYouthsModel" "firstAll" "I" ∈ wAll := wIn3 90 rfl rfl
theorem wY_X7_triedOf : Cond.laysFinal RX7 "LentYouthsModel" "triedOf" "[I" ∈ wAll := wIn3 92 rfl rfl
theorem wY_X7_getsOf : Cond.laysFinal RX7 "LentYouthsModel" "getsOf" "[I" ∈ wAll := wIn3 94 rfl rfl
theorem wY_X7_readings : Cond.lays RX7 "LentYouthsModel" "readings" "I" ∈ wAll := wIn3 96 rfl rfl
theorem wY_X7_readingOf : Cond.laysFinal RX7 "LentYouthsModel" "readingOf" "[I" ∈ wAll := wIn3 98 rfl rfl
theorem wY_X7_readingScene : Cond.laysFinal RX7 "LentYouthsModel" "readingScene" "[I" ∈ wAll := wIn3 100 rfl rfl
theorem wY_X7_readingKnew : Cond.laysFinal RX7 "LentYouthsModel" "readingKnew" "[Z" ∈ wAll := wIn3 102 rfl rfl
theorem wY_X7_sheetSize : Cond.laysFinal RX7 "LentYouthsModel" "sheetSize" "[I" ∈ wAll := wIn3 104 rfl rfl
theorem wY_X7_sheetLane : Cond.laysFinal RX7 "LentYouthsModel" "sheetLane" "[I" ∈ wAll := wIn3 106 rfl rfl
theorem wY_X7_sheet : Cond.laysFinal RX7 "LentYouthsModel" "sheet" "[I" ∈ wAll := wIn3 108 rfl rfl
theorem wY_X7_hands : Cond.laysFinal RX7 "LentYouthsModel" "hands" "[I" ∈ wAll := wIn3 110 rfl rfl
theorem wY_X7_traceNow : Cond.lays RX7 "LentYouthsModel" "traceNow" "I" ∈ wAll := wIn3 112 rfl rfl
theorem wM_L_17 : Cond.methodLink RL 17 yX7_counter ∈ wAll := wIn3 115 rfl rfl
theorem wI_yX7_counter : Cond.instanceMethod yX7_counter ∈ wAll := wIn3 116 rfl rfl
theorem wS_yX7_counter : Cond.selects RX7 yX7_counter yX7_counter ∈ wAll := wIn3 117 rfl rfl
theorem wC_yX7_counter : Cond.code yX7_counter cX7_counter 7 (some .int) ∈ wAll := wIn3 118 rfl rfl
theorem wM_X7_120 : Cond.methodLink RX7 120 yX7_noSheet ∈ wAll := wIn3 119 rfl rfl
theorem wT_yX7_noSheet : Cond.static yX7_noSheet ∈ wAll := wIn3 120 rfl rfl
theorem wC_yX7_noSheet : Cond.code yX7_noSheet cX7_noSheet 1 (some .boolean) ∈ wAll := wIn3 121 rfl rfl
theorem wL_X7_185 : Cond.constantLong RX7 185 (3) ∈ wAll := wIn3 122 rfl rfl
theorem wM_X7_90 : Cond.methodLink RX7 90 yX7_in ∈ wAll := wIn3 123 rfl rfl
theorem wT_yX7_in : Cond.static yX7_in ∈ wAll := wIn3 124 rfl rfl
theorem wC_yX7_in : Cond.code yX7_in cX7_in 6 (some .boolean) ∈ wAll := wIn3 125 rfl rfl
theorem wM_X7_124 : Cond.methodLink RX7 124 yX7_refused ∈ wAll := wIn3 126 rfl rfl
theorem wI_yX7_refused : Cond.instanceMethod yX7_refused ∈ wAll := wIn3 128 rfl rfl
theorem wC_yX7_refused : Cond.code yX7_refused cX7_refused 2 (some .int) ∈ wAll := wIn3 129 rfl rfl
theorem wL_X7_127 : Cond.constantLong RX7 127 (2) ∈ wAll := wIn3 130 rfl rfl
theorem wM_X7_129 : Cond.methodLink RX7 129 yX7_cellsBarred ∈ wAll := wIn3 131 rfl rfl
theorem wI_yX7_cellsBarred : Cond.instanceMethod yX7_cellsBarred ∈ wAll := wIn3 133 rfl rfl
theorem wC_yX7_cellsBarred : Cond.code yX7_cellsBarred cX7_cellsBarred 6 (some .int) ∈ wAll := wIn3 134 rfl rfl
theorem wM_X7_112 : Cond.methodLink RX7 112 yX7_failed ∈ wAll := wIn3 135 rfl rfl
theorem wI_yX7_failed : Cond.instanceMethod yX7_failed ∈ wAll := wIn3 137 rfl rfl
theorem wC_yX7_failed : Cond.code yX7_failed cX7_failed 2 (some .int) ∈ wAll := wIn3 138 rfl rfl
theorem wM_X7_116 : Cond.methodLink RX7 116 yX7_isBeyond ∈ wAll := wIn3 139 rfl rfl
theorem wT_yX7_isBeyond : Cond.static yX7_isBeyond ∈ wAll := wIn3 140 rfl rfl
theorem wC_yX7_isBeyond : Cond.code yX7_isBeyond cX7_isBeyond 4 (some .boolean) ∈ wAll := wIn3 141 rfl rfl
theorem wM_X7_133 : Cond.methodLink RX7 133 yX7_readsCounter ∈ wAll := wIn3 142 rfl rfl
theorem wI_yX7_readsCounter : Cond.instanceMethod yX7_readsCounter ∈ wAll := wIn3 144 rfl rfl
theorem wC_yX7_readsCounter : Cond.code yX7_readsCounter cX7_readsCounter 4 (some .boolean) ∈ wAll := wIn3 145 rfl rfl
theorem wM_X7_97 : Cond.methodLink RX7 97 yX7_codeAt ∈ wAll := wIn3 146 rfl rfl
theorem wI_yX7_codeAt : Cond.instanceMethod yX7_codeAt ∈ wAll := wIn3 148 rfl rfl
theorem wC_yX7_codeAt : Cond.code yX7_codeAt cX7_codeAt 3 (some .int) ∈ wAll := wIn3 149 rfl rfl
theorem wM_X7_108 : Cond.methodLink RX7 108 yX7_readsPerson ∈ wAll := wIn3 150 rfl rfl
theorem wI_yX7_readsPerson : Cond.instanceMethod yX7_readsPerson ∈ wAll := wIn3 152 rfl rfl
theorem wC_yX7_readsPerson : Cond.code yX7_readsPerson cX7_readsPerson 8 (some .boolean) ∈ wAll := wIn3 153 rfl rfl
theorem wM_X7_104 : Cond.methodLink RX7 104 yX7_figure ∈ wAll := wIn3 154 rfl rfl
theorem wI_yX7_figure : Cond.instanceMethod yX7_figure ∈ wAll := wIn3 156 rfl rfl
theorem wC_yX7_figure : Cond.code yX7_figure cX7_figure 7 (some .int) ∈ wAll := wIn3 157 rfl rfl
theorem wM_L_22 : Cond.methodLink RL 22 yX7_ofPerson ∈ wAll := wIn3 158 rfl rfl
theorem wI_yX7_ofPerson : Cond.instanceMethod yX7_ofPerson ∈ wAll := wIn3 159 rfl rfl
theorem wS_yX7_ofPerson : Cond.selects RX7 yX7_ofPerson yX7_ofPerson ∈ wAll := wIn3 160 rfl rfl
theorem wC_yX7_ofPerson : Cond.code yX7_ofPerson cX7_ofPerson 3 (some .int) ∈ wAll := wIn3 161 rfl rfl
theorem wM_X7_139 : Cond.methodLink RX7 139 yX7_noPerson ∈ wAll := wIn3 162 rfl rfl
theorem wI_yX7_noPerson : Cond.instanceMethod yX7_noPerson ∈ wAll := wIn3 164 rfl rfl
theorem wC_yX7_noPerson : Cond.code yX7_noPerson cX7_noPerson 2 (some .boolean) ∈ wAll := wIn3 165 rfl rfl
theorem wM_X7_142 : Cond.methodLink RX7 142 yX7_lastsOf ∈ wAll := wIn3 166 rfl rfl
theorem wI_yX7_lastsOf : Cond.instanceMethod yX7_lastsOf ∈ wAll := wIn3 168 rfl rfl
theorem wC_yX7_lastsOf : Cond.code yX7_lastsOf cX7_lastsOf 3 (some .int) ∈ wAll := wIn3 169 rfl rfl
theorem wM_L_26 : Cond.methodLink RL 26 yX7_live ∈ wAll := wIn3 170 rfl rfl
theorem wI_yX7_live : Cond.instanceMethod yX7_live ∈ wAll := wIn3 171 rfl rfl
theorem wS_yX7_live : Cond.selects RX7 yX7_live yX7_live ∈ wAll := wIn3 172 rfl rfl
theorem wC_yX7_live : Cond.code yX7_live cX7_live 4 (some .int) ∈ wAll := wIn3 173 rfl rfl
theorem wL_X7_145 : Cond.constantLong RX7 145 (63) ∈ wAll := wIn3 174 rfl rfl
theorem wM_L_30 : Cond.methodLink RL 30 yX7_want ∈ wAll := wIn3 175 rfl rfl
theorem wI_yX7_want : Cond.instanceMethod yX7_want ∈ wAll := wIn3 176 rfl rfl
theorem wS_yX7_want : Cond.selects RX7 yX7_want yX7_want ∈ wAll := wIn3 177 rfl rfl
theorem wC_yX7_want : Cond.code yX7_want cX7_want 4 (some .int) ∈ wAll := wIn3 178 rfl rfl
theorem wL_X7_147 : Cond.constantLong RX7 147 (6) ∈ wAll := wIn3 179 rfl rfl
theorem wM_L_35 : Cond.methodLink RL 35 yX7_loans ∈ wAll := wIn3 180 rfl rfl
theorem wI_yX7_loans : Cond.instanceMethod yX7_loans ∈ wAll := wIn3 181 rfl rfl
theorem wS_yX7_loans : Cond.selects RX7 yX7_loans yX7_loans ∈ wAll := wIn3 182 rfl rfl
theorem wC_yX7_loans : Cond.code yX7_loans cX7_loans 9 (some .int) ∈ wAll := wIn3 183 rfl rfl
theorem wL_X7_187 : Cond.constantLong RX7 187 (10) ∈ wAll := wIn3 184 rfl rfl
theorem wL_X7_189 : Cond.constantLong RX7 189 (15) ∈ wAll := wIn3 185 rfl rfl
theorem wL_X7_191 : Cond.constantLong RX7 191 (20) ∈ wAll := wIn3 186 rfl rfl
theorem wL_X7_193 : Cond.constantLong RX7 193 (25) ∈ wAll := wIn3 187 rfl rfl
theorem wL_X7_195 : Cond.constantLong RX7 195 (30) ∈ wAll := wIn3 188 rfl rfl
theorem wL_X7_197 : Cond.constantLong RX7 197 (35) ∈ wAll := wIn3 189 rfl rfl
theorem wM_X7_199 : Cond.methodLink RX7 199 yX7_pairsBarred ∈ wAll := wIn3 190 rfl rfl
theorem wI_yX7_pairsBarred : Cond.instanceMethod yX7_pairsBarred ∈ wAll := wIn3 192 rfl rfl
theorem wC_yX7_pairsBarred : Cond.code yX7_pairsBarred cX7_pairsBarred 7 (some .int) ∈ wAll := wIn3 193 rfl rfl
theorem wM_X7_202 : Cond.methodLink RX7 202 yX7_goLoans ∈ wAll := wIn3 194 rfl rfl
theorem wI_yX7_goLoans : Cond.instanceMethod yX7_goLoans ∈ wAll := wIn3 196 rfl rfl
theorem wC_yX7_goLoans : Cond.code yX7_goLoans cX7_goLoans 7 none ∈ wAll := wIn3 197 rfl rfl
theorem wM_X7_168 : Cond.methodLink RX7 168 yX7_begin ∈ wAll := wIn3 198 rfl rfl
theorem wI_yX7_begin : Cond.instanceMethod yX7_begin ∈ wAll := wIn3 200 rfl rfl
theorem wC_yX7_begin : Cond.code yX7_begin cX7_begin 2 none ∈ wAll := wIn3 201 rfl rfl
theorem wM_X7_155 : Cond.methodLink RX7 155 yX7_sees ∈ wAll := wIn3 202 rfl rfl
theorem wI_yX7_sees : Cond.instanceMethod yX7_sees ∈ wAll := wIn3 204 rfl rfl
theorem wC_yX7_sees : Cond.code yX7_sees cX7_sees 3 none ∈ wAll := wIn3 205 rfl rfl
theorem wM_X7_149 : Cond.methodLink RX7 149 yX7_isIn ∈ wAll := wIn3 206 rfl rfl
theorem wT_yX7_isIn : Cond.static yX7_isIn ∈ wAll := wIn3 207 rfl rfl
theorem wC_yX7_isIn : Cond.code yX7_isIn cX7_isIn 2 (some .boolean) ∈ wAll := wIn3 208 rfl rfl
theorem wM_X7_171 : Cond.methodLink RX7 171 yX7_mendedNow ∈ wAll := wIn3 209 rfl rfl
theorem wI_yX7_mendedNow : Cond.instanceMethod yX7_mendedNow ∈ wAll := wIn3 211 rfl rfl
theorem wC_yX7_mendedNow : Cond.code yX7_mendedNow cX7_mendedNow 3 (some .int) ∈ wAll := wIn3 212 rfl rfl
theorem wM_X7_152 : Cond.methodLink RX7 152 yX7_isMended ∈ wAll := wIn3 213 rfl rfl
theorem wI_yX7_isMended : Cond.instanceMethod yX7_isMended ∈ wAll := wIn3 215 rfl rfl
theorem wC_yX7_isMended : Cond.code yX7_isMended cX7_isMended 2 (some .boolean) ∈ wAll := wIn3 216 rfl rfl
theorem wM_X7_175 : Cond.methodLink RX7 175 yX7_everybody ∈ wAll := wIn3 217 rfl rfl
theorem wI_yX7_everybody : Cond.instanceMethod yX7_everybody ∈ wAll := wIn3 219 rfl rfl
theorem wC_yX7_everybody : Cond.code yX7_everybody cX7_everybody 1 (some .int) ∈ wAll := wIn3 220 rfl rfl
theorem wM_X7_178 : Cond.methodLink RX7 178 yX7_canLend ∈ wAll := wIn3 221 rfl rfl
theorem wI_yX7_canLend : Cond.instanceMethod yX7_canLend ∈ wAll := wIn3 223 rfl rfl
theorem wC_yX7_canLend : Cond.code yX7_canLend cX7_canLend 3 (some .boolean) ∈ wAll := wIn3 224 rfl rfl
theorem wM_X7_181 : Cond.methodLink RX7 181 yX7_lend ∈ wAll := wIn3 225 rfl rfl
theorem wI_yX7_lend : Cond.instanceMethod yX7_lend ∈ wAll := wIn3 227 rfl rfl
theorem wC_yX7_lend : Cond.code yX7_lend cX7_lend 4 none ∈ wAll := wIn3 228 rfl rfl
theorem wM_X7_165 : Cond.methodLink RX7 165 yX7_wearsOff ∈ wAll := wIn3 229 rfl rfl
theorem wI_yX7_wearsOff : Cond.instanceMethod yX7_wearsOff ∈ wAll := wIn3 231 rfl rfl
theorem wC_yX7_wearsOff : Cond.code yX7_wearsOff cX7_wearsOff 2 none ∈ wAll := wIn3 232 rfl rfl
theorem wM_X7_205 : Cond.methodLink RX7 205 yX7_homeBy ∈ wAll := wIn3 233 rfl rfl
theorem wI_yX7_homeBy : Cond.instanceMethod yX7_homeBy ∈ wAll := wIn3 235 rfl rfl
theorem wC_yX7_homeBy : Cond.code yX7_homeBy cX7_homeBy 5 (some .int) ∈ wAll := wIn3 236 rfl rfl
theorem wM_L_39 : Cond.methodLink RL 39 yX7_fewest ∈ wAll := wIn3 237 rfl rfl
theorem wI_yX7_fewest : Cond.instanceMethod yX7_fewest ∈ wAll := wIn3 238 rfl rfl
theorem wS_yX7_fewest : Cond.selects RX7 yX7_fewest yX7_fewest ∈ wAll := wIn3 239 rfl rfl
theorem wC_yX7_fewest : Cond.code yX7_fewest cX7_fewest 6 (some .int) ∈ wAll := wIn4 0 rfl rfl
theorem wL_X7_208 : Cond.constantLong RX7 208 (-1) ∈ wAll := wIn4 1 rfl rfl
theorem wM_X7_210 : Cond.methodLink RX7 210 yX7_isRow ∈ wAll := wIn4 2 rfl rfl
theorem wI_yX7_isRow : Cond.instanceMethod yX7_isRow ∈ wAll := wIn4 4 rfl rfl
theorem wC_yX7_isRow : Cond.code yX7_isRow cX7_isRow 9 (some .boolean) ∈ wAll := wIn4 5 rfl rfl
theorem wM_L_44 : Cond.methodLink RL 44 yX7_match ∈ wAll := wIn4 6 rfl rfl
theorem wI_yX7_match : Cond.instanceMethod yX7_match ∈ wAll := wIn4 7 rfl rfl
theorem wS_yX7_match : Cond.selects RX7 yX7_match yX7_match ∈ wAll := wIn4 8 rfl rfl
theorem wC_yX7_match : Cond.code yX7_match cX7_match 7 (some .int) ∈ wAll := wIn4 9 rfl rfl
theorem wM_X7_214 : Cond.methodLink RX7 214 yX7_matchBy ∈ wAll := wIn4 10 rfl rfl
theorem wI_yX7_matchBy : Cond.instanceMethod yX7_matchBy ∈ wAll := wIn4 12 rfl rfl
theorem wC_yX7_matchBy : Cond.code yX7_matchBy cX7_matchBy 8 (some .int) ∈ wAll := wIn4 13 rfl rfl
theorem wM_L_48 : Cond.methodLink RL 48 yX7_help ∈ wAll := wIn4 14 rfl rfl
theorem wI_yX7_help : Cond.instanceMethod yX7_help ∈ wAll := wIn4 15 rfl rfl
theorem wS_yX7_help : Cond.selects RX7 yX7_help yX7_help ∈ wAll := wIn4 16 rfl rfl
theorem wC_yX7_help : Cond.code yX7_help cX7_help 5 (some .int) ∈ wAll := wIn4 17 rfl rfl
theorem wM_L_53 : Cond.methodLink RL 53 yX7_reading ∈ wAll := wIn4 18 rfl rfl
theorem wI_yX7_reading : Cond.instanceMethod yX7_reading ∈ wAll := wIn4 19 rfl rfl
theorem wS_yX7_reading : Cond.selects RX7 yX7_reading yX7_reading ∈ wAll := wIn4 20 rfl rfl
theorem wC_yX7_reading : Cond.code yX7_reading cX7_reading 4 (some .int) ∈ wAll := wIn4 21 rfl rfl
theorem wL_X7_217 : Cond.constantLong RX7 217 (5) ∈ wAll := wIn4 22 rfl rfl
theorem wM_L_57 : Cond.methodLink RL 57 yX7_back ∈ wAll := wIn4 23 rfl rfl
theorem wI_yX7_back : Cond.instanceMethod yX7_back ∈ wAll := wIn4 24 rfl rfl
theorem wS_yX7_back : Cond.selects RX7 yX7_back yX7_back ∈ wAll := wIn4 25 rfl rfl
theorem wC_yX7_back : Cond.code yX7_back cX7_back 2 (some .int) ∈ wAll := wIn4 26 rfl rfl
theorem wM_L_62 : Cond.methodLink RL 62 yX7_told ∈ wAll := wIn4 27 rfl rfl
theorem wI_yX7_told : Cond.instanceMethod yX7_told ∈ wAll := wIn4 28 rfl rfl
theorem wS_yX7_told : Cond.selects RX7 yX7_told yX7_told ∈ wAll := wIn4 29 rfl rfl
theorem wC_yX7_told : Cond.code yX7_told cX7_told 12 (some .int) ∈ wAll := wIn4 30 rfl rfl
theorem wM_X7_219 : Cond.methodLink RX7 219 yX7_seenBarred ∈ wAll := wIn4 31 rfl rfl
theorem wI_yX7_seenBarred : Cond.instanceMethod yX7_seenBarred ∈ wAll := wIn4 33 rfl rfl
theorem wC_yX7_seenBarred : Cond.code yX7_seenBarred cX7_seenBarred 7 (some .int) ∈ wAll := wIn4 34 rfl rfl
theorem wM_X7_223 : Cond.methodLink RX7 223 yX7_areSo ∈ wAll := wIn4 35 rfl rfl
theorem wI_yX7_areSo : Cond.instanceMethod yX7_areSo ∈ wAll := wIn4 37 rfl rfl
theorem wC_yX7_areSo : Cond.code yX7_areSo cX7_areSo 5 (some .boolean) ∈ wAll := wIn4 38 rfl rfl
theorem wM_L_66 : Cond.methodLink RL 66 yX7_kinds ∈ wAll := wIn4 39 rfl rfl
theorem wI_yX7_kinds : Cond.instanceMethod yX7_kinds ∈ wAll := wIn4 40 rfl rfl
theorem wS_yX7_kinds : Cond.selects RX7 yX7_kinds yX7_kinds ∈ wAll := wIn4 41 rfl rfl
theorem wC_yX7_kinds : Cond.code yX7_kinds cX7_kinds 10 (some .int) ∈ wAll := wIn4 42 rfl rfl
theorem wM_L_70 : Cond.methodLink RL 70 yX7_wears ∈ wAll := wIn4 43 rfl rfl
theorem wI_yX7_wears : Cond.instanceMethod yX7_wears ∈ wAll := wIn4 44 rfl rfl
theorem wS_yX7_wears : Cond.selects RX7 yX7_wears yX7_wears ∈ wAll := wIn4 45 rfl rfl
theorem wC_yX7_wears : Cond.code yX7_wears cX7_wears 10 (some .int) ∈ wAll := wIn4 46 rfl rfl
theorem wM_L_75 : Cond.methodLink RL 75 yX7_odds ∈ wAll := wIn4 47 rfl rfl
theorem wI_yX7_odds : Cond.instanceMethod yX7_odds ∈ wAll := wIn4 48 rfl rfl
theorem wS_yX7_odds : Cond.selects RX7 yX7_odds yX7_odds ∈ wAll := wIn4 49 rfl rfl
theorem wC_yX7_odds : Cond.code yX7_odds cX7_odds 9 (some .long) ∈ wAll := wIn4 50 rfl rfl
theorem wM_X7_83 : Cond.methodLink RX7 83 yX7_lost ∈ wAll := wIn4 51 rfl rfl
theorem wT_yX7_lost : Cond.static yX7_lost ∈ wAll := wIn4 52 rfl rfl
theorem wC_yX7_lost : Cond.code yX7_lost cX7_lost 0 (some .long) ∈ wAll := wIn4 53 rfl rfl
theorem wL_X7_77 : Cond.constantLong RX7 77 (-9223372036854775808) ∈ wAll := wIn4 54 rfl rfl
theorem wM_L_80 : Cond.methodLink RL 80 yX7_sheet ∈ wAll := wIn4 55 rfl rfl
theorem wI_yX7_sheet : Cond.instanceMethod yX7_sheet ∈ wAll := wIn4 56 rfl rfl
theorem wS_yX7_sheet : Cond.selects RX7 yX7_sheet yX7_sheet ∈ wAll := wIn4 57 rfl rfl
theorem wC_yX7_sheet : Cond.code yX7_sheet cX7_sheet 5 (some .int) ∈ wAll := wIn4 58 rfl rfl
theorem wM_L_84 : Cond.methodLink RL 84 yX7_lose ∈ wAll := wIn4 59 rfl rfl
theorem wI_yX7_lose : Cond.instanceMethod yX7_lose ∈ wAll := wIn4 60 rfl rfl
theorem wS_yX7_lose : Cond.selects RX7 yX7_lose yX7_lose ∈ wAll := wIn4 61 rfl rfl
theorem wC_yX7_lose : Cond.code yX7_lose cX7_lose 3 (some .int) ∈ wAll := wIn4 62 rfl rfl
theorem wM_L_88 : Cond.methodLink RL 88 yX7_put ∈ wAll := wIn4 63 rfl rfl
theorem wI_yX7_put : Cond.instanceMethod yX7_put ∈ wAll := wIn4 64 rfl rfl
theorem wS_yX7_put : Cond.selects RX7 yX7_put yX7_put ∈ wAll := wIn4 65 rfl rfl
theorem wC_yX7_put : Cond.code yX7_put cX7_put 4 (some .int) ∈ wAll := wIn4 66 rfl rfl
theorem wM_X7_226 : Cond.methodLink RX7 226 yX7_noCell ∈ wAll := wIn4 67 rfl rfl
theorem wI_yX7_noCell : Cond.instanceMethod yX7_noCell ∈ wAll := wIn4 69 rfl rfl
theorem wC_yX7_noCell : Cond.code yX7_noCell cX7_noCell 3 (some .int) ∈ wAll := wIn4 70 rfl rfl
theorem wM_L_93 : Cond.methodLink RL 93 yX7_cell ∈ wAll := wIn4 71 rfl rfl
theorem wI_yX7_cell : Cond.instanceMethod yX7_cell ∈ wAll := wIn4 72 rfl rfl
theorem wS_yX7_cell : Cond.selects RX7 yX7_cell yX7_cell ∈ wAll := wIn4 73 rfl rfl
theorem wC_yX7_cell : Cond.code yX7_cell cX7_cell 4 (some .long) ∈ wAll := wIn4 74 rfl rfl
theorem wM_X7_229 : Cond.methodLink RX7 229 yX7_failedLong ∈ wAll := wIn4 75 rfl rfl
theorem wI_yX7_failedLong : Cond.instanceMethod yX7_failedLong ∈ wAll := wIn4 77 rfl rfl
theorem wC_yX7_failedLong : Cond.code yX7_failedLong cX7_failedLong 2 (some .long) ∈ wAll := wIn4 78 rfl rfl
theorem wM_L_97 : Cond.methodLink RL 97 yX7_copy ∈ wAll := wIn4 79 rfl rfl
theorem wI_yX7_copy : Cond.instanceMethod yX7_copy ∈ wAll := wIn4 80 rfl rfl
theorem wS_yX7_copy : Cond.selects RX7 yX7_copy yX7_copy ∈ wAll := wIn4 81 rfl rfl
theorem wC_yX7_copy : Cond.code yX7_copy cX7_copy 7 (some .int) ∈ wAll := wIn4 82 rfl rfl
theorem wM_L_101 : Cond.methodLink RL 101 yX7_tell ∈ wAll := wIn4 83 rfl rfl
theorem wI_yX7_tell : Cond.instanceMethod yX7_tell ∈ wAll := wIn4 84 rfl rfl
theorem wS_yX7_tell : Cond.selects RX7 yX7_tell yX7_tell ∈ wAll := wIn4 85 rfl rfl
theorem wC_yX7_tell : Cond.code yX7_tell cX7_tell 4 (some .int) ∈ wAll := wIn4 86 rfl rfl
theorem wM_X7_236 : Cond.methodLink RX7 236 yX7_traced ∈ wAll := wIn4 87 rfl rfl
theorem wI_yX7_traced : Cond.instanceMethod yX7_traced ∈ wAll := wIn4 89 rfl rfl
theorem wC_yX7_traced : Cond.code yX7_traced cX7_traced 2 none ∈ wAll := wIn4 90 rfl rfl
theorem wM_L_105 : Cond.methodLink RL 105 yX7_hand ∈ wAll := wIn4 91 rfl rfl
theorem wI_yX7_hand : Cond.instanceMethod yX7_hand ∈ wAll := wIn4 92 rfl rfl
theorem wS_yX7_hand : Cond.selects RX7 yX7_hand yX7_hand ∈ wAll := wIn4 93 rfl rfl
theorem wC_yX7_hand : Cond.code yX7_hand cX7_hand 2 (some .int) ∈ wAll := wIn4 94 rfl rfl
theorem wM_L_109 : Cond.methodLink RL 109 yX7_as ∈ wAll := wIn4 95 rfl rfl
theorem wI_yX7_as : Cond.instanceMethod yX7_as ∈ wAll := wIn4 96 rfl rfl
theorem wS_yX7_as : Cond.selects RX7 yX7_as yX7_as ∈ wAll := wIn4 97 rfl rfl
theorem wC_yX7_as : Cond.code yX7_as cX7_as 3 (some .int) ∈ wAll := wIn4 98 rfl rfl
theorem wM_L_114 : Cond.methodLink RL 114 yX7_trace ∈ wAll := wIn4 99 rfl rfl
theorem wI_yX7_trace : Cond.instanceMethod yX7_trace ∈ wAll := wIn4 100 rfl rfl
theorem wS_yX7_trace : Cond.selects RX7 yX7_trace yX7_trace ∈ wAll := wIn4 101 rfl rfl
theorem wC_yX7_trace : Cond.code yX7_trace cX7_trace 1 (some .int) ∈ wAll := wIn4 102 rfl rfl
theorem wM_L_118 : Cond.methodLink RL 118 yX7_fault ∈ wAll := wIn4 103 rfl rfl
theorem wI_yX7_fault : Cond.instanceMethod yX7_fault ∈ wAll := wIn4 104 rfl rfl
theorem wS_yX7_fault : Cond.selects RX7 yX7_fault yX7_fault ∈ wAll := wIn4 105 rfl rfl
theorem wC_yX7_fault : Cond.code yX7_fault cX7_fault 1 (some .int) ∈ wAll := wIn4 106 rfl rfl
theorem wM_L_122 : Cond.methodLink RL 122 yX7_many ∈ wAll := wIn4 107 rfl rfl
theorem wI_yX7_many : Cond.instanceMethod yX7_many ∈ wAll := wIn4 108 rfl rfl
theorem wS_yX7_many : Cond.selects RX7 yX7_many yX7_many ∈ wAll := wIn4 109 rfl rfl
theorem wC_yX7_many : Cond.code yX7_many cX7_many 2 (some .int) ∈ wAll := wIn4 110 rfl rfl
theorem wS_yX6_faultAnswer : Cond.selects RX6 yX6_faultAnswer yX6_faultAnswer ∈ wAll := wInS 0 rfl rfl
theorem wS_yX6_isPerson : Cond.selects RX6 yX6_isPerson yX6_isPerson ∈ wAll := wInS 1 rfl rfl
theorem wS_yX6_takeRow : Cond.selects RX6 yX6_takeRow yX6_takeRow ∈ wAll := wInS 2 rfl rfl
theorem wS_yX0_wearOff : Cond.selects RX0 yX0_wearOff yX0_wearOff ∈ wAll := wInS 3 rfl rfl
theorem wS_yX0_show : Cond.selects RX0 yX0_show yX0_show ∈ wAll := wInS 4 rfl rfl
theorem wS_yX6_answerOfLoans : Cond.selects RX6 yX6_answerOfLoans yX6_answerOfLoans ∈ wAll := wInS 5 rfl rfl
theorem wS_yX6_answerOfOne : Cond.selects RX6 yX6_answerOfOne yX6_answerOfOne ∈ wAll := wInS 6 rfl rfl
theorem wS_yX2_mendedFrom : Cond.selects RX2 yX2_mendedFrom yX2_mendedFrom ∈ wAll := wInS 7 rfl rfl
theorem wS_yX2_firstBest : Cond.selects RX2 yX2_firstBest yX2_firstBest ∈ wAll := wInS 8 rfl rfl
theorem wS_yX6_refusalOfReadLoans : Cond.selects RX6 yX6_refusalOfReadLoans yX6_refusalOfReadLoans ∈ wAll := wInS 9 rfl rfl
theorem wS_yX6_couldBe : Cond.selects RX6 yX6_couldBe yX6_couldBe ∈ wAll := wInS 10 rfl rfl
theorem wS_yX6_tellingOfTwin : Cond.selects RX6 yX6_tellingOfTwin yX6_tellingOfTwin ∈ wAll := wInS 11 rfl rfl
theorem wS_yX6_leaveInTrace : Cond.selects RX6 yX6_leaveInTrace yX6_leaveInTrace ∈ wAll := wInS 12 rfl rfl
theorem wS_yX6_tellingOfSad : Cond.selects RX6 yX6_tellingOfSad yX6_tellingOfSad ∈ wAll := wInS 13 rfl rfl
theorem wS_yX6_tellingOfChildhood : Cond.selects RX6 yX6_tellingOfChildhood yX6_tellingOfChildhood ∈ wAll := wInS 14 rfl rfl
theorem wS_yX7_refused : Cond.selects RX7 yX7_refused yX7_refused ∈ wAll := wInS 15 rfl rfl
theorem wS_yX7_cellsBarred : Cond.selects RX7 yX7_cellsBarred yX7_cellsBarred ∈ wAll := wInS 16 rfl rfl
theorem wS_yX7_failed : Cond.selects RX7 yX7_failed yX7_failed ∈ wAll := wInS 17 rfl rfl
theorem wS_yX7_readsCounter : Cond.selects RX7 yX7_readsCounter yX7_readsCounter ∈ wAll := wInS 18 rfl rfl
theorem wS_yX7_codeAt : Cond.selects RX7 yX7_codeAt yX7_codeAt ∈ wAll := wInS 19 rfl rfl
theorem wS_yX7_readsPerson : Cond.selects RX7 yX7_readsPerson yX7_readsPerson ∈ wAll := wInS 20 rfl rfl
theorem wS_yX7_figure : Cond.selects RX7 yX7_figure yX7_figure ∈ wAll := wInS 21 rfl rfl
theorem wS_yX7_noPerson : Cond.selects RX7 yX7_noPerson yX7_noPerson ∈ wAll := wInS 22 rfl rfl
theorem wS_yX7_lastsOf : Cond.selects RX7 yX7_lastsOf yX7_lastsOf ∈ wAll := wInS 23 rfl rfl
theorem wS_yX7_pairsBarred : Cond.selects RX7 yX7_pairsBarred yX7_pairsBarred ∈ wAll := wInS 24 rfl rfl
theorem wS_yX7_goLoans : Cond.selects RX7 yX7_goLoans yX7_goLoans ∈ wAll := wInS 25 rfl rfl
theorem wS_yX7_begin : Cond.selects RX7 yX7_begin yX7_begin ∈ wAll := wInS 26 rfl rfl
theorem wS_yX7_sees : Cond.selects RX7 yX7_sees yX7_sees ∈ wAll := wInS 27 rfl rfl
theorem wS_yX7_mendedNow : Cond.selects RX7 yX7_mendedNow yX7_mendedNow ∈ wAll := wInS 28 rfl rfl
theorem wS_yX7_isMended : Cond.selects RX7 yX7_isMended yX7_isMended ∈ wAll := wInS 29 rfl rfl
theorem wS_yX7_everybody : Cond.selects RX7 yX7_everybody yX7_everybody ∈ wAll := wInS 30 rfl rfl
theorem wS_yX7_canLend : Cond.selects RX7 yX7_canLend yX7_canLend ∈ wAll := wInS 31 rfl rfl
theorem wS_yX7_lend : Cond.selects RX7 yX7_lend yX7_lend ∈ wAll := wInS 32 rfl rfl
theorem wS_yX7_wearsOff : Cond.selects RX7 yX7_wearsOff yX7_wearsOff ∈ wAll := wInS 33 rfl rfl
theorem wS_yX7_homeBy : Cond.selects RX7 yX7_homeBy yX7_homeBy ∈ wAll := wInS 34 rfl rfl
theorem wS_yX7_isRow : Cond.selects RX7 yX7_isRow yX7_isRow ∈ wAll := wInS 35 rfl rfl
theorem wS_yX7_matchBy : Cond.selects RX7 yX7_matchBy yX7_matchBy ∈ wAll := wInS 36 rfl rfl
theorem wS_yX7_seenBarred : Cond.selects RX7 yX7_seenBarred yX7_seenBarred ∈ wAll := wInS 37 rfl rfl
theorem wS_yX7_areSo : Cond.selects RX7 yX7_areSo yX7_areSo ∈ wAll := wInS 38 rfl rfl
theorem wS_yX7_noCell : Cond.selects RX7 yX7_noCell yX7_noCell ∈ wAll := wInS 39 rfl rfl
theorem wS_yX7_failedLong : Cond.selects RX7 yX7_failedLong yX7_failedLong ∈ wAll := wInS 40 rfl rfl
theorem wS_yX7_traced : Cond.selects RX7 yX7_traced yX7_traced ∈ wAll := wInS 41 rfl rfl
theorem wU_X0 : ∀ w ∈ u_ws RX0 TX0 8, w ∈ wAll := show ∀ w ∈ [u_lay RX0 TX0 0, u_lay RX0 TX0 1, u_lay RX0 TX0 2, u_lay RX0 TX0 3, u_lay RX0 TX0 4, u_lay RX0 TX0 5, u_lay RX0 TX0 6, u_lay RX0 TX0 7], w ∈ wAll from List.forall_mem_cons.mpr ⟨wY_X0_left, List.forall_mem_cons.mpr ⟨wY_X0_lasts, List.forall_mem_cons.mpr ⟨wY_X0_lent, List.forall_mem_cons.mpr ⟨wY_X0_holds, List.forall_mem_cons.mpr ⟨wY_X0_knows, List.forall_mem_cons.mpr ⟨wY_X0_shown, List.forall_mem_cons.mpr ⟨wY_X0_persons, List.forall_mem_cons.mpr ⟨wY_X0_people, fun _ h => absurd h List.not_mem_nil⟩⟩⟩⟩⟩⟩⟩⟩
theorem wU_X1 : ∀ w ∈ u_ws RX1 TX1 2, w ∈ wAll := show ∀ w ∈ [u_lay RX1 TX1 0, u_lay RX1 TX1 1], w ∈ wAll from List.forall_mem_cons.mpr ⟨wY_X1_behind, List.forall_mem_cons.mpr ⟨wY_X1_found, fun _ h => absurd h List.not_mem_nil⟩⟩
theorem wU_X2 : ∀ w ∈ u_ws RX2 TX2 2, w ∈ wAll := show ∀ w ∈ [u_lay RX2 TX2 0, u_lay RX2 TX2 1], w ∈ wAll from List.forall_mem_cons.mpr ⟨wY_X2_most, List.forall_mem_cons.mpr ⟨wY_X2_gets, fun _ h => absurd h List.not_mem_nil⟩⟩
theorem wU_X3 : ∀ w ∈ u_ws RX3 TX3 4, w ∈ wAll := show ∀ w ∈ [u_lay RX3 TX3 0, u_lay RX3 TX3 1, u_lay RX3 TX3 2, u_lay RX3 TX3 3], w ∈ wAll from List.forall_mem_cons.mpr ⟨wY_X3_kind, List.forall_mem_cons.mpr ⟨wY_X3_scenes, List.forall_mem_cons.mpr ⟨wY_X3_wanted, List.forall_mem_cons.mpr ⟨wY_X3_wear, fun _ h => absurd h List.not_mem_nil⟩⟩⟩⟩
theorem wU_X4 : ∀ w ∈ u_ws RX4 TX4 4, w ∈ wAll := show ∀ w ∈ [u_lay RX4 TX4 0, u_lay RX4 TX4 1, u_lay RX4 TX4 2, u_lay RX4 TX4 3], w ∈ wAll from List.forall_mem_cons.mpr ⟨wY_X4_who, List.forall_mem_cons.mpr ⟨wY_X4_scene, List.forall_mem_cons.mpr ⟨wY_X4_knew, List.forall_mem_cons.mpr ⟨wY_X4_count, fun _ h => absurd h List.not_mem_nil⟩⟩⟩⟩
theorem wU_X5 : ∀ w ∈ u_ws RX5 TX5 4, w ∈ wAll := show ∀ w ∈ [u_lay RX5 TX5 0, u_lay RX5 TX5 1, u_lay RX5 TX5 2, u_lay RX5 TX5 3], w ∈ wAll from List.forall_mem_cons.mpr ⟨wY_X5_cells, List.forall_mem_cons.mpr ⟨wY_X5_present, List.forall_mem_cons.mpr ⟨wY_X5_lane, List.forall_mem_cons.mpr ⟨wY_X5_count, fun _ h => absurd h List.not_mem_nil⟩⟩⟩⟩
theorem wU_X6 : ∀ w ∈ u_ws RX6 TX6 10, w ∈ wAll := show ∀ w ∈ [u_lay RX6 TX6 0, u_lay RX6 TX6 1, u_lay RX6 TX6 2, u_lay RX6 TX6 3, u_lay RX6 TX6 4, u_lay RX6 TX6 5, u_lay RX6 TX6 6, u_lay RX6 TX6 7, u_lay RX6 TX6 8, u_lay RX6 TX6 9], w ∈ wAll from List.forall_mem_cons.mpr ⟨wY_X6_sheets, List.forall_mem_cons.mpr ⟨wY_X6_persons, List.forall_mem_cons.mpr ⟨wY_X6_readings, List.forall_mem_cons.mpr ⟨wY_X6_exchange, List.forall_mem_cons.mpr ⟨wY_X6_search, List.forall_mem_cons.mpr ⟨wY_X6_matching, List.forall_mem_cons.mpr ⟨wY_X6_row, List.forall_mem_cons.mpr ⟨wY_X6_people, List.forall_mem_cons.mpr ⟨wY_X6_traced, List.forall_mem_cons.mpr ⟨wY_X6_latestFault, fun _ h => absurd h List.not_mem_nil⟩⟩⟩⟩⟩⟩⟩⟩⟩⟩
theorem wU_X7 : ∀ w ∈ u_ws RX7 TX7 30, w ∈ wAll := show ∀ w ∈ [u_lay RX7 TX7 0, u_lay RX7 TX7 1, u_lay RX7 TX7 2, u_lay RX7 TX7 3, u_lay RX7 TX7 4, u_lay RX7 TX7 5, u_lay RX7 TX7 6, u_lay RX7 TX7 7, u_lay RX7 TX7 8, u_lay RX7 TX7 9, u_lay RX7 TX7 10, u_lay RX7 TX7 11, u_lay RX7 TX7 12, u_lay RX7 TX7 13, u_lay RX7 TX7 14, u_lay RX7 TX7 15, u_lay RX7 TX7 16, u_lay RX7 TX7 17, u_lay RX7 TX7 18, u_lay RX7 TX7 19, u_lay RX7 TX7 20, u_lay RX7 TX7 21, u_lay RX7 TX7 22, u_lay RX7 TX7 23, u_lay RX7 TX7 24, u_lay RX7 TX7 25, u_lay RX7 TX7 26, u_lay RX7 TX7 27, u_lay RX7 TX7 28, u_lay RX7 TX7 29], w ∈ wAll from List.forall_mem_cons.mpr ⟨wY_X7_fault, List.forall_mem_cons.mpr ⟨wY_X7_people, List.forall_mem_cons.mpr ⟨wY_X7_kindOf, List.forall_mem_cons.mpr ⟨wY_X7_scenesOf, List.forall_mem_cons.mpr ⟨wY_X7_wantsOf, List.forall_mem_cons.mpr ⟨wY_X7_wearOf, List.forall_mem_cons.mpr ⟨wY_X7_readAt, List.forall_mem_cons.mpr ⟨wY_X7_readPeople, List.forall_mem_cons.mpr ⟨wY_X7_readKind, List.forall_mem_cons.mpr ⟨wY_X7_readScenes, List.forall_mem_cons.mpr ⟨wY_X7_readWants, List.forall_mem_cons.mpr ⟨wY_X7_readWear, List.forall_mem_cons.mpr ⟨wY_X7_hasNow, List.forall_mem_cons.mpr ⟨wY_X7_leftIn, List.forall_mem_cons.mpr ⟨wY_X7_lentOf, List.forall_mem_cons.mpr ⟨wY_X7_knowsNow, List.forall_mem_cons.mpr ⟨wY_X7_cameBy, List.forall_mem_cons.mpr ⟨wY_X7_firstWrong, List.forall_mem_cons.mpr ⟨wY_X7_firstAll, List.forall_mem_cons.mpr ⟨wY_X7_triedOf, List.forall_mem_cons.mpr ⟨wY_X7_getsOf, List.forall_mem_cons.mpr ⟨wY_X7_readings, List.forall_mem_cons.mpr ⟨wY_X7_readingOf, List.forall_mem_cons.mpr ⟨wY_X7_readingScene, List.forall_mem_cons.mpr ⟨wY_X7_readingKnew, List.forall_mem_cons.mpr ⟨wY_X7_sheetSize, List.forall_mem_cons.mpr ⟨wY_X7_sheetLane, List.forall_mem_cons.mpr ⟨wY_X7_sheet, List.forall_mem_cons.mpr ⟨wY_X7_hands, List.forall_mem_cons.mpr ⟨wY_X7_traceNow, fun _ h => absurd h List.not_mem_nil⟩⟩⟩⟩⟩⟩⟩⟩⟩⟩⟩⟩⟩⟩⟩⟩⟩⟩⟩⟩⟩⟩⟩⟩⟩⟩⟩⟩⟩⟩
end
section
-- the class's cells by numbers: memory, worlds, rows over them
abbrev Mem : Type := Nat → Nat → Int32
def u1 (σ : Mem) (k : Nat) (f : Nat → Int32) : Mem := fun a => if a = k then f else σ a
def u2 (σ : Mem) (k j : Nat) (v : Int32) : Mem := u1 σ k (upd (σ k) j v)
def inb (i : Int32) (n : Nat) : Bool := !(decide (i < 0) || decide (n ≤ i.toNatClampNeg))
theorem inb_vp {i : Int32} {n : Nat} (h : inb i n = true) : vp_in i n := by
  intro q
  rcases q with q | q <;> simp [inb, q] at h
def bnd {α β : Type} (x : α) (f : α → β) : β := f x
def grd {α : Type} (b : Bool) (x : Option α) : Option α := if b = true then x else none
theorem bnd_s {α β : Type} {x : α} {f : α → β} {y : β} (h : bnd x f = y) : ∃ z, z = x ∧ f z = y := ⟨x, rfl, h⟩
theorem grd_s {α : Type} {b : Bool} {x : Option α} {y : α} (h : grd b x = some y) : b = true ∧ x = some y := by
  unfold grd at h
  split at h
  · exact ⟨by assumption, h⟩
  · cases h
theorem ob_s {α β : Type} {x : Option α} {f : α → Option β} {y : β} (h : Option.bind x f = some y) : ∃ z, x = some z ∧ f z = some y := by
  cases x with
  | none => cases h
  | some z => exact ⟨z, rfl, h⟩
theorem ite_t {α : Type} {c : Prop} {d : Decidable c} {a b y : α} (hc : c) (h : @ite α c d a b = y) : a = y := (if_pos hc).symm.trans h
theorem ite_f {α : Type} {c : Prop} {d : Decidable c} {a b y : α} (hc : ¬ c) (h : @ite α c d a b = y) : b = y := (if_neg hc).symm.trans h
theorem some_i {α : Type} {a y : α} (h : some a = some y) : a = y := Option.some.inj h
abbrev TH : Type := va_G × (Nat → Nat) × (Nat → ClassId) × (Mem → va_W) × Nat
abbrev tD (Θ : TH) : va_G := Θ.1
abbrev ta (Θ : TH) (k : Nat) : Nat := Θ.2.1 k
abbrev tc (Θ : TH) (k : Nat) : ClassId := Θ.2.2.1 k
abbrev tw (Θ : TH) : Mem → va_W := Θ.2.2.2.1
abbrev tb (Θ : TH) : Nat := Θ.2.2.2.2
abbrev tA (Θ : TH) : Nat → Prop := fun q => tb Θ ≤ q
abbrev tT (Θ : TH) : List (ClassId × FieldType) := [(tc Θ 0, .int), (tc Θ 1, .boolean), (tc Θ 2, .object "LentYouths$Sheet"), (tc Θ 3, .object "LentYouths$Person"), (tc Θ 4, .object "LentYouths$Exchange")]
abbrev wNest : Cond := .methodLinkNest RX3 30 yX6_lastsOf "LentYouths"
def tS (Θ : TH) (σ : Mem) (U : State) : Prop := va_P (tD Θ) vwCl (tw Θ σ) U.heap ∧ va_K (tD Θ) vwCl (tT Θ) U ∧ tb Θ ≤ U.heap.size ∧ va_Nw wNest U
def CX (Θ : TH) (p : Program) (s : State) (m : MethodId) (args : Array Value) (c : Code) (own : String) (cc : ByteArray) (nL : Nat) : Prop :=
  p.tables.exec = Jvm.exec ∧ c.code = cc ∧ c.maxLocals = nL ∧ s.vm.findClass own = some m.cls ∧ (∀ w ∈ wAll, w.before args s = true) ∧ va_K (tD Θ) vwCl (tT Θ) s ∧ tb Θ ≤ s.heap.size ∧ va_Nw wNest s
def okT (Θ : TH) (E : Nat → (Nat → Int32) → va_E) (N : Nat) : Prop :=
  (∀ (σ : Mem) (k : Nat), k < N → ∃ q : Nat, (tw Θ σ)[q]? = some (ta Θ k, E k (σ k)) ∧ ∀ f : Nat → Int32, (tw Θ σ).set q (ta Θ k, E k f) = tw Θ (u1 σ k f)) ∧ ∀ σ : Mem, va_D (tA Θ) (tw Θ σ)
abbrev qI (Θ : TH) (r0 : Int32) (σ0 : Mem) : Array Value → State → Outcome → State → Prop := va_Qi (S := Mem) (fun r u => r = r0 ∧ u = σ0) (fun u t => tS Θ u t) (tA Θ)
abbrev qL (Θ : TH) (r0 : Int64) (σ0 : Mem) : Array Value → State → Outcome → State → Prop := va_Ql (S := Mem) (fun r u => r = r0 ∧ u = σ0) (fun u t => tS Θ u t) (tA Θ)
abbrev qV (Θ : TH) (σ0 : Mem) : Array Value → State → Outcome → State → Prop := va_Qv (S := Mem) (fun u => u = σ0) (fun u t => tS Θ u t) (tA Θ)
section XR
variable {Θ : TH} {p : Program} {l : Launch} {e : Env} {R : Room} {s : State} {m : MethodId} {args : Array Value} {below : List Frame} {meth : Method} {c : Code} {H : Heap} {locs : List Loc} {cells slots : Nat} {Q : State → Prop} {own : String} {cc : ByteArray} {nL : Nat} {E : Nat → (Nat → Int32) → va_E} {N : Nat} {σ σ' : Mem} {pc : Nat} {ls : Array Slot} {rest : List Value}
theorem CX.x (X : CX Θ p s m args c own cc nL) : p.tables.exec = Jvm.exec := X.1
theorem CX.b (X : CX Θ p s m args c own cc nL) : c.code = cc := X.2.1
theorem x_get (X : CX Θ p s m args c own cc nL) (O : okT Θ E N) (hP : va_P (tD Θ) vwCl (tw Θ σ) H) {k ci n j index : Nat} {C : String} {T : u_T} {fs : List Value} {v : Value} {nm de : String} (hk : k < N) (he : E k (σ k) = .inr (ci, fs)) (hc : vwCl[ci]? = some (C, T, n)) (hU : ∀ w ∈ u_ws C T n, w ∈ wAll) (hj : j < n)
    (hl : Cond.fieldLink own index C nm de ∈ wAll) (e1 : (T j).2.1 = nm) (e2 : (T j).2.2.1 = de) (e3 : (T j).1 = C) (hv : fs[j]? = some v) (hdg : decode cc pc = .ok (.getfield index, 3))
    (kk : W p l e R s m args below meth c H locs cells slots Q (F0 m (pc + 3) ls (v :: rest))) : W p l e R s m args below meth c H locs cells slots Q (F0 m pc ls (.ref (ta Θ k) :: rest)) := by
  obtain ⟨q, hq, -⟩ := O.1 σ k hk
  rw [he] at hq
  subst e1 e2
  obtain ⟨h1, h2, h3, h4, h5, h6, h7, h8⟩ := X
  exact va_get h1 h2 h5 hU h4 h6 hP q hq hc j hj (h5 _ hl) (fun x hx => by rw [e3] at hx; exact hx) hv hdg kk
theorem x_put (X : CX Θ p s m args c own cc nL) (O : okT Θ E N) (hP : va_P (tD Θ) vwCl (tw Θ σ) H) (hS : va_S (tA Θ) s.heap H locs) {k ci n j index : Nat} {C : String} {T : u_T} {fs : List Value} {v : Value} {x : Int32} {nm de : String} {ty : FieldType} (ty0 : Nat → FieldType) (hty : ∀ k, k < n → parseFieldDescriptor (T k).2.2.1 = some (ty0 k)) (hnm : ∀ a, a < n → ∀ b, b < n → a ≠ b → (T a).2.1 ≠ (T b).2.1)
    (hk : k < N) (he : E k (σ k) = .inr (ci, fs)) (he2 : E k (upd (σ k) j x) = .inr (ci, fs.set j v)) (hc : vwCl[ci]? = some (C, T, n)) (hU : ∀ w ∈ u_ws C T n, w ∈ wAll) (hj : j < n) (hl : Cond.fieldLink own index C nm de ∈ wAll) (e1 : (T j).2.1 = nm) (e2 : (T j).2.2.1 = de) (e3 : (T j).1 = C) (hfin : (T j).2.2.2 = false)
    (hd : parseFieldDescriptor de = some ty) (hn : narrow ty v = v) (hfit : fits ty v = true) (hlen : j < fs.length) (hdg : decode cc pc = .ok (.putfield index, 3)) (eσ : σ' = u2 σ k j x)
    (kk : ∀ (H1 : Heap) (locs1 : List Loc), va_P (tD Θ) vwCl (tw Θ σ') H1 → va_S (tA Θ) s.heap H1 locs1 → W p l e R s m args below meth c H1 locs1 cells slots Q (F0 m (pc + 3) ls rest)) : W p l e R s m args below meth c H locs cells slots Q (F0 m pc ls (v :: .ref (ta Θ k) :: rest)) := by
  obtain ⟨q, hq, hset⟩ := O.1 σ k hk
  rw [he] at hq
  subst e1 e2
  obtain ⟨h1, h2, h3, h4, h5, h6, h7, h8⟩ := X
  refine va_put h1 h2 h5 hU ty0 hty hnm h4 h6 hP (O.2 σ) hS q hq hc j hj (h5 _ hl) (fun x hx => by rw [e3] at hx; exact hx) hfin hd hn hfit hlen hdg (fun H1 locs1 g1 g2 g3 => ?_)
  refine kk H1 locs1 ?_ g3
  rw [eσ]
  rw [← he2, hset] at g1
  exact g1
def isI (Θ : TH) (E : Nat → (Nat → Int32) → va_E) (N k n : Nat) : Prop := k < N ∧ ∀ v : Nat → Int32, E k v = .inl (tc Θ 0, n, .inl v)
def isZ (Θ : TH) (E : Nat → (Nat → Int32) → va_E) (N k n : Nat) : Prop := k < N ∧ ∀ v : Nat → Int32, E k v = .inl (tc Θ 1, n, .inl v)
theorem x_iald (X : CX Θ p s m args c own cc nL) (O : okT Θ E N) (hP : va_P (tD Θ) vwCl (tw Θ σ) H) {k n : Nat} {i : Int32} (hi : isI Θ E N k n) (hin : inb i n = true) (hdg : decode cc pc = .ok (.iaload, 1))
    (kk : W p l e R s m args below meth c H locs cells slots Q (F0 m (pc + 1) ls (.int (σ k i.toNatClampNeg) :: rest))) : W p l e R s m args below meth c H locs cells slots Q (F0 m pc ls (.int i :: .ref (ta Θ k) :: rest)) := by
  obtain ⟨q, hq, -⟩ := O.1 σ k hi.1
  rw [hi.2] at hq
  obtain ⟨h1, h2, h3, h4, h5, h6, h7, h8⟩ := X
  exact va_iald h1 h2 h6 hP q 0 hq rfl (inb_vp hin) hdg kk
theorem x_zald (X : CX Θ p s m args c own cc nL) (O : okT Θ E N) (hP : va_P (tD Θ) vwCl (tw Θ σ) H) {k n : Nat} {i : Int32} (hi : isZ Θ E N k n) (hin : inb i n = true) (hdg : decode cc pc = .ok (.baload, 1))
    (kk : W p l e R s m args below meth c H locs cells slots Q (F0 m (pc + 1) ls (.int (σ k i.toNatClampNeg) :: rest))) : W p l e R s m args below meth c H locs cells slots Q (F0 m pc ls (.int i :: .ref (ta Θ k) :: rest)) := by
  obtain ⟨q, hq, -⟩ := O.1 σ k hi.1
  rw [hi.2] at hq
  obtain ⟨h1, h2, h3, h4, h5, h6, h7, h8⟩ := X
  exact va_zald h1 h2 h6 hP q 1 hq rfl (inb_vp hin) hdg kk
theorem x_iast (X : CX Θ p s m args c own cc nL) (O : okT Θ E N) (hP : va_P (tD Θ) vwCl (tw Θ σ) H) (hS : va_S (tA Θ) s.heap H locs) {k n : Nat} {i x : Int32} (hi : isI Θ E N k n) (hin : inb i n = true) (hdg : decode cc pc = .ok (.iastore, 1)) (eσ : σ' = u2 σ k i.toNatClampNeg x)
    (kk : ∀ (H1 : Heap) (locs1 : List Loc), va_P (tD Θ) vwCl (tw Θ σ') H1 → va_S (tA Θ) s.heap H1 locs1 → W p l e R s m args below meth c H1 locs1 cells slots Q (F0 m (pc + 1) ls rest)) : W p l e R s m args below meth c H locs cells slots Q (F0 m pc ls (.int x :: .int i :: .ref (ta Θ k) :: rest)) := by
  obtain ⟨q, hq, hset⟩ := O.1 σ k hi.1
  rw [hi.2] at hq
  obtain ⟨h1, h2, h3, h4, h5, h6, h7, h8⟩ := X
  refine va_iast h1 h2 h6 hP (O.2 σ) hS q 0 hq rfl (inb_vp hin) hdg (fun H1 locs1 g1 g2 g3 => kk H1 locs1 ?_ g3)
  rw [eσ]
  rw [← hi.2, hset] at g1
  exact g1
theorem x_zast (X : CX Θ p s m args c own cc nL) (O : okT Θ E N) (hP : va_P (tD Θ) vwCl (tw Θ σ) H) (hS : va_S (tA Θ) s.heap H locs) {k n : Nat} {i x : Int32} (hi : isZ Θ E N k n) (hin : inb i n = true) (hdg : decode cc pc = .ok (.bastore, 1)) (eσ : σ' = u2 σ k i.toNatClampNeg (vp_nar .boolean x))
    (kk : ∀ (H1 : Heap) (locs1 : List Loc), va_P (tD Θ) vwCl (tw Θ σ') H1 → va_S (tA Θ) s.heap H1 locs1 → W p l e R s m args below meth c H1 locs1 cells slots Q (F0 m (pc + 1) ls rest)) : W p l e R s m args below meth c H locs cells slots Q (F0 m pc ls (.int x :: .int i :: .ref (ta Θ k) :: rest)) := by
  obtain ⟨q, hq, hset⟩ := O.1 σ k hi.1
  rw [hi.2] at hq
  obtain ⟨h1, h2, h3, h4, h5, h6, h7, h8⟩ := X
  refine va_zast h1 h2 h6 hP (O.2 σ) hS q 1 hq rfl (inb_vp hin) hdg (fun H1 locs1 g1 g2 g3 => kk H1 locs1 ?_ g3)
  rw [eσ]
  rw [← hi.2, hset] at g1
  exact g1
theorem x_aald (X : CX Θ p s m args c own cc nL) (O : okT Θ E N) (hP : va_P (tD Θ) vwCl (tw Θ σ) H) {k n t0 : Nat} {i : Int32} {C : String} {g : Nat → Nat} (hk : k < N) (he : E k (σ k) = .inl (tc Θ t0, n, .inr (.inr (.inr (.inr (fun j => some (ta Θ (g j)))))))) (ht : (tT Θ)[t0]? = some (tc Θ t0, .object C)) (hin : inb i n = true) (hdg : decode cc pc = .ok (.aaload, 1))
    (kk : W p l e R s m args below meth c H locs cells slots Q (F0 m (pc + 1) ls (.ref (ta Θ (g i.toNatClampNeg)) :: rest))) : W p l e R s m args below meth c H locs cells slots Q (F0 m pc ls (.int i :: .ref (ta Θ k) :: rest)) := by
  obtain ⟨q, hq, -⟩ := O.1 σ k hk
  rw [he] at hq
  obtain ⟨h1, h2, h3, h4, h5, h6, h7, h8⟩ := X
  exact va_aldq h1 h2 h6 hP q t0 hq ht (inb_vp hin) hdg kk
theorem x_alen (X : CX Θ p s m args c own cc nL) (O : okT Θ E N) (hP : va_P (tD Θ) vwCl (tw Θ σ) H) {k n t0 : Nat} {g : (Nat → Int32) ⊕ (Nat → Int64) ⊕ (Nat → UInt32) ⊕ (Nat → UInt64) ⊕ (Nat → Option Nat)} {ty : FieldType} {v : Int32} (hk : k < N) (he : E k (σ k) = .inl (tc Θ t0, n, g)) (ht : (tT Θ)[t0]? = some (tc Θ t0, ty)) (hv : Int32.ofNat n = v) (hdg : decode cc pc = .ok (.arraylength, 1))
    (kk : W p l e R s m args below meth c H locs cells slots Q (F0 m (pc + 1) ls (.int v :: rest))) : W p l e R s m args below meth c H locs cells slots Q (F0 m pc ls (.ref (ta Θ k) :: rest)) := by
  obtain ⟨q, hq, -⟩ := O.1 σ k hk
  rw [he] at hq
  obtain ⟨h1, h2, h3, h4, h5, h6, h7, h8⟩ := X
  exact va_alen h1 h2 h6 hP q t0 hq ht hv hdg kk
theorem x_copy (X : CX Θ p s m args c own cc nL) (O : okT Θ E N) (hP : va_P (tD Θ) vwCl (tw Θ σ) H) (hS : va_S (tA Θ) s.heap H locs) (hls : ls.size = nL) {k k2 n n2 index : Nat} {sp dp z : Int32} (hi : isI Θ E N k n) (hi2 : isI Θ E N k2 n2) (hl : Cond.methodLink own index arraycopyName ∈ wAll)
    (g1 : ¬ sp < 0) (g2 : ¬ dp < 0) (g3 : ¬ z < 0) (g4 : sp.toNatClampNeg + z.toNatClampNeg ≤ n) (g5 : dp.toNatClampNeg + z.toNatClampNeg ≤ n2) (hR : 1 ≤ R.frames ∧ (rest.map fun v => v.category).sum + (nativeFrameWords "java/lang/System" "arraycopy" 5 + 11) ≤ R.locals) (hdg : decode cc pc = .ok (.invokestatic index, 3))
    (eσ : σ' = u1 σ k2 (va_cpy (σ k) (σ k2) sp.toNatClampNeg dp.toNatClampNeg z.toNatClampNeg))
    (kk : ∀ (H1 : Heap) (locs1 : List Loc), va_P (tD Θ) vwCl (tw Θ σ') H1 → va_S (tA Θ) s.heap H1 locs1 → W p l e R s m args below meth c H1 locs1 cells slots Q (F0 m (pc + 3) ls rest)) : W p l e R s m args below meth c H locs cells slots Q (F0 m pc ls (.int z :: .int dp :: .ref (ta Θ k2) :: .int sp :: .ref (ta Θ k) :: rest)) := by
  obtain ⟨q, hq, -⟩ := O.1 σ k hi.1
  obtain ⟨q2, hq2, hset⟩ := O.1 σ k2 hi2.1
  rw [hi.2] at hq
  rw [hi2.2] at hq2
  obtain ⟨h1, h2, h3, h4, h5, h6, h7, h8⟩ := X
  refine va_copyi h1 h2 (h3.trans hls.symm) h4 (h5 _ hl) (h5 _ wV_arraycopyName) (h5 _ wT_arraycopyName) (h5 _ wN_J10) h6 hP (O.2 σ) hS q q2 0 0 hq hq2 rfl rfl rfl g1 g2 g3 g4 g5 (fun i hi => rfl) hR.1 hR.2 hdg (fun H1 locs1 y1 y2 y3 => kk H1 locs1 ?_ y3)
  rw [eσ]
  rw [← hi2.2, hset] at y1
  exact y1
end XR
section XC
variable {Θ : TH} {p : Program} {l : Launch} {e : Env} {R : Room} {s : State} {m : MethodId} {args : Array Value} {below : List Frame} {meth : Method} {c : Code} {H : Heap} {locs : List Loc} {cells slots : Nat} {Q : State → Prop} {own : String} {cc : ByteArray} {nL : Nat} {E : Nat → (Nat → Int32) → va_E} {N : Nat} {σ σ' : Mem} {pc : Nat} {ls : Array Slot} {rest st : List Value}
variable {y : MethodName} {bytes : ByteArray} {maxL index : Nat} {ret : Option FieldType} {rm : Room} {Qc : Array Value → State → Outcome → State → Prop} {As : List Value}
theorem tS_pre (X : CX Θ p s m args c own cc nL) (hP : va_P (tD Θ) vwCl (tw Θ σ) H) (hS : va_S (tA Θ) s.heap H locs) (Av : List Value) : FrameBlind (va_Pc Av (tS Θ σ)) ∧ ∀ U : State, U.heap = H → s.WarmedH U.vm → va_Pc Av (tS Θ σ) Av.toArray U := by
  obtain ⟨h1, h2, h3, h4, h5, h6, h7, h8⟩ := X
  refine ⟨fun a U g mk q => ?_, fun U hU hW => ⟨rfl, ?_, va_K.moved hW.alike h6, ?_, h8.warmM hW⟩⟩
  · obtain ⟨q0, q1, q2, q3, q4⟩ := q
    exact ⟨q0, q1, va_K.moved (u := U) (U := U.calling g mk a) (Vm.Alike.refl U.vm) q2, q3, q4.same rfl rfl⟩
  · rw [hU]; exact hP
  · rw [hU]; exact Nat.le_trans h7 hS.1
theorem x_runV (X : CX Θ p s m args c own cc nL) (O : okT Θ E N) (hP : va_P (tD Θ) vwCl (tw Θ σ) H) (hS : va_S (tA Θ) s.heap H locs) (hls : ls.size = nL) {k ci n : Nat} {fs : List Value} {T : u_T} (hM : Met l y (.code y bytes maxL ret :: wAll) rm (va_Pc (.ref (ta Θ k) :: As) (tS Θ σ)) Qc 0 0 (tA Θ)) (hk : k < N) (he : E k (σ k) = .inr (ci, fs)) (hc : vwCl[ci]? = some (y.cls, T, n))
    (wM : Cond.methodLink own index y ∈ wAll) (wI : Cond.instanceMethod y ∈ wAll) (wS : Cond.selects y.cls y y ∈ wAll) (wN : Cond.initialized y.cls ∈ wAll) (wC : Cond.code y bytes maxL ret ∈ wAll)
    (hd : y.cls ≠ "java/lang/invoke/MethodHandle" ∧ y.cls ≠ "java/lang/invoke/VarHandle" ∧ (parseMethodDescriptor y.desc).map (fun d => d.parameters.length) = some As.length) (hrm : rm.cells = 0 ∧ rm.slots = 0) (hR : rm.frames + 1 ≤ R.frames ∧ 8 + (maxL + 11) + rm.locals ≤ R.locals) (hcs : cells ≤ R.cells ∧ slots ≤ R.slots)
    (hst : st = As.reverse ++ .ref (ta Θ k) :: rest) (hrest : (rest.map fun v => v.category).sum ≤ 8) (hdg : decode cc pc = .ok (.invokevirtual index, 3)) : va_Run p l e R s m args below meth c H locs cells slots 0 0 (F0 m pc ls st) rest (Qc (Value.ref (ta Θ k) :: As).toArray) (tA Θ) := by
  obtain ⟨q, hq, -⟩ := O.1 σ k hk
  rw [he] at hq
  obtain ⟨b1, b2⟩ := tS_pre X hP hS (.ref (ta Θ k) :: As)
  obtain ⟨h1, h2, h3, h4, h5, h6, h7, h8⟩ := X
  exact va_runV ⟨h1, h2, h3, h4, h5⟩ hM ⟨callB_of As.length h5 (gAll wC) rfl hrm.1 hrm.2 (h5 _ wN) (h5 _ wM) hd hR, h5 _ wI, h5 _ wS⟩ ⟨b1, va_recv h6 hP hc hq, b2⟩ rfl rfl hls hst (lv_room hrest) hdg ⟨hcs.1, hcs.2⟩
theorem x_runS (X : CX Θ p s m args c own cc nL) (hP : va_P (tD Θ) vwCl (tw Θ σ) H) (hS : va_S (tA Θ) s.heap H locs) (hls : ls.size = nL) (hM : Met l y (.code y bytes maxL ret :: wAll) rm (va_Pc As (tS Θ σ)) Qc 0 0 (tA Θ))
    (wM : Cond.methodLink own index y ∈ wAll) (wT : Cond.static y ∈ wAll) (wN : Cond.initialized y.cls ∈ wAll) (wC : Cond.code y bytes maxL ret ∈ wAll)
    (hd : y.cls ≠ "java/lang/invoke/MethodHandle" ∧ y.cls ≠ "java/lang/invoke/VarHandle" ∧ (parseMethodDescriptor y.desc).map (fun d => d.parameters.length) = some As.length) (hrm : rm.cells = 0 ∧ rm.slots = 0) (hR : rm.frames + 1 ≤ R.frames ∧ 8 + (maxL + 11) + rm.locals ≤ R.locals) (hcs : cells ≤ R.cells ∧ slots ≤ R.slots)
    (hst : st = As.reverse ++ rest) (hrest : (rest.map fun v => v.category).sum ≤ 8) (hdg : decode cc pc = .ok (.invokestatic index, 3)) : va_Run p l e R s m args below meth c H locs cells slots 0 0 (F0 m pc ls st) rest (Qc As.toArray) (tA Θ) := by
  obtain ⟨b1, b2⟩ := tS_pre X hP hS As
  obtain ⟨h1, h2, h3, h4, h5, h6, h7, h8⟩ := X
  exact va_runS ⟨h1, h2, h3, h4, h5⟩ hM ⟨callB_of As.length h5 (gAll wC) rfl hrm.1 hrm.2 (h5 _ wN) (h5 _ wM) hd hR, h5 _ wT⟩ ⟨b1, b2⟩ rfl rfl hls hst (lv_room hrest) hdg ⟨hcs.1, hcs.2⟩
theorem x_runSN (X : CX Θ p s m args c RX3 cc nL) (hP : va_P (tD Θ) vwCl (tw Θ σ) H) (hS : va_S (tA Θ) s.heap H locs) (hls : ls.size = nL) (hM : Met l yX6_lastsOf (.code yX6_lastsOf bytes maxL ret :: wAll) rm (va_Pc As (tS Θ σ)) Qc 0 0 (tA Θ))
    (wT : Cond.static yX6_lastsOf ∈ wAll) (wN : Cond.initialized yX6_lastsOf.cls ∈ wAll) (wC : Cond.code yX6_lastsOf bytes maxL ret ∈ wAll)
    (hd : yX6_lastsOf.cls ≠ "java/lang/invoke/MethodHandle" ∧ yX6_lastsOf.cls ≠ "java/lang/invoke/VarHandle" ∧ (parseMethodDescriptor yX6_lastsOf.desc).map (fun d => d.parameters.length) = some As.length) (hrm : rm.cells = 0 ∧ rm.slots = 0) (hR : rm.frames + 1 ≤ R.frames ∧ 8 + (maxL + 11) + rm.locals ≤ R.locals) (hcs : cells ≤ R.cells ∧ slots ≤ R.slots)
    (hst : st = As.reverse ++ rest) (hrest : (rest.map fun v => v.category).sum ≤ 8) (hdg : decode cc pc = .ok (.invokestatic 30, 3)) : va_Run p l e R s m args below meth c H locs cells slots 0 0 (F0 m pc ls st) rest (Qc As.toArray) (tA Θ) := by
  obtain ⟨b1, b2⟩ := tS_pre X hP hS As
  obtain ⟨h1, h2, h3, h4, h5, h6, h7, h8⟩ := X
  exact va_runSN ⟨h1, h2, h3, h4, h5⟩ hM ⟨va_cnB As.length h5 (gAll wC) rfl hrm.1 hrm.2 h8 (h5 _ wN) hd hR, h5 _ wT, trivial⟩ ⟨b1, b2⟩ rfl rfl hls hst (lv_room hrest) hdg ⟨hcs.1, hcs.2⟩
variable {av : Array Value}
theorem x_calli {r0 : Int32} {σ0 : Mem} (hr : va_Run p l e R s m args below meth c H locs cells slots 0 0 (F0 m pc ls st) rest (qI Θ r0 σ0 av) (tA Θ)) (hS : va_S (tA Θ) s.heap H locs)
    (kk : ∀ (H1 : Heap) (locs1 : List Loc), va_P (tD Θ) vwCl (tw Θ σ0) H1 → va_S (tA Θ) s.heap H1 locs1 → W p l e R s m args below meth c H1 locs1 cells slots Q (F0 m (pc + 3) ls (.int r0 :: rest))) : W p l e R s m args below meth c H locs cells slots Q (F0 m pc ls st) := by
  refine va_calli hr hS (fun _ _ h => h) (fun _ h => h) (fun r u t H1 locs1 ht hvm hp hB hz hk hS1 => ?_)
  obtain ⟨rfl, rfl⟩ := hp
  exact kk H1 locs1 (by rw [← ht]; exact hB.1) hS1
theorem x_calll {r0 : Int64} {σ0 : Mem} (hr : va_Run p l e R s m args below meth c H locs cells slots 0 0 (F0 m pc ls st) rest (qL Θ r0 σ0 av) (tA Θ)) (hS : va_S (tA Θ) s.heap H locs)
    (kk : ∀ (H1 : Heap) (locs1 : List Loc), va_P (tD Θ) vwCl (tw Θ σ0) H1 → va_S (tA Θ) s.heap H1 locs1 → W p l e R s m args below meth c H1 locs1 cells slots Q (F0 m (pc + 3) ls (.long r0 :: rest))) : W p l e R s m args below meth c H locs cells slots Q (F0 m pc ls st) := by
  refine va_calll hr hS (fun _ _ h => h) (fun _ h => h) (fun r u t H1 locs1 ht hvm hp hB hz hk hS1 => ?_)
  obtain ⟨rfl, rfl⟩ := hp
  exact kk H1 locs1 (by rw [← ht]; exact hB.1) hS1
theorem x_callv {σ0 : Mem} (hr : va_Run p l e R s m args below meth c H locs cells slots 0 0 (F0 m pc ls st) rest (qV Θ σ0 av) (tA Θ)) (hS : va_S (tA Θ) s.heap H locs)
    (kk : ∀ (H1 : Heap) (locs1 : List Loc), va_P (tD Θ) vwCl (tw Θ σ0) H1 → va_S (tA Θ) s.heap H1 locs1 → W p l e R s m args below meth c H1 locs1 cells slots Q (F0 m (pc + 3) ls rest)) : W p l e R s m args below meth c H locs cells slots Q (F0 m pc ls st) := by
  refine va_callv hr hS (fun _ _ h => h) (fun _ h => h) (fun u t H1 locs1 ht hvm hp hB hz hk hS1 => ?_)
  subst hp
  exact kk H1 locs1 (by rw [← ht]; exact hB.1) hS1
/-- a method's end: its world as it is -/
theorem tS_end (X : CX Θ p s m args c own cc nL) (hP : va_P (tD Θ) vwCl (tw Θ σ) H) (hS : va_S (tA Θ) s.heap H locs) {t : State} (ht : t.heap = H) (hW : s.WarmedH t.vm) : tS Θ σ t := by
  obtain ⟨h1, h2, h3, h4, h5, h6, h7, h8⟩ := X
  exact ⟨by rw [ht]; exact hP, va_K.moved hW.alike h6, by rw [ht]; exact Nat.le_trans h7 hS.1, h8.warmM hW⟩
theorem x_reti (X : CX Θ p s m args c own cc nL) (hP : va_P (tD Θ) vwCl (tw Θ σ) H) (hS : va_S (tA Θ) s.heap H locs) (hr : meth.sig.returnType = some .int) (hlk : meth.locks = false) {v r0 : Int32} {σ0 : Mem} (er : v = r0) (eσ : σ = σ0) (hdg : decode cc pc = .ok (.ireturn, 1)) : W p l e R s m args below meth c H locs cells slots (MQ below (qI Θ r0 σ0) args s cells slots (tA Θ)) (F0 m pc ls [.int v]) :=
  W.iret X.1 X.2.1 hr (fun t ht hW => ⟨⟨v, σ, rfl, ⟨er, eσ⟩, tS_end X hP hS ht hW⟩, hS.F ht⟩) hS.2.2 hdg hlk
theorem x_retz (X : CX Θ p s m args c own cc nL) (hP : va_P (tD Θ) vwCl (tw Θ σ) H) (hS : va_S (tA Θ) s.heap H locs) (hr : meth.sig.returnType = some .boolean) (hlk : meth.locks = false) {v r0 : Int32} {σ0 : Mem} (hz : v = 0 ∨ v = 1) (er : v = r0) (eσ : σ = σ0) (hdg : decode cc pc = .ok (.ireturn, 1)) : W p l e R s m args below meth c H locs cells slots (MQ below (qI Θ r0 σ0) args s cells slots (tA Θ)) (F0 m pc ls [.int v]) :=
  W.zret X.1 X.2.1 hr (by rcases hz with rfl | rfl <;> rfl) (fun t ht hW => ⟨⟨v, σ, rfl, ⟨er, eσ⟩, tS_end X hP hS ht hW⟩, hS.F ht⟩) hS.2.2 hdg hlk
theorem x_retl (X : CX Θ p s m args c own cc nL) (hP : va_P (tD Θ) vwCl (tw Θ σ) H) (hS : va_S (tA Θ) s.heap H locs) (hr : meth.sig.returnType = some .long) (hlk : meth.locks = false) {v r0 : Int64} {σ0 : Mem} (er : v = r0) (eσ : σ = σ0) (hdg : decode cc pc = .ok (.lreturn, 1)) : W p l e R s m args below meth c H locs cells slots (MQ below (qL Θ r0 σ0) args s cells slots (tA Θ)) (F0 m pc ls [.long v]) :=
  W.lret X.1 X.2.1 hr (fun t ht hW => ⟨⟨v, σ, rfl, ⟨er, eσ⟩, tS_end X hP hS ht hW⟩, hS.F ht⟩) hS.2.2 hdg hlk
theorem x_retv (X : CX Θ p s m args c own cc nL) (hP : va_P (tD Θ) vwCl (tw Θ σ) H) (hS : va_S (tA Θ) s.heap H locs) (hr : meth.sig.returnType = none) (hlk : meth.locks = false) {σ0 : Mem} (eσ : σ = σ0) (hdg : decode cc pc = .ok (.return_, 1)) : W p l e R s m args below meth c H locs cells slots (MQ below (qV Θ σ0) args s cells slots (tA Θ)) (F0 m pc ls []) :=
  W.vret X.1 X.2.1 hr (fun t ht hW => ⟨⟨σ, rfl, eσ, tS_end X hP hS ht hW⟩, hS.F ht⟩) hS.2.2 hdg hlk
theorem lv_nam {x y : Int32} (h : y = x) (k : W p l e R s m args below meth c H locs cells slots Q (F0 m pc ls (.int y :: rest))) : W p l e R s m args below meth c H locs cells slots Q (F0 m pc ls (.int x :: rest)) := h ▸ k
theorem lv_namL {x y : Int64} (h : y = x) (k : W p l e R s m args below meth c H locs cells slots Q (F0 m pc ls (.long y :: rest))) : W p l e R s m args below meth c H locs cells slots Q (F0 m pc ls (.long x :: rest)) := h ▸ k
/-- a method from its entry -/
theorem x_ent {y : MethodName} {cc : ByteArray} {maxL : Nat} {ret : Option FieldType} {rm : Room} (hy : plainName y.cls = true) (hn : (lg_sl As).length ≤ maxL)
    (body : ∀ (p : Program) (e : Env) (s : State) (m : MethodId) (below : List Frame) (meth : Method) (c : Code), CX Θ p s m As.toArray c y.cls cc maxL → meth.sig.returnType = ret → meth.locks = false → va_P (tD Θ) vwCl (tw Θ σ) s.heap → ∀ ls : Array Slot, lv_has ls maxL (lv_args 0 As) → W p l e rm s m As.toArray below meth c s.heap [] 0 0 (MQ below Qc As.toArray s 0 0 (tA Θ)) (F0 m 0 ls [])) :
    Met l y (.code y cc maxL ret :: wAll) rm (va_Pc As (tS Θ σ)) Qc 0 0 (tA Θ) := by
  refine Met.ofW (cc := cc) (maxL := maxL) (ret := ret) hy rfl ?_
  intro p e s m args below meth c s₁ B hml hv
  obtain ⟨rfl, hP, hK, hbs, hNw⟩ := hv
  have hl := lv_entry As (n := maxL) hn
  rw [lg_entry_eq]
  exact body p e s m below meth c ⟨B.exec, B.bytes, hml, findClass_of_methodNamed B.named, fun w hw => atoms_spec (ws := .code y cc maxL ret :: wAll) B.pre w (List.mem_cons_of_mem _ hw), hK, hbs, hNw⟩ B.returns B.notSynchronized hP _ hl
end XC
end
