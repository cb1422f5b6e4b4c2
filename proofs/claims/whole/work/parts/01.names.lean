-- ===== PART A: goes FIRST, ahead of the names: the tables' words, and 'selects' of the private methods out of them =====
/-- a private method of a class that the tables say can be made, by its rows of tables_1 -/
def lw_okq (q : MethodName × Nat) : Prop := (q.1.cls ≠ "java/lang/invoke/MethodHandle" ∧ q.1.cls ≠ "java/lang/invoke/VarHandle") ∧ Cond.instantiable q.1.cls q.2 ∈ tables_1 ∧ Cond.privateMethod q.1 ∈ tables_1 ∧ Cond.instanceMethod q.1 ∈ tables_1
theorem lw_p0 : lw_okq (⟨"LentYouths", "faultAnswer", "(I)I"⟩, 10) := ⟨⟨by decide +kernel, by decide +kernel⟩, List.mem_of_getElem? (i := 13) (by decide +kernel), List.mem_of_getElem? (i := 209) (by decide +kernel), List.mem_of_getElem? (i := 210) (by decide +kernel)⟩
theorem lw_p1 : lw_okq (⟨"LentYouths", "isPerson", "(I)Z"⟩, 10) := ⟨⟨by decide +kernel, by decide +kernel⟩, List.mem_of_getElem? (i := 13) (by decide +kernel), List.mem_of_getElem? (i := 227) (by decide +kernel), List.mem_of_getElem? (i := 228) (by decide +kernel)⟩
theorem lw_p2 : lw_okq (⟨"LentYouths", "takeRow", "(IIII)I"⟩, 10) := ⟨⟨by decide +kernel, by decide +kernel⟩, List.mem_of_getElem? (i := 13) (by decide +kernel), List.mem_of_getElem? (i := 256) (by decide +kernel), List.mem_of_getElem? (i := 257) (by decide +kernel)⟩
theorem lw_p3 : lw_okq (⟨"LentYouths$Exchange", "wearOff", "(I)V"⟩, 8) := ⟨⟨by decide +kernel, by decide +kernel⟩, List.mem_of_getElem? (i := 47) (by decide +kernel), List.mem_of_getElem? (i := 284) (by decide +kernel), List.mem_of_getElem? (i := 285) (by decide +kernel)⟩
theorem lw_p4 : lw_okq (⟨"LentYouths$Exchange", "show", "(I)V"⟩, 8) := ⟨⟨by decide +kernel, by decide +kernel⟩, List.mem_of_getElem? (i := 47) (by decide +kernel), List.mem_of_getElem? (i := 288) (by decide +kernel), List.mem_of_getElem? (i := 289) (by decide +kernel)⟩
theorem lw_p5 : lw_okq (⟨"LentYouths", "answerOfLoans", "(II)I"⟩, 10) := ⟨⟨by decide +kernel, by decide +kernel⟩, List.mem_of_getElem? (i := 13) (by decide +kernel), List.mem_of_getElem? (i := 292) (by decide +kernel), List.mem_of_getElem? (i := 293) (by decide +kernel)⟩
theorem lw_p6 : lw_okq (⟨"LentYouths", "answerOfOne", "(II)I"⟩, 10) := ⟨⟨by decide +kernel, by decide +kernel⟩, List.mem_of_getElem? (i := 13) (by decide +kernel), List.mem_of_getElem? (i := 317) (by decide +kernel), List.mem_of_getElem? (i := 318) (by decide +kernel)⟩
theorem lw_p7 : lw_okq (⟨"LentYouths$Matching", "mendedFrom", "([LLentYouths$Person;II)I"⟩, 2) := ⟨⟨by decide +kernel, by decide +kernel⟩, List.mem_of_getElem? (i := 100) (by decide +kernel), List.mem_of_getElem? (i := 361) (by decide +kernel), List.mem_of_getElem? (i := 362) (by decide +kernel)⟩
theorem lw_p8 : lw_okq (⟨"LentYouths$Matching", "firstBest", "([LLentYouths$Person;II)I"⟩, 2) := ⟨⟨by decide +kernel, by decide +kernel⟩, List.mem_of_getElem? (i := 100) (by decide +kernel), List.mem_of_getElem? (i := 370) (by decide +kernel), List.mem_of_getElem? (i := 371) (by decide +kernel)⟩
theorem lw_p9 : lw_okq (⟨"LentYouths", "refusalOfReadLoans", "(IIIIII)I"⟩, 10) := ⟨⟨by decide +kernel, by decide +kernel⟩, List.mem_of_getElem? (i := 13) (by decide +kernel), List.mem_of_getElem? (i := 399) (by decide +kernel), List.mem_of_getElem? (i := 400) (by decide +kernel)⟩
theorem lw_p10 : lw_okq (⟨"LentYouths", "couldBe", "(IIII)Z"⟩, 10) := ⟨⟨by decide +kernel, by decide +kernel⟩, List.mem_of_getElem? (i := 13) (by decide +kernel), List.mem_of_getElem? (i := 403) (by decide +kernel), List.mem_of_getElem? (i := 404) (by decide +kernel)⟩
theorem lw_p11 : lw_okq (⟨"LentYouths", "tellingOfTwin", "(LLentYouths$Person;)I"⟩, 10) := ⟨⟨by decide +kernel, by decide +kernel⟩, List.mem_of_getElem? (i := 13) (by decide +kernel), List.mem_of_getElem? (i := 463) (by decide +kernel), List.mem_of_getElem? (i := 464) (by decide +kernel)⟩
theorem lw_p12 : lw_okq (⟨"LentYouths", "leaveInTrace", "(I)V"⟩, 10) := ⟨⟨by decide +kernel, by decide +kernel⟩, List.mem_of_getElem? (i := 13) (by decide +kernel), List.mem_of_getElem? (i := 467) (by decide +kernel), List.mem_of_getElem? (i := 468) (by decide +kernel)⟩
theorem lw_p13 : lw_okq (⟨"LentYouths", "tellingOfSad", "(LLentYouths$Person;)I"⟩, 10) := ⟨⟨by decide +kernel, by decide +kernel⟩, List.mem_of_getElem? (i := 13) (by decide +kernel), List.mem_of_getElem? (i := 471) (by decide +kernel), List.mem_of_getElem? (i := 472) (by decide +kernel)⟩
theorem lw_p14 : lw_okq (⟨"LentYouths", "tellingOfChildhood", "(LLentYouths$Person;)I"⟩, 10) := ⟨⟨by decide +kernel, by decide +kernel⟩, List.mem_of_getElem? (i := 13) (by decide +kernel), List.mem_of_getElem? (i := 475) (by decide +kernel), List.mem_of_getElem? (i := 476) (by decide +kernel)⟩
theorem lw_p15 : lw_okq (⟨"LentYouthsModel", "refused", "(I)I"⟩, 30) := ⟨⟨by decide +kernel, by decide +kernel⟩, List.mem_of_getElem? (i := 499) (by decide +kernel), List.mem_of_getElem? (i := 607) (by decide +kernel), List.mem_of_getElem? (i := 608) (by decide +kernel)⟩
def lw_privs_1 : List (MethodName × Nat) := [(⟨"LentYouths", "faultAnswer", "(I)I"⟩, 10), (⟨"LentYouths", "isPerson", "(I)Z"⟩, 10), (⟨"LentYouths", "takeRow", "(IIII)I"⟩, 10), (⟨"LentYouths$Exchange", "wearOff", "(I)V"⟩, 8), (⟨"LentYouths$Exchange", "show", "(I)V"⟩, 8), (⟨"LentYouths", "answerOfLoans", "(II)I"⟩, 10), (⟨"LentYouths", "answerOfOne", "(II)I"⟩, 10), (⟨"LentYouths$Matching", "mendedFrom", "([LLentYouths$Person;II)I"⟩, 2), (⟨"LentYouths$Matching", "firstBest", "([LLentYouths$Person;II)I"⟩, 2), (⟨"LentYouths", "refusalOfReadLoans", "(IIIIII)I"⟩, 10), (⟨"LentYouths", "couldBe", "(IIII)Z"⟩, 10), (⟨"LentYouths", "tellingOfTwin", "(LLentYouths$Person;)I"⟩, 10), (⟨"LentYouths", "leaveInTrace", "(I)V"⟩, 10), (⟨"LentYouths", "tellingOfSad", "(LLentYouths$Person;)I"⟩, 10), (⟨"LentYouths", "tellingOfChildhood", "(LLentYouths$Person;)I"⟩, 10), (⟨"LentYouthsModel", "refused", "(I)I"⟩, 30)]
theorem lw_r1 : ∀ q ∈ lw_privs_1, lw_okq q := List.forall_mem_cons.mpr ⟨lw_p0, List.forall_mem_cons.mpr ⟨lw_p1, List.forall_mem_cons.mpr ⟨lw_p2, List.forall_mem_cons.mpr ⟨lw_p3, List.forall_mem_cons.mpr ⟨lw_p4, List.forall_mem_cons.mpr ⟨lw_p5, List.forall_mem_cons.mpr ⟨lw_p6, List.forall_mem_cons.mpr ⟨lw_p7, List.forall_mem_cons.mpr ⟨lw_p8, List.forall_mem_cons.mpr ⟨lw_p9, List.forall_mem_cons.mpr ⟨lw_p10, List.forall_mem_cons.mpr ⟨lw_p11, List.forall_mem_cons.mpr ⟨lw_p12, List.forall_mem_cons.mpr ⟨lw_p13, List.forall_mem_cons.mpr ⟨lw_p14, List.forall_mem_cons.mpr ⟨lw_p15, fun _ h => absurd h List.not_mem_nil⟩⟩⟩⟩⟩⟩⟩⟩⟩⟩⟩⟩⟩⟩⟩⟩
theorem lw_p16 : lw_okq (⟨"LentYouthsModel", "cellsBarred", "(IIIJ)I"⟩, 30) := ⟨⟨by decide +kernel, by decide +kernel⟩, List.mem_of_getElem? (i := 499) (by decide +kernel), List.mem_of_getElem? (i := 612) (by decide +kernel), List.mem_of_getElem? (i := 613) (by decide +kernel)⟩
theorem lw_p17 : lw_okq (⟨"LentYouthsModel", "failed", "(I)I"⟩, 30) := ⟨⟨by decide +kernel, by decide +kernel⟩, List.mem_of_getElem? (i := 499) (by decide +kernel), List.mem_of_getElem? (i := 616) (by decide +kernel), List.mem_of_getElem? (i := 617) (by decide +kernel)⟩
theorem lw_p18 : lw_okq (⟨"LentYouthsModel", "readsCounter", "(II)Z"⟩, 30) := ⟨⟨by decide +kernel, by decide +kernel⟩, List.mem_of_getElem? (i := 499) (by decide +kernel), List.mem_of_getElem? (i := 623) (by decide +kernel), List.mem_of_getElem? (i := 624) (by decide +kernel)⟩
theorem lw_p19 : lw_okq (⟨"LentYouthsModel", "codeAt", "(II)I"⟩, 30) := ⟨⟨by decide +kernel, by decide +kernel⟩, List.mem_of_getElem? (i := 499) (by decide +kernel), List.mem_of_getElem? (i := 627) (by decide +kernel), List.mem_of_getElem? (i := 628) (by decide +kernel)⟩
theorem lw_p20 : lw_okq (⟨"LentYouthsModel", "readsPerson", "(II)Z"⟩, 30) := ⟨⟨by decide +kernel, by decide +kernel⟩, List.mem_of_getElem? (i := 499) (by decide +kernel), List.mem_of_getElem? (i := 631) (by decide +kernel), List.mem_of_getElem? (i := 632) (by decide +kernel)⟩
theorem lw_p21 : lw_okq (⟨"LentYouthsModel", "figure", "(IIII)I"⟩, 30) := ⟨⟨by decide +kernel, by decide +kernel⟩, List.mem_of_getElem? (i := 499) (by decide +kernel), List.mem_of_getElem? (i := 635) (by decide +kernel), List.mem_of_getElem? (i := 636) (by decide +kernel)⟩
theorem lw_p22 : lw_okq (⟨"LentYouthsModel", "noPerson", "(I)Z"⟩, 30) := ⟨⟨by decide +kernel, by decide +kernel⟩, List.mem_of_getElem? (i := 499) (by decide +kernel), List.mem_of_getElem? (i := 643) (by decide +kernel), List.mem_of_getElem? (i := 644) (by decide +kernel)⟩
theorem lw_p23 : lw_okq (⟨"LentYouthsModel", "lastsOf", "(I)I"⟩, 30) := ⟨⟨by decide +kernel, by decide +kernel⟩, List.mem_of_getElem? (i := 499) (by decide +kernel), List.mem_of_getElem? (i := 647) (by decide +kernel), List.mem_of_getElem? (i := 648) (by decide +kernel)⟩
theorem lw_p24 : lw_okq (⟨"LentYouthsModel", "pairsBarred", "(IIII)I"⟩, 30) := ⟨⟨by decide +kernel, by decide +kernel⟩, List.mem_of_getElem? (i := 499) (by decide +kernel), List.mem_of_getElem? (i := 671) (by decide +kernel), List.mem_of_getElem? (i := 672) (by decide +kernel)⟩
theorem lw_p25 : lw_okq (⟨"LentYouthsModel", "goLoans", "(II)V"⟩, 30) := ⟨⟨by decide +kernel, by decide +kernel⟩, List.mem_of_getElem? (i := 499) (by decide +kernel), List.mem_of_getElem? (i := 675) (by decide +kernel), List.mem_of_getElem? (i := 676) (by decide +kernel)⟩
theorem lw_p26 : lw_okq (⟨"LentYouthsModel", "begin", "()V"⟩, 30) := ⟨⟨by decide +kernel, by decide +kernel⟩, List.mem_of_getElem? (i := 499) (by decide +kernel), List.mem_of_getElem? (i := 679) (by decide +kernel), List.mem_of_getElem? (i := 680) (by decide +kernel)⟩
theorem lw_p27 : lw_okq (⟨"LentYouthsModel", "sees", "(I)V"⟩, 30) := ⟨⟨by decide +kernel, by decide +kernel⟩, List.mem_of_getElem? (i := 499) (by decide +kernel), List.mem_of_getElem? (i := 683) (by decide +kernel), List.mem_of_getElem? (i := 684) (by decide +kernel)⟩
theorem lw_p28 : lw_okq (⟨"LentYouthsModel", "mendedNow", "()I"⟩, 30) := ⟨⟨by decide +kernel, by decide +kernel⟩, List.mem_of_getElem? (i := 499) (by decide +kernel), List.mem_of_getElem? (i := 690) (by decide +kernel), List.mem_of_getElem? (i := 691) (by decide +kernel)⟩
theorem lw_p29 : lw_okq (⟨"LentYouthsModel", "isMended", "(I)Z"⟩, 30) := ⟨⟨by decide +kernel, by decide +kernel⟩, List.mem_of_getElem? (i := 499) (by decide +kernel), List.mem_of_getElem? (i := 694) (by decide +kernel), List.mem_of_getElem? (i := 695) (by decide +kernel)⟩
theorem lw_p30 : lw_okq (⟨"LentYouthsModel", "everybody", "()I"⟩, 30) := ⟨⟨by decide +kernel, by decide +kernel⟩, List.mem_of_getElem? (i := 499) (by decide +kernel), List.mem_of_getElem? (i := 698) (by decide +kernel), List.mem_of_getElem? (i := 699) (by decide +kernel)⟩
theorem lw_p31 : lw_okq (⟨"LentYouthsModel", "canLend", "(II)Z"⟩, 30) := ⟨⟨by decide +kernel, by decide +kernel⟩, List.mem_of_getElem? (i := 499) (by decide +kernel), List.mem_of_getElem? (i := 702) (by decide +kernel), List.mem_of_getElem? (i := 703) (by decide +kernel)⟩
def lw_privs_2 : List (MethodName × Nat) := [(⟨"LentYouthsModel", "cellsBarred", "(IIIJ)I"⟩, 30), (⟨"LentYouthsModel", "failed", "(I)I"⟩, 30), (⟨"LentYouthsModel", "readsCounter", "(II)Z"⟩, 30), (⟨"LentYouthsModel", "codeAt", "(II)I"⟩, 30), (⟨"LentYouthsModel", "readsPerson", "(II)Z"⟩, 30), (⟨"LentYouthsModel", "figure", "(IIII)I"⟩, 30), (⟨"LentYouthsModel", "noPerson", "(I)Z"⟩, 30), (⟨"LentYouthsModel", "lastsOf", "(I)I"⟩, 30), (⟨"LentYouthsModel", "pairsBarred", "(IIII)I"⟩, 30), (⟨"LentYouthsModel", "goLoans", "(II)V"⟩, 30), (⟨"LentYouthsModel", "begin", "()V"⟩, 30), (⟨"LentYouthsModel", "sees", "(I)V"⟩, 30), (⟨"LentYouthsModel", "mendedNow", "()I"⟩, 30), (⟨"LentYouthsModel", "isMended", "(I)Z"⟩, 30), (⟨"LentYouthsModel", "everybody", "()I"⟩, 30), (⟨"LentYouthsModel", "canLend", "(II)Z"⟩, 30)]
theorem lw_r2 : ∀ q ∈ lw_privs_2, lw_okq q := List.forall_mem_cons.mpr ⟨lw_p16, List.forall_mem_cons.mpr ⟨lw_p17, List.forall_mem_cons.mpr ⟨lw_p18, List.forall_mem_cons.mpr ⟨lw_p19, List.forall_mem_cons.mpr ⟨lw_p20, List.forall_mem_cons.mpr ⟨lw_p21, List.forall_mem_cons.mpr ⟨lw_p22, List.forall_mem_cons.mpr ⟨lw_p23, List.forall_mem_cons.mpr ⟨lw_p24, List.forall_mem_cons.mpr ⟨lw_p25, List.forall_mem_cons.mpr ⟨lw_p26, List.forall_mem_cons.mpr ⟨lw_p27, List.forall_mem_cons.mpr ⟨lw_p28, List.forall_mem_cons.mpr ⟨lw_p29, List.forall_mem_cons.mpr ⟨lw_p30, List.forall_mem_cons.mpr ⟨lw_p31, fun _ h => absurd h List.not_mem_nil⟩⟩⟩⟩⟩⟩⟩⟩⟩⟩⟩⟩⟩⟩⟩⟩
theorem lw_p32 : lw_okq (⟨"LentYouthsModel", "lend", "(II)V"⟩, 30) := ⟨⟨by decide +kernel, by decide +kernel⟩, List.mem_of_getElem? (i := 499) (by decide +kernel), List.mem_of_getElem? (i := 706) (by decide +kernel), List.mem_of_getElem? (i := 707) (by decide +kernel)⟩
theorem lw_p33 : lw_okq (⟨"LentYouthsModel", "wearsOff", "(I)V"⟩, 30) := ⟨⟨by decide +kernel, by decide +kernel⟩, List.mem_of_getElem? (i := 499) (by decide +kernel), List.mem_of_getElem? (i := 710) (by decide +kernel), List.mem_of_getElem? (i := 711) (by decide +kernel)⟩
theorem lw_p34 : lw_okq (⟨"LentYouthsModel", "homeBy", "()I"⟩, 30) := ⟨⟨by decide +kernel, by decide +kernel⟩, List.mem_of_getElem? (i := 499) (by decide +kernel), List.mem_of_getElem? (i := 714) (by decide +kernel), List.mem_of_getElem? (i := 715) (by decide +kernel)⟩
theorem lw_p35 : lw_okq (⟨"LentYouthsModel", "isRow", "(III)Z"⟩, 30) := ⟨⟨by decide +kernel, by decide +kernel⟩, List.mem_of_getElem? (i := 499) (by decide +kernel), List.mem_of_getElem? (i := 723) (by decide +kernel), List.mem_of_getElem? (i := 724) (by decide +kernel)⟩
theorem lw_p36 : lw_okq (⟨"LentYouthsModel", "matchBy", "(I)I"⟩, 30) := ⟨⟨by decide +kernel, by decide +kernel⟩, List.mem_of_getElem? (i := 499) (by decide +kernel), List.mem_of_getElem? (i := 731) (by decide +kernel), List.mem_of_getElem? (i := 732) (by decide +kernel)⟩
theorem lw_p37 : lw_okq (⟨"LentYouthsModel", "seenBarred", "(IIIIIZ)I"⟩, 30) := ⟨⟨by decide +kernel, by decide +kernel⟩, List.mem_of_getElem? (i := 499) (by decide +kernel), List.mem_of_getElem? (i := 752) (by decide +kernel), List.mem_of_getElem? (i := 753) (by decide +kernel)⟩
theorem lw_p38 : lw_okq (⟨"LentYouthsModel", "areSo", "(II)Z"⟩, 30) := ⟨⟨by decide +kernel, by decide +kernel⟩, List.mem_of_getElem? (i := 499) (by decide +kernel), List.mem_of_getElem? (i := 756) (by decide +kernel), List.mem_of_getElem? (i := 757) (by decide +kernel)⟩
theorem lw_p39 : lw_okq (⟨"LentYouthsModel", "noCell", "(II)I"⟩, 30) := ⟨⟨by decide +kernel, by decide +kernel⟩, List.mem_of_getElem? (i := 499) (by decide +kernel), List.mem_of_getElem? (i := 788) (by decide +kernel), List.mem_of_getElem? (i := 789) (by decide +kernel)⟩
theorem lw_p40 : lw_okq (⟨"LentYouthsModel", "failedLong", "(I)J"⟩, 30) := ⟨⟨by decide +kernel, by decide +kernel⟩, List.mem_of_getElem? (i := 499) (by decide +kernel), List.mem_of_getElem? (i := 796) (by decide +kernel), List.mem_of_getElem? (i := 797) (by decide +kernel)⟩
theorem lw_p41 : lw_okq (⟨"LentYouthsModel", "traced", "(I)V"⟩, 30) := ⟨⟨by decide +kernel, by decide +kernel⟩, List.mem_of_getElem? (i := 499) (by decide +kernel), List.mem_of_getElem? (i := 808) (by decide +kernel), List.mem_of_getElem? (i := 809) (by decide +kernel)⟩
def lw_privs_3 : List (MethodName × Nat) := [(⟨"LentYouthsModel", "lend", "(II)V"⟩, 30), (⟨"LentYouthsModel", "wearsOff", "(I)V"⟩, 30), (⟨"LentYouthsModel", "homeBy", "()I"⟩, 30), (⟨"LentYouthsModel", "isRow", "(III)Z"⟩, 30), (⟨"LentYouthsModel", "matchBy", "(I)I"⟩, 30), (⟨"LentYouthsModel", "seenBarred", "(IIIIIZ)I"⟩, 30), (⟨"LentYouthsModel", "areSo", "(II)Z"⟩, 30), (⟨"LentYouthsModel", "noCell", "(II)I"⟩, 30), (⟨"LentYouthsModel", "failedLong", "(I)J"⟩, 30), (⟨"LentYouthsModel", "traced", "(I)V"⟩, 30)]
theorem lw_r3 : ∀ q ∈ lw_privs_3, lw_okq q := List.forall_mem_cons.mpr ⟨lw_p32, List.forall_mem_cons.mpr ⟨lw_p33, List.forall_mem_cons.mpr ⟨lw_p34, List.forall_mem_cons.mpr ⟨lw_p35, List.forall_mem_cons.mpr ⟨lw_p36, List.forall_mem_cons.mpr ⟨lw_p37, List.forall_mem_cons.mpr ⟨lw_p38, List.forall_mem_cons.mpr ⟨lw_p39, List.forall_mem_cons.mpr ⟨lw_p40, List.forall_mem_cons.mpr ⟨lw_p41, fun _ h => absurd h List.not_mem_nil⟩⟩⟩⟩⟩⟩⟩⟩⟩⟩
def lw_privs : List (MethodName × Nat) := lw_privs_1 ++ (lw_privs_2 ++ (lw_privs_3))
def lw_tbl : List Cond := k2_sels lw_privs ++ tables_1
theorem lw_privs_ok : ∀ q ∈ lw_privs, lw_okq q := by
  show ∀ q ∈ lw_privs_1 ++ (lw_privs_2 ++ (lw_privs_3)), lw_okq q
  exact List.forall_mem_append.mpr ⟨lw_r1, List.forall_mem_append.mpr ⟨lw_r2, lw_r3⟩⟩
def RX0 : String := "LentYouths$Exchange"
def TX0 : u_T := fun k => match k with
  | 0 => ("LentYouths$Exchange", "left", "[I", true)
  | 1 => ("LentYouths$Exchange", "lasts", "[I", true)
  | 2 => ("LentYouths$Exchange", "lent", "[I", true)
  | 3 => ("LentYouths$Exchange", "holds", "[I", true)
  | 4 => ("LentYouths$Exchange", "knows", "[I", true)
  | 5 => ("LentYouths$Exchange", "shown", "[I", true)
  | 6 => ("LentYouths$Exchange", "persons", "[LLentYouths$Person;", false)
  | _ => ("LentYouths$Exchange", "people", "I", false)
def tyX0 : Nat → FieldType := fun k => match k with
  | 0 => .array .int
  | 1 => .array .int
  | 2 => .array .int
  | 3 => .array .int
  | 4 => .array .int
  | 5 => .array .int
  | 6 => .array (.object "LentYouths$Person")
  | _ => .int
abbrev wsX00 : List Cond := u_ws RX0 TX0 8
theorem nmX0 : ∀ a, a < 8 → ∀ b, b < 8 → a ≠ b → (TX0 a).2.1 ≠ (TX0 b).2.1 := by decide +kernel
theorem tyX0_ok : ∀ k, k < 8 → parseFieldDescriptor (TX0 k).2.2.1 = some (tyX0 k) := by decide +kernel
abbrev cX0_init : ByteArray := prog_2_method_1_code
def yX0_init : MethodName := ⟨RX0, "<init>", "()V"⟩
abbrev cX0_begin : ByteArray := prog_2_method_2_code
def yX0_begin : MethodName := ⟨RX0, "begin", "([LLentYouths$Person;I)V"⟩
abbrev cX0_place : ByteArray := prog_2_method_3_code
def yX0_place : MethodName := ⟨RX0, "place", "(III)V"⟩
abbrev cX0_becomeLike : ByteArray := prog_2_method_4_code
def yX0_becomeLike : MethodName := ⟨RX0, "becomeLike", "(LLentYouths$Exchange;)V"⟩
abbrev cX0_play : ByteArray := prog_2_method_5_code
def yX0_play : MethodName := ⟨RX0, "play", "([II)I"⟩
abbrev cX0_firstThatMendsAll : ByteArray := prog_2_method_6_code
def yX0_firstThatMendsAll : MethodName := ⟨RX0, "firstThatMendsAll", "([II)I"⟩
abbrev cX0_canLend : ByteArray := prog_2_method_7_code
def yX0_canLend : MethodName := ⟨RX0, "canLend", "(II)Z"⟩
abbrev cX0_lend : ByteArray := prog_2_method_8_code
def yX0_lend : MethodName := ⟨RX0, "lend", "(II)V"⟩
abbrev cX0_wearOff : ByteArray := prog_2_method_9_code
def yX0_wearOff : MethodName := ⟨RX0, "wearOff", "(I)V"⟩
abbrev cX0_show : ByteArray := prog_2_method_10_code
def yX0_show : MethodName := ⟨RX0, "show", "(I)V"⟩
abbrev cX0_childhoodsThatShowed : ByteArray := prog_2_method_11_code
def yX0_childhoodsThatShowed : MethodName := ⟨RX0, "childhoodsThatShowed", "(II)I"⟩
abbrev cX0_mended : ByteArray := prog_2_method_12_code
def yX0_mended : MethodName := ⟨RX0, "mended", "()I"⟩
abbrev cX0_loansHome : ByteArray := prog_2_method_13_code
def yX0_loansHome : MethodName := ⟨RX0, "loansHome", "()I"⟩
def RX1 : String := "LentYouths$FewestSearch"
def TX1 : u_T := fun k => match k with
  | 0 => ("LentYouths$FewestSearch", "behind", "[LLentYouths$Exchange;", true)
  | _ => ("LentYouths$FewestSearch", "found", "[I", true)
def tyX1 : Nat → FieldType := fun k => match k with
  | 0 => .array (.object "LentYouths$Exchange")
  | _ => .array .int
abbrev wsX10 : List Cond := u_ws RX1 TX1 2
theorem nmX1 : ∀ a, a < 2 → ∀ b, b < 2 → a ≠ b → (TX1 a).2.1 ≠ (TX1 b).2.1 := by decide +kernel
theorem tyX1_ok : ∀ k, k < 2 → parseFieldDescriptor (TX1 k).2.2.1 = some (tyX1 k) := by decide +kernel
abbrev cX1_init : ByteArray := prog_3_method_1_code
def yX1_init : MethodName := ⟨RX1, "<init>", "()V"⟩
abbrev cX1_find : ByteArray := prog_3_method_2_code
def yX1_find : MethodName := ⟨RX1, "find", "([LLentYouths$Person;II)I"⟩
abbrev cX1_loanAt : ByteArray := prog_3_method_3_code
def yX1_loanAt : MethodName := ⟨RX1, "loanAt", "(I)I"⟩
abbrev cX1_mends : ByteArray := prog_3_method_4_code
def yX1_mends : MethodName := ⟨RX1, "mends", "(LLentYouths$FewestSearch;III)Z"⟩
def RX2 : String := "LentYouths$Matching"
def TX2 : u_T := fun k => match k with
  | 0 => ("LentYouths$Matching", "most", "[I", true)
  | _ => ("LentYouths$Matching", "gets", "[I", true)
def tyX2 : Nat → FieldType := fun k => match k with
  | 0 => .array .int
  | _ => .array .int
abbrev wsX20 : List Cond := u_ws RX2 TX2 2
theorem nmX2 : ∀ a, a < 2 → ∀ b, b < 2 → a ≠ b → (TX2 a).2.1 ≠ (TX2 b).2.1 := by decide +kernel
theorem tyX2_ok : ∀ k, k < 2 → parseFieldDescriptor (TX2 k).2.2.1 = some (tyX2 k) := by decide +kernel
abbrev cX2_init : ByteArray := prog_4_method_1_code
def yX2_init : MethodName := ⟨RX2, "<init>", "()V"⟩
abbrev cX2_mostMended : ByteArray := prog_4_method_2_code
def yX2_mostMended : MethodName := ⟨RX2, "mostMended", "()I"⟩
abbrev cX2_make : ByteArray := prog_4_method_3_code
def yX2_make : MethodName := ⟨RX2, "make", "([LLentYouths$Person;I)V"⟩
abbrev cX2_mendedFrom : ByteArray := prog_4_method_4_code
def yX2_mendedFrom : MethodName := ⟨RX2, "mendedFrom", "([LLentYouths$Person;II)I"⟩
abbrev cX2_firstBest : ByteArray := prog_4_method_5_code
def yX2_firstBest : MethodName := ⟨RX2, "firstBest", "([LLentYouths$Person;II)I"⟩
def RX3 : String := "LentYouths$Person"
def TX3 : u_T := fun k => match k with
  | 0 => ("LentYouths$Person", "kind", "I", false)
  | 1 => ("LentYouths$Person", "scenes", "I", false)
  | 2 => ("LentYouths$Person", "wanted", "I", false)
  | _ => ("LentYouths$Person", "wear", "I", false)
def tyX3 : Nat → FieldType := fun k => match k with
  | 0 => .int
  | 1 => .int
  | 2 => .int
  | _ => .int
abbrev wsX30 : List Cond := u_ws RX3 TX3 4
theorem nmX3 : ∀ a, a < 4 → ∀ b, b < 4 → a ≠ b → (TX3 a).2.1 ≠ (TX3 b).2.1 := by decide +kernel
theorem tyX3_ok : ∀ k, k < 4 → parseFieldDescriptor (TX3 k).2.2.1 = some (tyX3 k) := by decide +kernel
abbrev cX3_init : ByteArray := prog_5_method_1_code
def yX3_init : MethodName := ⟨RX3, "<init>", "()V"⟩
abbrev cX3_readFrom : ByteArray := prog_5_method_2_code
def yX3_readFrom : MethodName := ⟨RX3, "readFrom", "(LLentYouths$Sheet;I)V"⟩
abbrev cX3_lasts : ByteArray := prog_5_method_3_code
def yX3_lasts : MethodName := ⟨RX3, "lasts", "()I"⟩
abbrev cX3_wantedSet : ByteArray := prog_5_method_4_code
def yX3_wantedSet : MethodName := ⟨RX3, "wantedSet", "()I"⟩
abbrev cX3_isMendedBy : ByteArray := prog_5_method_5_code
def yX3_isMendedBy : MethodName := ⟨RX3, "isMendedBy", "(I)Z"⟩
def RX4 : String := "LentYouths$Readings"
def TX4 : u_T := fun k => match k with
  | 0 => ("LentYouths$Readings", "who", "[I", true)
  | 1 => ("LentYouths$Readings", "scene", "[I", true)
  | 2 => ("LentYouths$Readings", "knew", "[Z", true)
  | _ => ("LentYouths$Readings", "count", "I", false)
def tyX4 : Nat → FieldType := fun k => match k with
  | 0 => .array .int
  | 1 => .array .int
  | 2 => .array .boolean
  | _ => .int
abbrev wsX40 : List Cond := u_ws RX4 TX4 4
theorem nmX4 : ∀ a, a < 4 → ∀ b, b < 4 → a ≠ b → (TX4 a).2.1 ≠ (TX4 b).2.1 := by decide +kernel
theorem tyX4_ok : ∀ k, k < 4 → parseFieldDescriptor (TX4 k).2.2.1 = some (tyX4 k) := by decide +kernel
abbrev cX4_init : ByteArray := prog_6_method_1_code
def yX4_init : MethodName := ⟨RX4, "<init>", "()V"⟩
abbrev cX4_add : ByteArray := prog_6_method_2_code
def yX4_add : MethodName := ⟨RX4, "add", "(IIZ)Z"⟩
abbrev cX4_areSoIn : ByteArray := prog_6_method_3_code
def yX4_areSoIn : MethodName := ⟨RX4, "areSoIn", "(LLentYouths$Exchange;)Z"⟩
def RX5 : String := "LentYouths$Sheet"
def TX5 : u_T := fun k => match k with
  | 0 => ("LentYouths$Sheet", "cells", "[I", true)
  | 1 => ("LentYouths$Sheet", "present", "Z", false)
  | 2 => ("LentYouths$Sheet", "lane", "I", false)
  | _ => ("LentYouths$Sheet", "count", "I", false)
def tyX5 : Nat → FieldType := fun k => match k with
  | 0 => .array .int
  | 1 => .boolean
  | 2 => .int
  | _ => .int
abbrev wsX50 : List Cond := u_ws RX5 TX5 4
theorem nmX5 : ∀ a, a < 4 → ∀ b, b < 4 → a ≠ b → (TX5 a).2.1 ≠ (TX5 b).2.1 := by decide +kernel
theorem tyX5_ok : ∀ k, k < 4 → parseFieldDescriptor (TX5 k).2.2.1 = some (tyX5 k) := by decide +kernel
abbrev cX5_init : ByteArray := prog_7_method_1_code
def yX5_init : MethodName := ⟨RX5, "<init>", "()V"⟩
abbrev cX5_renew : ByteArray := prog_7_method_2_code
def yX5_renew : MethodName := ⟨RX5, "renew", "(II)V"⟩
abbrev cX5_faultOfCells : ByteArray := prog_7_method_3_code
def yX5_faultOfCells : MethodName := ⟨RX5, "faultOfCells", "(III)I"⟩
abbrev cX5_hasCells : ByteArray := prog_7_method_4_code
def yX5_hasCells : MethodName := ⟨RX5, "hasCells", "(II)Z"⟩
def RX6 : String := "LentYouths"
def TX6 : u_T := fun k => match k with
  | 0 => ("LentYouths", "sheets", "[LLentYouths$Sheet;", true)
  | 1 => ("LentYouths", "persons", "[LLentYouths$Person;", true)
  | 2 => ("LentYouths", "readings", "LLentYouths$Readings;", true)
  | 3 => ("LentYouths", "exchange", "LLentYouths$Exchange;", true)
  | 4 => ("LentYouths", "search", "LLentYouths$FewestSearch;", true)
  | 5 => ("LentYouths", "matching", "LLentYouths$Matching;", true)
  | 6 => ("LentYouths", "row", "[I", true)
  | 7 => ("LentYouths", "people", "I", false)
  | 8 => ("LentYouths", "traced", "I", false)
  | _ => ("LentYouths", "latestFault", "I", false)
def tyX6 : Nat → FieldType := fun k => match k with
  | 0 => .array (.object "LentYouths$Sheet")
  | 1 => .array (.object "LentYouths$Person")
  | 2 => .object "LentYouths$Readings"
  | 3 => .object "LentYouths$Exchange"
  | 4 => .object "LentYouths$FewestSearch"
  | 5 => .object "LentYouths$Matching"
  | 6 => .array .int
  | 7 => .int
  | 8 => .int
  | _ => .int
abbrev wsX60 : List Cond := u_ws RX6 TX6 10
theorem nmX6 : ∀ a, a < 10 → ∀ b, b < 10 → a ≠ b → (TX6 a).2.1 ≠ (TX6 b).2.1 := by decide +kernel
theorem tyX6_ok : ∀ k, k < 10 → parseFieldDescriptor (TX6 k).2.2.1 = some (tyX6 k) := by decide +kernel
abbrev cX6_init : ByteArray := prog_1_method_1_code
def yX6_init : MethodName := ⟨RX6, "<init>", "()V"⟩
abbrev cX6_counter : ByteArray := prog_1_method_2_code
def yX6_counter : MethodName := ⟨RX6, "counter", "(IIII)I"⟩
abbrev cX6_ofPerson : ByteArray := prog_1_method_3_code
def yX6_ofPerson : MethodName := ⟨RX6, "ofPerson", "(II)I"⟩
abbrev cX6_live : ByteArray := prog_1_method_4_code
def yX6_live : MethodName := ⟨RX6, "live", "(II)I"⟩
abbrev cX6_want : ByteArray := prog_1_method_5_code
def yX6_want : MethodName := ⟨RX6, "want", "(II)I"⟩
abbrev cX6_loans : ByteArray := prog_1_method_6_code
def yX6_loans : MethodName := ⟨RX6, "loans", "(IIIII)I"⟩
abbrev cX6_answerOfLoans : ByteArray := prog_1_method_7_code
def yX6_answerOfLoans : MethodName := ⟨RX6, "answerOfLoans", "(II)I"⟩
abbrev cX6_answerOfOne : ByteArray := prog_1_method_8_code
def yX6_answerOfOne : MethodName := ⟨RX6, "answerOfOne", "(II)I"⟩
abbrev cX6_fewest : ByteArray := prog_1_method_9_code
def yX6_fewest : MethodName := ⟨RX6, "fewest", "(II)I"⟩
abbrev cX6_match : ByteArray := prog_1_method_10_code
def yX6_match : MethodName := ⟨RX6, "match", "(I)I"⟩
abbrev cX6_help : ByteArray := prog_1_method_11_code
def yX6_help : MethodName := ⟨RX6, "help", "(I)I"⟩
abbrev cX6_reading : ByteArray := prog_1_method_12_code
def yX6_reading : MethodName := ⟨RX6, "reading", "(IIZ)I"⟩
abbrev cX6_back : ByteArray := prog_1_method_13_code
def yX6_back : MethodName := ⟨RX6, "back", "(I)I"⟩
abbrev cX6_told : ByteArray := prog_1_method_14_code
def yX6_told : MethodName := ⟨RX6, "told", "(IIIIII)I"⟩
abbrev cX6_kinds : ByteArray := prog_1_method_15_code
def yX6_kinds : MethodName := ⟨RX6, "kinds", "(IIIII)I"⟩
abbrev cX6_wears : ByteArray := prog_1_method_16_code
def yX6_wears : MethodName := ⟨RX6, "wears", "(IIIII)I"⟩
abbrev cX6_odds : ByteArray := prog_1_method_17_code
def yX6_odds : MethodName := ⟨RX6, "odds", "(IIIIII)J"⟩
abbrev cX6_couldBe : ByteArray := prog_1_method_18_code
def yX6_couldBe : MethodName := ⟨RX6, "couldBe", "(IIII)Z"⟩
abbrev cX6_refusalOfReadLoans : ByteArray := prog_1_method_19_code
def yX6_refusalOfReadLoans : MethodName := ⟨RX6, "refusalOfReadLoans", "(IIIIII)I"⟩
abbrev cX6_sheet : ByteArray := prog_1_method_20_code
def yX6_sheet : MethodName := ⟨RX6, "sheet", "(III)I"⟩
abbrev cX6_lose : ByteArray := prog_1_method_21_code
def yX6_lose : MethodName := ⟨RX6, "lose", "(I)I"⟩
abbrev cX6_put : ByteArray := prog_1_method_22_code
def yX6_put : MethodName := ⟨RX6, "put", "(III)I"⟩
abbrev cX6_cell : ByteArray := prog_1_method_23_code
def yX6_cell : MethodName := ⟨RX6, "cell", "(III)J"⟩
abbrev cX6_copy : ByteArray := prog_1_method_24_code
def yX6_copy : MethodName := ⟨RX6, "copy", "(IIIII)I"⟩
abbrev cX6_tell : ByteArray := prog_1_method_25_code
def yX6_tell : MethodName := ⟨RX6, "tell", "(I)I"⟩
abbrev cX6_hand : ByteArray := prog_1_method_26_code
def yX6_hand : MethodName := ⟨RX6, "hand", "(I)I"⟩
abbrev cX6_as : ByteArray := prog_1_method_27_code
def yX6_as : MethodName := ⟨RX6, "as", "(II)I"⟩
abbrev cX6_trace : ByteArray := prog_1_method_28_code
def yX6_trace : MethodName := ⟨RX6, "trace", "()I"⟩
abbrev cX6_fault : ByteArray := prog_1_method_29_code
def yX6_fault : MethodName := ⟨RX6, "fault", "()I"⟩
abbrev cX6_many : ByteArray := prog_1_method_30_code
def yX6_many : MethodName := ⟨RX6, "many", "(I)I"⟩
abbrev cX6_tellingOfChildhood : ByteArray := prog_1_method_31_code
def yX6_tellingOfChildhood : MethodName := ⟨RX6, "tellingOfChildhood", "(LLentYouths$Person;)I"⟩
abbrev cX6_tellingOfSad : ByteArray := prog_1_method_32_code
def yX6_tellingOfSad : MethodName := ⟨RX6, "tellingOfSad", "(LLentYouths$Person;)I"⟩
abbrev cX6_tellingOfTwin : ByteArray := prog_1_method_33_code
def yX6_tellingOfTwin : MethodName := ⟨RX6, "tellingOfTwin", "(LLentYouths$Person;)I"⟩
abbrev cX6_leaveInTrace : ByteArray := prog_1_method_34_code
def yX6_leaveInTrace : MethodName := ⟨RX6, "leaveInTrace", "(I)V"⟩
abbrev cX6_faultAnswer : ByteArray := prog_1_method_35_code
def yX6_faultAnswer : MethodName := ⟨RX6, "faultAnswer", "(I)I"⟩
abbrev cX6_takeRow : ByteArray := prog_1_method_36_code
def yX6_takeRow : MethodName := ⟨RX6, "takeRow", "(IIII)I"⟩
abbrev cX6_isPerson : ByteArray := prog_1_method_37_code
def yX6_isPerson : MethodName := ⟨RX6, "isPerson", "(I)Z"⟩
abbrev cX6_isSheet : ByteArray := prog_1_method_38_code
def yX6_isSheet : MethodName := ⟨RX6, "isSheet", "(I)Z"⟩
abbrev cX6_isLane : ByteArray := prog_1_method_39_code
def yX6_isLane : MethodName := ⟨RX6, "isLane", "(I)Z"⟩
abbrev cX6_isLoanCount : ByteArray := prog_1_method_40_code
def yX6_isLoanCount : MethodName := ⟨RX6, "isLoanCount", "(I)Z"⟩
abbrev cX6_isLoanQuestion : ByteArray := prog_1_method_41_code
def yX6_isLoanQuestion : MethodName := ⟨RX6, "isLoanQuestion", "(I)Z"⟩
abbrev cX6_lastsOf : ByteArray := prog_1_method_42_code
def yX6_lastsOf : MethodName := ⟨RX6, "lastsOf", "(II)I"⟩
abbrev cX6_cutToLane : ByteArray := prog_1_method_43_code
def yX6_cutToLane : MethodName := ⟨RX6, "cutToLane", "(II)I"⟩
abbrev cX6_firstFaultOfText : ByteArray := prog_1_method_44_code
def yX6_firstFaultOfText : MethodName := ⟨RX6, "firstFaultOfText", "(LLentYouths$Sheet;II)I"⟩
abbrev cX6_textGoesOn : ByteArray := prog_1_method_45_code
def yX6_textGoesOn : MethodName := ⟨RX6, "textGoesOn", "(III)Z"⟩
def RX7 : String := "LentYouthsModel"
def TX7 : u_T := fun k => match k with
  | 0 => ("LentYouthsModel", "fault", "I", false)
  | 1 => ("LentYouthsModel", "people", "I", false)
  | 2 => ("LentYouthsModel", "kindOf", "[I", true)
  | 3 => ("LentYouthsModel", "scenesOf", "[I", true)
  | 4 => ("LentYouthsModel", "wantsOf", "[I", true)
  | 5 => ("LentYouthsModel", "wearOf", "[I", true)
  | 6 => ("LentYouthsModel", "readAt", "I", false)
  | 7 => ("LentYouthsModel", "readPeople", "I", false)
  | 8 => ("LentYouthsModel", "readKind", "[I", true)
  | 9 => ("LentYouthsModel", "readScenes", "[I", true)
  | 10 => ("LentYouthsModel", "readWants", "[I", true)
  | 11 => ("LentYouthsModel", "readWear", "[I", true)
  | 12 => ("LentYouthsModel", "hasNow", "[I", true)
  | 13 => ("LentYouthsModel", "leftIn", "[I", true)
  | 14 => ("LentYouthsModel", "lentOf", "[I", true)
  | 15 => ("LentYouthsModel", "knowsNow", "[I", true)
  | 16 => ("LentYouthsModel", "cameBy", "[I", true)
  | 17 => ("LentYouthsModel", "firstWrong", "I", false)
  | 18 => ("LentYouthsModel", "firstAll", "I", false)
  | 19 => ("LentYouthsModel", "triedOf", "[I", true)
  | 20 => ("LentYouthsModel", "getsOf", "[I", true)
  | 21 => ("LentYouthsModel", "readings", "I", false)
  | 22 => ("LentYouthsModel", "readingOf", "[I", true)
  | 23 => ("LentYouthsModel", "readingScene", "[I", true)
  | 24 => ("LentYouthsModel", "readingKnew", "[Z", true)
  | 25 => ("LentYouthsModel", "sheetSize", "[I", true)
  | 26 => ("LentYouthsModel", "sheetLane", "[I", true)
  | 27 => ("LentYouthsModel", "sheet", "[I", true)
  | 28 => ("LentYouthsModel", "hands", "[I", true)
  | _ => ("LentYouthsModel", "traceNow", "I", false)
def tyX7 : Nat → FieldType := fun k => match k with
  | 0 => .int
  | 1 => .int
  | 2 => .array .int
  | 3 => .array .int
  | 4 => .array .int
  | 5 => .array .int
  | 6 => .int
  | 7 => .int
  | 8 => .array .int
  | 9 => .array .int
  | 10 => .array .int
  | 11 => .array .int
  | 12 => .array .int
  | 13 => .array .int
  | 14 => .array .int
  | 15 => .array .int
  | 16 => .array .int
  | 17 => .int
  | 18 => .int
  | 19 => .array .int
  | 20 => .array .int
  | 21 => .int
  | 22 => .array .int
  | 23 => .array .int
  | 24 => .array .boolean
  | 25 => .array .int
  | 26 => .array .int
  | 27 => .array .int
  | 28 => .array .int
  | _ => .int
abbrev wsX70 : List Cond := u_ws RX7 TX7 30
theorem nmX7 : ∀ a, a < 30 → ∀ b, b < 30 → a ≠ b → (TX7 a).2.1 ≠ (TX7 b).2.1 := by decide +kernel
theorem tyX7_ok : ∀ k, k < 30 → parseFieldDescriptor (TX7 k).2.2.1 = some (tyX7 k) := by decide +kernel
abbrev cX7_init : ByteArray := prog_9_method_1_code
def yX7_init : MethodName := ⟨RX7, "<init>", "()V"⟩
abbrev cX7_in : ByteArray := prog_9_method_2_code
def yX7_in : MethodName := ⟨RX7, "in", "(JJJ)Z"⟩
abbrev cX7_lost : ByteArray := prog_9_method_3_code
def yX7_lost : MethodName := ⟨RX7, "lost", "()J"⟩
abbrev cX7_isIn : ByteArray := prog_9_method_4_code
def yX7_isIn : MethodName := ⟨RX7, "isIn", "(II)Z"⟩
abbrev cX7_refused : ByteArray := prog_9_method_5_code
def yX7_refused : MethodName := ⟨RX7, "refused", "(I)I"⟩
abbrev cX7_failed : ByteArray := prog_9_method_6_code
def yX7_failed : MethodName := ⟨RX7, "failed", "(I)I"⟩
abbrev cX7_failedLong : ByteArray := prog_9_method_7_code
def yX7_failedLong : MethodName := ⟨RX7, "failedLong", "(I)J"⟩
abbrev cX7_noPerson : ByteArray := prog_9_method_8_code
def yX7_noPerson : MethodName := ⟨RX7, "noPerson", "(I)Z"⟩
abbrev cX7_codeAt : ByteArray := prog_9_method_9_code
def yX7_codeAt : MethodName := ⟨RX7, "codeAt", "(II)I"⟩
abbrev cX7_figure : ByteArray := prog_9_method_10_code
def yX7_figure : MethodName := ⟨RX7, "figure", "(IIII)I"⟩
abbrev cX7_readsPerson : ByteArray := prog_9_method_11_code
def yX7_readsPerson : MethodName := ⟨RX7, "readsPerson", "(II)Z"⟩
abbrev cX7_readsCounter : ByteArray := prog_9_method_12_code
def yX7_readsCounter : MethodName := ⟨RX7, "readsCounter", "(II)Z"⟩
abbrev cX7_cellsBarred : ByteArray := prog_9_method_13_code
def yX7_cellsBarred : MethodName := ⟨RX7, "cellsBarred", "(IIIJ)I"⟩
abbrev cX7_counter : ByteArray := prog_9_method_14_code
def yX7_counter : MethodName := ⟨RX7, "counter", "(IIII)I"⟩
abbrev cX7_lastsOf : ByteArray := prog_9_method_15_code
def yX7_lastsOf : MethodName := ⟨RX7, "lastsOf", "(I)I"⟩
abbrev cX7_ofPerson : ByteArray := prog_9_method_16_code
def yX7_ofPerson : MethodName := ⟨RX7, "ofPerson", "(II)I"⟩
abbrev cX7_live : ByteArray := prog_9_method_17_code
def yX7_live : MethodName := ⟨RX7, "live", "(II)I"⟩
abbrev cX7_want : ByteArray := prog_9_method_18_code
def yX7_want : MethodName := ⟨RX7, "want", "(II)I"⟩
abbrev cX7_isMended : ByteArray := prog_9_method_19_code
def yX7_isMended : MethodName := ⟨RX7, "isMended", "(I)Z"⟩
abbrev cX7_mendedNow : ByteArray := prog_9_method_20_code
def yX7_mendedNow : MethodName := ⟨RX7, "mendedNow", "()I"⟩
abbrev cX7_everybody : ByteArray := prog_9_method_21_code
def yX7_everybody : MethodName := ⟨RX7, "everybody", "()I"⟩
abbrev cX7_sees : ByteArray := prog_9_method_22_code
def yX7_sees : MethodName := ⟨RX7, "sees", "(I)V"⟩
abbrev cX7_begin : ByteArray := prog_9_method_23_code
def yX7_begin : MethodName := ⟨RX7, "begin", "()V"⟩
abbrev cX7_canLend : ByteArray := prog_9_method_24_code
def yX7_canLend : MethodName := ⟨RX7, "canLend", "(II)Z"⟩
abbrev cX7_wearsOff : ByteArray := prog_9_method_25_code
def yX7_wearsOff : MethodName := ⟨RX7, "wearsOff", "(I)V"⟩
abbrev cX7_lend : ByteArray := prog_9_method_26_code
def yX7_lend : MethodName := ⟨RX7, "lend", "(II)V"⟩
abbrev cX7_goLoans : ByteArray := prog_9_method_27_code
def yX7_goLoans : MethodName := ⟨RX7, "goLoans", "(II)V"⟩
abbrev cX7_homeBy : ByteArray := prog_9_method_28_code
def yX7_homeBy : MethodName := ⟨RX7, "homeBy", "()I"⟩
abbrev cX7_pairsBarred : ByteArray := prog_9_method_29_code
def yX7_pairsBarred : MethodName := ⟨RX7, "pairsBarred", "(IIII)I"⟩
abbrev cX7_loans : ByteArray := prog_9_method_30_code
def yX7_loans : MethodName := ⟨RX7, "loans", "(IIIII)I"⟩
abbrev cX7_isRow : ByteArray := prog_9_method_31_code
def yX7_isRow : MethodName := ⟨RX7, "isRow", "(III)Z"⟩
abbrev cX7_fewest : ByteArray := prog_9_method_32_code
def yX7_fewest : MethodName := ⟨RX7, "fewest", "(II)I"⟩
abbrev cX7_matchBy : ByteArray := prog_9_method_33_code
def yX7_matchBy : MethodName := ⟨RX7, "matchBy", "(I)I"⟩
abbrev cX7_match : ByteArray := prog_9_method_34_code
def yX7_match : MethodName := ⟨RX7, "match", "(I)I"⟩
abbrev cX7_help : ByteArray := prog_9_method_35_code
def yX7_help : MethodName := ⟨RX7, "help", "(I)I"⟩
abbrev cX7_reading : ByteArray := prog_9_method_36_code
def yX7_reading : MethodName := ⟨RX7, "reading", "(IIZ)I"⟩
abbrev cX7_back : ByteArray := prog_9_method_37_code
def yX7_back : MethodName := ⟨RX7, "back", "(I)I"⟩
abbrev cX7_areSo : ByteArray := prog_9_method_38_code
def yX7_areSo : MethodName := ⟨RX7, "areSo", "(II)Z"⟩
abbrev cX7_seenBarred : ByteArray := prog_9_method_39_code
def yX7_seenBarred : MethodName := ⟨RX7, "seenBarred", "(IIIIIZ)I"⟩
abbrev cX7_told : ByteArray := prog_9_method_40_code
def yX7_told : MethodName := ⟨RX7, "told", "(IIIIII)I"⟩
abbrev cX7_kinds : ByteArray := prog_9_method_41_code
def yX7_kinds : MethodName := ⟨RX7, "kinds", "(IIIII)I"⟩
abbrev cX7_wears : ByteArray := prog_9_method_42_code
def yX7_wears : MethodName := ⟨RX7, "wears", "(IIIII)I"⟩
abbrev cX7_odds : ByteArray := prog_9_method_43_code
def yX7_odds : MethodName := ⟨RX7, "odds", "(IIIIII)J"⟩
abbrev cX7_noSheet : ByteArray := prog_9_method_44_code
def yX7_noSheet : MethodName := ⟨RX7, "noSheet", "(I)Z"⟩
abbrev cX7_sheet : ByteArray := prog_9_method_45_code
def yX7_sheet : MethodName := ⟨RX7, "sheet", "(III)I"⟩
abbrev cX7_lose : ByteArray := prog_9_method_46_code
def yX7_lose : MethodName := ⟨RX7, "lose", "(I)I"⟩
abbrev cX7_noCell : ByteArray := prog_9_method_47_code
def yX7_noCell : MethodName := ⟨RX7, "noCell", "(II)I"⟩
abbrev cX7_put : ByteArray := prog_9_method_48_code
def yX7_put : MethodName := ⟨RX7, "put", "(III)I"⟩
abbrev cX7_cell : ByteArray := prog_9_method_49_code
def yX7_cell : MethodName := ⟨RX7, "cell", "(III)J"⟩
abbrev cX7_isBeyond : ByteArray := prog_9_method_50_code
def yX7_isBeyond : MethodName := ⟨RX7, "isBeyond", "(IJI)Z"⟩
abbrev cX7_copy : ByteArray := prog_9_method_51_code
def yX7_copy : MethodName := ⟨RX7, "copy", "(IIIII)I"⟩
abbrev cX7_traced : ByteArray := prog_9_method_52_code
def yX7_traced : MethodName := ⟨RX7, "traced", "(I)V"⟩
abbrev cX7_tell : ByteArray := prog_9_method_53_code
def yX7_tell : MethodName := ⟨RX7, "tell", "(I)I"⟩
abbrev cX7_hand : ByteArray := prog_9_method_54_code
def yX7_hand : MethodName := ⟨RX7, "hand", "(I)I"⟩
abbrev cX7_as : ByteArray := prog_9_method_55_code
def yX7_as : MethodName := ⟨RX7, "as", "(II)I"⟩
abbrev cX7_trace : ByteArray := prog_9_method_56_code
def yX7_trace : MethodName := ⟨RX7, "trace", "()I"⟩
abbrev cX7_fault : ByteArray := prog_9_method_57_code
def yX7_fault : MethodName := ⟨RX7, "fault", "()I"⟩
abbrev cX7_many : ByteArray := prog_9_method_58_code
def yX7_many : MethodName := ⟨RX7, "many", "(I)I"⟩
def RJ6 : String := "java/lang/Integer"
def TJ6 : u_T := fun k => match k with
  | _ => ("", "", "", false)
def tyJ6 : Nat → FieldType := fun k => match k with
  | _ => .int
abbrev wsJ60 : List Cond := u_ws RJ6 TJ6 0
theorem nmJ6 : ∀ a, a < 0 → ∀ b, b < 0 → a ≠ b → (TJ6 a).2.1 ≠ (TJ6 b).2.1 := by decide +kernel
theorem tyJ6_ok : ∀ k, k < 0 → parseFieldDescriptor (TJ6 k).2.2.1 = some (tyJ6 k) := by decide +kernel
abbrev cJ6_bitCount_0f7a4 : ByteArray := prog_10_method_49_code
def yJ6_bitCount_0f7a4 : MethodName := ⟨RJ6, "bitCount", "(I)I"⟩
def RJ9 : String := "java/lang/Math"
def TJ9 : u_T := fun k => match k with
  | _ => ("", "", "", false)
def tyJ9 : Nat → FieldType := fun k => match k with
  | _ => .int
abbrev wsJ90 : List Cond := u_ws RJ9 TJ9 0
theorem nmJ9 : ∀ a, a < 0 → ∀ b, b < 0 → a ≠ b → (TJ9 a).2.1 ≠ (TJ9 b).2.1 := by decide +kernel
theorem tyJ9_ok : ∀ k, k < 0 → parseFieldDescriptor (TJ9 k).2.2.1 = some (tyJ9 k) := by decide +kernel
abbrev cJ9_max_7cf53 : ByteArray := prog_11_method_65_code
def yJ9_max_7cf53 : MethodName := ⟨RJ9, "max", "(II)I"⟩
abbrev cJ9_min_7cf53 : ByteArray := prog_11_method_69_code
def yJ9_min_7cf53 : MethodName := ⟨RJ9, "min", "(II)I"⟩
def RJ10 : String := "java/lang/System"
def TJ10 : u_T := fun k => match k with
  | _ => ("", "", "", false)
def tyJ10 : Nat → FieldType := fun k => match k with
  | _ => .int
abbrev wsJ100 : List Cond := u_ws RJ10 TJ10 0
theorem nmJ10 : ∀ a, a < 0 → ∀ b, b < 0 → a ≠ b → (TJ10 a).2.1 ≠ (TJ10 b).2.1 := by decide +kernel
theorem tyJ10_ok : ∀ k, k < 0 → parseFieldDescriptor (TJ10 k).2.2.1 = some (tyJ10 k) := by decide +kernel
def RL : String := "LentYouthsLaw"
abbrev cL_law : ByteArray := code
def yL_law : MethodName := ⟨RL, "law", "([I)Z"⟩
abbrev vwCl : List vw_C := [(RX0, TX0, 8), (RX1, TX1, 2), (RX2, TX2, 2), (RX3, TX3, 4), (RX4, TX4, 4), (RX5, TX5, 4), (RX6, TX6, 10), (RX7, TX7, 30)]
