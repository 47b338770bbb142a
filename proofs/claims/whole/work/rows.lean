section
-- ===== PART A: goes FIRST, ahead of the names: the tables' words, and 'selects' of the private methods out of them =====
/-- a private method of a class that the tables say can be made, by its rows of tables_1 -/
def lw_okq (q : MethodName × Nat) : Prop := (q.1.cls ≠ "java/lang/invoke/MethodHandle" ∧ q.1.cls ≠ "java/lang/invoke/VarHandle") ∧ Cond.instantiable q.1.cls q.2 ∈ tables_1 ∧ Cond.privateMethod q.1 ∈ tables_1 ∧ Cond.instanceMethod q.1 ∈ tables_1
theorem lw_p0 : lw_okq (⟨"WeighingDesign", "settingOf", "(I)I"⟩, 5) := ⟨⟨by decide +kernel, by decide +kernel⟩, List.mem_of_getElem? (i := 11) (by decide +kernel), List.mem_of_getElem? (i := 194) (by decide +kernel), List.mem_of_getElem? (i := 195) (by decide +kernel)⟩
theorem lw_p1 : lw_okq (⟨"WeighingDesign$History", "dropOldest", "()V"⟩, 2) := ⟨⟨by decide +kernel, by decide +kernel⟩, List.mem_of_getElem? (i := 61) (by decide +kernel), List.mem_of_getElem? (i := 202) (by decide +kernel), List.mem_of_getElem? (i := 203) (by decide +kernel)⟩
theorem lw_p2 : lw_okq (⟨"WeighingDesign$Design", "copyRow", "(LWeighingDesign$Design;II)V"⟩, 8) := ⟨⟨by decide +kernel, by decide +kernel⟩, List.mem_of_getElem? (i := 19) (by decide +kernel), List.mem_of_getElem? (i := 210) (by decide +kernel), List.mem_of_getElem? (i := 211) (by decide +kernel)⟩
theorem lw_p3 : lw_okq (⟨"WeighingDesign$Solver", "gather", "(LWeighingDesign$Design;)V"⟩, 6) := ⟨⟨by decide +kernel, by decide +kernel⟩, List.mem_of_getElem? (i := 135) (by decide +kernel), List.mem_of_getElem? (i := 285) (by decide +kernel), List.mem_of_getElem? (i := 286) (by decide +kernel)⟩
theorem lw_p4 : lw_okq (⟨"WeighingDesign$Solver", "weigh", "(LWeighingDesign$Design;III)V"⟩, 6) := ⟨⟨by decide +kernel, by decide +kernel⟩, List.mem_of_getElem? (i := 135) (by decide +kernel), List.mem_of_getElem? (i := 301) (by decide +kernel), List.mem_of_getElem? (i := 302) (by decide +kernel)⟩
theorem lw_p5 : lw_okq (⟨"WeighingDesign$Solver", "isRegular", "()Z"⟩, 6) := ⟨⟨by decide +kernel, by decide +kernel⟩, List.mem_of_getElem? (i := 135) (by decide +kernel), List.mem_of_getElem? (i := 314) (by decide +kernel), List.mem_of_getElem? (i := 315) (by decide +kernel)⟩
theorem lw_p6 : lw_okq (⟨"WeighingDesign$Solver", "determinantWith", "(I)J"⟩, 6) := ⟨⟨by decide +kernel, by decide +kernel⟩, List.mem_of_getElem? (i := 135) (by decide +kernel), List.mem_of_getElem? (i := 318) (by decide +kernel), List.mem_of_getElem? (i := 319) (by decide +kernel)⟩
theorem lw_p7 : lw_okq (⟨"WeighingDesign$Solver", "minorOf", "(II)J"⟩, 6) := ⟨⟨by decide +kernel, by decide +kernel⟩, List.mem_of_getElem? (i := 135) (by decide +kernel), List.mem_of_getElem? (i := 322) (by decide +kernel), List.mem_of_getElem? (i := 323) (by decide +kernel)⟩
theorem lw_p8 : lw_okq (⟨"WeighingDesign$Solver", "breaksWithout", "(LWeighingDesign$Design;I)Z"⟩, 6) := ⟨⟨by decide +kernel, by decide +kernel⟩, List.mem_of_getElem? (i := 135) (by decide +kernel), List.mem_of_getElem? (i := 332) (by decide +kernel), List.mem_of_getElem? (i := 333) (by decide +kernel)⟩
theorem lw_p9 : lw_okq (⟨"WeighingDesign$Design", "oneLinkOn", "(I)I"⟩, 8) := ⟨⟨by decide +kernel, by decide +kernel⟩, List.mem_of_getElem? (i := 19) (by decide +kernel), List.mem_of_getElem? (i := 383) (by decide +kernel), List.mem_of_getElem? (i := 384) (by decide +kernel)⟩
theorem lw_p10 : lw_okq (⟨"WeighingDesign$Solver", "solveGathered", "()Z"⟩, 6) := ⟨⟨by decide +kernel, by decide +kernel⟩, List.mem_of_getElem? (i := 135) (by decide +kernel), List.mem_of_getElem? (i := 415) (by decide +kernel), List.mem_of_getElem? (i := 416) (by decide +kernel)⟩
theorem lw_p11 : lw_okq (⟨"WeighingDesign$Trial", "enterRow", "(LWeighingDesign$Text;)I"⟩, 4) := ⟨⟨by decide +kernel, by decide +kernel⟩, List.mem_of_getElem? (i := 110) (by decide +kernel), List.mem_of_getElem? (i := 520) (by decide +kernel), List.mem_of_getElem? (i := 521) (by decide +kernel)⟩
theorem lw_p12 : lw_okq (⟨"WeighingDesign$Text", "readMasses", "()I"⟩, 6) := ⟨⟨by decide +kernel, by decide +kernel⟩, List.mem_of_getElem? (i := 78) (by decide +kernel), List.mem_of_getElem? (i := 528) (by decide +kernel), List.mem_of_getElem? (i := 529) (by decide +kernel)⟩
theorem lw_p13 : lw_okq (⟨"WeighingDesign$Text", "pass", "(C)Z"⟩, 6) := ⟨⟨by decide +kernel, by decide +kernel⟩, List.mem_of_getElem? (i := 78) (by decide +kernel), List.mem_of_getElem? (i := 532) (by decide +kernel), List.mem_of_getElem? (i := 533) (by decide +kernel)⟩
theorem lw_p14 : lw_okq (⟨"WeighingDesign$Text", "here", "()C"⟩, 6) := ⟨⟨by decide +kernel, by decide +kernel⟩, List.mem_of_getElem? (i := 78) (by decide +kernel), List.mem_of_getElem? (i := 536) (by decide +kernel), List.mem_of_getElem? (i := 537) (by decide +kernel)⟩
theorem lw_p15 : lw_okq (⟨"WeighingDesign$Text", "readAmount", "()Z"⟩, 6) := ⟨⟨by decide +kernel, by decide +kernel⟩, List.mem_of_getElem? (i := 78) (by decide +kernel), List.mem_of_getElem? (i := 540) (by decide +kernel), List.mem_of_getElem? (i := 541) (by decide +kernel)⟩
def lw_privs_1 : List (MethodName × Nat) := [(⟨"WeighingDesign", "settingOf", "(I)I"⟩, 5), (⟨"WeighingDesign$History", "dropOldest", "()V"⟩, 2), (⟨"WeighingDesign$Design", "copyRow", "(LWeighingDesign$Design;II)V"⟩, 8), (⟨"WeighingDesign$Solver", "gather", "(LWeighingDesign$Design;)V"⟩, 6), (⟨"WeighingDesign$Solver", "weigh", "(LWeighingDesign$Design;III)V"⟩, 6), (⟨"WeighingDesign$Solver", "isRegular", "()Z"⟩, 6), (⟨"WeighingDesign$Solver", "determinantWith", "(I)J"⟩, 6), (⟨"WeighingDesign$Solver", "minorOf", "(II)J"⟩, 6), (⟨"WeighingDesign$Solver", "breaksWithout", "(LWeighingDesign$Design;I)Z"⟩, 6), (⟨"WeighingDesign$Design", "oneLinkOn", "(I)I"⟩, 8), (⟨"WeighingDesign$Solver", "solveGathered", "()Z"⟩, 6), (⟨"WeighingDesign$Trial", "enterRow", "(LWeighingDesign$Text;)I"⟩, 4), (⟨"WeighingDesign$Text", "readMasses", "()I"⟩, 6), (⟨"WeighingDesign$Text", "pass", "(C)Z"⟩, 6), (⟨"WeighingDesign$Text", "here", "()C"⟩, 6), (⟨"WeighingDesign$Text", "readAmount", "()Z"⟩, 6)]
theorem lw_r1 : ∀ q ∈ lw_privs_1, lw_okq q := List.forall_mem_cons.mpr ⟨lw_p0, List.forall_mem_cons.mpr ⟨lw_p1, List.forall_mem_cons.mpr ⟨lw_p2, List.forall_mem_cons.mpr ⟨lw_p3, List.forall_mem_cons.mpr ⟨lw_p4, List.forall_mem_cons.mpr ⟨lw_p5, List.forall_mem_cons.mpr ⟨lw_p6, List.forall_mem_cons.mpr ⟨lw_p7, List.forall_mem_cons.mpr ⟨lw_p8, List.forall_mem_cons.mpr ⟨lw_p9, List.forall_mem_cons.mpr ⟨lw_p10, List.forall_mem_cons.mpr ⟨lw_p11, List.forall_mem_cons.mpr ⟨lw_p12, List.forall_mem_cons.mpr ⟨lw_p13, List.forall_mem_cons.mpr ⟨lw_p14, List.forall_mem_cons.mpr ⟨lw_p15, fun _ h => absurd h List.not_mem_nil⟩⟩⟩⟩⟩⟩⟩⟩⟩⟩⟩⟩⟩⟩⟩⟩
theorem lw_p16 : lw_okq (⟨"WeighingDesignModel", "records", "()V"⟩, 20) := ⟨⟨by decide +kernel, by decide +kernel⟩, List.mem_of_getElem? (i := 559) (by decide +kernel), List.mem_of_getElem? (i := 636) (by decide +kernel), List.mem_of_getElem? (i := 637) (by decide +kernel)⟩
theorem lw_p17 : lw_okq (⟨"WeighingDesignModel", "rowOf", "(II)I"⟩, 20) := ⟨⟨by decide +kernel, by decide +kernel⟩, List.mem_of_getElem? (i := 559) (by decide +kernel), List.mem_of_getElem? (i := 647) (by decide +kernel), List.mem_of_getElem? (i := 648) (by decide +kernel)⟩
theorem lw_p18 : lw_okq (⟨"WeighingDesignModel", "adds", "(II)I"⟩, 20) := ⟨⟨by decide +kernel, by decide +kernel⟩, List.mem_of_getElem? (i := 559) (by decide +kernel), List.mem_of_getElem? (i := 653) (by decide +kernel), List.mem_of_getElem? (i := 654) (by decide +kernel)⟩
theorem lw_p19 : lw_okq (⟨"WeighingDesignModel", "isRow", "(I)Z"⟩, 20) := ⟨⟨by decide +kernel, by decide +kernel⟩, List.mem_of_getElem? (i := 559) (by decide +kernel), List.mem_of_getElem? (i := 661) (by decide +kernel), List.mem_of_getElem? (i := 662) (by decide +kernel)⟩
theorem lw_p20 : lw_okq (⟨"WeighingDesignModel", "takes", "(II)I"⟩, 20) := ⟨⟨by decide +kernel, by decide +kernel⟩, List.mem_of_getElem? (i := 559) (by decide +kernel), List.mem_of_getElem? (i := 669) (by decide +kernel), List.mem_of_getElem? (i := 670) (by decide +kernel)⟩
theorem lw_p21 : lw_okq (⟨"WeighingDesignModel", "isReading", "(II)Z"⟩, 20) := ⟨⟨by decide +kernel, by decide +kernel⟩, List.mem_of_getElem? (i := 559) (by decide +kernel), List.mem_of_getElem? (i := 677) (by decide +kernel), List.mem_of_getElem? (i := 678) (by decide +kernel)⟩
theorem lw_p22 : lw_okq (⟨"WeighingDesignModel", "swapped", "(I)I"⟩, 20) := ⟨⟨by decide +kernel, by decide +kernel⟩, List.mem_of_getElem? (i := 559) (by decide +kernel), List.mem_of_getElem? (i := 685) (by decide +kernel), List.mem_of_getElem? (i := 686) (by decide +kernel)⟩
theorem lw_p23 : lw_okq (⟨"WeighingDesignModel", "isNeeded", "(I)Z"⟩, 20) := ⟨⟨by decide +kernel, by decide +kernel⟩, List.mem_of_getElem? (i := 559) (by decide +kernel), List.mem_of_getElem? (i := 690) (by decide +kernel), List.mem_of_getElem? (i := 691) (by decide +kernel)⟩
theorem lw_p24 : lw_okq (⟨"WeighingDesignModel", "solves", "()Z"⟩, 20) := ⟨⟨by decide +kernel, by decide +kernel⟩, List.mem_of_getElem? (i := 559) (by decide +kernel), List.mem_of_getElem? (i := 694) (by decide +kernel), List.mem_of_getElem? (i := 695) (by decide +kernel)⟩
theorem lw_p25 : lw_okq (⟨"WeighingDesignModel", "sums", "()V"⟩, 20) := ⟨⟨by decide +kernel, by decide +kernel⟩, List.mem_of_getElem? (i := 559) (by decide +kernel), List.mem_of_getElem? (i := 698) (by decide +kernel), List.mem_of_getElem? (i := 699) (by decide +kernel)⟩
theorem lw_p26 : lw_okq (⟨"WeighingDesignModel", "unknowns", "()I"⟩, 20) := ⟨⟨by decide +kernel, by decide +kernel⟩, List.mem_of_getElem? (i := 559) (by decide +kernel), List.mem_of_getElem? (i := 702) (by decide +kernel), List.mem_of_getElem? (i := 703) (by decide +kernel)⟩
theorem lw_p27 : lw_okq (⟨"WeighingDesignModel", "isOut", "(II)Z"⟩, 20) := ⟨⟨by decide +kernel, by decide +kernel⟩, List.mem_of_getElem? (i := 559) (by decide +kernel), List.mem_of_getElem? (i := 706) (by decide +kernel), List.mem_of_getElem? (i := 707) (by decide +kernel)⟩
theorem lw_p28 : lw_okq (⟨"WeighingDesignModel", "factor", "(II)I"⟩, 20) := ⟨⟨by decide +kernel, by decide +kernel⟩, List.mem_of_getElem? (i := 559) (by decide +kernel), List.mem_of_getElem? (i := 710) (by decide +kernel), List.mem_of_getElem? (i := 711) (by decide +kernel)⟩
theorem lw_p29 : lw_okq (⟨"WeighingDesignModel", "sign", "(II)I"⟩, 20) := ⟨⟨by decide +kernel, by decide +kernel⟩, List.mem_of_getElem? (i := 559) (by decide +kernel), List.mem_of_getElem? (i := 714) (by decide +kernel), List.mem_of_getElem? (i := 715) (by decide +kernel)⟩
theorem lw_p30 : lw_okq (⟨"WeighingDesignModel", "rest", "(II)J"⟩, 20) := ⟨⟨by decide +kernel, by decide +kernel⟩, List.mem_of_getElem? (i := 559) (by decide +kernel), List.mem_of_getElem? (i := 718) (by decide +kernel), List.mem_of_getElem? (i := 719) (by decide +kernel)⟩
theorem lw_p31 : lw_okq (⟨"WeighingDesignModel", "determinant", "(I)J"⟩, 20) := ⟨⟨by decide +kernel, by decide +kernel⟩, List.mem_of_getElem? (i := 559) (by decide +kernel), List.mem_of_getElem? (i := 722) (by decide +kernel), List.mem_of_getElem? (i := 723) (by decide +kernel)⟩
def lw_privs_2 : List (MethodName × Nat) := [(⟨"WeighingDesignModel", "records", "()V"⟩, 20), (⟨"WeighingDesignModel", "rowOf", "(II)I"⟩, 20), (⟨"WeighingDesignModel", "adds", "(II)I"⟩, 20), (⟨"WeighingDesignModel", "isRow", "(I)Z"⟩, 20), (⟨"WeighingDesignModel", "takes", "(II)I"⟩, 20), (⟨"WeighingDesignModel", "isReading", "(II)Z"⟩, 20), (⟨"WeighingDesignModel", "swapped", "(I)I"⟩, 20), (⟨"WeighingDesignModel", "isNeeded", "(I)Z"⟩, 20), (⟨"WeighingDesignModel", "solves", "()Z"⟩, 20), (⟨"WeighingDesignModel", "sums", "()V"⟩, 20), (⟨"WeighingDesignModel", "unknowns", "()I"⟩, 20), (⟨"WeighingDesignModel", "isOut", "(II)Z"⟩, 20), (⟨"WeighingDesignModel", "factor", "(II)I"⟩, 20), (⟨"WeighingDesignModel", "sign", "(II)I"⟩, 20), (⟨"WeighingDesignModel", "rest", "(II)J"⟩, 20), (⟨"WeighingDesignModel", "determinant", "(I)J"⟩, 20)]
theorem lw_r2 : ∀ q ∈ lw_privs_2, lw_okq q := List.forall_mem_cons.mpr ⟨lw_p16, List.forall_mem_cons.mpr ⟨lw_p17, List.forall_mem_cons.mpr ⟨lw_p18, List.forall_mem_cons.mpr ⟨lw_p19, List.forall_mem_cons.mpr ⟨lw_p20, List.forall_mem_cons.mpr ⟨lw_p21, List.forall_mem_cons.mpr ⟨lw_p22, List.forall_mem_cons.mpr ⟨lw_p23, List.forall_mem_cons.mpr ⟨lw_p24, List.forall_mem_cons.mpr ⟨lw_p25, List.forall_mem_cons.mpr ⟨lw_p26, List.forall_mem_cons.mpr ⟨lw_p27, List.forall_mem_cons.mpr ⟨lw_p28, List.forall_mem_cons.mpr ⟨lw_p29, List.forall_mem_cons.mpr ⟨lw_p30, List.forall_mem_cons.mpr ⟨lw_p31, fun _ h => absurd h List.not_mem_nil⟩⟩⟩⟩⟩⟩⟩⟩⟩⟩⟩⟩⟩⟩⟩⟩
theorem lw_p32 : lw_okq (⟨"WeighingDesignModel", "readings", "()I"⟩, 20) := ⟨⟨by decide +kernel, by decide +kernel⟩, List.mem_of_getElem? (i := 559) (by decide +kernel), List.mem_of_getElem? (i := 738) (by decide +kernel), List.mem_of_getElem? (i := 739) (by decide +kernel)⟩
theorem lw_p33 : lw_okq (⟨"WeighingDesignModel", "isSuspect", "()Z"⟩, 20) := ⟨⟨by decide +kernel, by decide +kernel⟩, List.mem_of_getElem? (i := 559) (by decide +kernel), List.mem_of_getElem? (i := 742) (by decide +kernel), List.mem_of_getElem? (i := 743) (by decide +kernel)⟩
theorem lw_p34 : lw_okq (⟨"WeighingDesignModel", "together", "(II)J"⟩, 20) := ⟨⟨by decide +kernel, by decide +kernel⟩, List.mem_of_getElem? (i := 559) (by decide +kernel), List.mem_of_getElem? (i := 746) (by decide +kernel), List.mem_of_getElem? (i := 747) (by decide +kernel)⟩
theorem lw_p35 : lw_okq (⟨"WeighingDesignModel", "sumOf", "(I)J"⟩, 20) := ⟨⟨by decide +kernel, by decide +kernel⟩, List.mem_of_getElem? (i := 559) (by decide +kernel), List.mem_of_getElem? (i := 750) (by decide +kernel), List.mem_of_getElem? (i := 751) (by decide +kernel)⟩
theorem lw_p36 : lw_okq (⟨"WeighingDesignModel", "pairs", "()I"⟩, 20) := ⟨⟨by decide +kernel, by decide +kernel⟩, List.mem_of_getElem? (i := 559) (by decide +kernel), List.mem_of_getElem? (i := 754) (by decide +kernel), List.mem_of_getElem? (i := 755) (by decide +kernel)⟩
theorem lw_p37 : lw_okq (⟨"WeighingDesignModel", "linked", "()I"⟩, 20) := ⟨⟨by decide +kernel, by decide +kernel⟩, List.mem_of_getElem? (i := 559) (by decide +kernel), List.mem_of_getElem? (i := 758) (by decide +kernel), List.mem_of_getElem? (i := 759) (by decide +kernel)⟩
theorem lw_p38 : lw_okq (⟨"WeighingDesignModel", "chains", "()V"⟩, 20) := ⟨⟨by decide +kernel, by decide +kernel⟩, List.mem_of_getElem? (i := 559) (by decide +kernel), List.mem_of_getElem? (i := 762) (by decide +kernel), List.mem_of_getElem? (i := 763) (by decide +kernel)⟩
theorem lw_p39 : lw_okq (⟨"WeighingDesignModel", "needed", "()I"⟩, 20) := ⟨⟨by decide +kernel, by decide +kernel⟩, List.mem_of_getElem? (i := 559) (by decide +kernel), List.mem_of_getElem? (i := 766) (by decide +kernel), List.mem_of_getElem? (i := 767) (by decide +kernel)⟩
theorem lw_p40 : lw_okq (⟨"WeighingDesignModel", "told", "(JJI)J"⟩, 20) := ⟨⟨by decide +kernel, by decide +kernel⟩, List.mem_of_getElem? (i := 559) (by decide +kernel), List.mem_of_getElem? (i := 783) (by decide +kernel), List.mem_of_getElem? (i := 784) (by decide +kernel)⟩
theorem lw_p41 : lw_okq (⟨"WeighingDesignModel", "lowest", "(JJ)V"⟩, 20) := ⟨⟨by decide +kernel, by decide +kernel⟩, List.mem_of_getElem? (i := 559) (by decide +kernel), List.mem_of_getElem? (i := 787) (by decide +kernel), List.mem_of_getElem? (i := 788) (by decide +kernel)⟩
theorem lw_p42 : lw_okq (⟨"WeighingDesignModel", "residualOf", "(II)J"⟩, 20) := ⟨⟨by decide +kernel, by decide +kernel⟩, List.mem_of_getElem? (i := 559) (by decide +kernel), List.mem_of_getElem? (i := 799) (by decide +kernel), List.mem_of_getElem? (i := 800) (by decide +kernel)⟩
theorem lw_p43 : lw_okq (⟨"WeighingDesignModel", "faulty", "()I"⟩, 20) := ⟨⟨by decide +kernel, by decide +kernel⟩, List.mem_of_getElem? (i := 559) (by decide +kernel), List.mem_of_getElem? (i := 846) (by decide +kernel), List.mem_of_getElem? (i := 847) (by decide +kernel)⟩
theorem lw_p44 : lw_okq (⟨"WeighingDesignModel", "keeps", "()V"⟩, 20) := ⟨⟨by decide +kernel, by decide +kernel⟩, List.mem_of_getElem? (i := 559) (by decide +kernel), List.mem_of_getElem? (i := 850) (by decide +kernel), List.mem_of_getElem? (i := 851) (by decide +kernel)⟩
theorem lw_p45 : lw_okq (⟨"WeighingDesignModel", "entersOne", "()I"⟩, 20) := ⟨⟨by decide +kernel, by decide +kernel⟩, List.mem_of_getElem? (i := 559) (by decide +kernel), List.mem_of_getElem? (i := 854) (by decide +kernel), List.mem_of_getElem? (i := 855) (by decide +kernel)⟩
theorem lw_p46 : lw_okq (⟨"WeighingDesignModel", "readsForm", "()Z"⟩, 20) := ⟨⟨by decide +kernel, by decide +kernel⟩, List.mem_of_getElem? (i := 559) (by decide +kernel), List.mem_of_getElem? (i := 858) (by decide +kernel), List.mem_of_getElem? (i := 859) (by decide +kernel)⟩
theorem lw_p47 : lw_okq (⟨"WeighingDesignModel", "readsPan", "()I"⟩, 20) := ⟨⟨by decide +kernel, by decide +kernel⟩, List.mem_of_getElem? (i := 559) (by decide +kernel), List.mem_of_getElem? (i := 862) (by decide +kernel), List.mem_of_getElem? (i := 863) (by decide +kernel)⟩
def lw_privs_3 : List (MethodName × Nat) := [(⟨"WeighingDesignModel", "readings", "()I"⟩, 20), (⟨"WeighingDesignModel", "isSuspect", "()Z"⟩, 20), (⟨"WeighingDesignModel", "together", "(II)J"⟩, 20), (⟨"WeighingDesignModel", "sumOf", "(I)J"⟩, 20), (⟨"WeighingDesignModel", "pairs", "()I"⟩, 20), (⟨"WeighingDesignModel", "linked", "()I"⟩, 20), (⟨"WeighingDesignModel", "chains", "()V"⟩, 20), (⟨"WeighingDesignModel", "needed", "()I"⟩, 20), (⟨"WeighingDesignModel", "told", "(JJI)J"⟩, 20), (⟨"WeighingDesignModel", "lowest", "(JJ)V"⟩, 20), (⟨"WeighingDesignModel", "residualOf", "(II)J"⟩, 20), (⟨"WeighingDesignModel", "faulty", "()I"⟩, 20), (⟨"WeighingDesignModel", "keeps", "()V"⟩, 20), (⟨"WeighingDesignModel", "entersOne", "()I"⟩, 20), (⟨"WeighingDesignModel", "readsForm", "()Z"⟩, 20), (⟨"WeighingDesignModel", "readsPan", "()I"⟩, 20)]
theorem lw_r3 : ∀ q ∈ lw_privs_3, lw_okq q := List.forall_mem_cons.mpr ⟨lw_p32, List.forall_mem_cons.mpr ⟨lw_p33, List.forall_mem_cons.mpr ⟨lw_p34, List.forall_mem_cons.mpr ⟨lw_p35, List.forall_mem_cons.mpr ⟨lw_p36, List.forall_mem_cons.mpr ⟨lw_p37, List.forall_mem_cons.mpr ⟨lw_p38, List.forall_mem_cons.mpr ⟨lw_p39, List.forall_mem_cons.mpr ⟨lw_p40, List.forall_mem_cons.mpr ⟨lw_p41, List.forall_mem_cons.mpr ⟨lw_p42, List.forall_mem_cons.mpr ⟨lw_p43, List.forall_mem_cons.mpr ⟨lw_p44, List.forall_mem_cons.mpr ⟨lw_p45, List.forall_mem_cons.mpr ⟨lw_p46, List.forall_mem_cons.mpr ⟨lw_p47, fun _ h => absurd h List.not_mem_nil⟩⟩⟩⟩⟩⟩⟩⟩⟩⟩⟩⟩⟩⟩⟩⟩
theorem lw_p48 : lw_okq (⟨"WeighingDesignModel", "passes", "(C)Z"⟩, 20) := ⟨⟨by decide +kernel, by decide +kernel⟩, List.mem_of_getElem? (i := 559) (by decide +kernel), List.mem_of_getElem? (i := 866) (by decide +kernel), List.mem_of_getElem? (i := 867) (by decide +kernel)⟩
theorem lw_p49 : lw_okq (⟨"WeighingDesignModel", "restores", "()V"⟩, 20) := ⟨⟨by decide +kernel, by decide +kernel⟩, List.mem_of_getElem? (i := 559) (by decide +kernel), List.mem_of_getElem? (i := 870) (by decide +kernel), List.mem_of_getElem? (i := 871) (by decide +kernel)⟩
def lw_privs_4 : List (MethodName × Nat) := [(⟨"WeighingDesignModel", "passes", "(C)Z"⟩, 20), (⟨"WeighingDesignModel", "restores", "()V"⟩, 20)]
theorem lw_r4 : ∀ q ∈ lw_privs_4, lw_okq q := List.forall_mem_cons.mpr ⟨lw_p48, List.forall_mem_cons.mpr ⟨lw_p49, fun _ h => absurd h List.not_mem_nil⟩⟩
def lw_privs : List (MethodName × Nat) := lw_privs_1 ++ (lw_privs_2 ++ (lw_privs_3 ++ (lw_privs_4)))
def lw_tbl : List Cond := k2_sels lw_privs ++ tables_1
theorem lw_privs_ok : ∀ q ∈ lw_privs, lw_okq q := by
  show ∀ q ∈ lw_privs_1 ++ (lw_privs_2 ++ (lw_privs_3 ++ (lw_privs_4))), lw_okq q
  exact List.forall_mem_append.mpr ⟨lw_r1, List.forall_mem_append.mpr ⟨lw_r2, List.forall_mem_append.mpr ⟨lw_r3, lw_r4⟩⟩⟩
def va_AOA (t : FieldType) (U : State) : Prop := (Cond.arrayOver (.array t)).before #[] U = true
theorem va_AOA.use {t : FieldType} {U : State} {A : Array Value} (h : va_AOA t U) : (Cond.arrayOver (.array t)).before A U = true := h
/-! ===== BEGIN new T[n][m]: the outer array a place, the inner ones among the pooled ===== -/
/-- f, but v at every address of l -/
def vr_up {α : Type} (f : Nat → α) (l : List Nat) (v : α) : Nat → α := fun a => if a ∈ l then v else f a
theorem vr_up_in {α : Type} {f : Nat → α} {l : List Nat} {v : α} {a : Nat} (h : a ∈ l) : vr_up f l v a = v := if_pos h
theorem vr_up_ne {α : Type} {f : Nat → α} {l : List Nat} {v : α} {a : Nat} (h : a ∉ l) : vr_up f l v a = f a := if_neg h
theorem vr_rows {L l : List Nat} {f : Nat → va_E} {e : va_E} (h : ∀ a, a ∈ l → a ∉ L) : va_pl L f ++ l.map (fun a => (a, e)) = va_pl (L ++ l) (vr_up f l e) := by
  unfold va_pl
  rw [List.map_append]
  congr 1
  · apply List.map_congr_left
    intro a ha
    rw [vr_up_ne (fun q => h a q ha)]
  · apply List.map_congr_left
    intro a ha
    rw [vr_up_in ha]
theorem vr_lay {X rows : va_W} {x : Nat × va_E} {pl : va_W} {D : va_G} {cl : List vw_C} {H : Heap} (hP : va_P D cl (((X ++ pl) ++ [x]) ++ rows) H) : va_P D cl ((X ++ [x]) ++ (pl ++ rows)) H := by
  rw [List.append_assoc (X ++ pl)] at hP
  have h := va_P.swap hP
  rw [← List.append_assoc X] at h
  have h2 := va_P.swap h
  rw [List.append_assoc (X ++ [x])] at h2
  exact h2
theorem vr_layD {X rows : va_W} {x : Nat × va_E} {pl : va_W} {A : Nat → Prop} (hD : va_D A (((X ++ pl) ++ [x]) ++ rows)) : va_D A ((X ++ [x]) ++ (pl ++ rows)) := by
  rw [List.append_assoc (X ++ pl)] at hD
  have h := va_D.swap hD
  rw [← List.append_assoc X] at h
  have h2 := va_D.swap h
  rw [List.append_assoc (X ++ [x])] at h2
  exact h2
theorem vr_outer (c : ClassId) (N h0 : Nat) : ∀ i : Nat, Jvm.Free.Multi.outerC c N h0 i = arrV c N (fun j => va_rf (if j < i then some (h0 + 1 + j) else none))
  | 0 => by
    show ({ cls := c, slots := Array.replicate N .null, vm := .none } : Cell) = _
    rw [arrV_new]
    refine congrArg (arrV c N) (funext fun j => ?_)
    simp [va_rf]
  | i + 1 => by
    show (Jvm.Free.Multi.outerC c N h0 i).setSlot i (.ref (h0 + 1 + i)) = _
    rw [vr_outer c N h0 i, arrV_store]
    refine congrArg (arrV c N) (funext fun j => ?_)
    by_cases e : j = i
    · subst e
      simp [updV, va_rf]
    · by_cases h : j < i
      · simp [updV, e, h, Nat.lt_succ_of_lt h]
      · simp [updV, e, h, show ¬ j < i + 1 by omega]
section VGM
variable {p : Program} {l : Launch} {e : Env} {R : Room} {s : State} {m : MethodId} {args : Array Value} {below : List Frame} {meth : Method} {c : Code} {H : Heap} {locs : List Loc} {cells slots : Nat} {Q : State → Prop}
variable {cc : ByteArray} {pc : Nat} {ls : Array Slot} {rest : List Value} {D : va_G} {cl : List vw_C} {A : Nat → Prop} {a : Nat} {tys : List (ClassId × FieldType)} {ws : va_W} {H0 : Heap}
theorem va_mna {X : va_W} {L : List Nat} {f : Nat → va_E} {cc : ByteArray} (hexec : p.tables.exec = Jvm.exec) (hb : c.code = cc) {own : String} {index : Nat} {ty : FieldType} {cy : ClassId} (hown : s.vm.findClass own = some m.cls) (hclink : (Cond.classLink own index ("[" ++ (FieldType.array ty).toString)).before args s = true) (hover : va_AOA ty s) (harr : (Cond.arrayClass ty).before args s = true) (hcy : s.vm.findClass (FieldType.array ty).toString = some cy)
    (hK : va_K D cl tys s) (hP : va_P D cl (X ++ va_pl L f) H) (hD : va_D A (X ++ va_pl L f)) (hS : va_S A H0 H locs) (hA : ∀ q, H0.size ≤ q → A q) {n k : Int32} {N' K' : Nat} {z : vp_A} (hn : ¬ n < 0) (hk : ¬ k < 0) (hN : n.toNatClampNeg = N') (hM : k.toNatClampNeg = K')
    (hb1 : N' * 4 ≤ 536870912) (hb2 : K' * componentBytes ty ≤ 536870912) (hb3 : K' ≤ 536870912) (hdf : fits ty (defaultValue ty) = true) (hdd : (defaultValue ty).isDefault = true) (hcells : cells + (1 + N') ≤ R.cells) (hslots : slots + (N' + N' * K') ≤ R.slots) (hz : ∀ c : ClassId, Jvm.Free.Multi.innerC c K' (defaultValue ty) = vp_cell c z) (hdg : decode cc pc = .ok (.multianewarray index 2, 4))
    (kk : ∀ (q : Nat) (r : Nat → Nat) (cA : ClassId) (H1 : Heap), (∀ i j : Nat, i < N' → j < N' → r i = r j → i = j) → (∀ i : Nat, i < N' → r i ∉ L) → va_K D cl (tys ++ [(cA, .array ty)]) s →
      va_P D cl ((X ++ [(q, .inl (cA, N', .inr (.inr (.inr (.inr (fun i => if i < N' then some (r i) else none))))))]) ++ va_pl (L ++ (List.range N').map r) (vr_up f ((List.range N').map r) (.inl (cy, z)))) H1 → va_D A ((X ++ [(q, .inl (cA, N', .inr (.inr (.inr (.inr (fun i => if i < N' then some (r i) else none))))))]) ++ va_pl (L ++ (List.range N').map r) (vr_up f ((List.range N').map r) (.inl (cy, z)))) → va_S A H0 H1 locs →
      W p l e R s m args below meth c H1 locs (cells + 1 + N') (slots + N' + N' * K') Q (F0 m (pc + 4) ls (.ref q :: rest))) : W p l e R s m args below meth c H locs cells slots Q (F0 m pc ls (.int k :: .int n :: rest)) := by
  subst hN
  subst hM
  intro T hT Xs
  obtain ⟨vm₁, cA, comp, -, fA, fC, hO, -, X', step⟩ := Xs.multianewarray2F hexec hown hclink (va_AOA.use hover) harr (g := F0 m pc ls (.int k :: .int n :: rest)) rfl (by rw [hb]; exact hdg) rfl hn hk hb1 hb2 hb3 hdf hdd hcells hslots
  have ec : some cy = some comp := hcy.symm.trans fC
  cases ec
  generalize hF : Jvm.Free.Multi.fill (T.setVm vm₁) cA cy n.toNatClampNeg k.toNatClampNeg (defaultValue ty) n.toNatClampNeg = F at X' step
  have hTh : (T.setVm vm₁).heap = H := hT
  obtain ⟨f1, f2, -, -⟩ := Jvm.Free.Multi.fill_facts (T.setVm vm₁) cA cy n.toNatClampNeg k.toNatClampNeg (defaultValue ty) n.toNatClampNeg
  rw [hF, hTh] at f1 f2
  have hold : ∀ x : Nat, x < H.size → F.heap[x]? = H[x]? := fun x hx => by
    have := Jvm.Free.Multi.fill_old (T.setVm vm₁) cA cy n.toNatClampNeg k.toNatClampNeg (defaultValue ty) (a := x) (by rw [hTh]; exact hx) n.toNatClampNeg
    rw [hF, hTh] at this
    exact this
  have hrow : ∀ j : Nat, j < n.toNatClampNeg → F.heap[H.size + 1 + j]? = some (vp_cell cy z) := fun j hj => by
    have := Jvm.Free.Multi.fill_inner (T.setVm vm₁) cA cy n.toNatClampNeg k.toNatClampNeg (defaultValue ty) n.toNatClampNeg j hj
    rw [hF, hTh, hz] at this
    exact this
  have hout : Jvm.Free.Multi.outerC cA n.toNatClampNeg H.size n.toNatClampNeg = vp_cell cA (n.toNatClampNeg, .inr (.inr (.inr (.inr (fun i => if i < n.toNatClampNeg then some (H.size + 1 + i) else none))))) := by
    rw [vp_cell_q]
    exact vr_outer cA n.toNatClampNeg H.size n.toNatClampNeg
  rw [hout] at f2
  have hlt : ∀ a, a ∈ L → a < H.size := fun a ha => by
    obtain ⟨k9, hk9⟩ := va_pl_get (X := X) (f := f) ha
    exact (hP k9 _ hk9).lt
  have hnl : ∀ i : Nat, i < n.toNatClampNeg → H.size + 1 + i ∉ L := fun i _ h => by
    have := hlt _ h
    omega
  have hnm : ∀ a, a ∈ (List.range n.toNatClampNeg).map (fun i => H.size + 1 + i) → a ∉ L := fun a ha h => by
    obtain ⟨i, -, rfl⟩ := List.mem_map.mp ha
    have := hlt _ h
    omega
  have hP0 : va_P D cl (X ++ va_pl L f) F.heap := hP.kept (fun k9 x hx => hold x.1 ((hP k9 x hx).lt))
  have hP1 : va_P D cl ((X ++ va_pl L f) ++ [(H.size, .inl (cA, n.toNatClampNeg, .inr (.inr (.inr (.inr (fun i => if i < n.toNatClampNeg then some (H.size + 1 + i) else none))))))]) F.heap := hP0.app (fun k9 x hx => by
    have h0 : k9 < 1 := (List.getElem?_eq_some_iff.mp hx).1
    rw [show k9 = 0 by omega] at hx
    cases hx
    exact f2)
  have hP2 : va_P D cl (((X ++ va_pl L f) ++ [(H.size, .inl (cA, n.toNatClampNeg, .inr (.inr (.inr (.inr (fun i => if i < n.toNatClampNeg then some (H.size + 1 + i) else none))))))]) ++ ((List.range n.toNatClampNeg).map (fun i => H.size + 1 + i)).map (fun a => (a, .inl (cy, z)))) F.heap := hP1.app (fun k9 x hx => by
    obtain ⟨a, ha, rfl⟩ := List.mem_map.mp (List.mem_of_getElem? hx)
    obtain ⟨i, hi, rfl⟩ := List.mem_map.mp ha
    exact hrow i (List.mem_range.mp hi))
  have hD2 : va_D A (((X ++ va_pl L f) ++ [(H.size, .inl (cA, n.toNatClampNeg, .inr (.inr (.inr (.inr (fun i => if i < n.toNatClampNeg then some (H.size + 1 + i) else none))))))]) ++ ((List.range n.toNatClampNeg).map (fun i => H.size + 1 + i)).map (fun a => (a, .inl (cy, z)))) := by
    have hD1 := hD.push (e := .inl (cA, n.toNatClampNeg, .inr (.inr (.inr (.inr (fun i => if i < n.toNatClampNeg then some (H.size + 1 + i) else none)))))) hP rfl (hA _ hS.1)
    generalize hW1 : (X ++ va_pl L f) ++ [(H.size, .inl (cA, n.toNatClampNeg, .inr (.inr (.inr (.inr (fun i => if i < n.toNatClampNeg then some (H.size + 1 + i) else none))))))] = W1 at hD1 hP1 ⊢
    have hle : ∀ (k9 : Nat) (x : Nat × va_E), W1[k9]? = some x → x.1 ≤ H.size := fun k9 x hx => by
      rw [← hW1] at hx
      by_cases hl : k9 < (X ++ va_pl L f).length
      · rw [List.getElem?_append_left hl] at hx
        exact Nat.le_of_lt ((hP k9 x hx).lt)
      · rw [List.getElem?_append_right (by omega)] at hx
        have h0 : k9 - (X ++ va_pl L f).length < 1 := (List.getElem?_eq_some_iff.mp hx).1
        rw [show k9 - (X ++ va_pl L f).length = 0 by omega] at hx
        cases hx
        exact Nat.le_refl _
    have hr : ∀ (k9 : Nat) (x : Nat × va_E), (((List.range n.toNatClampNeg).map (fun i => H.size + 1 + i)).map (fun a => ((a, .inl (cy, z)) : Nat × va_E)))[k9]? = some x → x.1 = H.size + 1 + k9 := fun k9 x hx => by
      rw [List.getElem?_map, List.getElem?_map] at hx
      by_cases h9 : k9 < n.toNatClampNeg
      · rw [List.getElem?_range h9] at hx
        cases hx
        rfl
      · have hn0 : (List.range n.toNatClampNeg)[k9]? = none := List.getElem?_eq_none (by rw [List.length_range]; omega)
        rw [hn0] at hx
        cases hx
    refine ⟨fun i j x y hi hj hxy => ?_, fun k9 x hx => ?_⟩
    · by_cases h1 : i < W1.length <;> by_cases h2 : j < W1.length
      · rw [List.getElem?_append_left h1] at hi
        rw [List.getElem?_append_left h2] at hj
        exact hD1.1 i j x y hi hj hxy
      · rw [List.getElem?_append_left h1] at hi
        rw [List.getElem?_append_right (by omega)] at hj
        have := hle _ _ hi
        have := hr _ _ hj
        omega
      · rw [List.getElem?_append_right (by omega)] at hi
        rw [List.getElem?_append_left h2] at hj
        have := hle _ _ hj
        have := hr _ _ hi
        omega
      · rw [List.getElem?_append_right (by omega)] at hi hj
        have := hr _ _ hi
        have := hr _ _ hj
        omega
    · by_cases h1 : k9 < W1.length
      · rw [List.getElem?_append_left h1] at hx
        exact hD1.2 k9 x hx
      · rw [List.getElem?_append_right (by omega)] at hx
        have := hr _ _ hx
        exact hA _ (by have := hS.1; omega)
  have hAr : ArrOfT s cA (.array ty) := fun N9 z9 => by
    obtain ⟨-, k9, hk9, cm9, hkk9⟩ := (hO 0 0 0).1
    exact ⟨(fun q hq => by cases hq), k9, hk9, cm9, hkk9⟩
  have hK2 : va_K D cl (tys ++ [(cA, .array ty)]) s := ⟨hK.1, fun k9 x hx => by
    by_cases hl : k9 < tys.length
    · rw [List.getElem?_append_left hl] at hx
      exact hK.2 k9 x hx
    · rw [List.getElem?_append_right (by omega)] at hx
      have h0 : k9 - tys.length < 1 := (List.getElem?_eq_some_iff.mp hx).1
      rw [show k9 - tys.length = 0 by omega] at hx
      cases hx
      exact ⟨hAr, fA⟩⟩
  obtain ⟨t, a1, b1⟩ := kk H.size (fun i => H.size + 1 + i) cA F.heap (fun i j _ _ h => by have h9 : H.size + 1 + i = H.size + 1 + j := h; omega) hnl hK2 (by rw [← vr_rows hnm]; exact vr_lay hP2) (by rw [← vr_rows hnm]; exact vr_layD hD2) ⟨by rw [f1]; have := hS.1; omega, fun x h1 h2 => (hold x (Nat.lt_of_lt_of_le h1 hS.1)).trans (hS.2.1 x h1 h2), hS.2.2⟩ F rfl X'
  refine ⟨t, step t ?_, b1⟩
  have e : T.heap.size = H.size := by rw [hT]
  rw [e]
  exact a1
end VGM
def RX0 : String := "WeighingDesign$Design"
def TX0 : u_T := fun k => match k with
  | 0 => ("WeighingDesign$Design", "standard", "I", false)
  | 1 => ("WeighingDesign$Design", "panSetting", "I", false)
  | 2 => ("WeighingDesign$Design", "limit", "I", false)
  | 3 => ("WeighingDesign$Design", "rows", "I", false)
  | 4 => ("WeighingDesign$Design", "left", "[I", true)
  | 5 => ("WeighingDesign$Design", "right", "[I", true)
  | 6 => ("WeighingDesign$Design", "taken", "[I", true)
  | _ => ("WeighingDesign$Design", "readings", "[I", true)
def tyX0 : Nat → FieldType := fun k => match k with
  | 0 => .int
  | 1 => .int
  | 2 => .int
  | 3 => .int
  | 4 => .array .int
  | 5 => .array .int
  | 6 => .array .int
  | _ => .array .int
abbrev wsX00 : List Cond := u_ws RX0 TX0 8
theorem nmX0 : ∀ a, a < 8 → ∀ b, b < 8 → a ≠ b → (TX0 a).2.1 ≠ (TX0 b).2.1 := by decide +kernel
theorem tyX0_ok : ∀ k, k < 8 → parseFieldDescriptor (TX0 k).2.2.1 = some (tyX0 k) := by decide +kernel
def RX1 : String := "WeighingDesign$History"
def TX1 : u_T := fun k => match k with
  | 0 => ("WeighingDesign$History", "kept", "[LWeighingDesign$Design;", true)
  | _ => ("WeighingDesign$History", "states", "I", false)
def tyX1 : Nat → FieldType := fun k => match k with
  | 0 => .array (.object "WeighingDesign$Design")
  | _ => .int
abbrev wsX10 : List Cond := u_ws RX1 TX1 2
theorem nmX1 : ∀ a, a < 2 → ∀ b, b < 2 → a ≠ b → (TX1 a).2.1 ≠ (TX1 b).2.1 := by decide +kernel
theorem tyX1_ok : ∀ k, k < 2 → parseFieldDescriptor (TX1 k).2.2.1 = some (tyX1 k) := by decide +kernel
def RX2 : String := "WeighingDesign$Solver"
def TX2 : u_T := fun k => match k with
  | 0 => ("WeighingDesign$Solver", "normal", "[[J", true)
  | 1 => ("WeighingDesign$Solver", "sums", "[J", true)
  | 2 => ("WeighingDesign$Solver", "minors", "[J", true)
  | 3 => ("WeighingDesign$Solver", "numerators", "[J", true)
  | 4 => ("WeighingDesign$Solver", "unknowns", "I", false)
  | _ => ("WeighingDesign$Solver", "determinant", "J", false)
def tyX2 : Nat → FieldType := fun k => match k with
  | 0 => .array (.array .long)
  | 1 => .array .long
  | 2 => .array .long
  | 3 => .array .long
  | 4 => .int
  | _ => .long
abbrev wsX20 : List Cond := u_ws RX2 TX2 6
theorem nmX2 : ∀ a, a < 6 → ∀ b, b < 6 → a ≠ b → (TX2 a).2.1 ≠ (TX2 b).2.1 := by decide +kernel
theorem tyX2_ok : ∀ k, k < 6 → parseFieldDescriptor (TX2 k).2.2.1 = some (tyX2 k) := by decide +kernel
def RX3 : String := "WeighingDesign$Text"
def TX3 : u_T := fun k => match k with
  | 0 => ("WeighingDesign$Text", "characters", "[C", true)
  | 1 => ("WeighingDesign$Text", "length", "I", false)
  | 2 => ("WeighingDesign$Text", "left", "I", false)
  | 3 => ("WeighingDesign$Text", "right", "I", false)
  | 4 => ("WeighingDesign$Text", "amount", "I", false)
  | _ => ("WeighingDesign$Text", "next", "I", false)
def tyX3 : Nat → FieldType := fun k => match k with
  | 0 => .array .char
  | 1 => .int
  | 2 => .int
  | 3 => .int
  | 4 => .int
  | _ => .int
abbrev wsX30 : List Cond := u_ws RX3 TX3 6
theorem nmX3 : ∀ a, a < 6 → ∀ b, b < 6 → a ≠ b → (TX3 a).2.1 ≠ (TX3 b).2.1 := by decide +kernel
theorem tyX3_ok : ∀ k, k < 6 → parseFieldDescriptor (TX3 k).2.2.1 = some (tyX3 k) := by decide +kernel
def RX4 : String := "WeighingDesign$Trial"
def TX4 : u_T := fun k => match k with
  | 0 => ("WeighingDesign$Trial", "design", "LWeighingDesign$Design;", true)
  | 1 => ("WeighingDesign$Trial", "entered", "I", false)
  | 2 => ("WeighingDesign$Trial", "position", "I", false)
  | _ => ("WeighingDesign$Trial", "reason", "I", false)
def tyX4 : Nat → FieldType := fun k => match k with
  | 0 => .object "WeighingDesign$Design"
  | 1 => .int
  | 2 => .int
  | _ => .int
abbrev wsX40 : List Cond := u_ws RX4 TX4 4
theorem nmX4 : ∀ a, a < 4 → ∀ b, b < 4 → a ≠ b → (TX4 a).2.1 ≠ (TX4 b).2.1 := by decide +kernel
theorem tyX4_ok : ∀ k, k < 4 → parseFieldDescriptor (TX4 k).2.2.1 = some (tyX4 k) := by decide +kernel
def RX5 : String := "WeighingDesign"
def TX5 : u_T := fun k => match k with
  | 0 => ("WeighingDesign", "design", "LWeighingDesign$Design;", true)
  | 1 => ("WeighingDesign", "history", "LWeighingDesign$History;", true)
  | 2 => ("WeighingDesign", "text", "LWeighingDesign$Text;", true)
  | 3 => ("WeighingDesign", "trial", "LWeighingDesign$Trial;", true)
  | _ => ("WeighingDesign", "solver", "LWeighingDesign$Solver;", true)
def tyX5 : Nat → FieldType := fun k => match k with
  | 0 => .object "WeighingDesign$Design"
  | 1 => .object "WeighingDesign$History"
  | 2 => .object "WeighingDesign$Text"
  | 3 => .object "WeighingDesign$Trial"
  | _ => .object "WeighingDesign$Solver"
abbrev wsX50 : List Cond := u_ws RX5 TX5 5
theorem nmX5 : ∀ a, a < 5 → ∀ b, b < 5 → a ≠ b → (TX5 a).2.1 ≠ (TX5 b).2.1 := by decide +kernel
theorem tyX5_ok : ∀ k, k < 5 → parseFieldDescriptor (TX5 k).2.2.1 = some (tyX5 k) := by decide +kernel
def RX6 : String := "WeighingDesignModel"
def TX6 : u_T := fun k => match k with
  | 0 => ("WeighingDesignModel", "d", "[I", true)
  | 1 => ("WeighingDesignModel", "was", "[I", true)
  | 2 => ("WeighingDesignModel", "states", "I", false)
  | 3 => ("WeighingDesignModel", "aside", "[I", true)
  | 4 => ("WeighingDesignModel", "text", "[C", true)
  | 5 => ("WeighingDesignModel", "typed", "I", false)
  | 6 => ("WeighingDesignModel", "at", "I", false)
  | 7 => ("WeighingDesignModel", "left", "I", false)
  | 8 => ("WeighingDesignModel", "right", "I", false)
  | 9 => ("WeighingDesignModel", "reading", "I", false)
  | 10 => ("WeighingDesignModel", "reason", "I", false)
  | 11 => ("WeighingDesignModel", "normal", "[J", true)
  | 12 => ("WeighingDesignModel", "withoutRow", "I", false)
  | 13 => ("WeighingDesignModel", "withoutReading", "I", false)
  | 14 => ("WeighingDesignModel", "minors", "[J", true)
  | 15 => ("WeighingDesignModel", "value", "[J", true)
  | 16 => ("WeighingDesignModel", "below", "J", false)
  | 17 => ("WeighingDesignModel", "far", "[I", true)
  | 18 => ("WeighingDesignModel", "up", "J", false)
  | _ => ("WeighingDesignModel", "down", "J", false)
def tyX6 : Nat → FieldType := fun k => match k with
  | 0 => .array .int
  | 1 => .array .int
  | 2 => .int
  | 3 => .array .int
  | 4 => .array .char
  | 5 => .int
  | 6 => .int
  | 7 => .int
  | 8 => .int
  | 9 => .int
  | 10 => .int
  | 11 => .array .long
  | 12 => .int
  | 13 => .int
  | 14 => .array .long
  | 15 => .array .long
  | 16 => .long
  | 17 => .array .int
  | 18 => .long
  | _ => .long
abbrev wsX60 : List Cond := u_ws RX6 TX6 20
theorem nmX6 : ∀ a, a < 20 → ∀ b, b < 20 → a ≠ b → (TX6 a).2.1 ≠ (TX6 b).2.1 := by decide +kernel
theorem tyX6_ok : ∀ k, k < 20 → parseFieldDescriptor (TX6 k).2.2.1 = some (tyX6 k) := by decide +kernel
abbrev vwCl : List vw_C := [(RX0, TX0, 8), (RX1, TX1, 2), (RX2, TX2, 6), (RX3, TX3, 6), (RX4, TX4, 4), (RX5, TX5, 5), (RX6, TX6, 20)]
end
section
/-! Methods by number: 0 .. 155, the last one the law. m_nm name, m_bc code, m_ml locals, m_rt what it returns, m_cl class, m_dp depth of calls, m_mc cells made, m_np parameters. -/
def x_cn (c : Nat) : String := (["WeighingDesign$Design", "WeighingDesign$History", "WeighingDesign$Solver", "WeighingDesign$Text", "WeighingDesign$Trial", "WeighingDesign", "WeighingDesignModel", "java/lang/Integer", "WeighingDesignLaw"] : List String).getD c ""
def m_cls : List Nat := [0, 0, 0, 0, 0, 0, 0, 0, 0, 0, 0, 0, 0, 0, 0, 0, 0, 0, 0, 0, 0, 0, 0, 0, 0, 0, 1, 1, 1, 1, 2, 2, 2, 2, 2, 2, 2, 2, 2, 2, 2, 2, 2, 2, 2, 2, 3, 3, 3, 3, 3, 3, 3, 3, 4, 4, 4, 5, 5, 5, 5, 5, 5, 5, 5, 5, 5, 5, 5, 5, 5, 5, 5, 5, 5, 5, 5, 5, 5, 5, 5, 5, 5, 5, 5, 5, 5, 5, 5, 5, 5, 5, 6, 6, 6, 6, 6, 6, 6, 6, 6, 6, 6, 6, 6, 6, 6, 6, 6, 6, 6, 6, 6, 6, 6, 6, 6, 6, 6, 6, 6, 6, 6, 6, 6, 6, 6, 6, 6, 6, 6, 6, 6, 6, 6, 6, 6, 6, 6, 6, 6, 6, 6, 6, 6, 6, 6, 6, 6, 6, 6, 6, 6, 6, 7, 8]
def m_cl (y : Nat) : Nat := m_cls.getD y 99
def m_cn (y : Nat) : String := x_cn (m_cl y)
def m_nds : List (String × String) := [("<init>", "()V"), ("copyFrom", "(LWeighingDesign$Design;)V"), ("copyRow", "(LWeighingDesign$Design;II)V"), ("hasRow", "(I)Z"), ("hasReading", "(II)Z"), ("readingAt", "(II)I"), ("rowWith", "(II)I"), ("appendRow", "(II)I"), ("removeRow", "(I)V"), ("appendReading", "(II)I"), ("removeReading", "(II)V"), ("takeIn", "(III)Z"), ("unknowns", "()I"), ("allTaken", "()I"), ("sumOf", "(I)I"), ("signOf", "(II)I"), ("factorOf", "(II)I"), ("linksToStandard", "(I)I"), ("chainedMasses", "()I"), ("oneLinkOn", "(I)I"), ("swappedWith", "(I)I"), ("swappedPairs", "()I"), ("meansNumerator", "(II)J"), ("meansDenominator", "(II)J"), ("isPanSuspect", "()Z"), ("mostSuspectRow", "()I"), ("<init>", "()V"), ("keep", "(LWeighingDesign$Design;)V"), ("dropOldest", "()V"), ("restore", "(LWeighingDesign$Design;)V"), ("<init>", "()V"), ("isWhole", "(LWeighingDesign$Design;)Z"), ("isNeeded", "(LWeighingDesign$Design;I)Z"), ("neededRows", "(LWeighingDesign$Design;)I"), ("solve", "(LWeighingDesign$Design;)Z"), ("solveWithout", "(LWeighingDesign$Design;II)Z"), ("residualOf", "(LWeighingDesign$Design;II)J"), ("balanceOf", "(LWeighingDesign$Design;I)J"), ("worstPlace", "(LWeighingDesign$Design;)I"), ("gather", "(LWeighingDesign$Design;)V"), ("weigh", "(LWeighingDesign$Design;III)V"), ("breaksWithout", "(LWeighingDesign$Design;I)Z"), ("isRegular", "()Z"), ("solveGathered", "()Z"), ("determinantWith", "(I)J"), ("minorOf", "(II)J"), ("<init>", "()V"), ("append", "(C)V"), ("readRow", "(I)Z"), ("readMasses", "()I"), ("readAmount", "()Z"), ("pass", "(C)Z"), ("here", "()C"), ("isDigit", "(C)Z"), ("<init>", "()V"), ("run", "(LWeighingDesign$Text;LWeighingDesign$Design;)V"), ("enterRow", "(LWeighingDesign$Text;)I"), ("<init>", "()V"), ("set", "(II)I"), ("addRow", "(II)I"), ("dropRow", "(I)I"), ("take", "(II)I"), ("dropReading", "(II)I"), ("row", "(II)I"), ("reading", "(II)I"), ("find", "(II)I"), ("count", "(I)I"), ("undo", "()I"), ("value", "(II)J"), ("pan", "(I)J"), ("residual", "(III)J"), ("balance", "(II)J"), ("mean", "(II)J"), ("worst", "(I)I"), ("without", "(IIII)J"), ("chain", "(I)I"), ("panBy", "(II)J"), ("mostSuspect", "()I"), ("type", "(I)I"), ("clearText", "()I"), ("fault", "(I)I"), ("enter", "()I"), ("isSetting", "(II)Z"), ("settingOf", "(I)I"), ("isAmount", "(I)Z"), ("isPan", "(I)Z"), ("isMass", "(I)Z"), ("isPart", "(I)Z"), ("foundOr", "(I)I"), ("oneIf", "(Z)I"), ("partOf", "(JJI)J"), ("commonDivisor", "(JJ)J"), ("<init>", "()V"), ("in", "(III)Z"), ("isRow", "(I)Z"), ("isReading", "(II)Z"), ("isSet", "(I)Z"), ("isPart", "(I)Z"), ("records", "()V"), ("lowest", "(JJ)V"), ("told", "(JJI)J"), ("sign", "(II)I"), ("unknowns", "()I"), ("factor", "(II)I"), ("isOut", "(II)Z"), ("rest", "(II)J"), ("sums", "()V"), ("determinant", "(I)J"), ("solves", "()Z"), ("residualOf", "(II)J"), ("isNeeded", "(I)Z"), ("set", "(II)I"), ("rowOf", "(II)I"), ("adds", "(II)I"), ("addRow", "(II)I"), ("dropRow", "(I)I"), ("takes", "(II)I"), ("take", "(II)I"), ("dropReading", "(II)I"), ("swapped", "(I)I"), ("row", "(II)I"), ("reading", "(II)I"), ("find", "(II)I"), ("readings", "()I"), ("needed", "()I"), ("pairs", "()I"), ("linked", "()I"), ("count", "(I)I"), ("undo", "()I"), ("value", "(II)J"), ("pan", "(I)J"), ("residual", "(III)J"), ("balance", "(II)J"), ("sumOf", "(I)J"), ("mean", "(II)J"), ("worst", "(I)I"), ("without", "(IIII)J"), ("chains", "()V"), ("chain", "(I)I"), ("together", "(II)J"), ("isSuspect", "()Z"), ("panBy", "(II)J"), ("mostSuspect", "()I"), ("type", "(I)I"), ("clearText", "()I"), ("passes", "(C)Z"), ("readsPan", "()I"), ("readsForm", "()Z"), ("entersOne", "()I"), ("keeps", "()V"), ("restores", "()V"), ("faulty", "()I"), ("fault", "(I)I"), ("enter", "()I"), ("bitCount", "(I)I"), ("law", "([I)Z")]
def m_nd (y : Nat) : String × String := m_nds.getD y ("", "")
def m_nm (y : Nat) : MethodName := ⟨m_cn y, (m_nd y).1, (m_nd y).2⟩
def m_bcs : List ByteArray := [prog_2_method_1_code, prog_2_method_2_code, prog_2_method_3_code, prog_2_method_4_code, prog_2_method_5_code, prog_2_method_6_code, prog_2_method_7_code, prog_2_method_8_code, prog_2_method_9_code, prog_2_method_10_code, prog_2_method_11_code, prog_2_method_12_code, prog_2_method_13_code, prog_2_method_14_code, prog_2_method_15_code, prog_2_method_16_code, prog_2_method_17_code, prog_2_method_18_code, prog_2_method_19_code, prog_2_method_20_code, prog_2_method_21_code, prog_2_method_22_code, prog_2_method_23_code, prog_2_method_24_code, prog_2_method_25_code, prog_2_method_26_code, prog_3_method_1_code, prog_3_method_2_code, prog_3_method_3_code, prog_3_method_4_code, prog_4_method_1_code, prog_4_method_2_code, prog_4_method_3_code, prog_4_method_4_code, prog_4_method_5_code, prog_4_method_6_code, prog_4_method_7_code, prog_4_method_8_code, prog_4_method_9_code, prog_4_method_10_code, prog_4_method_11_code, prog_4_method_12_code, prog_4_method_13_code, prog_4_method_14_code, prog_4_method_15_code, prog_4_method_16_code, prog_5_method_1_code, prog_5_method_2_code, prog_5_method_3_code, prog_5_method_4_code, prog_5_method_5_code, prog_5_method_6_code, prog_5_method_7_code, prog_5_method_8_code, prog_6_method_1_code, prog_6_method_2_code, prog_6_method_3_code, prog_1_method_1_code, prog_1_method_2_code, prog_1_method_3_code, prog_1_method_4_code, prog_1_method_5_code, prog_1_method_6_code, prog_1_method_7_code, prog_1_method_8_code, prog_1_method_9_code, prog_1_method_10_code, prog_1_method_11_code, prog_1_method_12_code, prog_1_method_13_code, prog_1_method_14_code, prog_1_method_15_code, prog_1_method_16_code, prog_1_method_17_code, prog_1_method_18_code, prog_1_method_19_code, prog_1_method_20_code, prog_1_method_21_code, prog_1_method_22_code, prog_1_method_23_code, prog_1_method_24_code, prog_1_method_25_code, prog_1_method_26_code, prog_1_method_27_code, prog_1_method_28_code, prog_1_method_29_code, prog_1_method_30_code, prog_1_method_31_code, prog_1_method_32_code, prog_1_method_33_code, prog_1_method_34_code, prog_1_method_35_code, prog_8_method_1_code, prog_8_method_2_code, prog_8_method_3_code, prog_8_method_4_code, prog_8_method_5_code, prog_8_method_6_code, prog_8_method_7_code, prog_8_method_8_code, prog_8_method_9_code, prog_8_method_10_code, prog_8_method_11_code, prog_8_method_12_code, prog_8_method_13_code, prog_8_method_14_code, prog_8_method_15_code, prog_8_method_16_code, prog_8_method_17_code, prog_8_method_18_code, prog_8_method_19_code, prog_8_method_20_code, prog_8_method_21_code, prog_8_method_22_code, prog_8_method_23_code, prog_8_method_24_code, prog_8_method_25_code, prog_8_method_26_code, prog_8_method_27_code, prog_8_method_28_code, prog_8_method_29_code, prog_8_method_30_code, prog_8_method_31_code, prog_8_method_32_code, prog_8_method_33_code, prog_8_method_34_code, prog_8_method_35_code, prog_8_method_36_code, prog_8_method_37_code, prog_8_method_38_code, prog_8_method_39_code, prog_8_method_40_code, prog_8_method_41_code, prog_8_method_42_code, prog_8_method_43_code, prog_8_method_44_code, prog_8_method_45_code, prog_8_method_46_code, prog_8_method_47_code, prog_8_method_48_code, prog_8_method_49_code, prog_8_method_50_code, prog_8_method_51_code, prog_8_method_52_code, prog_8_method_53_code, prog_8_method_54_code, prog_8_method_55_code, prog_8_method_56_code, prog_8_method_57_code, prog_8_method_58_code, prog_8_method_59_code, prog_8_method_60_code, prog_8_method_61_code, prog_8_method_62_code, prog_9_method_49_code, code]
def m_bc (y : Nat) : ByteArray := m_bcs.getD y .empty
def m_mls : List Nat := [1, 3, 5, 2, 3, 3, 4, 4, 3, 4, 4, 5, 1, 3, 4, 3, 3, 4, 3, 5, 3, 3, 3, 3, 3, 12, 2, 2, 3, 2, 1, 2, 3, 4, 2, 4, 9, 8, 9, 4, 10, 6, 1, 2, 4, 10, 1, 2, 2, 3, 4, 2, 1, 1, 1, 4, 2, 1, 4, 3, 2, 3, 3, 3, 3, 3, 2, 1, 3, 2, 4, 3, 3, 3, 5, 2, 4, 1, 2, 2, 2, 1, 2, 2, 1, 1, 1, 1, 1, 1, 7, 11, 1, 3, 2, 3, 1, 1, 2, 11, 6, 3, 1, 3, 3, 3, 5, 11, 2, 6, 4, 4, 4, 4, 3, 4, 3, 3, 4, 3, 3, 3, 4, 3, 3, 3, 3, 2, 2, 3, 2, 4, 7, 5, 3, 9, 6, 6, 2, 3, 6, 4, 12, 2, 2, 3, 2, 4, 2, 2, 2, 3, 3, 2, 1, 4]
def m_ml (y : Nat) : Nat := m_mls.getD y 0
def m_rts : List (Option FieldType) := [none, none, none, some .boolean, some .boolean, some .int, some .int, some .int, none, some .int, none, some .boolean, some .int, some .int, some .int, some .int, some .int, some .int, some .int, some .int, some .int, some .int, some .long, some .long, some .boolean, some .int, none, none, none, none, none, some .boolean, some .boolean, some .int, some .boolean, some .boolean, some .long, some .long, some .int, none, none, some .boolean, some .boolean, some .boolean, some .long, some .long, none, none, some .boolean, some .int, some .boolean, some .boolean, some .char, some .boolean, none, none, some .int, none, some .int, some .int, some .int, some .int, some .int, some .int, some .int, some .int, some .int, some .int, some .long, some .long, some .long, some .long, some .long, some .int, some .long, some .int, some .long, some .int, some .int, some .int, some .int, some .int, some .boolean, some .int, some .boolean, some .boolean, some .boolean, some .boolean, some .int, some .int, some .long, some .long, none, some .boolean, some .boolean, some .boolean, some .boolean, some .boolean, none, none, some .long, some .int, some .int, some .int, some .boolean, some .long, none, some .long, some .boolean, some .long, some .boolean, some .int, some .int, some .int, some .int, some .int, some .int, some .int, some .int, some .int, some .int, some .int, some .int, some .int, some .int, some .int, some .int, some .int, some .int, some .long, some .long, some .long, some .long, some .long, some .long, some .int, some .long, none, some .int, some .long, some .boolean, some .long, some .int, some .int, some .int, some .boolean, some .int, some .boolean, some .int, none, none, some .int, some .int, some .int, some .int, some .boolean]
def m_rt (y : Nat) : Option FieldType := m_rts.getD y none
def m_dps : List Nat := [1, 1, 0, 0, 1, 0, 0, 0, 1, 0, 0, 1, 0, 0, 1, 0, 1, 1, 1, 0, 1, 2, 2, 0, 3, 3, 2, 2, 0, 2, 1, 4, 5, 5, 4, 4, 2, 3, 3, 3, 2, 4, 3, 3, 2, 1, 1, 0, 3, 2, 2, 1, 0, 0, 2, 5, 4, 3, 3, 3, 3, 3, 3, 6, 2, 1, 6, 3, 5, 5, 5, 5, 3, 5, 5, 2, 3, 4, 1, 0, 6, 6, 1, 0, 0, 0, 0, 0, 0, 0, 2, 1, 1, 0, 1, 2, 1, 1, 0, 0, 1, 0, 0, 1, 0, 1, 2, 1, 3, 2, 4, 1, 0, 0, 2, 2, 0, 2, 3, 1, 5, 3, 2, 0, 5, 2, 1, 6, 0, 4, 4, 4, 4, 0, 2, 4, 4, 0, 1, 1, 2, 2, 2, 1, 0, 0, 1, 2, 3, 0, 0, 4, 5, 5, 0, 9]
def m_dp (y : Nat) : Nat := m_dps.getD y 0
def m_mcs : List Nat := [4, 0, 0, 0, 0, 0, 0, 0, 0, 0, 0, 0, 0, 0, 0, 0, 0, 0, 0, 0, 0, 0, 0, 0, 0, 0, 26, 0, 0, 0, 9, 0, 0, 0, 0, 0, 0, 0, 0, 0, 0, 0, 0, 0, 0, 0, 1, 0, 0, 0, 0, 0, 0, 0, 5, 0, 0, 50, 0, 0, 0, 0, 0, 0, 0, 0, 0, 0, 0, 0, 0, 0, 0, 0, 0, 0, 0, 0, 0, 0, 0, 0, 0, 0, 0, 0, 0, 0, 0, 0, 0, 0, 8, 0, 0, 0, 0, 0, 0, 0, 0, 0, 0, 0, 0, 0, 0, 0, 0, 0, 0, 0, 0, 0, 0, 0, 0, 0, 0, 0, 0, 0, 0, 0, 0, 0, 0, 0, 0, 0, 0, 0, 0, 0, 0, 0, 0, 0, 0, 0, 0, 0, 0, 0, 0, 0, 0, 0, 0, 0, 0, 0, 0, 0, 0, 600]
def m_mc (y : Nat) : Nat := m_mcs.getD y 0
def m_nps : List Nat := [0, 1, 3, 1, 2, 2, 2, 2, 1, 2, 2, 3, 0, 0, 1, 2, 2, 1, 0, 1, 1, 0, 2, 2, 0, 0, 0, 1, 0, 1, 0, 1, 2, 1, 1, 3, 3, 2, 1, 1, 4, 2, 0, 0, 1, 2, 0, 1, 1, 0, 0, 1, 0, 1, 0, 2, 1, 0, 2, 2, 1, 2, 2, 2, 2, 2, 1, 0, 2, 1, 3, 2, 2, 1, 4, 1, 2, 0, 1, 0, 1, 0, 2, 1, 1, 1, 1, 1, 1, 1, 3, 2, 0, 3, 1, 2, 1, 1, 0, 2, 3, 2, 0, 2, 2, 2, 0, 1, 0, 2, 1, 2, 2, 2, 2, 1, 2, 2, 2, 1, 2, 2, 2, 0, 0, 0, 0, 1, 0, 2, 1, 3, 2, 1, 2, 1, 4, 0, 1, 2, 0, 2, 0, 1, 0, 1, 0, 0, 0, 0, 0, 0, 1, 0, 1, 1]
def m_np (y : Nat) : Nat := m_nps.getD y 0
def m_law : Nat := 155
def m_in (y : Nat) : Bool := (m_nd y).1 == "<init>"
/-- room of a method: frames, cells, slots, locals -/
def m_rm (y : Nat) : Room := if y = m_law then room_1 else { frames := m_dp y, cells := m_mc y, slots := 600 * m_mc y, locals := 36 * m_dp y }
/-- links: (class, pool index, kind, method); kind 0 virtual, 1 static, 2 constructor, 3 Object(), 4 Math.abs, 5 Math.max (longs), 6 static of a nest mate -/
def x_mls : List (Nat × Nat × Nat × Nat) := [(0, 3, 3, 0), (0, 37, 0, 2), (0, 41, 0, 3), (0, 45, 0, 6), (0, 49, 0, 7), (0, 52, 0, 9), (0, 55, 0, 5), (0, 58, 0, 15), (0, 61, 0, 19), (0, 65, 1, 154), (0, 70, 0, 20), (0, 73, 0, 14), (0, 76, 0, 22), (0, 80, 4, 0), (0, 86, 0, 23), (1, 3, 3, 0), (1, 17, 2, 0), (1, 22, 0, 28), (1, 25, 0, 1), (2, 3, 3, 0), (2, 26, 0, 39), (2, 30, 0, 42), (2, 34, 0, 31), (2, 38, 0, 41), (2, 48, 0, 43), (2, 51, 0, 5), (2, 55, 0, 40), (2, 59, 0, 15), (2, 72, 0, 16), (2, 79, 0, 36), (2, 85, 4, 0), (2, 91, 0, 12), (2, 94, 0, 14), (2, 98, 0, 44), (2, 102, 0, 45), (2, 106, 1, 154), (3, 3, 3, 0), (3, 22, 0, 49), (3, 29, 0, 51), (3, 36, 0, 50), (3, 40, 0, 52), (3, 44, 1, 53), (4, 3, 3, 0), (4, 11, 2, 0), (4, 18, 0, 1), (4, 37, 0, 56), (4, 44, 0, 48), (4, 57, 6, 84), (4, 60, 0, 11), (5, 1, 3, 0), (5, 9, 2, 0), (5, 18, 2, 26), (5, 25, 2, 46), (5, 32, 2, 54), (5, 39, 2, 30), (5, 44, 1, 82), (5, 49, 0, 83), (5, 53, 0, 27), (5, 67, 1, 85), (5, 71, 0, 6), (5, 80, 0, 7), (5, 83, 0, 3), (5, 86, 0, 8), (5, 90, 1, 84), (5, 97, 0, 9), (5, 100, 0, 4), (5, 103, 0, 10), (5, 113, 0, 20), (5, 116, 1, 88), (5, 119, 0, 32), (5, 123, 1, 89), (5, 127, 0, 5), (5, 130, 0, 13), (5, 134, 0, 31), (5, 138, 0, 12), (5, 141, 0, 24), (5, 145, 0, 21), (5, 148, 0, 18), (5, 157, 0, 33), (5, 161, 0, 29), (5, 164, 1, 86), (5, 167, 1, 87), (5, 172, 0, 34), (5, 177, 1, 90), (5, 189, 0, 36), (5, 193, 0, 37), (5, 199, 0, 14), (5, 202, 0, 38), (5, 205, 0, 35), (5, 209, 0, 17), (5, 212, 0, 22), (5, 218, 0, 23), (5, 221, 0, 25), (5, 224, 0, 47), (5, 228, 0, 55), (5, 240, 0, 1), (5, 248, 1, 91), (5, 252, 4, 0), (5, 258, 5, 0), (6, 1, 3, 0), (6, 43, 1, 93), (6, 47, 0, 94), (6, 61, 0, 99), (6, 65, 0, 101), (6, 69, 0, 102), (6, 73, 0, 104), (6, 77, 0, 103), (6, 80, 0, 105), (6, 84, 0, 106), (6, 87, 0, 107), (6, 94, 0, 108), (6, 101, 0, 98), (6, 104, 1, 96), (6, 107, 0, 112), (6, 112, 0, 113), (6, 115, 0, 116), (6, 118, 0, 95), (6, 121, 0, 119), (6, 126, 0, 110), (6, 129, 0, 137), (6, 132, 0, 123), (6, 135, 0, 140), (6, 138, 0, 125), (6, 141, 0, 126), (6, 147, 0, 124), (6, 150, 1, 97), (6, 157, 0, 100), (6, 161, 0, 109), (6, 166, 0, 133), (6, 171, 0, 139), (6, 179, 0, 146), (6, 185, 0, 145), (6, 195, 0, 147), (6, 198, 0, 149), (6, 201, 0, 148), (6, 207, 0, 150), (6, 210, 0, 151), (8, 9, 2, 57), (8, 12, 2, 92), (8, 13, 0, 58), (8, 17, 0, 111), (8, 18, 0, 59), (8, 21, 0, 114), (8, 22, 0, 60), (8, 26, 0, 115), (8, 27, 0, 61), (8, 30, 0, 117), (8, 31, 0, 62), (8, 34, 0, 118), (8, 35, 0, 63), (8, 38, 0, 120), (8, 39, 0, 64), (8, 42, 0, 121), (8, 43, 0, 65), (8, 46, 0, 122), (8, 47, 0, 66), (8, 50, 0, 127), (8, 51, 0, 67), (8, 55, 0, 128), (8, 56, 0, 68), (8, 60, 0, 129), (8, 61, 0, 69), (8, 65, 0, 130), (8, 66, 0, 70), (8, 70, 0, 131), (8, 71, 0, 71), (8, 74, 0, 132), (8, 75, 0, 72), (8, 78, 0, 134), (8, 79, 0, 73), (8, 82, 0, 135), (8, 83, 0, 74), (8, 87, 0, 136), (8, 88, 0, 75), (8, 91, 0, 138), (8, 92, 0, 76), (8, 95, 0, 141), (8, 96, 0, 77), (8, 99, 0, 142), (8, 100, 0, 78), (8, 103, 0, 143), (8, 104, 0, 79), (8, 107, 0, 144), (8, 108, 0, 80), (8, 111, 0, 152), (8, 112, 0, 81), (8, 115, 0, 153)]
def x_fls : List (Nat × Nat × Nat × Nat) := [(0, 9, 0, 2), (0, 15, 0, 4), (0, 19, 0, 5), (0, 22, 0, 6), (0, 25, 0, 7), (0, 28, 0, 0), (0, 31, 0, 1), (0, 34, 0, 3), (1, 11, 1, 0), (1, 18, 1, 1), (2, 11, 2, 0), (2, 16, 2, 1), (2, 20, 2, 2), (2, 23, 2, 3), (2, 42, 0, 3), (2, 62, 0, 0), (2, 65, 2, 5), (2, 69, 2, 4), (2, 75, 0, 6), (3, 9, 3, 0), (3, 15, 3, 1), (3, 19, 3, 5), (3, 26, 3, 2), (3, 33, 3, 3), (3, 47, 3, 4), (4, 12, 4, 0), (4, 22, 4, 1), (4, 26, 4, 2), (4, 29, 4, 3), (4, 32, 3, 1), (4, 41, 3, 5), (4, 48, 3, 2), (4, 51, 3, 3), (4, 54, 3, 4), (5, 10, 5, 0), (5, 19, 5, 1), (5, 26, 5, 2), (5, 33, 5, 3), (5, 40, 5, 4), (5, 57, 0, 0), (5, 61, 0, 1), (5, 64, 0, 2), (5, 76, 0, 3), (5, 93, 0, 6), (5, 107, 0, 4), (5, 110, 0, 5), (5, 151, 1, 1), (5, 154, 3, 1), (5, 181, 2, 3), (5, 185, 2, 5), (5, 232, 4, 3), (5, 236, 4, 2), (5, 239, 4, 0), (5, 243, 4, 1), (6, 7, 6, 0), (6, 13, 6, 1), (6, 16, 6, 3), (6, 19, 6, 4), (6, 23, 6, 11), (6, 27, 6, 14), (6, 30, 6, 15), (6, 33, 6, 17), (6, 36, 6, 12), (6, 40, 6, 13), (6, 51, 6, 2), (6, 54, 6, 18), (6, 58, 6, 19), (6, 91, 6, 16), (6, 144, 6, 5), (6, 176, 6, 6), (6, 182, 6, 7), (6, 189, 6, 8), (6, 192, 6, 9), (6, 204, 6, 10)]
def x_find (l : List (Nat × Nat × Nat × Nat)) (c i : Nat) : Option (Nat × Nat) := match l with
  | [] => none
  | (c1, i1, a, b) :: r => if c1 = c ∧ i1 = i then some (a, b) else x_find r c i
def x_ml (c i : Nat) : Option (Nat × Nat) := x_find x_mls c i
def x_fl (c i : Nat) : Option (Nat × Nat) := x_find x_fls c i
/-- class links: (class, pool index, class, 0) -/
def x_nls : List (Nat × Nat × Nat × Nat) := [(8, 7, 5, 0), (5, 7, 0, 0), (5, 16, 1, 0), (1, 9, 0, 0), (5, 23, 3, 0), (5, 30, 4, 0), (4, 9, 0, 0), (5, 37, 2, 0), (8, 10, 6, 0)]
def x_nl (c i : Nat) : Option (Nat × Nat) := x_find x_nls c i
def x_mna (c i : Nat) : Bool := c == 2 && i == 9
def x_css : List (Nat × Nat × Value) := [(5, 247, .int (-100000)), (5, 246, .int (100000)), (5, 48, .int (-2000000001)), (5, 75, .int (-2000000002)), (5, 79, .int (-2000000003)), (5, 235, .int (-2000000004)), (7, 265, .int (1431655765)), (7, 266, .int (858993459)), (7, 267, .int (252645135)), (5, 170, .long (-2000000001)), (5, 175, .long (-2000000002)), (5, 197, .long (-2000000004)), (2, 83, .long (-1)), (5, 216, .long (2)), (6, 98, .int (-100000)), (6, 99, .int (100000)), (6, 100, .int (-2000000001)), (6, 110, .int (-2000000002)), (6, 111, .int (-2000000003)), (6, 125, .int (-2000000004)), (6, 153, .long (-2000000001)), (6, 155, .long (-2000000002)), (6, 164, .long (-2000000004)), (6, 169, .long (-1)), (6, 174, .long (2))]
def x_cfind (l : List (Nat × Nat × Value)) (c i : Nat) : Option Value := match l with
  | [] => none
  | (c1, i1, v) :: r => if c1 = c ∧ i1 = i then some v else x_cfind r c i
def x_cs (c i : Nat) : Option Value := x_cfind x_css c i
/-- of a class: the kinds of its fields (0 int, 1 long, 2 reference), final or not -/
def x_fk (c : Nat) : List (Nat × Bool) := ([[(0, false), (0, false), (0, false), (0, false), (2, true), (2, true), (2, true), (2, true)], [(2, true), (0, false)], [(2, true), (2, true), (2, true), (2, true), (0, false), (1, false)], [(2, true), (0, false), (0, false), (0, false), (0, false), (0, false)], [(2, true), (0, false), (0, false), (0, false)], [(2, true), (2, true), (2, true), (2, true), (2, true)], [(2, true), (2, true), (0, false), (2, true), (2, true), (0, false), (0, false), (0, false), (0, false), (0, false), (0, false), (2, true), (0, false), (0, false), (2, true), (2, true), (1, false), (2, true), (1, false), (1, false)]] : List (List (Nat × Bool))).getD c []
def x_df (c : Nat) : List Value := (x_fk c).map (fun q => match q.1 with | 0 => .int 0 | 1 => .long 0 | _ => .null)
def x_fn (c : Nat) : Nat := (x_fk c).length
/-! the words of the tables that the links stand on -/
theorem x_w {l : List Cond} {i : Nat} {c : Cond} (h : l[i]? = some c) : c ∈ l := List.mem_of_getElem? h
set_option maxRecDepth 100000 in
theorem m_code_0 : lw_tbl[72]? = some (Cond.code (m_nm 0) (m_bc 0) (m_ml 0) (m_rt 0)) := rfl
set_option maxRecDepth 100000 in
theorem m_code_1 : lw_tbl[258]? = some (Cond.code (m_nm 1) (m_bc 1) (m_ml 1) (m_rt 1)) := rfl
set_option maxRecDepth 100000 in
theorem m_code_2 : lw_tbl[262]? = some (Cond.code (m_nm 2) (m_bc 2) (m_ml 2) (m_rt 2)) := rfl
set_option maxRecDepth 100000 in
theorem m_code_3 : lw_tbl[287]? = some (Cond.code (m_nm 3) (m_bc 3) (m_ml 3) (m_rt 3)) := rfl
set_option maxRecDepth 100000 in
theorem m_code_4 : lw_tbl[307]? = some (Cond.code (m_nm 4) (m_bc 4) (m_ml 4) (m_rt 4)) := rfl
set_option maxRecDepth 100000 in
theorem m_code_5 : lw_tbl[349]? = some (Cond.code (m_nm 5) (m_bc 5) (m_ml 5) (m_rt 5)) := rfl
set_option maxRecDepth 100000 in
theorem m_code_6 : lw_tbl[273]? = some (Cond.code (m_nm 6) (m_bc 6) (m_ml 6) (m_rt 6)) := rfl
set_option maxRecDepth 100000 in
theorem m_code_7 : lw_tbl[279]? = some (Cond.code (m_nm 7) (m_bc 7) (m_ml 7) (m_rt 7)) := rfl
set_option maxRecDepth 100000 in
theorem m_code_8 : lw_tbl[291]? = some (Cond.code (m_nm 8) (m_bc 8) (m_ml 8) (m_rt 8)) := rfl
set_option maxRecDepth 100000 in
theorem m_code_9 : lw_tbl[299]? = some (Cond.code (m_nm 9) (m_bc 9) (m_ml 9) (m_rt 9)) := rfl
set_option maxRecDepth 100000 in
theorem m_code_10 : lw_tbl[312]? = some (Cond.code (m_nm 10) (m_bc 10) (m_ml 10) (m_rt 10)) := rfl
set_option maxRecDepth 100000 in
theorem m_code_11 : lw_tbl[600]? = some (Cond.code (m_nm 11) (m_bc 11) (m_ml 11) (m_rt 11)) := rfl
set_option maxRecDepth 100000 in
theorem m_code_12 : lw_tbl[341]? = some (Cond.code (m_nm 12) (m_bc 12) (m_ml 12) (m_rt 12)) := rfl
set_option maxRecDepth 100000 in
theorem m_code_13 : lw_tbl[404]? = some (Cond.code (m_nm 13) (m_bc 13) (m_ml 13) (m_rt 13)) := rfl
set_option maxRecDepth 100000 in
theorem m_code_14 : lw_tbl[345]? = some (Cond.code (m_nm 14) (m_bc 14) (m_ml 14) (m_rt 14)) := rfl
set_option maxRecDepth 100000 in
theorem m_code_15 : lw_tbl[357]? = some (Cond.code (m_nm 15) (m_bc 15) (m_ml 15) (m_rt 15)) := rfl
set_option maxRecDepth 100000 in
theorem m_code_16 : lw_tbl[361]? = some (Cond.code (m_nm 16) (m_bc 16) (m_ml 16) (m_rt 16)) := rfl
set_option maxRecDepth 100000 in
theorem m_code_17 : lw_tbl[532]? = some (Cond.code (m_nm 17) (m_bc 17) (m_ml 17) (m_rt 17)) := rfl
set_option maxRecDepth 100000 in
theorem m_code_18 : lw_tbl[431]? = some (Cond.code (m_nm 18) (m_bc 18) (m_ml 18) (m_rt 18)) := rfl
set_option maxRecDepth 100000 in
theorem m_code_19 : lw_tbl[435]? = some (Cond.code (m_nm 19) (m_bc 19) (m_ml 19) (m_rt 19)) := rfl
set_option maxRecDepth 100000 in
theorem m_code_20 : lw_tbl[320]? = some (Cond.code (m_nm 20) (m_bc 20) (m_ml 20) (m_rt 20)) := rfl
set_option maxRecDepth 100000 in
theorem m_code_21 : lw_tbl[427]? = some (Cond.code (m_nm 21) (m_bc 21) (m_ml 21) (m_rt 21)) := rfl
set_option maxRecDepth 100000 in
theorem m_code_22 : lw_tbl[415]? = some (Cond.code (m_nm 22) (m_bc 22) (m_ml 22) (m_rt 22)) := rfl
set_option maxRecDepth 100000 in
theorem m_code_23 : lw_tbl[423]? = some (Cond.code (m_nm 23) (m_bc 23) (m_ml 23) (m_rt 23)) := rfl
set_option maxRecDepth 100000 in
theorem m_code_24 : lw_tbl[410]? = some (Cond.code (m_nm 24) (m_bc 24) (m_ml 24) (m_rt 24)) := rfl
set_option maxRecDepth 100000 in
theorem m_code_25 : lw_tbl[547]? = some (Cond.code (m_nm 25) (m_bc 25) (m_ml 25) (m_rt 25)) := rfl
set_option maxRecDepth 100000 in
theorem m_code_26 : lw_tbl[114]? = some (Cond.code (m_nm 26) (m_bc 26) (m_ml 26) (m_rt 26)) := rfl
set_option maxRecDepth 100000 in
theorem m_code_27 : lw_tbl[250]? = some (Cond.code (m_nm 27) (m_bc 27) (m_ml 27) (m_rt 27)) := rfl
set_option maxRecDepth 100000 in
theorem m_code_28 : lw_tbl[254]? = some (Cond.code (m_nm 28) (m_bc 28) (m_ml 28) (m_rt 28)) := rfl
set_option maxRecDepth 100000 in
theorem m_code_29 : lw_tbl[448]? = some (Cond.code (m_nm 29) (m_bc 29) (m_ml 29) (m_rt 29)) := rfl
set_option maxRecDepth 100000 in
theorem m_code_30 : lw_tbl[188]? = some (Cond.code (m_nm 30) (m_bc 30) (m_ml 30) (m_rt 30)) := rfl
set_option maxRecDepth 100000 in
theorem m_code_31 : lw_tbl[333]? = some (Cond.code (m_nm 31) (m_bc 31) (m_ml 31) (m_rt 31)) := rfl
set_option maxRecDepth 100000 in
theorem m_code_32 : lw_tbl[329]? = some (Cond.code (m_nm 32) (m_bc 32) (m_ml 32) (m_rt 32)) := rfl
set_option maxRecDepth 100000 in
theorem m_code_33 : lw_tbl[440]? = some (Cond.code (m_nm 33) (m_bc 33) (m_ml 33) (m_rt 33)) := rfl
set_option maxRecDepth 100000 in
theorem m_code_34 : lw_tbl[463]? = some (Cond.code (m_nm 34) (m_bc 34) (m_ml 34) (m_rt 34)) := rfl
set_option maxRecDepth 100000 in
theorem m_code_35 : lw_tbl[524]? = some (Cond.code (m_nm 35) (m_bc 35) (m_ml 35) (m_rt 35)) := rfl
set_option maxRecDepth 100000 in
theorem m_code_36 : lw_tbl[490]? = some (Cond.code (m_nm 36) (m_bc 36) (m_ml 36) (m_rt 36)) := rfl
set_option maxRecDepth 100000 in
theorem m_code_37 : lw_tbl[499]? = some (Cond.code (m_nm 37) (m_bc 37) (m_ml 37) (m_rt 37)) := rfl
set_option maxRecDepth 100000 in
theorem m_code_38 : lw_tbl[514]? = some (Cond.code (m_nm 38) (m_bc 38) (m_ml 38) (m_rt 38)) := rfl
set_option maxRecDepth 100000 in
theorem m_code_39 : lw_tbl[337]? = some (Cond.code (m_nm 39) (m_bc 39) (m_ml 39) (m_rt 39)) := rfl
set_option maxRecDepth 100000 in
theorem m_code_40 : lw_tbl[353]? = some (Cond.code (m_nm 40) (m_bc 40) (m_ml 40) (m_rt 40)) := rfl
set_option maxRecDepth 100000 in
theorem m_code_41 : lw_tbl[384]? = some (Cond.code (m_nm 41) (m_bc 41) (m_ml 41) (m_rt 41)) := rfl
set_option maxRecDepth 100000 in
theorem m_code_42 : lw_tbl[366]? = some (Cond.code (m_nm 42) (m_bc 42) (m_ml 42) (m_rt 42)) := rfl
set_option maxRecDepth 100000 in
theorem m_code_43 : lw_tbl[467]? = some (Cond.code (m_nm 43) (m_bc 43) (m_ml 43) (m_rt 43)) := rfl
set_option maxRecDepth 100000 in
theorem m_code_44 : lw_tbl[370]? = some (Cond.code (m_nm 44) (m_bc 44) (m_ml 44) (m_rt 44)) := rfl
set_option maxRecDepth 100000 in
theorem m_code_45 : lw_tbl[374]? = some (Cond.code (m_nm 45) (m_bc 45) (m_ml 45) (m_rt 45)) := rfl
set_option maxRecDepth 100000 in
theorem m_code_46 : lw_tbl[131]? = some (Cond.code (m_nm 46) (m_bc 46) (m_ml 46) (m_rt 46)) := rfl
set_option maxRecDepth 100000 in
theorem m_code_47 : lw_tbl[555]? = some (Cond.code (m_nm 47) (m_bc 47) (m_ml 47) (m_rt 47)) := rfl
set_option maxRecDepth 100000 in
theorem m_code_48 : lw_tbl[576]? = some (Cond.code (m_nm 48) (m_bc 48) (m_ml 48) (m_rt 48)) := rfl
set_option maxRecDepth 100000 in
theorem m_code_49 : lw_tbl[580]? = some (Cond.code (m_nm 49) (m_bc 49) (m_ml 49) (m_rt 49)) := rfl
set_option maxRecDepth 100000 in
theorem m_code_50 : lw_tbl[592]? = some (Cond.code (m_nm 50) (m_bc 50) (m_ml 50) (m_rt 50)) := rfl
set_option maxRecDepth 100000 in
theorem m_code_51 : lw_tbl[584]? = some (Cond.code (m_nm 51) (m_bc 51) (m_ml 51) (m_rt 51)) := rfl
set_option maxRecDepth 100000 in
theorem m_code_52 : lw_tbl[588]? = some (Cond.code (m_nm 52) (m_bc 52) (m_ml 52) (m_rt 52)) := rfl
set_option maxRecDepth 100000 in
theorem m_code_53 : lw_tbl[595]? = some (Cond.code (m_nm 53) (m_bc 53) (m_ml 53) (m_rt 53)) := rfl
set_option maxRecDepth 100000 in
theorem m_code_54 : lw_tbl[163]? = some (Cond.code (m_nm 54) (m_bc 54) (m_ml 54) (m_rt 54)) := rfl
set_option maxRecDepth 100000 in
theorem m_code_55 : lw_tbl[567]? = some (Cond.code (m_nm 55) (m_bc 55) (m_ml 55) (m_rt 55)) := rfl
set_option maxRecDepth 100000 in
theorem m_code_56 : lw_tbl[572]? = some (Cond.code (m_nm 56) (m_bc 56) (m_ml 56) (m_rt 56)) := rfl
set_option maxRecDepth 100000 in
theorem m_code_57 : lw_tbl[64]? = some (Cond.code (m_nm 57) (m_bc 57) (m_ml 57) (m_rt 57)) := rfl
set_option maxRecDepth 100000 in
theorem m_code_58 : lw_tbl[233]? = some (Cond.code (m_nm 58) (m_bc 58) (m_ml 58) (m_rt 58)) := rfl
set_option maxRecDepth 100000 in
theorem m_code_59 : lw_tbl[266]? = some (Cond.code (m_nm 59) (m_bc 59) (m_ml 59) (m_rt 59)) := rfl
set_option maxRecDepth 100000 in
theorem m_code_60 : lw_tbl[283]? = some (Cond.code (m_nm 60) (m_bc 60) (m_ml 60) (m_rt 60)) := rfl
set_option maxRecDepth 100000 in
theorem m_code_61 : lw_tbl[295]? = some (Cond.code (m_nm 61) (m_bc 61) (m_ml 61) (m_rt 61)) := rfl
set_option maxRecDepth 100000 in
theorem m_code_62 : lw_tbl[303]? = some (Cond.code (m_nm 62) (m_bc 62) (m_ml 62) (m_rt 62)) := rfl
set_option maxRecDepth 100000 in
theorem m_code_63 : lw_tbl[316]? = some (Cond.code (m_nm 63) (m_bc 63) (m_ml 63) (m_rt 63)) := rfl
set_option maxRecDepth 100000 in
theorem m_code_64 : lw_tbl[391]? = some (Cond.code (m_nm 64) (m_bc 64) (m_ml 64) (m_rt 64)) := rfl
set_option maxRecDepth 100000 in
theorem m_code_65 : lw_tbl[396]? = some (Cond.code (m_nm 65) (m_bc 65) (m_ml 65) (m_rt 65)) := rfl
set_option maxRecDepth 100000 in
theorem m_code_66 : lw_tbl[400]? = some (Cond.code (m_nm 66) (m_bc 66) (m_ml 66) (m_rt 66)) := rfl
set_option maxRecDepth 100000 in
theorem m_code_67 : lw_tbl[444]? = some (Cond.code (m_nm 67) (m_bc 67) (m_ml 67) (m_rt 67)) := rfl
set_option maxRecDepth 100000 in
theorem m_code_68 : lw_tbl[452]? = some (Cond.code (m_nm 68) (m_bc 68) (m_ml 68) (m_rt 68)) := rfl
set_option maxRecDepth 100000 in
theorem m_code_69 : lw_tbl[482]? = some (Cond.code (m_nm 69) (m_bc 69) (m_ml 69) (m_rt 69)) := rfl
set_option maxRecDepth 100000 in
theorem m_code_70 : lw_tbl[486]? = some (Cond.code (m_nm 70) (m_bc 70) (m_ml 70) (m_rt 70)) := rfl
set_option maxRecDepth 100000 in
theorem m_code_71 : lw_tbl[495]? = some (Cond.code (m_nm 71) (m_bc 71) (m_ml 71) (m_rt 71)) := rfl
set_option maxRecDepth 100000 in
theorem m_code_72 : lw_tbl[504]? = some (Cond.code (m_nm 72) (m_bc 72) (m_ml 72) (m_rt 72)) := rfl
set_option maxRecDepth 100000 in
theorem m_code_73 : lw_tbl[510]? = some (Cond.code (m_nm 73) (m_bc 73) (m_ml 73) (m_rt 73)) := rfl
set_option maxRecDepth 100000 in
theorem m_code_74 : lw_tbl[520]? = some (Cond.code (m_nm 74) (m_bc 74) (m_ml 74) (m_rt 74)) := rfl
set_option maxRecDepth 100000 in
theorem m_code_75 : lw_tbl[528]? = some (Cond.code (m_nm 75) (m_bc 75) (m_ml 75) (m_rt 75)) := rfl
set_option maxRecDepth 100000 in
theorem m_code_76 : lw_tbl[536]? = some (Cond.code (m_nm 76) (m_bc 76) (m_ml 76) (m_rt 76)) := rfl
set_option maxRecDepth 100000 in
theorem m_code_77 : lw_tbl[543]? = some (Cond.code (m_nm 77) (m_bc 77) (m_ml 77) (m_rt 77)) := rfl
set_option maxRecDepth 100000 in
theorem m_code_78 : lw_tbl[551]? = some (Cond.code (m_nm 78) (m_bc 78) (m_ml 78) (m_rt 78)) := rfl
set_option maxRecDepth 100000 in
theorem m_code_79 : lw_tbl[559]? = some (Cond.code (m_nm 79) (m_bc 79) (m_ml 79) (m_rt 79)) := rfl
set_option maxRecDepth 100000 in
theorem m_code_80 : lw_tbl[563]? = some (Cond.code (m_nm 80) (m_bc 80) (m_ml 80) (m_rt 80)) := rfl
set_option maxRecDepth 100000 in
theorem m_code_81 : lw_tbl[606]? = some (Cond.code (m_nm 81) (m_bc 81) (m_ml 81) (m_rt 81)) := rfl
set_option maxRecDepth 100000 in
theorem m_code_82 : lw_tbl[236]? = some (Cond.code (m_nm 82) (m_bc 82) (m_ml 82) (m_rt 82)) := rfl
set_option maxRecDepth 100000 in
theorem m_code_83 : lw_tbl[246]? = some (Cond.code (m_nm 83) (m_bc 83) (m_ml 83) (m_rt 83)) := rfl
set_option maxRecDepth 100000 in
theorem m_code_84 : lw_tbl[239]? = some (Cond.code (m_nm 84) (m_bc 84) (m_ml 84) (m_rt 84)) := rfl
set_option maxRecDepth 100000 in
theorem m_code_85 : lw_tbl[269]? = some (Cond.code (m_nm 85) (m_bc 85) (m_ml 85) (m_rt 85)) := rfl
set_option maxRecDepth 100000 in
theorem m_code_86 : lw_tbl[455]? = some (Cond.code (m_nm 86) (m_bc 86) (m_ml 86) (m_rt 86)) := rfl
set_option maxRecDepth 100000 in
theorem m_code_87 : lw_tbl[458]? = some (Cond.code (m_nm 87) (m_bc 87) (m_ml 87) (m_rt 87)) := rfl
set_option maxRecDepth 100000 in
theorem m_code_88 : lw_tbl[324]? = some (Cond.code (m_nm 88) (m_bc 88) (m_ml 88) (m_rt 88)) := rfl
set_option maxRecDepth 100000 in
theorem m_code_89 : lw_tbl[387]? = some (Cond.code (m_nm 89) (m_bc 89) (m_ml 89) (m_rt 89)) := rfl
set_option maxRecDepth 100000 in
theorem m_code_90 : lw_tbl[471]? = some (Cond.code (m_nm 90) (m_bc 90) (m_ml 90) (m_rt 90)) := rfl
set_option maxRecDepth 100000 in
theorem m_code_91 : lw_tbl[474]? = some (Cond.code (m_nm 91) (m_bc 91) (m_ml 91) (m_rt 91)) := rfl
set_option maxRecDepth 100000 in
theorem m_code_92 : lw_tbl[612]? = some (Cond.code (m_nm 92) (m_bc 92) (m_ml 92) (m_rt 92)) := rfl
set_option maxRecDepth 100000 in
theorem m_code_93 : lw_tbl[681]? = some (Cond.code (m_nm 93) (m_bc 93) (m_ml 93) (m_rt 93)) := rfl
set_option maxRecDepth 100000 in
theorem m_code_94 : lw_tbl[713]? = some (Cond.code (m_nm 94) (m_bc 94) (m_ml 94) (m_rt 94)) := rfl
set_option maxRecDepth 100000 in
theorem m_code_95 : lw_tbl[729]? = some (Cond.code (m_nm 95) (m_bc 95) (m_ml 95) (m_rt 95)) := rfl
set_option maxRecDepth 100000 in
theorem m_code_96 : lw_tbl[695]? = some (Cond.code (m_nm 96) (m_bc 96) (m_ml 96) (m_rt 96)) := rfl
set_option maxRecDepth 100000 in
theorem m_code_97 : lw_tbl[829]? = some (Cond.code (m_nm 97) (m_bc 97) (m_ml 97) (m_rt 97)) := rfl
set_option maxRecDepth 100000 in
theorem m_code_98 : lw_tbl[688]? = some (Cond.code (m_nm 98) (m_bc 98) (m_ml 98) (m_rt 98)) := rfl
set_option maxRecDepth 100000 in
theorem m_code_99 : lw_tbl[839]? = some (Cond.code (m_nm 99) (m_bc 99) (m_ml 99) (m_rt 99)) := rfl
set_option maxRecDepth 100000 in
theorem m_code_100 : lw_tbl[835]? = some (Cond.code (m_nm 100) (m_bc 100) (m_ml 100) (m_rt 100)) := rfl
set_option maxRecDepth 100000 in
theorem m_code_101 : lw_tbl[766]? = some (Cond.code (m_nm 101) (m_bc 101) (m_ml 101) (m_rt 101)) := rfl
set_option maxRecDepth 100000 in
theorem m_code_102 : lw_tbl[754]? = some (Cond.code (m_nm 102) (m_bc 102) (m_ml 102) (m_rt 102)) := rfl
set_option maxRecDepth 100000 in
theorem m_code_103 : lw_tbl[762]? = some (Cond.code (m_nm 103) (m_bc 103) (m_ml 103) (m_rt 103)) := rfl
set_option maxRecDepth 100000 in
theorem m_code_104 : lw_tbl[758]? = some (Cond.code (m_nm 104) (m_bc 104) (m_ml 104) (m_rt 104)) := rfl
set_option maxRecDepth 100000 in
theorem m_code_105 : lw_tbl[770]? = some (Cond.code (m_nm 105) (m_bc 105) (m_ml 105) (m_rt 105)) := rfl
set_option maxRecDepth 100000 in
theorem m_code_106 : lw_tbl[750]? = some (Cond.code (m_nm 106) (m_bc 106) (m_ml 106) (m_rt 106)) := rfl
set_option maxRecDepth 100000 in
theorem m_code_107 : lw_tbl[774]? = some (Cond.code (m_nm 107) (m_bc 107) (m_ml 107) (m_rt 107)) := rfl
set_option maxRecDepth 100000 in
theorem m_code_108 : lw_tbl[746]? = some (Cond.code (m_nm 108) (m_bc 108) (m_ml 108) (m_rt 108)) := rfl
set_option maxRecDepth 100000 in
theorem m_code_109 : lw_tbl[851]? = some (Cond.code (m_nm 109) (m_bc 109) (m_ml 109) (m_rt 109)) := rfl
set_option maxRecDepth 100000 in
theorem m_code_110 : lw_tbl[742]? = some (Cond.code (m_nm 110) (m_bc 110) (m_ml 110) (m_rt 110)) := rfl
set_option maxRecDepth 100000 in
theorem m_code_111 : lw_tbl[678]? = some (Cond.code (m_nm 111) (m_bc 111) (m_ml 111) (m_rt 111)) := rfl
set_option maxRecDepth 100000 in
theorem m_code_112 : lw_tbl[699]? = some (Cond.code (m_nm 112) (m_bc 112) (m_ml 112) (m_rt 112)) := rfl
set_option maxRecDepth 100000 in
theorem m_code_113 : lw_tbl[705]? = some (Cond.code (m_nm 113) (m_bc 113) (m_ml 113) (m_rt 113)) := rfl
set_option maxRecDepth 100000 in
theorem m_code_114 : lw_tbl[692]? = some (Cond.code (m_nm 114) (m_bc 114) (m_ml 114) (m_rt 114)) := rfl
set_option maxRecDepth 100000 in
theorem m_code_115 : lw_tbl[709]? = some (Cond.code (m_nm 115) (m_bc 115) (m_ml 115) (m_rt 115)) := rfl
set_option maxRecDepth 100000 in
theorem m_code_116 : lw_tbl[721]? = some (Cond.code (m_nm 116) (m_bc 116) (m_ml 116) (m_rt 116)) := rfl
set_option maxRecDepth 100000 in
theorem m_code_117 : lw_tbl[717]? = some (Cond.code (m_nm 117) (m_bc 117) (m_ml 117) (m_rt 117)) := rfl
set_option maxRecDepth 100000 in
theorem m_code_118 : lw_tbl[725]? = some (Cond.code (m_nm 118) (m_bc 118) (m_ml 118) (m_rt 118)) := rfl
set_option maxRecDepth 100000 in
theorem m_code_119 : lw_tbl[737]? = some (Cond.code (m_nm 119) (m_bc 119) (m_ml 119) (m_rt 119)) := rfl
set_option maxRecDepth 100000 in
theorem m_code_120 : lw_tbl[733]? = some (Cond.code (m_nm 120) (m_bc 120) (m_ml 120) (m_rt 120)) := rfl
set_option maxRecDepth 100000 in
theorem m_code_121 : lw_tbl[778]? = some (Cond.code (m_nm 121) (m_bc 121) (m_ml 121) (m_rt 121)) := rfl
set_option maxRecDepth 100000 in
theorem m_code_122 : lw_tbl[782]? = some (Cond.code (m_nm 122) (m_bc 122) (m_ml 122) (m_rt 122)) := rfl
set_option maxRecDepth 100000 in
theorem m_code_123 : lw_tbl[790]? = some (Cond.code (m_nm 123) (m_bc 123) (m_ml 123) (m_rt 123)) := rfl
set_option maxRecDepth 100000 in
theorem m_code_124 : lw_tbl[818]? = some (Cond.code (m_nm 124) (m_bc 124) (m_ml 124) (m_rt 124)) := rfl
set_option maxRecDepth 100000 in
theorem m_code_125 : lw_tbl[806]? = some (Cond.code (m_nm 125) (m_bc 125) (m_ml 125) (m_rt 125)) := rfl
set_option maxRecDepth 100000 in
theorem m_code_126 : lw_tbl[810]? = some (Cond.code (m_nm 126) (m_bc 126) (m_ml 126) (m_rt 126)) := rfl
set_option maxRecDepth 100000 in
theorem m_code_127 : lw_tbl[786]? = some (Cond.code (m_nm 127) (m_bc 127) (m_ml 127) (m_rt 127)) := rfl
set_option maxRecDepth 100000 in
theorem m_code_128 : lw_tbl[822]? = some (Cond.code (m_nm 128) (m_bc 128) (m_ml 128) (m_rt 128)) := rfl
set_option maxRecDepth 100000 in
theorem m_code_129 : lw_tbl[826]? = some (Cond.code (m_nm 129) (m_bc 129) (m_ml 129) (m_rt 129)) := rfl
set_option maxRecDepth 100000 in
theorem m_code_130 : lw_tbl[843]? = some (Cond.code (m_nm 130) (m_bc 130) (m_ml 130) (m_rt 130)) := rfl
set_option maxRecDepth 100000 in
theorem m_code_131 : lw_tbl[847]? = some (Cond.code (m_nm 131) (m_bc 131) (m_ml 131) (m_rt 131)) := rfl
set_option maxRecDepth 100000 in
theorem m_code_132 : lw_tbl[855]? = some (Cond.code (m_nm 132) (m_bc 132) (m_ml 132) (m_rt 132)) := rfl
set_option maxRecDepth 100000 in
theorem m_code_133 : lw_tbl[802]? = some (Cond.code (m_nm 133) (m_bc 133) (m_ml 133) (m_rt 133)) := rfl
set_option maxRecDepth 100000 in
theorem m_code_134 : lw_tbl[859]? = some (Cond.code (m_nm 134) (m_bc 134) (m_ml 134) (m_rt 134)) := rfl
set_option maxRecDepth 100000 in
theorem m_code_135 : lw_tbl[864]? = some (Cond.code (m_nm 135) (m_bc 135) (m_ml 135) (m_rt 135)) := rfl
set_option maxRecDepth 100000 in
theorem m_code_136 : lw_tbl[869]? = some (Cond.code (m_nm 136) (m_bc 136) (m_ml 136) (m_rt 136)) := rfl
set_option maxRecDepth 100000 in
theorem m_code_137 : lw_tbl[814]? = some (Cond.code (m_nm 137) (m_bc 137) (m_ml 137) (m_rt 137)) := rfl
set_option maxRecDepth 100000 in
theorem m_code_138 : lw_tbl[873]? = some (Cond.code (m_nm 138) (m_bc 138) (m_ml 138) (m_rt 138)) := rfl
set_option maxRecDepth 100000 in
theorem m_code_139 : lw_tbl[798]? = some (Cond.code (m_nm 139) (m_bc 139) (m_ml 139) (m_rt 139)) := rfl
set_option maxRecDepth 100000 in
theorem m_code_140 : lw_tbl[794]? = some (Cond.code (m_nm 140) (m_bc 140) (m_ml 140) (m_rt 140)) := rfl
set_option maxRecDepth 100000 in
theorem m_code_141 : lw_tbl[877]? = some (Cond.code (m_nm 141) (m_bc 141) (m_ml 141) (m_rt 141)) := rfl
set_option maxRecDepth 100000 in
theorem m_code_142 : lw_tbl[882]? = some (Cond.code (m_nm 142) (m_bc 142) (m_ml 142) (m_rt 142)) := rfl
set_option maxRecDepth 100000 in
theorem m_code_143 : lw_tbl[886]? = some (Cond.code (m_nm 143) (m_bc 143) (m_ml 143) (m_rt 143)) := rfl
set_option maxRecDepth 100000 in
theorem m_code_144 : lw_tbl[890]? = some (Cond.code (m_nm 144) (m_bc 144) (m_ml 144) (m_rt 144)) := rfl
set_option maxRecDepth 100000 in
theorem m_code_145 : lw_tbl[918]? = some (Cond.code (m_nm 145) (m_bc 145) (m_ml 145) (m_rt 145)) := rfl
set_option maxRecDepth 100000 in
theorem m_code_146 : lw_tbl[914]? = some (Cond.code (m_nm 146) (m_bc 146) (m_ml 146) (m_rt 146)) := rfl
set_option maxRecDepth 100000 in
theorem m_code_147 : lw_tbl[910]? = some (Cond.code (m_nm 147) (m_bc 147) (m_ml 147) (m_rt 147)) := rfl
set_option maxRecDepth 100000 in
theorem m_code_148 : lw_tbl[906]? = some (Cond.code (m_nm 148) (m_bc 148) (m_ml 148) (m_rt 148)) := rfl
set_option maxRecDepth 100000 in
theorem m_code_149 : lw_tbl[902]? = some (Cond.code (m_nm 149) (m_bc 149) (m_ml 149) (m_rt 149)) := rfl
set_option maxRecDepth 100000 in
theorem m_code_150 : lw_tbl[922]? = some (Cond.code (m_nm 150) (m_bc 150) (m_ml 150) (m_rt 150)) := rfl
set_option maxRecDepth 100000 in
theorem m_code_151 : lw_tbl[898]? = some (Cond.code (m_nm 151) (m_bc 151) (m_ml 151) (m_rt 151)) := rfl
set_option maxRecDepth 100000 in
theorem m_code_152 : lw_tbl[894]? = some (Cond.code (m_nm 152) (m_bc 152) (m_ml 152) (m_rt 152)) := rfl
set_option maxRecDepth 100000 in
theorem m_code_153 : lw_tbl[926]? = some (Cond.code (m_nm 153) (m_bc 153) (m_ml 153) (m_rt 153)) := rfl
set_option maxRecDepth 100000 in
theorem m_code_154 : lw_tbl[377]? = some (Cond.code (m_nm 154) (m_bc 154) (m_ml 154) (m_rt 154)) := rfl
theorem m_codes_0 : ∀ y ∈ [0, 1, 2, 3, 4, 5, 6, 7, 8, 9, 10, 11, 12, 13, 14, 15, 16, 17, 18, 19], Cond.code (m_nm y) (m_bc y) (m_ml y) (m_rt y) ∈ lw_tbl := List.forall_mem_cons.mpr ⟨x_w m_code_0, List.forall_mem_cons.mpr ⟨x_w m_code_1, List.forall_mem_cons.mpr ⟨x_w m_code_2, List.forall_mem_cons.mpr ⟨x_w m_code_3, List.forall_mem_cons.mpr ⟨x_w m_code_4, List.forall_mem_cons.mpr ⟨x_w m_code_5, List.forall_mem_cons.mpr ⟨x_w m_code_6, List.forall_mem_cons.mpr ⟨x_w m_code_7, List.forall_mem_cons.mpr ⟨x_w m_code_8, List.forall_mem_cons.mpr ⟨x_w m_code_9, List.forall_mem_cons.mpr ⟨x_w m_code_10, List.forall_mem_cons.mpr ⟨x_w m_code_11, List.forall_mem_cons.mpr ⟨x_w m_code_12, List.forall_mem_cons.mpr ⟨x_w m_code_13, List.forall_mem_cons.mpr ⟨x_w m_code_14, List.forall_mem_cons.mpr ⟨x_w m_code_15, List.forall_mem_cons.mpr ⟨x_w m_code_16, List.forall_mem_cons.mpr ⟨x_w m_code_17, List.forall_mem_cons.mpr ⟨x_w m_code_18, List.forall_mem_cons.mpr ⟨x_w m_code_19, fun _ h => absurd h List.not_mem_nil⟩⟩⟩⟩⟩⟩⟩⟩⟩⟩⟩⟩⟩⟩⟩⟩⟩⟩⟩⟩
theorem m_codes_1 : ∀ y ∈ [20, 21, 22, 23, 24, 25, 26, 27, 28, 29, 30, 31, 32, 33, 34, 35, 36, 37, 38, 39], Cond.code (m_nm y) (m_bc y) (m_ml y) (m_rt y) ∈ lw_tbl := List.forall_mem_cons.mpr ⟨x_w m_code_20, List.forall_mem_cons.mpr ⟨x_w m_code_21, List.forall_mem_cons.mpr ⟨x_w m_code_22, List.forall_mem_cons.mpr ⟨x_w m_code_23, List.forall_mem_cons.mpr ⟨x_w m_code_24, List.forall_mem_cons.mpr ⟨x_w m_code_25, List.forall_mem_cons.mpr ⟨x_w m_code_26, List.forall_mem_cons.mpr ⟨x_w m_code_27, List.forall_mem_cons.mpr ⟨x_w m_code_28, List.forall_mem_cons.mpr ⟨x_w m_code_29, List.forall_mem_cons.mpr ⟨x_w m_code_30, List.forall_mem_cons.mpr ⟨x_w m_code_31, List.forall_mem_cons.mpr ⟨x_w m_code_32, List.forall_mem_cons.mpr ⟨x_w m_code_33, List.forall_mem_cons.mpr ⟨x_w m_code_34, List.forall_mem_cons.mpr ⟨x_w m_code_35, List.forall_mem_cons.mpr ⟨x_w m_code_36, List.forall_mem_cons.mpr ⟨x_w m_code_37, List.forall_mem_cons.mpr ⟨x_w m_code_38, List.forall_mem_cons.mpr ⟨x_w m_code_39, fun _ h => absurd h List.not_mem_nil⟩⟩⟩⟩⟩⟩⟩⟩⟩⟩⟩⟩⟩⟩⟩⟩⟩⟩⟩⟩
theorem m_codes_2 : ∀ y ∈ [40, 41, 42, 43, 44, 45, 46, 47, 48, 49, 50, 51, 52, 53, 54, 55, 56, 57, 58, 59], Cond.code (m_nm y) (m_bc y) (m_ml y) (m_rt y) ∈ lw_tbl := List.forall_mem_cons.mpr ⟨x_w m_code_40, List.forall_mem_cons.mpr ⟨x_w m_code_41, List.forall_mem_cons.mpr ⟨x_w m_code_42, List.forall_mem_cons.mpr ⟨x_w m_code_43, List.forall_mem_cons.mpr ⟨x_w m_code_44, List.forall_mem_cons.mpr ⟨x_w m_code_45, List.forall_mem_cons.mpr ⟨x_w m_code_46, List.forall_mem_cons.mpr ⟨x_w m_code_47, List.forall_mem_cons.mpr ⟨x_w m_code_48, List.forall_mem_cons.mpr ⟨x_w m_code_49, List.forall_mem_cons.mpr ⟨x_w m_code_50, List.forall_mem_cons.mpr ⟨x_w m_code_51, List.forall_mem_cons.mpr ⟨x_w m_code_52, List.forall_mem_cons.mpr ⟨x_w m_code_53, List.forall_mem_cons.mpr ⟨x_w m_code_54, List.forall_mem_cons.mpr ⟨x_w m_code_55, List.forall_mem_cons.mpr ⟨x_w m_code_56, List.forall_mem_cons.mpr ⟨x_w m_code_57, List.forall_mem_cons.mpr ⟨x_w m_code_58, List.forall_mem_cons.mpr ⟨x_w m_code_59, fun _ h => absurd h List.not_mem_nil⟩⟩⟩⟩⟩⟩⟩⟩⟩⟩⟩⟩⟩⟩⟩⟩⟩⟩⟩⟩
theorem m_codes_3 : ∀ y ∈ [60, 61, 62, 63, 64, 65, 66, 67, 68, 69, 70, 71, 72, 73, 74, 75, 76, 77, 78, 79], Cond.code (m_nm y) (m_bc y) (m_ml y) (m_rt y) ∈ lw_tbl := List.forall_mem_cons.mpr ⟨x_w m_code_60, List.forall_mem_cons.mpr ⟨x_w m_code_61, List.forall_mem_cons.mpr ⟨x_w m_code_62, List.forall_mem_cons.mpr ⟨x_w m_code_63, List.forall_mem_cons.mpr ⟨x_w m_code_64, List.forall_mem_cons.mpr ⟨x_w m_code_65, List.forall_mem_cons.mpr ⟨x_w m_code_66, List.forall_mem_cons.mpr ⟨x_w m_code_67, List.forall_mem_cons.mpr ⟨x_w m_code_68, List.forall_mem_cons.mpr ⟨x_w m_code_69, List.forall_mem_cons.mpr ⟨x_w m_code_70, List.forall_mem_cons.mpr ⟨x_w m_code_71, List.forall_mem_cons.mpr ⟨x_w m_code_72, List.forall_mem_cons.mpr ⟨x_w m_code_73, List.forall_mem_cons.mpr ⟨x_w m_code_74, List.forall_mem_cons.mpr ⟨x_w m_code_75, List.forall_mem_cons.mpr ⟨x_w m_code_76, List.forall_mem_cons.mpr ⟨x_w m_code_77, List.forall_mem_cons.mpr ⟨x_w m_code_78, List.forall_mem_cons.mpr ⟨x_w m_code_79, fun _ h => absurd h List.not_mem_nil⟩⟩⟩⟩⟩⟩⟩⟩⟩⟩⟩⟩⟩⟩⟩⟩⟩⟩⟩⟩
theorem m_codes_4 : ∀ y ∈ [80, 81, 82, 83, 84, 85, 86, 87, 88, 89, 90, 91, 92, 93, 94, 95, 96, 97, 98, 99], Cond.code (m_nm y) (m_bc y) (m_ml y) (m_rt y) ∈ lw_tbl := List.forall_mem_cons.mpr ⟨x_w m_code_80, List.forall_mem_cons.mpr ⟨x_w m_code_81, List.forall_mem_cons.mpr ⟨x_w m_code_82, List.forall_mem_cons.mpr ⟨x_w m_code_83, List.forall_mem_cons.mpr ⟨x_w m_code_84, List.forall_mem_cons.mpr ⟨x_w m_code_85, List.forall_mem_cons.mpr ⟨x_w m_code_86, List.forall_mem_cons.mpr ⟨x_w m_code_87, List.forall_mem_cons.mpr ⟨x_w m_code_88, List.forall_mem_cons.mpr ⟨x_w m_code_89, List.forall_mem_cons.mpr ⟨x_w m_code_90, List.forall_mem_cons.mpr ⟨x_w m_code_91, List.forall_mem_cons.mpr ⟨x_w m_code_92, List.forall_mem_cons.mpr ⟨x_w m_code_93, List.forall_mem_cons.mpr ⟨x_w m_code_94, List.forall_mem_cons.mpr ⟨x_w m_code_95, List.forall_mem_cons.mpr ⟨x_w m_code_96, List.forall_mem_cons.mpr ⟨x_w m_code_97, List.forall_mem_cons.mpr ⟨x_w m_code_98, List.forall_mem_cons.mpr ⟨x_w m_code_99, fun _ h => absurd h List.not_mem_nil⟩⟩⟩⟩⟩⟩⟩⟩⟩⟩⟩⟩⟩⟩⟩⟩⟩⟩⟩⟩
theorem m_codes_5 : ∀ y ∈ [100, 101, 102, 103, 104, 105, 106, 107, 108, 109, 110, 111, 112, 113, 114, 115, 116, 117, 118, 119], Cond.code (m_nm y) (m_bc y) (m_ml y) (m_rt y) ∈ lw_tbl := List.forall_mem_cons.mpr ⟨x_w m_code_100, List.forall_mem_cons.mpr ⟨x_w m_code_101, List.forall_mem_cons.mpr ⟨x_w m_code_102, List.forall_mem_cons.mpr ⟨x_w m_code_103, List.forall_mem_cons.mpr ⟨x_w m_code_104, List.forall_mem_cons.mpr ⟨x_w m_code_105, List.forall_mem_cons.mpr ⟨x_w m_code_106, List.forall_mem_cons.mpr ⟨x_w m_code_107, List.forall_mem_cons.mpr ⟨x_w m_code_108, List.forall_mem_cons.mpr ⟨x_w m_code_109, List.forall_mem_cons.mpr ⟨x_w m_code_110, List.forall_mem_cons.mpr ⟨x_w m_code_111, List.forall_mem_cons.mpr ⟨x_w m_code_112, List.forall_mem_cons.mpr ⟨x_w m_code_113, List.forall_mem_cons.mpr ⟨x_w m_code_114, List.forall_mem_cons.mpr ⟨x_w m_code_115, List.forall_mem_cons.mpr ⟨x_w m_code_116, List.forall_mem_cons.mpr ⟨x_w m_code_117, List.forall_mem_cons.mpr ⟨x_w m_code_118, List.forall_mem_cons.mpr ⟨x_w m_code_119, fun _ h => absurd h List.not_mem_nil⟩⟩⟩⟩⟩⟩⟩⟩⟩⟩⟩⟩⟩⟩⟩⟩⟩⟩⟩⟩
theorem m_codes_6 : ∀ y ∈ [120, 121, 122, 123, 124, 125, 126, 127, 128, 129, 130, 131, 132, 133, 134, 135, 136, 137, 138, 139], Cond.code (m_nm y) (m_bc y) (m_ml y) (m_rt y) ∈ lw_tbl := List.forall_mem_cons.mpr ⟨x_w m_code_120, List.forall_mem_cons.mpr ⟨x_w m_code_121, List.forall_mem_cons.mpr ⟨x_w m_code_122, List.forall_mem_cons.mpr ⟨x_w m_code_123, List.forall_mem_cons.mpr ⟨x_w m_code_124, List.forall_mem_cons.mpr ⟨x_w m_code_125, List.forall_mem_cons.mpr ⟨x_w m_code_126, List.forall_mem_cons.mpr ⟨x_w m_code_127, List.forall_mem_cons.mpr ⟨x_w m_code_128, List.forall_mem_cons.mpr ⟨x_w m_code_129, List.forall_mem_cons.mpr ⟨x_w m_code_130, List.forall_mem_cons.mpr ⟨x_w m_code_131, List.forall_mem_cons.mpr ⟨x_w m_code_132, List.forall_mem_cons.mpr ⟨x_w m_code_133, List.forall_mem_cons.mpr ⟨x_w m_code_134, List.forall_mem_cons.mpr ⟨x_w m_code_135, List.forall_mem_cons.mpr ⟨x_w m_code_136, List.forall_mem_cons.mpr ⟨x_w m_code_137, List.forall_mem_cons.mpr ⟨x_w m_code_138, List.forall_mem_cons.mpr ⟨x_w m_code_139, fun _ h => absurd h List.not_mem_nil⟩⟩⟩⟩⟩⟩⟩⟩⟩⟩⟩⟩⟩⟩⟩⟩⟩⟩⟩⟩
theorem m_codes_7 : ∀ y ∈ [140, 141, 142, 143, 144, 145, 146, 147, 148, 149, 150, 151, 152, 153, 154], Cond.code (m_nm y) (m_bc y) (m_ml y) (m_rt y) ∈ lw_tbl := List.forall_mem_cons.mpr ⟨x_w m_code_140, List.forall_mem_cons.mpr ⟨x_w m_code_141, List.forall_mem_cons.mpr ⟨x_w m_code_142, List.forall_mem_cons.mpr ⟨x_w m_code_143, List.forall_mem_cons.mpr ⟨x_w m_code_144, List.forall_mem_cons.mpr ⟨x_w m_code_145, List.forall_mem_cons.mpr ⟨x_w m_code_146, List.forall_mem_cons.mpr ⟨x_w m_code_147, List.forall_mem_cons.mpr ⟨x_w m_code_148, List.forall_mem_cons.mpr ⟨x_w m_code_149, List.forall_mem_cons.mpr ⟨x_w m_code_150, List.forall_mem_cons.mpr ⟨x_w m_code_151, List.forall_mem_cons.mpr ⟨x_w m_code_152, List.forall_mem_cons.mpr ⟨x_w m_code_153, List.forall_mem_cons.mpr ⟨x_w m_code_154, fun _ h => absurd h List.not_mem_nil⟩⟩⟩⟩⟩⟩⟩⟩⟩⟩⟩⟩⟩⟩⟩
theorem m_code (y : Nat) (hy : y < 155) : Cond.code (m_nm y) (m_bc y) (m_ml y) (m_rt y) ∈ lw_tbl := by
  have h : ∀ y ∈ List.range 155, Cond.code (m_nm y) (m_bc y) (m_ml y) (m_rt y) ∈ lw_tbl := by
    rw [show List.range 155 = [0, 1, 2, 3, 4, 5, 6, 7, 8, 9, 10, 11, 12, 13, 14, 15, 16, 17, 18, 19] ++ ([20, 21, 22, 23, 24, 25, 26, 27, 28, 29, 30, 31, 32, 33, 34, 35, 36, 37, 38, 39] ++ ([40, 41, 42, 43, 44, 45, 46, 47, 48, 49, 50, 51, 52, 53, 54, 55, 56, 57, 58, 59] ++ ([60, 61, 62, 63, 64, 65, 66, 67, 68, 69, 70, 71, 72, 73, 74, 75, 76, 77, 78, 79] ++ ([80, 81, 82, 83, 84, 85, 86, 87, 88, 89, 90, 91, 92, 93, 94, 95, 96, 97, 98, 99] ++ ([100, 101, 102, 103, 104, 105, 106, 107, 108, 109, 110, 111, 112, 113, 114, 115, 116, 117, 118, 119] ++ ([120, 121, 122, 123, 124, 125, 126, 127, 128, 129, 130, 131, 132, 133, 134, 135, 136, 137, 138, 139] ++ ([140, 141, 142, 143, 144, 145, 146, 147, 148, 149, 150, 151, 152, 153, 154]))))))) from by decide +kernel]
    exact List.forall_mem_append.mpr ⟨m_codes_0, List.forall_mem_append.mpr ⟨m_codes_1, List.forall_mem_append.mpr ⟨m_codes_2, List.forall_mem_append.mpr ⟨m_codes_3, List.forall_mem_append.mpr ⟨m_codes_4, List.forall_mem_append.mpr ⟨m_codes_5, List.forall_mem_append.mpr ⟨m_codes_6, m_codes_7⟩⟩⟩⟩⟩⟩⟩
  exact h y (List.mem_range.mpr hy)
def x_iws : List Nat := [52, 52, 52, 52, 52, 52, 52, 52, 52, 52, 52, 52, 52, 52, 52, 52, 52, 52, 52, 52, 52, 52, 52, 52, 52, 52, 53, 53, 53, 53, 56, 56, 56, 56, 56, 56, 56, 56, 56, 56, 56, 56, 56, 56, 56, 56, 54, 54, 54, 54, 54, 54, 54, 54, 55, 55, 55, 51, 51, 51, 51, 51, 51, 51, 51, 51, 51, 51, 51, 51, 51, 51, 51, 51, 51, 51, 51, 51, 51, 51, 51, 51, 51, 51, 51, 51, 51, 51, 51, 51, 51, 51, 57, 57, 57, 57, 57, 57, 57, 57, 57, 57, 57, 57, 57, 57, 57, 57, 57, 57, 57, 57, 57, 57, 57, 57, 57, 57, 57, 57, 57, 57, 57, 57, 57, 57, 57, 57, 57, 57, 57, 57, 57, 57, 57, 57, 57, 57, 57, 57, 57, 57, 57, 57, 57, 57, 57, 57, 57, 57, 57, 57, 57, 57, 58]
theorem m_ini : ∀ y, y < 155 → lw_tbl[x_iws.getD y 0]? = some (Cond.initialized (m_cn y)) := by decide +kernel
theorem m_facts : ∀ y, y < 155 → (plainName (m_cn y) = true ∧ m_cn y ≠ "java/lang/invoke/MethodHandle" ∧ m_cn y ≠ "java/lang/invoke/VarHandle" ∧ (parseMethodDescriptor (m_nm y).desc).map (fun d => d.parameters.length) = some (m_np y) ∧ m_ml y ≤ 17) := by decide +kernel
def x_mws : List (Nat × Nat × Nat) := [(73, 66, 67), (259, 261, 2), (308, 285, 286), (321, 271, 272), (601, 277, 278), (602, 297, 298), (346, 347, 348), (362, 355, 356), (432, 434, 9), (436, 376, 436), (411, 318, 319), (416, 343, 344), (412, 413, 414), (417, 418, 419), (420, 421, 422), (115, 66, 67), (118, 71, 118), (251, 253, 1), (255, 256, 257), (189, 66, 67), (334, 336, 3), (363, 365, 5), (330, 331, 332), (381, 383, 8), (464, 466, 10), (491, 347, 348), (350, 352, 4), (354, 355, 356), (358, 359, 360), (500, 488, 489), (516, 418, 419), (338, 339, 340), (342, 343, 344), (367, 369, 6), (371, 373, 7), (375, 376, 375), (132, 66, 67), (577, 579, 12), (581, 583, 13), (589, 591, 15), (585, 587, 14), (593, 594, 593), (164, 66, 67), (166, 71, 166), (568, 256, 257), (569, 571, 11), (573, 574, 575), (596, 238, 596), (597, 598, 599), (65, 66, 67), (70, 71, 70), (112, 113, 112), (129, 130, 129), (161, 162, 161), (186, 187, 186), (234, 235, 234), (243, 245, 0), (247, 248, 249), (267, 268, 267), (270, 271, 272), (276, 277, 278), (284, 285, 286), (288, 289, 290), (237, 238, 237), (296, 297, 298), (304, 305, 306), (309, 310, 311), (317, 318, 319), (322, 323, 322), (326, 327, 328), (385, 386, 385), (392, 347, 348), (401, 402, 403), (405, 331, 332), (406, 339, 340), (407, 408, 409), (424, 425, 426), (428, 429, 430), (437, 438, 439), (445, 446, 447), (453, 454, 453), (456, 457, 456), (460, 461, 462), (469, 470, 469), (487, 488, 489), (496, 497, 498), (506, 343, 344), (511, 512, 513), (521, 522, 523), (529, 530, 531), (537, 413, 414), (539, 421, 422), (544, 545, 546), (552, 553, 554), (564, 565, 566), (607, 256, 257), (472, 473, 472), (475, 418, 419), (476, 477, 478), (613, 66, 67), (679, 680, 679), (710, 712, 19), (836, 838, 41), (763, 765, 29), (751, 753, 26), (755, 757, 27), (759, 761, 28), (767, 769, 30), (747, 749, 25), (771, 773, 31), (743, 745, 24), (685, 687, 16), (693, 694, 693), (696, 698, 17), (702, 704, 18), (718, 720, 20), (726, 728, 21), (734, 736, 22), (739, 741, 23), (811, 813, 38), (787, 789, 32), (791, 793, 33), (803, 805, 36), (807, 809, 37), (815, 817, 39), (827, 828, 827), (832, 834, 40), (848, 850, 42), (799, 801, 35), (795, 797, 34), (911, 913, 47), (915, 917, 48), (907, 909, 46), (899, 901, 44), (903, 905, 45), (919, 921, 49), (895, 897, 43), (62, 63, 62), (610, 611, 610), (230, 231, 232), (675, 676, 677), (263, 264, 265), (689, 690, 691), (280, 281, 282), (706, 707, 708), (292, 293, 294), (714, 715, 716), (300, 301, 302), (722, 723, 724), (313, 314, 315), (730, 731, 732), (388, 389, 390), (775, 776, 777), (393, 394, 395), (779, 780, 781), (397, 398, 399), (783, 784, 785), (441, 442, 443), (819, 820, 821), (449, 450, 451), (823, 824, 825), (479, 480, 481), (840, 841, 842), (483, 484, 485), (844, 845, 846), (492, 493, 494), (852, 853, 854), (501, 502, 503), (856, 857, 858), (507, 508, 509), (861, 862, 863), (517, 518, 519), (866, 867, 868), (525, 526, 527), (870, 871, 872), (533, 534, 535), (874, 875, 876), (540, 541, 542), (879, 880, 881), (548, 549, 550), (883, 884, 885), (556, 557, 558), (887, 888, 889), (560, 561, 562), (891, 892, 893), (603, 604, 605), (923, 924, 925)]
def x_mok (q : Nat × Nat × Nat × Nat) (p : Nat × Nat × Nat) : Prop := match q.2.2.1 with
  | 0 => lw_tbl[p.1]? = some (.methodLink (x_cn q.1) q.2.1 (m_nm q.2.2.2)) ∧ lw_tbl[p.2.1]? = some (.instanceMethod (m_nm q.2.2.2)) ∧ lw_tbl[p.2.2]? = some (.selects (m_cn q.2.2.2) (m_nm q.2.2.2) (m_nm q.2.2.2)) ∧ q.2.2.2 < 155
  | 1 => lw_tbl[p.1]? = some (.methodLink (x_cn q.1) q.2.1 (m_nm q.2.2.2)) ∧ lw_tbl[p.2.1]? = some (.static (m_nm q.2.2.2)) ∧ (m_cn q.2.2.2 = x_cn q.1 ∨ True) ∧ q.2.2.2 < 155
  | 2 => lw_tbl[p.1]? = some (.methodLink (x_cn q.1) q.2.1 (m_nm q.2.2.2)) ∧ lw_tbl[p.2.1]? = some (.instanceMethod (m_nm q.2.2.2)) ∧ (m_nd q.2.2.2).1 = "<init>" ∧ q.2.2.2 < 155 ∧ m_rt q.2.2.2 = none
  | 3 => lw_tbl[p.1]? = some (.methodLink (x_cn q.1) q.2.1 Lib.objectInit) ∧ lw_tbl[p.2.1]? = some (.instanceMethod Lib.objectInit) ∧ lw_tbl[p.2.2]? = some (.code Lib.objectInit ⟨#[0xb1]⟩ 1 none)
  | 4 => lw_tbl[p.1]? = some (.methodLink (x_cn q.1) q.2.1 Lib.MathLoose.abs_long.x) ∧ lw_tbl[p.2.1]? = some (.static Lib.MathLoose.abs_long.x) ∧ lw_tbl[p.2.2]? = some (.code Lib.MathLoose.abs_long.x Lib.MathLoose.abs_long.code 2 (some .long))
  | 5 => lw_tbl[p.1]? = some (.methodLink (x_cn q.1) q.2.1 Lib.MathLoose.max_long.x) ∧ lw_tbl[p.2.1]? = some (.static Lib.MathLoose.max_long.x) ∧ lw_tbl[p.2.2]? = some (.code Lib.MathLoose.max_long.x Lib.MathLoose.max_long.code 4 (some .long))
  | 6 => lw_tbl[p.1]? = some (.methodLinkNest (x_cn q.1) q.2.1 (m_nm q.2.2.2) "WeighingDesign") ∧ lw_tbl[p.2.1]? = some (.static (m_nm q.2.2.2)) ∧ q.2.2.2 < 155
  | _ => False
def x_mp : List ((Nat × Nat × Nat × Nat) × (Nat × Nat × Nat)) := x_mls.zip x_mws
theorem x_len : x_mls.length = x_mws.length := by decide +kernel
theorem x_mok_0 : x_mok (0, 3, 3, 0) (73, 66, 67) := ⟨by decide +kernel, by decide +kernel, by decide +kernel⟩
theorem x_mok_1 : x_mok (0, 37, 0, 2) (259, 261, 2) := ⟨by decide +kernel, by decide +kernel, by decide +kernel, by decide +kernel⟩
theorem x_mok_2 : x_mok (0, 41, 0, 3) (308, 285, 286) := ⟨by decide +kernel, by decide +kernel, by decide +kernel, by decide +kernel⟩
theorem x_mok_3 : x_mok (0, 45, 0, 6) (321, 271, 272) := ⟨by decide +kernel, by decide +kernel, by decide +kernel, by decide +kernel⟩
theorem x_mok_4 : x_mok (0, 49, 0, 7) (601, 277, 278) := ⟨by decide +kernel, by decide +kernel, by decide +kernel, by decide +kernel⟩
theorem x_mok_5 : x_mok (0, 52, 0, 9) (602, 297, 298) := ⟨by decide +kernel, by decide +kernel, by decide +kernel, by decide +kernel⟩
theorem x_mok_6 : x_mok (0, 55, 0, 5) (346, 347, 348) := ⟨by decide +kernel, by decide +kernel, by decide +kernel, by decide +kernel⟩
theorem x_mok_7 : x_mok (0, 58, 0, 15) (362, 355, 356) := ⟨by decide +kernel, by decide +kernel, by decide +kernel, by decide +kernel⟩
theorem x_mok_8 : x_mok (0, 61, 0, 19) (432, 434, 9) := ⟨by decide +kernel, by decide +kernel, by decide +kernel, by decide +kernel⟩
theorem x_mok_9 : x_mok (0, 65, 1, 154) (436, 376, 436) := ⟨by decide +kernel, by decide +kernel, Or.inr trivial, by decide +kernel⟩
theorem x_mok_10 : x_mok (0, 70, 0, 20) (411, 318, 319) := ⟨by decide +kernel, by decide +kernel, by decide +kernel, by decide +kernel⟩
theorem x_mok_11 : x_mok (0, 73, 0, 14) (416, 343, 344) := ⟨by decide +kernel, by decide +kernel, by decide +kernel, by decide +kernel⟩
theorem x_mok_12 : x_mok (0, 76, 0, 22) (412, 413, 414) := ⟨by decide +kernel, by decide +kernel, by decide +kernel, by decide +kernel⟩
theorem x_mok_13 : x_mok (0, 80, 4, 0) (417, 418, 419) := ⟨by decide +kernel, by decide +kernel, by decide +kernel⟩
theorem x_mok_14 : x_mok (0, 86, 0, 23) (420, 421, 422) := ⟨by decide +kernel, by decide +kernel, by decide +kernel, by decide +kernel⟩
theorem x_mok_15 : x_mok (1, 3, 3, 0) (115, 66, 67) := ⟨by decide +kernel, by decide +kernel, by decide +kernel⟩
theorem x_mok_16 : x_mok (1, 17, 2, 0) (118, 71, 118) := ⟨by decide +kernel, by decide +kernel, by decide +kernel, by decide +kernel, by decide +kernel⟩
theorem x_mok_17 : x_mok (1, 22, 0, 28) (251, 253, 1) := ⟨by decide +kernel, by decide +kernel, by decide +kernel, by decide +kernel⟩
theorem x_mok_18 : x_mok (1, 25, 0, 1) (255, 256, 257) := ⟨by decide +kernel, by decide +kernel, by decide +kernel, by decide +kernel⟩
theorem x_mok_19 : x_mok (2, 3, 3, 0) (189, 66, 67) := ⟨by decide +kernel, by decide +kernel, by decide +kernel⟩
theorem x_mok_20 : x_mok (2, 26, 0, 39) (334, 336, 3) := ⟨by decide +kernel, by decide +kernel, by decide +kernel, by decide +kernel⟩
theorem x_mok_21 : x_mok (2, 30, 0, 42) (363, 365, 5) := ⟨by decide +kernel, by decide +kernel, by decide +kernel, by decide +kernel⟩
theorem x_mok_22 : x_mok (2, 34, 0, 31) (330, 331, 332) := ⟨by decide +kernel, by decide +kernel, by decide +kernel, by decide +kernel⟩
theorem x_mok_23 : x_mok (2, 38, 0, 41) (381, 383, 8) := ⟨by decide +kernel, by decide +kernel, by decide +kernel, by decide +kernel⟩
theorem x_mok_24 : x_mok (2, 48, 0, 43) (464, 466, 10) := ⟨by decide +kernel, by decide +kernel, by decide +kernel, by decide +kernel⟩
theorem x_mok_25 : x_mok (2, 51, 0, 5) (491, 347, 348) := ⟨by decide +kernel, by decide +kernel, by decide +kernel, by decide +kernel⟩
theorem x_mok_26 : x_mok (2, 55, 0, 40) (350, 352, 4) := ⟨by decide +kernel, by decide +kernel, by decide +kernel, by decide +kernel⟩
theorem x_mok_27 : x_mok (2, 59, 0, 15) (354, 355, 356) := ⟨by decide +kernel, by decide +kernel, by decide +kernel, by decide +kernel⟩
theorem x_mok_28 : x_mok (2, 72, 0, 16) (358, 359, 360) := ⟨by decide +kernel, by decide +kernel, by decide +kernel, by decide +kernel⟩
theorem x_mok_29 : x_mok (2, 79, 0, 36) (500, 488, 489) := ⟨by decide +kernel, by decide +kernel, by decide +kernel, by decide +kernel⟩
theorem x_mok_30 : x_mok (2, 85, 4, 0) (516, 418, 419) := ⟨by decide +kernel, by decide +kernel, by decide +kernel⟩
theorem x_mok_31 : x_mok (2, 91, 0, 12) (338, 339, 340) := ⟨by decide +kernel, by decide +kernel, by decide +kernel, by decide +kernel⟩
theorem x_mok_32 : x_mok (2, 94, 0, 14) (342, 343, 344) := ⟨by decide +kernel, by decide +kernel, by decide +kernel, by decide +kernel⟩
theorem x_mok_33 : x_mok (2, 98, 0, 44) (367, 369, 6) := ⟨by decide +kernel, by decide +kernel, by decide +kernel, by decide +kernel⟩
theorem x_mok_34 : x_mok (2, 102, 0, 45) (371, 373, 7) := ⟨by decide +kernel, by decide +kernel, by decide +kernel, by decide +kernel⟩
theorem x_mok_35 : x_mok (2, 106, 1, 154) (375, 376, 375) := ⟨by decide +kernel, by decide +kernel, Or.inr trivial, by decide +kernel⟩
theorem x_mok_36 : x_mok (3, 3, 3, 0) (132, 66, 67) := ⟨by decide +kernel, by decide +kernel, by decide +kernel⟩
theorem x_mok_37 : x_mok (3, 22, 0, 49) (577, 579, 12) := ⟨by decide +kernel, by decide +kernel, by decide +kernel, by decide +kernel⟩
theorem x_mok_38 : x_mok (3, 29, 0, 51) (581, 583, 13) := ⟨by decide +kernel, by decide +kernel, by decide +kernel, by decide +kernel⟩
theorem x_mok_39 : x_mok (3, 36, 0, 50) (589, 591, 15) := ⟨by decide +kernel, by decide +kernel, by decide +kernel, by decide +kernel⟩
theorem x_mok_40 : x_mok (3, 40, 0, 52) (585, 587, 14) := ⟨by decide +kernel, by decide +kernel, by decide +kernel, by decide +kernel⟩
theorem x_mok_41 : x_mok (3, 44, 1, 53) (593, 594, 593) := ⟨by decide +kernel, by decide +kernel, Or.inr trivial, by decide +kernel⟩
theorem x_mok_42 : x_mok (4, 3, 3, 0) (164, 66, 67) := ⟨by decide +kernel, by decide +kernel, by decide +kernel⟩
theorem x_mok_43 : x_mok (4, 11, 2, 0) (166, 71, 166) := ⟨by decide +kernel, by decide +kernel, by decide +kernel, by decide +kernel, by decide +kernel⟩
theorem x_mok_44 : x_mok (4, 18, 0, 1) (568, 256, 257) := ⟨by decide +kernel, by decide +kernel, by decide +kernel, by decide +kernel⟩
theorem x_mok_45 : x_mok (4, 37, 0, 56) (569, 571, 11) := ⟨by decide +kernel, by decide +kernel, by decide +kernel, by decide +kernel⟩
theorem x_mok_46 : x_mok (4, 44, 0, 48) (573, 574, 575) := ⟨by decide +kernel, by decide +kernel, by decide +kernel, by decide +kernel⟩
theorem x_mok_47 : x_mok (4, 57, 6, 84) (596, 238, 596) := ⟨by decide +kernel, by decide +kernel, by decide +kernel⟩
theorem x_mok_48 : x_mok (4, 60, 0, 11) (597, 598, 599) := ⟨by decide +kernel, by decide +kernel, by decide +kernel, by decide +kernel⟩
theorem x_mok_49 : x_mok (5, 1, 3, 0) (65, 66, 67) := ⟨by decide +kernel, by decide +kernel, by decide +kernel⟩
theorem x_mok_50 : x_mok (5, 9, 2, 0) (70, 71, 70) := ⟨by decide +kernel, by decide +kernel, by decide +kernel, by decide +kernel, by decide +kernel⟩
theorem x_mok_51 : x_mok (5, 18, 2, 26) (112, 113, 112) := ⟨by decide +kernel, by decide +kernel, by decide +kernel, by decide +kernel, by decide +kernel⟩
theorem x_mok_52 : x_mok (5, 25, 2, 46) (129, 130, 129) := ⟨by decide +kernel, by decide +kernel, by decide +kernel, by decide +kernel, by decide +kernel⟩
theorem x_mok_53 : x_mok (5, 32, 2, 54) (161, 162, 161) := ⟨by decide +kernel, by decide +kernel, by decide +kernel, by decide +kernel, by decide +kernel⟩
theorem x_mok_54 : x_mok (5, 39, 2, 30) (186, 187, 186) := ⟨by decide +kernel, by decide +kernel, by decide +kernel, by decide +kernel, by decide +kernel⟩
theorem x_mok_55 : x_mok (5, 44, 1, 82) (234, 235, 234) := ⟨by decide +kernel, by decide +kernel, Or.inr trivial, by decide +kernel⟩
theorem x_mok_56 : x_mok (5, 49, 0, 83) (243, 245, 0) := ⟨by decide +kernel, by decide +kernel, by decide +kernel, by decide +kernel⟩
theorem x_mok_57 : x_mok (5, 53, 0, 27) (247, 248, 249) := ⟨by decide +kernel, by decide +kernel, by decide +kernel, by decide +kernel⟩
theorem x_mok_58 : x_mok (5, 67, 1, 85) (267, 268, 267) := ⟨by decide +kernel, by decide +kernel, Or.inr trivial, by decide +kernel⟩
theorem x_mok_59 : x_mok (5, 71, 0, 6) (270, 271, 272) := ⟨by decide +kernel, by decide +kernel, by decide +kernel, by decide +kernel⟩
theorem x_mok_60 : x_mok (5, 80, 0, 7) (276, 277, 278) := ⟨by decide +kernel, by decide +kernel, by decide +kernel, by decide +kernel⟩
theorem x_mok_61 : x_mok (5, 83, 0, 3) (284, 285, 286) := ⟨by decide +kernel, by decide +kernel, by decide +kernel, by decide +kernel⟩
theorem x_mok_62 : x_mok (5, 86, 0, 8) (288, 289, 290) := ⟨by decide +kernel, by decide +kernel, by decide +kernel, by decide +kernel⟩
theorem x_mok_63 : x_mok (5, 90, 1, 84) (237, 238, 237) := ⟨by decide +kernel, by decide +kernel, Or.inr trivial, by decide +kernel⟩
theorem x_mok_64 : x_mok (5, 97, 0, 9) (296, 297, 298) := ⟨by decide +kernel, by decide +kernel, by decide +kernel, by decide +kernel⟩
theorem x_mok_65 : x_mok (5, 100, 0, 4) (304, 305, 306) := ⟨by decide +kernel, by decide +kernel, by decide +kernel, by decide +kernel⟩
theorem x_mok_66 : x_mok (5, 103, 0, 10) (309, 310, 311) := ⟨by decide +kernel, by decide +kernel, by decide +kernel, by decide +kernel⟩
theorem x_mok_67 : x_mok (5, 113, 0, 20) (317, 318, 319) := ⟨by decide +kernel, by decide +kernel, by decide +kernel, by decide +kernel⟩
theorem x_mok_68 : x_mok (5, 116, 1, 88) (322, 323, 322) := ⟨by decide +kernel, by decide +kernel, Or.inr trivial, by decide +kernel⟩
theorem x_mok_69 : x_mok (5, 119, 0, 32) (326, 327, 328) := ⟨by decide +kernel, by decide +kernel, by decide +kernel, by decide +kernel⟩
theorem x_mok_70 : x_mok (5, 123, 1, 89) (385, 386, 385) := ⟨by decide +kernel, by decide +kernel, Or.inr trivial, by decide +kernel⟩
theorem x_mok_71 : x_mok (5, 127, 0, 5) (392, 347, 348) := ⟨by decide +kernel, by decide +kernel, by decide +kernel, by decide +kernel⟩
theorem x_mok_72 : x_mok (5, 130, 0, 13) (401, 402, 403) := ⟨by decide +kernel, by decide +kernel, by decide +kernel, by decide +kernel⟩
theorem x_mok_73 : x_mok (5, 134, 0, 31) (405, 331, 332) := ⟨by decide +kernel, by decide +kernel, by decide +kernel, by decide +kernel⟩
theorem x_mok_74 : x_mok (5, 138, 0, 12) (406, 339, 340) := ⟨by decide +kernel, by decide +kernel, by decide +kernel, by decide +kernel⟩
theorem x_mok_75 : x_mok (5, 141, 0, 24) (407, 408, 409) := ⟨by decide +kernel, by decide +kernel, by decide +kernel, by decide +kernel⟩
theorem x_mok_76 : x_mok (5, 145, 0, 21) (424, 425, 426) := ⟨by decide +kernel, by decide +kernel, by decide +kernel, by decide +kernel⟩
theorem x_mok_77 : x_mok (5, 148, 0, 18) (428, 429, 430) := ⟨by decide +kernel, by decide +kernel, by decide +kernel, by decide +kernel⟩
theorem x_mok_78 : x_mok (5, 157, 0, 33) (437, 438, 439) := ⟨by decide +kernel, by decide +kernel, by decide +kernel, by decide +kernel⟩
theorem x_mok_79 : x_mok (5, 161, 0, 29) (445, 446, 447) := ⟨by decide +kernel, by decide +kernel, by decide +kernel, by decide +kernel⟩
theorem x_mok_80 : x_mok (5, 164, 1, 86) (453, 454, 453) := ⟨by decide +kernel, by decide +kernel, Or.inr trivial, by decide +kernel⟩
theorem x_mok_81 : x_mok (5, 167, 1, 87) (456, 457, 456) := ⟨by decide +kernel, by decide +kernel, Or.inr trivial, by decide +kernel⟩
theorem x_mok_82 : x_mok (5, 172, 0, 34) (460, 461, 462) := ⟨by decide +kernel, by decide +kernel, by decide +kernel, by decide +kernel⟩
theorem x_mok_83 : x_mok (5, 177, 1, 90) (469, 470, 469) := ⟨by decide +kernel, by decide +kernel, Or.inr trivial, by decide +kernel⟩
theorem x_mok_84 : x_mok (5, 189, 0, 36) (487, 488, 489) := ⟨by decide +kernel, by decide +kernel, by decide +kernel, by decide +kernel⟩
theorem x_mok_85 : x_mok (5, 193, 0, 37) (496, 497, 498) := ⟨by decide +kernel, by decide +kernel, by decide +kernel, by decide +kernel⟩
theorem x_mok_86 : x_mok (5, 199, 0, 14) (506, 343, 344) := ⟨by decide +kernel, by decide +kernel, by decide +kernel, by decide +kernel⟩
theorem x_mok_87 : x_mok (5, 202, 0, 38) (511, 512, 513) := ⟨by decide +kernel, by decide +kernel, by decide +kernel, by decide +kernel⟩
theorem x_mok_88 : x_mok (5, 205, 0, 35) (521, 522, 523) := ⟨by decide +kernel, by decide +kernel, by decide +kernel, by decide +kernel⟩
theorem x_mok_89 : x_mok (5, 209, 0, 17) (529, 530, 531) := ⟨by decide +kernel, by decide +kernel, by decide +kernel, by decide +kernel⟩
theorem x_mok_90 : x_mok (5, 212, 0, 22) (537, 413, 414) := ⟨by decide +kernel, by decide +kernel, by decide +kernel, by decide +kernel⟩
theorem x_mok_91 : x_mok (5, 218, 0, 23) (539, 421, 422) := ⟨by decide +kernel, by decide +kernel, by decide +kernel, by decide +kernel⟩
theorem x_mok_92 : x_mok (5, 221, 0, 25) (544, 545, 546) := ⟨by decide +kernel, by decide +kernel, by decide +kernel, by decide +kernel⟩
theorem x_mok_93 : x_mok (5, 224, 0, 47) (552, 553, 554) := ⟨by decide +kernel, by decide +kernel, by decide +kernel, by decide +kernel⟩
theorem x_mok_94 : x_mok (5, 228, 0, 55) (564, 565, 566) := ⟨by decide +kernel, by decide +kernel, by decide +kernel, by decide +kernel⟩
theorem x_mok_95 : x_mok (5, 240, 0, 1) (607, 256, 257) := ⟨by decide +kernel, by decide +kernel, by decide +kernel, by decide +kernel⟩
theorem x_mok_96 : x_mok (5, 248, 1, 91) (472, 473, 472) := ⟨by decide +kernel, by decide +kernel, Or.inr trivial, by decide +kernel⟩
theorem x_mok_97 : x_mok (5, 252, 4, 0) (475, 418, 419) := ⟨by decide +kernel, by decide +kernel, by decide +kernel⟩
theorem x_mok_98 : x_mok (5, 258, 5, 0) (476, 477, 478) := ⟨by decide +kernel, by decide +kernel, by decide +kernel⟩
theorem x_mok_99 : x_mok (6, 1, 3, 0) (613, 66, 67) := ⟨by decide +kernel, by decide +kernel, by decide +kernel⟩
theorem x_mok_100 : x_mok (6, 43, 1, 93) (679, 680, 679) := ⟨by decide +kernel, by decide +kernel, Or.inr trivial, by decide +kernel⟩
theorem x_mok_101 : x_mok (6, 47, 0, 94) (710, 712, 19) := ⟨by decide +kernel, by decide +kernel, by decide +kernel, by decide +kernel⟩
theorem x_mok_102 : x_mok (6, 61, 0, 99) (836, 838, 41) := ⟨by decide +kernel, by decide +kernel, by decide +kernel, by decide +kernel⟩
theorem x_mok_103 : x_mok (6, 65, 0, 101) (763, 765, 29) := ⟨by decide +kernel, by decide +kernel, by decide +kernel, by decide +kernel⟩
theorem x_mok_104 : x_mok (6, 69, 0, 102) (751, 753, 26) := ⟨by decide +kernel, by decide +kernel, by decide +kernel, by decide +kernel⟩
theorem x_mok_105 : x_mok (6, 73, 0, 104) (755, 757, 27) := ⟨by decide +kernel, by decide +kernel, by decide +kernel, by decide +kernel⟩
theorem x_mok_106 : x_mok (6, 77, 0, 103) (759, 761, 28) := ⟨by decide +kernel, by decide +kernel, by decide +kernel, by decide +kernel⟩
theorem x_mok_107 : x_mok (6, 80, 0, 105) (767, 769, 30) := ⟨by decide +kernel, by decide +kernel, by decide +kernel, by decide +kernel⟩
theorem x_mok_108 : x_mok (6, 84, 0, 106) (747, 749, 25) := ⟨by decide +kernel, by decide +kernel, by decide +kernel, by decide +kernel⟩
theorem x_mok_109 : x_mok (6, 87, 0, 107) (771, 773, 31) := ⟨by decide +kernel, by decide +kernel, by decide +kernel, by decide +kernel⟩
theorem x_mok_110 : x_mok (6, 94, 0, 108) (743, 745, 24) := ⟨by decide +kernel, by decide +kernel, by decide +kernel, by decide +kernel⟩
theorem x_mok_111 : x_mok (6, 101, 0, 98) (685, 687, 16) := ⟨by decide +kernel, by decide +kernel, by decide +kernel, by decide +kernel⟩
theorem x_mok_112 : x_mok (6, 104, 1, 96) (693, 694, 693) := ⟨by decide +kernel, by decide +kernel, Or.inr trivial, by decide +kernel⟩
theorem x_mok_113 : x_mok (6, 107, 0, 112) (696, 698, 17) := ⟨by decide +kernel, by decide +kernel, by decide +kernel, by decide +kernel⟩
theorem x_mok_114 : x_mok (6, 112, 0, 113) (702, 704, 18) := ⟨by decide +kernel, by decide +kernel, by decide +kernel, by decide +kernel⟩
theorem x_mok_115 : x_mok (6, 115, 0, 116) (718, 720, 20) := ⟨by decide +kernel, by decide +kernel, by decide +kernel, by decide +kernel⟩
theorem x_mok_116 : x_mok (6, 118, 0, 95) (726, 728, 21) := ⟨by decide +kernel, by decide +kernel, by decide +kernel, by decide +kernel⟩
theorem x_mok_117 : x_mok (6, 121, 0, 119) (734, 736, 22) := ⟨by decide +kernel, by decide +kernel, by decide +kernel, by decide +kernel⟩
theorem x_mok_118 : x_mok (6, 126, 0, 110) (739, 741, 23) := ⟨by decide +kernel, by decide +kernel, by decide +kernel, by decide +kernel⟩
theorem x_mok_119 : x_mok (6, 129, 0, 137) (811, 813, 38) := ⟨by decide +kernel, by decide +kernel, by decide +kernel, by decide +kernel⟩
theorem x_mok_120 : x_mok (6, 132, 0, 123) (787, 789, 32) := ⟨by decide +kernel, by decide +kernel, by decide +kernel, by decide +kernel⟩
theorem x_mok_121 : x_mok (6, 135, 0, 140) (791, 793, 33) := ⟨by decide +kernel, by decide +kernel, by decide +kernel, by decide +kernel⟩
theorem x_mok_122 : x_mok (6, 138, 0, 125) (803, 805, 36) := ⟨by decide +kernel, by decide +kernel, by decide +kernel, by decide +kernel⟩
theorem x_mok_123 : x_mok (6, 141, 0, 126) (807, 809, 37) := ⟨by decide +kernel, by decide +kernel, by decide +kernel, by decide +kernel⟩
theorem x_mok_124 : x_mok (6, 147, 0, 124) (815, 817, 39) := ⟨by decide +kernel, by decide +kernel, by decide +kernel, by decide +kernel⟩
theorem x_mok_125 : x_mok (6, 150, 1, 97) (827, 828, 827) := ⟨by decide +kernel, by decide +kernel, Or.inr trivial, by decide +kernel⟩
theorem x_mok_126 : x_mok (6, 157, 0, 100) (832, 834, 40) := ⟨by decide +kernel, by decide +kernel, by decide +kernel, by decide +kernel⟩
theorem x_mok_127 : x_mok (6, 161, 0, 109) (848, 850, 42) := ⟨by decide +kernel, by decide +kernel, by decide +kernel, by decide +kernel⟩
theorem x_mok_128 : x_mok (6, 166, 0, 133) (799, 801, 35) := ⟨by decide +kernel, by decide +kernel, by decide +kernel, by decide +kernel⟩
theorem x_mok_129 : x_mok (6, 171, 0, 139) (795, 797, 34) := ⟨by decide +kernel, by decide +kernel, by decide +kernel, by decide +kernel⟩
theorem x_mok_130 : x_mok (6, 179, 0, 146) (911, 913, 47) := ⟨by decide +kernel, by decide +kernel, by decide +kernel, by decide +kernel⟩
theorem x_mok_131 : x_mok (6, 185, 0, 145) (915, 917, 48) := ⟨by decide +kernel, by decide +kernel, by decide +kernel, by decide +kernel⟩
theorem x_mok_132 : x_mok (6, 195, 0, 147) (907, 909, 46) := ⟨by decide +kernel, by decide +kernel, by decide +kernel, by decide +kernel⟩
theorem x_mok_133 : x_mok (6, 198, 0, 149) (899, 901, 44) := ⟨by decide +kernel, by decide +kernel, by decide +kernel, by decide +kernel⟩
theorem x_mok_134 : x_mok (6, 201, 0, 148) (903, 905, 45) := ⟨by decide +kernel, by decide +kernel, by decide +kernel, by decide +kernel⟩
theorem x_mok_135 : x_mok (6, 207, 0, 150) (919, 921, 49) := ⟨by decide +kernel, by decide +kernel, by decide +kernel, by decide +kernel⟩
theorem x_mok_136 : x_mok (6, 210, 0, 151) (895, 897, 43) := ⟨by decide +kernel, by decide +kernel, by decide +kernel, by decide +kernel⟩
theorem x_mok_137 : x_mok (8, 9, 2, 57) (62, 63, 62) := ⟨by decide +kernel, by decide +kernel, by decide +kernel, by decide +kernel, by decide +kernel⟩
theorem x_mok_138 : x_mok (8, 12, 2, 92) (610, 611, 610) := ⟨by decide +kernel, by decide +kernel, by decide +kernel, by decide +kernel, by decide +kernel⟩
theorem x_mok_139 : x_mok (8, 13, 0, 58) (230, 231, 232) := ⟨by decide +kernel, by decide +kernel, by decide +kernel, by decide +kernel⟩
theorem x_mok_140 : x_mok (8, 17, 0, 111) (675, 676, 677) := ⟨by decide +kernel, by decide +kernel, by decide +kernel, by decide +kernel⟩
theorem x_mok_141 : x_mok (8, 18, 0, 59) (263, 264, 265) := ⟨by decide +kernel, by decide +kernel, by decide +kernel, by decide +kernel⟩
theorem x_mok_142 : x_mok (8, 21, 0, 114) (689, 690, 691) := ⟨by decide +kernel, by decide +kernel, by decide +kernel, by decide +kernel⟩
theorem x_mok_143 : x_mok (8, 22, 0, 60) (280, 281, 282) := ⟨by decide +kernel, by decide +kernel, by decide +kernel, by decide +kernel⟩
theorem x_mok_144 : x_mok (8, 26, 0, 115) (706, 707, 708) := ⟨by decide +kernel, by decide +kernel, by decide +kernel, by decide +kernel⟩
theorem x_mok_145 : x_mok (8, 27, 0, 61) (292, 293, 294) := ⟨by decide +kernel, by decide +kernel, by decide +kernel, by decide +kernel⟩
theorem x_mok_146 : x_mok (8, 30, 0, 117) (714, 715, 716) := ⟨by decide +kernel, by decide +kernel, by decide +kernel, by decide +kernel⟩
theorem x_mok_147 : x_mok (8, 31, 0, 62) (300, 301, 302) := ⟨by decide +kernel, by decide +kernel, by decide +kernel, by decide +kernel⟩
theorem x_mok_148 : x_mok (8, 34, 0, 118) (722, 723, 724) := ⟨by decide +kernel, by decide +kernel, by decide +kernel, by decide +kernel⟩
theorem x_mok_149 : x_mok (8, 35, 0, 63) (313, 314, 315) := ⟨by decide +kernel, by decide +kernel, by decide +kernel, by decide +kernel⟩
theorem x_mok_150 : x_mok (8, 38, 0, 120) (730, 731, 732) := ⟨by decide +kernel, by decide +kernel, by decide +kernel, by decide +kernel⟩
theorem x_mok_151 : x_mok (8, 39, 0, 64) (388, 389, 390) := ⟨by decide +kernel, by decide +kernel, by decide +kernel, by decide +kernel⟩
theorem x_mok_152 : x_mok (8, 42, 0, 121) (775, 776, 777) := ⟨by decide +kernel, by decide +kernel, by decide +kernel, by decide +kernel⟩
theorem x_mok_153 : x_mok (8, 43, 0, 65) (393, 394, 395) := ⟨by decide +kernel, by decide +kernel, by decide +kernel, by decide +kernel⟩
theorem x_mok_154 : x_mok (8, 46, 0, 122) (779, 780, 781) := ⟨by decide +kernel, by decide +kernel, by decide +kernel, by decide +kernel⟩
theorem x_mok_155 : x_mok (8, 47, 0, 66) (397, 398, 399) := ⟨by decide +kernel, by decide +kernel, by decide +kernel, by decide +kernel⟩
theorem x_mok_156 : x_mok (8, 50, 0, 127) (783, 784, 785) := ⟨by decide +kernel, by decide +kernel, by decide +kernel, by decide +kernel⟩
theorem x_mok_157 : x_mok (8, 51, 0, 67) (441, 442, 443) := ⟨by decide +kernel, by decide +kernel, by decide +kernel, by decide +kernel⟩
theorem x_mok_158 : x_mok (8, 55, 0, 128) (819, 820, 821) := ⟨by decide +kernel, by decide +kernel, by decide +kernel, by decide +kernel⟩
theorem x_mok_159 : x_mok (8, 56, 0, 68) (449, 450, 451) := ⟨by decide +kernel, by decide +kernel, by decide +kernel, by decide +kernel⟩
theorem x_mok_160 : x_mok (8, 60, 0, 129) (823, 824, 825) := ⟨by decide +kernel, by decide +kernel, by decide +kernel, by decide +kernel⟩
theorem x_mok_161 : x_mok (8, 61, 0, 69) (479, 480, 481) := ⟨by decide +kernel, by decide +kernel, by decide +kernel, by decide +kernel⟩
theorem x_mok_162 : x_mok (8, 65, 0, 130) (840, 841, 842) := ⟨by decide +kernel, by decide +kernel, by decide +kernel, by decide +kernel⟩
theorem x_mok_163 : x_mok (8, 66, 0, 70) (483, 484, 485) := ⟨by decide +kernel, by decide +kernel, by decide +kernel, by decide +kernel⟩
theorem x_mok_164 : x_mok (8, 70, 0, 131) (844, 845, 846) := ⟨by decide +kernel, by decide +kernel, by decide +kernel, by decide +kernel⟩
theorem x_mok_165 : x_mok (8, 71, 0, 71) (492, 493, 494) := ⟨by decide +kernel, by decide +kernel, by decide +kernel, by decide +kernel⟩
theorem x_mok_166 : x_mok (8, 74, 0, 132) (852, 853, 854) := ⟨by decide +kernel, by decide +kernel, by decide +kernel, by decide +kernel⟩
theorem x_mok_167 : x_mok (8, 75, 0, 72) (501, 502, 503) := ⟨by decide +kernel, by decide +kernel, by decide +kernel, by decide +kernel⟩
theorem x_mok_168 : x_mok (8, 78, 0, 134) (856, 857, 858) := ⟨by decide +kernel, by decide +kernel, by decide +kernel, by decide +kernel⟩
theorem x_mok_169 : x_mok (8, 79, 0, 73) (507, 508, 509) := ⟨by decide +kernel, by decide +kernel, by decide +kernel, by decide +kernel⟩
theorem x_mok_170 : x_mok (8, 82, 0, 135) (861, 862, 863) := ⟨by decide +kernel, by decide +kernel, by decide +kernel, by decide +kernel⟩
theorem x_mok_171 : x_mok (8, 83, 0, 74) (517, 518, 519) := ⟨by decide +kernel, by decide +kernel, by decide +kernel, by decide +kernel⟩
theorem x_mok_172 : x_mok (8, 87, 0, 136) (866, 867, 868) := ⟨by decide +kernel, by decide +kernel, by decide +kernel, by decide +kernel⟩
theorem x_mok_173 : x_mok (8, 88, 0, 75) (525, 526, 527) := ⟨by decide +kernel, by decide +kernel, by decide +kernel, by decide +kernel⟩
theorem x_mok_174 : x_mok (8, 91, 0, 138) (870, 871, 872) := ⟨by decide +kernel, by decide +kernel, by decide +kernel, by decide +kernel⟩
theorem x_mok_175 : x_mok (8, 92, 0, 76) (533, 534, 535) := ⟨by decide +kernel, by decide +kernel, by decide +kernel, by decide +kernel⟩
theorem x_mok_176 : x_mok (8, 95, 0, 141) (874, 875, 876) := ⟨by decide +kernel, by decide +kernel, by decide +kernel, by decide +kernel⟩
theorem x_mok_177 : x_mok (8, 96, 0, 77) (540, 541, 542) := ⟨by decide +kernel, by decide +kernel, by decide +kernel, by decide +kernel⟩
theorem x_mok_178 : x_mok (8, 99, 0, 142) (879, 880, 881) := ⟨by decide +kernel, by decide +kernel, by decide +kernel, by decide +kernel⟩
theorem x_mok_179 : x_mok (8, 100, 0, 78) (548, 549, 550) := ⟨by decide +kernel, by decide +kernel, by decide +kernel, by decide +kernel⟩
theorem x_mok_180 : x_mok (8, 103, 0, 143) (883, 884, 885) := ⟨by decide +kernel, by decide +kernel, by decide +kernel, by decide +kernel⟩
theorem x_mok_181 : x_mok (8, 104, 0, 79) (556, 557, 558) := ⟨by decide +kernel, by decide +kernel, by decide +kernel, by decide +kernel⟩
theorem x_mok_182 : x_mok (8, 107, 0, 144) (887, 888, 889) := ⟨by decide +kernel, by decide +kernel, by decide +kernel, by decide +kernel⟩
theorem x_mok_183 : x_mok (8, 108, 0, 80) (560, 561, 562) := ⟨by decide +kernel, by decide +kernel, by decide +kernel, by decide +kernel⟩
theorem x_mok_184 : x_mok (8, 111, 0, 152) (891, 892, 893) := ⟨by decide +kernel, by decide +kernel, by decide +kernel, by decide +kernel⟩
theorem x_mok_185 : x_mok (8, 112, 0, 81) (603, 604, 605) := ⟨by decide +kernel, by decide +kernel, by decide +kernel, by decide +kernel⟩
theorem x_mok_186 : x_mok (8, 115, 0, 153) (923, 924, 925) := ⟨by decide +kernel, by decide +kernel, by decide +kernel, by decide +kernel⟩
def x_mls_0 : List (Nat × Nat × Nat × Nat) := [(0, 3, 3, 0), (0, 37, 0, 2), (0, 41, 0, 3), (0, 45, 0, 6), (0, 49, 0, 7), (0, 52, 0, 9), (0, 55, 0, 5), (0, 58, 0, 15), (0, 61, 0, 19), (0, 65, 1, 154), (0, 70, 0, 20), (0, 73, 0, 14), (0, 76, 0, 22), (0, 80, 4, 0), (0, 86, 0, 23), (1, 3, 3, 0), (1, 17, 2, 0), (1, 22, 0, 28), (1, 25, 0, 1), (2, 3, 3, 0)]
theorem x_mls_ok_0 : ∀ q ∈ x_mls_0, ∃ p, x_mok q p := List.forall_mem_cons.mpr ⟨⟨(73, 66, 67), x_mok_0⟩, List.forall_mem_cons.mpr ⟨⟨(259, 261, 2), x_mok_1⟩, List.forall_mem_cons.mpr ⟨⟨(308, 285, 286), x_mok_2⟩, List.forall_mem_cons.mpr ⟨⟨(321, 271, 272), x_mok_3⟩, List.forall_mem_cons.mpr ⟨⟨(601, 277, 278), x_mok_4⟩, List.forall_mem_cons.mpr ⟨⟨(602, 297, 298), x_mok_5⟩, List.forall_mem_cons.mpr ⟨⟨(346, 347, 348), x_mok_6⟩, List.forall_mem_cons.mpr ⟨⟨(362, 355, 356), x_mok_7⟩, List.forall_mem_cons.mpr ⟨⟨(432, 434, 9), x_mok_8⟩, List.forall_mem_cons.mpr ⟨⟨(436, 376, 436), x_mok_9⟩, List.forall_mem_cons.mpr ⟨⟨(411, 318, 319), x_mok_10⟩, List.forall_mem_cons.mpr ⟨⟨(416, 343, 344), x_mok_11⟩, List.forall_mem_cons.mpr ⟨⟨(412, 413, 414), x_mok_12⟩, List.forall_mem_cons.mpr ⟨⟨(417, 418, 419), x_mok_13⟩, List.forall_mem_cons.mpr ⟨⟨(420, 421, 422), x_mok_14⟩, List.forall_mem_cons.mpr ⟨⟨(115, 66, 67), x_mok_15⟩, List.forall_mem_cons.mpr ⟨⟨(118, 71, 118), x_mok_16⟩, List.forall_mem_cons.mpr ⟨⟨(251, 253, 1), x_mok_17⟩, List.forall_mem_cons.mpr ⟨⟨(255, 256, 257), x_mok_18⟩, List.forall_mem_cons.mpr ⟨⟨(189, 66, 67), x_mok_19⟩, fun _ h => absurd h List.not_mem_nil⟩⟩⟩⟩⟩⟩⟩⟩⟩⟩⟩⟩⟩⟩⟩⟩⟩⟩⟩⟩
def x_mls_1 : List (Nat × Nat × Nat × Nat) := [(2, 26, 0, 39), (2, 30, 0, 42), (2, 34, 0, 31), (2, 38, 0, 41), (2, 48, 0, 43), (2, 51, 0, 5), (2, 55, 0, 40), (2, 59, 0, 15), (2, 72, 0, 16), (2, 79, 0, 36), (2, 85, 4, 0), (2, 91, 0, 12), (2, 94, 0, 14), (2, 98, 0, 44), (2, 102, 0, 45), (2, 106, 1, 154), (3, 3, 3, 0), (3, 22, 0, 49), (3, 29, 0, 51), (3, 36, 0, 50)]
theorem x_mls_ok_1 : ∀ q ∈ x_mls_1, ∃ p, x_mok q p := List.forall_mem_cons.mpr ⟨⟨(334, 336, 3), x_mok_20⟩, List.forall_mem_cons.mpr ⟨⟨(363, 365, 5), x_mok_21⟩, List.forall_mem_cons.mpr ⟨⟨(330, 331, 332), x_mok_22⟩, List.forall_mem_cons.mpr ⟨⟨(381, 383, 8), x_mok_23⟩, List.forall_mem_cons.mpr ⟨⟨(464, 466, 10), x_mok_24⟩, List.forall_mem_cons.mpr ⟨⟨(491, 347, 348), x_mok_25⟩, List.forall_mem_cons.mpr ⟨⟨(350, 352, 4), x_mok_26⟩, List.forall_mem_cons.mpr ⟨⟨(354, 355, 356), x_mok_27⟩, List.forall_mem_cons.mpr ⟨⟨(358, 359, 360), x_mok_28⟩, List.forall_mem_cons.mpr ⟨⟨(500, 488, 489), x_mok_29⟩, List.forall_mem_cons.mpr ⟨⟨(516, 418, 419), x_mok_30⟩, List.forall_mem_cons.mpr ⟨⟨(338, 339, 340), x_mok_31⟩, List.forall_mem_cons.mpr ⟨⟨(342, 343, 344), x_mok_32⟩, List.forall_mem_cons.mpr ⟨⟨(367, 369, 6), x_mok_33⟩, List.forall_mem_cons.mpr ⟨⟨(371, 373, 7), x_mok_34⟩, List.forall_mem_cons.mpr ⟨⟨(375, 376, 375), x_mok_35⟩, List.forall_mem_cons.mpr ⟨⟨(132, 66, 67), x_mok_36⟩, List.forall_mem_cons.mpr ⟨⟨(577, 579, 12), x_mok_37⟩, List.forall_mem_cons.mpr ⟨⟨(581, 583, 13), x_mok_38⟩, List.forall_mem_cons.mpr ⟨⟨(589, 591, 15), x_mok_39⟩, fun _ h => absurd h List.not_mem_nil⟩⟩⟩⟩⟩⟩⟩⟩⟩⟩⟩⟩⟩⟩⟩⟩⟩⟩⟩⟩
def x_mls_2 : List (Nat × Nat × Nat × Nat) := [(3, 40, 0, 52), (3, 44, 1, 53), (4, 3, 3, 0), (4, 11, 2, 0), (4, 18, 0, 1), (4, 37, 0, 56), (4, 44, 0, 48), (4, 57, 6, 84), (4, 60, 0, 11), (5, 1, 3, 0), (5, 9, 2, 0), (5, 18, 2, 26), (5, 25, 2, 46), (5, 32, 2, 54), (5, 39, 2, 30), (5, 44, 1, 82), (5, 49, 0, 83), (5, 53, 0, 27), (5, 67, 1, 85), (5, 71, 0, 6)]
theorem x_mls_ok_2 : ∀ q ∈ x_mls_2, ∃ p, x_mok q p := List.forall_mem_cons.mpr ⟨⟨(585, 587, 14), x_mok_40⟩, List.forall_mem_cons.mpr ⟨⟨(593, 594, 593), x_mok_41⟩, List.forall_mem_cons.mpr ⟨⟨(164, 66, 67), x_mok_42⟩, List.forall_mem_cons.mpr ⟨⟨(166, 71, 166), x_mok_43⟩, List.forall_mem_cons.mpr ⟨⟨(568, 256, 257), x_mok_44⟩, List.forall_mem_cons.mpr ⟨⟨(569, 571, 11), x_mok_45⟩, List.forall_mem_cons.mpr ⟨⟨(573, 574, 575), x_mok_46⟩, List.forall_mem_cons.mpr ⟨⟨(596, 238, 596), x_mok_47⟩, List.forall_mem_cons.mpr ⟨⟨(597, 598, 599), x_mok_48⟩, List.forall_mem_cons.mpr ⟨⟨(65, 66, 67), x_mok_49⟩, List.forall_mem_cons.mpr ⟨⟨(70, 71, 70), x_mok_50⟩, List.forall_mem_cons.mpr ⟨⟨(112, 113, 112), x_mok_51⟩, List.forall_mem_cons.mpr ⟨⟨(129, 130, 129), x_mok_52⟩, List.forall_mem_cons.mpr ⟨⟨(161, 162, 161), x_mok_53⟩, List.forall_mem_cons.mpr ⟨⟨(186, 187, 186), x_mok_54⟩, List.forall_mem_cons.mpr ⟨⟨(234, 235, 234), x_mok_55⟩, List.forall_mem_cons.mpr ⟨⟨(243, 245, 0), x_mok_56⟩, List.forall_mem_cons.mpr ⟨⟨(247, 248, 249), x_mok_57⟩, List.forall_mem_cons.mpr ⟨⟨(267, 268, 267), x_mok_58⟩, List.forall_mem_cons.mpr ⟨⟨(270, 271, 272), x_mok_59⟩, fun _ h => absurd h List.not_mem_nil⟩⟩⟩⟩⟩⟩⟩⟩⟩⟩⟩⟩⟩⟩⟩⟩⟩⟩⟩⟩
def x_mls_3 : List (Nat × Nat × Nat × Nat) := [(5, 80, 0, 7), (5, 83, 0, 3), (5, 86, 0, 8), (5, 90, 1, 84), (5, 97, 0, 9), (5, 100, 0, 4), (5, 103, 0, 10), (5, 113, 0, 20), (5, 116, 1, 88), (5, 119, 0, 32), (5, 123, 1, 89), (5, 127, 0, 5), (5, 130, 0, 13), (5, 134, 0, 31), (5, 138, 0, 12), (5, 141, 0, 24), (5, 145, 0, 21), (5, 148, 0, 18), (5, 157, 0, 33), (5, 161, 0, 29)]
theorem x_mls_ok_3 : ∀ q ∈ x_mls_3, ∃ p, x_mok q p := List.forall_mem_cons.mpr ⟨⟨(276, 277, 278), x_mok_60⟩, List.forall_mem_cons.mpr ⟨⟨(284, 285, 286), x_mok_61⟩, List.forall_mem_cons.mpr ⟨⟨(288, 289, 290), x_mok_62⟩, List.forall_mem_cons.mpr ⟨⟨(237, 238, 237), x_mok_63⟩, List.forall_mem_cons.mpr ⟨⟨(296, 297, 298), x_mok_64⟩, List.forall_mem_cons.mpr ⟨⟨(304, 305, 306), x_mok_65⟩, List.forall_mem_cons.mpr ⟨⟨(309, 310, 311), x_mok_66⟩, List.forall_mem_cons.mpr ⟨⟨(317, 318, 319), x_mok_67⟩, List.forall_mem_cons.mpr ⟨⟨(322, 323, 322), x_mok_68⟩, List.forall_mem_cons.mpr ⟨⟨(326, 327, 328), x_mok_69⟩, List.forall_mem_cons.mpr ⟨⟨(385, 386, 385), x_mok_70⟩, List.forall_mem_cons.mpr ⟨⟨(392, 347, 348), x_mok_71⟩, List.forall_mem_cons.mpr ⟨⟨(401, 402, 403), x_mok_72⟩, List.forall_mem_cons.mpr ⟨⟨(405, 331, 332), x_mok_73⟩, List.forall_mem_cons.mpr ⟨⟨(406, 339, 340), x_mok_74⟩, List.forall_mem_cons.mpr ⟨⟨(407, 408, 409), x_mok_75⟩, List.forall_mem_cons.mpr ⟨⟨(424, 425, 426), x_mok_76⟩, List.forall_mem_cons.mpr ⟨⟨(428, 429, 430), x_mok_77⟩, List.forall_mem_cons.mpr ⟨⟨(437, 438, 439), x_mok_78⟩, List.forall_mem_cons.mpr ⟨⟨(445, 446, 447), x_mok_79⟩, fun _ h => absurd h List.not_mem_nil⟩⟩⟩⟩⟩⟩⟩⟩⟩⟩⟩⟩⟩⟩⟩⟩⟩⟩⟩⟩
def x_mls_4 : List (Nat × Nat × Nat × Nat) := [(5, 164, 1, 86), (5, 167, 1, 87), (5, 172, 0, 34), (5, 177, 1, 90), (5, 189, 0, 36), (5, 193, 0, 37), (5, 199, 0, 14), (5, 202, 0, 38), (5, 205, 0, 35), (5, 209, 0, 17), (5, 212, 0, 22), (5, 218, 0, 23), (5, 221, 0, 25), (5, 224, 0, 47), (5, 228, 0, 55), (5, 240, 0, 1), (5, 248, 1, 91), (5, 252, 4, 0), (5, 258, 5, 0), (6, 1, 3, 0)]
theorem x_mls_ok_4 : ∀ q ∈ x_mls_4, ∃ p, x_mok q p := List.forall_mem_cons.mpr ⟨⟨(453, 454, 453), x_mok_80⟩, List.forall_mem_cons.mpr ⟨⟨(456, 457, 456), x_mok_81⟩, List.forall_mem_cons.mpr ⟨⟨(460, 461, 462), x_mok_82⟩, List.forall_mem_cons.mpr ⟨⟨(469, 470, 469), x_mok_83⟩, List.forall_mem_cons.mpr ⟨⟨(487, 488, 489), x_mok_84⟩, List.forall_mem_cons.mpr ⟨⟨(496, 497, 498), x_mok_85⟩, List.forall_mem_cons.mpr ⟨⟨(506, 343, 344), x_mok_86⟩, List.forall_mem_cons.mpr ⟨⟨(511, 512, 513), x_mok_87⟩, List.forall_mem_cons.mpr ⟨⟨(521, 522, 523), x_mok_88⟩, List.forall_mem_cons.mpr ⟨⟨(529, 530, 531), x_mok_89⟩, List.forall_mem_cons.mpr ⟨⟨(537, 413, 414), x_mok_90⟩, List.forall_mem_cons.mpr ⟨⟨(539, 421, 422), x_mok_91⟩, List.forall_mem_cons.mpr ⟨⟨(544, 545, 546), x_mok_92⟩, List.forall_mem_cons.mpr ⟨⟨(552, 553, 554), x_mok_93⟩, List.forall_mem_cons.mpr ⟨⟨(564, 565, 566), x_mok_94⟩, List.forall_mem_cons.mpr ⟨⟨(607, 256, 257), x_mok_95⟩, List.forall_mem_cons.mpr ⟨⟨(472, 473, 472), x_mok_96⟩, List.forall_mem_cons.mpr ⟨⟨(475, 418, 419), x_mok_97⟩, List.forall_mem_cons.mpr ⟨⟨(476, 477, 478), x_mok_98⟩, List.forall_mem_cons.mpr ⟨⟨(613, 66, 67), x_mok_99⟩, fun _ h => absurd h List.not_mem_nil⟩⟩⟩⟩⟩⟩⟩⟩⟩⟩⟩⟩⟩⟩⟩⟩⟩⟩⟩⟩
def x_mls_5 : List (Nat × Nat × Nat × Nat) := [(6, 43, 1, 93), (6, 47, 0, 94), (6, 61, 0, 99), (6, 65, 0, 101), (6, 69, 0, 102), (6, 73, 0, 104), (6, 77, 0, 103), (6, 80, 0, 105), (6, 84, 0, 106), (6, 87, 0, 107), (6, 94, 0, 108), (6, 101, 0, 98), (6, 104, 1, 96), (6, 107, 0, 112), (6, 112, 0, 113), (6, 115, 0, 116), (6, 118, 0, 95), (6, 121, 0, 119), (6, 126, 0, 110), (6, 129, 0, 137)]
theorem x_mls_ok_5 : ∀ q ∈ x_mls_5, ∃ p, x_mok q p := List.forall_mem_cons.mpr ⟨⟨(679, 680, 679), x_mok_100⟩, List.forall_mem_cons.mpr ⟨⟨(710, 712, 19), x_mok_101⟩, List.forall_mem_cons.mpr ⟨⟨(836, 838, 41), x_mok_102⟩, List.forall_mem_cons.mpr ⟨⟨(763, 765, 29), x_mok_103⟩, List.forall_mem_cons.mpr ⟨⟨(751, 753, 26), x_mok_104⟩, List.forall_mem_cons.mpr ⟨⟨(755, 757, 27), x_mok_105⟩, List.forall_mem_cons.mpr ⟨⟨(759, 761, 28), x_mok_106⟩, List.forall_mem_cons.mpr ⟨⟨(767, 769, 30), x_mok_107⟩, List.forall_mem_cons.mpr ⟨⟨(747, 749, 25), x_mok_108⟩, List.forall_mem_cons.mpr ⟨⟨(771, 773, 31), x_mok_109⟩, List.forall_mem_cons.mpr ⟨⟨(743, 745, 24), x_mok_110⟩, List.forall_mem_cons.mpr ⟨⟨(685, 687, 16), x_mok_111⟩, List.forall_mem_cons.mpr ⟨⟨(693, 694, 693), x_mok_112⟩, List.forall_mem_cons.mpr ⟨⟨(696, 698, 17), x_mok_113⟩, List.forall_mem_cons.mpr ⟨⟨(702, 704, 18), x_mok_114⟩, List.forall_mem_cons.mpr ⟨⟨(718, 720, 20), x_mok_115⟩, List.forall_mem_cons.mpr ⟨⟨(726, 728, 21), x_mok_116⟩, List.forall_mem_cons.mpr ⟨⟨(734, 736, 22), x_mok_117⟩, List.forall_mem_cons.mpr ⟨⟨(739, 741, 23), x_mok_118⟩, List.forall_mem_cons.mpr ⟨⟨(811, 813, 38), x_mok_119⟩, fun _ h => absurd h List.not_mem_nil⟩⟩⟩⟩⟩⟩⟩⟩⟩⟩⟩⟩⟩⟩⟩⟩⟩⟩⟩⟩
def x_mls_6 : List (Nat × Nat × Nat × Nat) := [(6, 132, 0, 123), (6, 135, 0, 140), (6, 138, 0, 125), (6, 141, 0, 126), (6, 147, 0, 124), (6, 150, 1, 97), (6, 157, 0, 100), (6, 161, 0, 109), (6, 166, 0, 133), (6, 171, 0, 139), (6, 179, 0, 146), (6, 185, 0, 145), (6, 195, 0, 147), (6, 198, 0, 149), (6, 201, 0, 148), (6, 207, 0, 150), (6, 210, 0, 151), (8, 9, 2, 57), (8, 12, 2, 92), (8, 13, 0, 58)]
theorem x_mls_ok_6 : ∀ q ∈ x_mls_6, ∃ p, x_mok q p := List.forall_mem_cons.mpr ⟨⟨(787, 789, 32), x_mok_120⟩, List.forall_mem_cons.mpr ⟨⟨(791, 793, 33), x_mok_121⟩, List.forall_mem_cons.mpr ⟨⟨(803, 805, 36), x_mok_122⟩, List.forall_mem_cons.mpr ⟨⟨(807, 809, 37), x_mok_123⟩, List.forall_mem_cons.mpr ⟨⟨(815, 817, 39), x_mok_124⟩, List.forall_mem_cons.mpr ⟨⟨(827, 828, 827), x_mok_125⟩, List.forall_mem_cons.mpr ⟨⟨(832, 834, 40), x_mok_126⟩, List.forall_mem_cons.mpr ⟨⟨(848, 850, 42), x_mok_127⟩, List.forall_mem_cons.mpr ⟨⟨(799, 801, 35), x_mok_128⟩, List.forall_mem_cons.mpr ⟨⟨(795, 797, 34), x_mok_129⟩, List.forall_mem_cons.mpr ⟨⟨(911, 913, 47), x_mok_130⟩, List.forall_mem_cons.mpr ⟨⟨(915, 917, 48), x_mok_131⟩, List.forall_mem_cons.mpr ⟨⟨(907, 909, 46), x_mok_132⟩, List.forall_mem_cons.mpr ⟨⟨(899, 901, 44), x_mok_133⟩, List.forall_mem_cons.mpr ⟨⟨(903, 905, 45), x_mok_134⟩, List.forall_mem_cons.mpr ⟨⟨(919, 921, 49), x_mok_135⟩, List.forall_mem_cons.mpr ⟨⟨(895, 897, 43), x_mok_136⟩, List.forall_mem_cons.mpr ⟨⟨(62, 63, 62), x_mok_137⟩, List.forall_mem_cons.mpr ⟨⟨(610, 611, 610), x_mok_138⟩, List.forall_mem_cons.mpr ⟨⟨(230, 231, 232), x_mok_139⟩, fun _ h => absurd h List.not_mem_nil⟩⟩⟩⟩⟩⟩⟩⟩⟩⟩⟩⟩⟩⟩⟩⟩⟩⟩⟩⟩
def x_mls_7 : List (Nat × Nat × Nat × Nat) := [(8, 17, 0, 111), (8, 18, 0, 59), (8, 21, 0, 114), (8, 22, 0, 60), (8, 26, 0, 115), (8, 27, 0, 61), (8, 30, 0, 117), (8, 31, 0, 62), (8, 34, 0, 118), (8, 35, 0, 63), (8, 38, 0, 120), (8, 39, 0, 64), (8, 42, 0, 121), (8, 43, 0, 65), (8, 46, 0, 122), (8, 47, 0, 66), (8, 50, 0, 127), (8, 51, 0, 67), (8, 55, 0, 128), (8, 56, 0, 68)]
theorem x_mls_ok_7 : ∀ q ∈ x_mls_7, ∃ p, x_mok q p := List.forall_mem_cons.mpr ⟨⟨(675, 676, 677), x_mok_140⟩, List.forall_mem_cons.mpr ⟨⟨(263, 264, 265), x_mok_141⟩, List.forall_mem_cons.mpr ⟨⟨(689, 690, 691), x_mok_142⟩, List.forall_mem_cons.mpr ⟨⟨(280, 281, 282), x_mok_143⟩, List.forall_mem_cons.mpr ⟨⟨(706, 707, 708), x_mok_144⟩, List.forall_mem_cons.mpr ⟨⟨(292, 293, 294), x_mok_145⟩, List.forall_mem_cons.mpr ⟨⟨(714, 715, 716), x_mok_146⟩, List.forall_mem_cons.mpr ⟨⟨(300, 301, 302), x_mok_147⟩, List.forall_mem_cons.mpr ⟨⟨(722, 723, 724), x_mok_148⟩, List.forall_mem_cons.mpr ⟨⟨(313, 314, 315), x_mok_149⟩, List.forall_mem_cons.mpr ⟨⟨(730, 731, 732), x_mok_150⟩, List.forall_mem_cons.mpr ⟨⟨(388, 389, 390), x_mok_151⟩, List.forall_mem_cons.mpr ⟨⟨(775, 776, 777), x_mok_152⟩, List.forall_mem_cons.mpr ⟨⟨(393, 394, 395), x_mok_153⟩, List.forall_mem_cons.mpr ⟨⟨(779, 780, 781), x_mok_154⟩, List.forall_mem_cons.mpr ⟨⟨(397, 398, 399), x_mok_155⟩, List.forall_mem_cons.mpr ⟨⟨(783, 784, 785), x_mok_156⟩, List.forall_mem_cons.mpr ⟨⟨(441, 442, 443), x_mok_157⟩, List.forall_mem_cons.mpr ⟨⟨(819, 820, 821), x_mok_158⟩, List.forall_mem_cons.mpr ⟨⟨(449, 450, 451), x_mok_159⟩, fun _ h => absurd h List.not_mem_nil⟩⟩⟩⟩⟩⟩⟩⟩⟩⟩⟩⟩⟩⟩⟩⟩⟩⟩⟩⟩
def x_mls_8 : List (Nat × Nat × Nat × Nat) := [(8, 60, 0, 129), (8, 61, 0, 69), (8, 65, 0, 130), (8, 66, 0, 70), (8, 70, 0, 131), (8, 71, 0, 71), (8, 74, 0, 132), (8, 75, 0, 72), (8, 78, 0, 134), (8, 79, 0, 73), (8, 82, 0, 135), (8, 83, 0, 74), (8, 87, 0, 136), (8, 88, 0, 75), (8, 91, 0, 138), (8, 92, 0, 76), (8, 95, 0, 141), (8, 96, 0, 77), (8, 99, 0, 142), (8, 100, 0, 78)]
theorem x_mls_ok_8 : ∀ q ∈ x_mls_8, ∃ p, x_mok q p := List.forall_mem_cons.mpr ⟨⟨(823, 824, 825), x_mok_160⟩, List.forall_mem_cons.mpr ⟨⟨(479, 480, 481), x_mok_161⟩, List.forall_mem_cons.mpr ⟨⟨(840, 841, 842), x_mok_162⟩, List.forall_mem_cons.mpr ⟨⟨(483, 484, 485), x_mok_163⟩, List.forall_mem_cons.mpr ⟨⟨(844, 845, 846), x_mok_164⟩, List.forall_mem_cons.mpr ⟨⟨(492, 493, 494), x_mok_165⟩, List.forall_mem_cons.mpr ⟨⟨(852, 853, 854), x_mok_166⟩, List.forall_mem_cons.mpr ⟨⟨(501, 502, 503), x_mok_167⟩, List.forall_mem_cons.mpr ⟨⟨(856, 857, 858), x_mok_168⟩, List.forall_mem_cons.mpr ⟨⟨(507, 508, 509), x_mok_169⟩, List.forall_mem_cons.mpr ⟨⟨(861, 862, 863), x_mok_170⟩, List.forall_mem_cons.mpr ⟨⟨(517, 518, 519), x_mok_171⟩, List.forall_mem_cons.mpr ⟨⟨(866, 867, 868), x_mok_172⟩, List.forall_mem_cons.mpr ⟨⟨(525, 526, 527), x_mok_173⟩, List.forall_mem_cons.mpr ⟨⟨(870, 871, 872), x_mok_174⟩, List.forall_mem_cons.mpr ⟨⟨(533, 534, 535), x_mok_175⟩, List.forall_mem_cons.mpr ⟨⟨(874, 875, 876), x_mok_176⟩, List.forall_mem_cons.mpr ⟨⟨(540, 541, 542), x_mok_177⟩, List.forall_mem_cons.mpr ⟨⟨(879, 880, 881), x_mok_178⟩, List.forall_mem_cons.mpr ⟨⟨(548, 549, 550), x_mok_179⟩, fun _ h => absurd h List.not_mem_nil⟩⟩⟩⟩⟩⟩⟩⟩⟩⟩⟩⟩⟩⟩⟩⟩⟩⟩⟩⟩
def x_mls_9 : List (Nat × Nat × Nat × Nat) := [(8, 103, 0, 143), (8, 104, 0, 79), (8, 107, 0, 144), (8, 108, 0, 80), (8, 111, 0, 152), (8, 112, 0, 81), (8, 115, 0, 153)]
theorem x_mls_ok_9 : ∀ q ∈ x_mls_9, ∃ p, x_mok q p := List.forall_mem_cons.mpr ⟨⟨(883, 884, 885), x_mok_180⟩, List.forall_mem_cons.mpr ⟨⟨(556, 557, 558), x_mok_181⟩, List.forall_mem_cons.mpr ⟨⟨(887, 888, 889), x_mok_182⟩, List.forall_mem_cons.mpr ⟨⟨(560, 561, 562), x_mok_183⟩, List.forall_mem_cons.mpr ⟨⟨(891, 892, 893), x_mok_184⟩, List.forall_mem_cons.mpr ⟨⟨(603, 604, 605), x_mok_185⟩, List.forall_mem_cons.mpr ⟨⟨(923, 924, 925), x_mok_186⟩, fun _ h => absurd h List.not_mem_nil⟩⟩⟩⟩⟩⟩⟩
theorem x_mls_ok : ∀ q ∈ x_mls, ∃ p, x_mok q p := by
  rw [show x_mls = x_mls_0 ++ (x_mls_1 ++ (x_mls_2 ++ (x_mls_3 ++ (x_mls_4 ++ (x_mls_5 ++ (x_mls_6 ++ (x_mls_7 ++ (x_mls_8 ++ (x_mls_9))))))))) from rfl]
  exact List.forall_mem_append.mpr ⟨x_mls_ok_0, List.forall_mem_append.mpr ⟨x_mls_ok_1, List.forall_mem_append.mpr ⟨x_mls_ok_2, List.forall_mem_append.mpr ⟨x_mls_ok_3, List.forall_mem_append.mpr ⟨x_mls_ok_4, List.forall_mem_append.mpr ⟨x_mls_ok_5, List.forall_mem_append.mpr ⟨x_mls_ok_6, List.forall_mem_append.mpr ⟨x_mls_ok_7, List.forall_mem_append.mpr ⟨x_mls_ok_8, x_mls_ok_9⟩⟩⟩⟩⟩⟩⟩⟩⟩
def x_T (c : Nat) : u_T := match c with | 0 => TX0 | 1 => TX1 | 2 => TX2 | 3 => TX3 | 4 => TX4 | 5 => TX5 | _ => TX6
def x_ty (c : Nat) : Nat → FieldType := match c with | 0 => tyX0 | 1 => tyX1 | 2 => tyX2 | 3 => tyX3 | 4 => tyX4 | 5 => tyX5 | _ => tyX6
def x_fzs : List ((Nat × Nat × Nat × Nat) × Nat) := [((0, 9, 0, 2), 79), ((0, 15, 0, 4), 84), ((0, 19, 0, 5), 86), ((0, 22, 0, 6), 88), ((0, 25, 0, 7), 91), ((0, 28, 0, 0), 74), ((0, 31, 0, 1), 77), ((0, 34, 0, 3), 81), ((1, 11, 1, 0), 119), ((1, 18, 1, 1), 120), ((2, 11, 2, 0), 192), ((2, 16, 2, 1), 193), ((2, 20, 2, 2), 194), ((2, 23, 2, 3), 195), ((2, 42, 0, 3), 83), ((2, 62, 0, 0), 76), ((2, 65, 2, 5), 198), ((2, 69, 2, 4), 197), ((2, 75, 0, 6), 90), ((3, 9, 3, 0), 133), ((3, 15, 3, 1), 134), ((3, 19, 3, 5), 144), ((3, 26, 3, 2), 137), ((3, 33, 3, 3), 140), ((3, 47, 3, 4), 142), ((4, 12, 4, 0), 167), ((4, 22, 4, 1), 169), ((4, 26, 4, 2), 171), ((4, 29, 4, 3), 173), ((4, 32, 3, 1), 135), ((4, 41, 3, 5), 143), ((4, 48, 3, 2), 138), ((4, 51, 3, 3), 139), ((4, 54, 3, 4), 141), ((5, 10, 5, 0), 214), ((5, 19, 5, 1), 215), ((5, 26, 5, 2), 216), ((5, 33, 5, 3), 217), ((5, 40, 5, 4), 218), ((5, 57, 0, 0), 75), ((5, 61, 0, 1), 78), ((5, 64, 0, 2), 80), ((5, 76, 0, 3), 82), ((5, 93, 0, 6), 89), ((5, 107, 0, 4), 85), ((5, 110, 0, 5), 87), ((5, 151, 1, 1), 121), ((5, 154, 3, 1), 136), ((5, 181, 2, 3), 196), ((5, 185, 2, 5), 199), ((5, 232, 4, 3), 174), ((5, 236, 4, 2), 172), ((5, 239, 4, 0), 168), ((5, 243, 4, 1), 170), ((6, 7, 6, 0), 614), ((6, 13, 6, 1), 615), ((6, 16, 6, 3), 617), ((6, 19, 6, 4), 618), ((6, 23, 6, 11), 625), ((6, 27, 6, 14), 628), ((6, 30, 6, 15), 629), ((6, 33, 6, 17), 631), ((6, 36, 6, 12), 626), ((6, 40, 6, 13), 627), ((6, 51, 6, 2), 616), ((6, 54, 6, 18), 632), ((6, 58, 6, 19), 633), ((6, 91, 6, 16), 630), ((6, 144, 6, 5), 619), ((6, 176, 6, 6), 620), ((6, 182, 6, 7), 621), ((6, 189, 6, 8), 622), ((6, 192, 6, 9), 623), ((6, 204, 6, 10), 624)]
def x_fckB (z : (Nat × Nat × Nat × Nat) × Nat) : Bool := decide (lw_tbl[z.2]? = some (.fieldLink (x_cn z.1.1) z.1.2.1 (x_T z.1.2.2.1 z.1.2.2.2).1 (x_T z.1.2.2.1 z.1.2.2.2).2.1 (x_T z.1.2.2.1 z.1.2.2.2).2.2.1)) && decide (z.1.2.2.1 < 7) && decide (z.1.2.2.2 < x_fn z.1.2.2.1)
theorem x_fok : x_fzs.all x_fckB = true := by decide +kernel
theorem x_fzl : x_fls = x_fzs.map (fun z => z.1) := by decide +kernel
theorem x_cls : ∀ c, c < 7 → vwCl[c]? = some (x_cn c, x_T c, x_fn c) := by
  intro c hc
  rcases (show c = 0 ∨ c = 1 ∨ c = 2 ∨ c = 3 ∨ c = 4 ∨ c = 5 ∨ c = 6 by omega) with rfl | rfl | rfl | rfl | rfl | rfl | rfl <;> rfl
theorem x_lays : ∀ c, c < 7 → ∀ w ∈ u_ws (x_cn c) (x_T c) (x_fn c), w ∈ lw_tbl := by decide +kernel
theorem x_tys : ∀ c, c < 7 → ∀ k, k < x_fn c → parseFieldDescriptor (x_T c k).2.2.1 = some (x_ty c k) := by decide +kernel
theorem x_nms : ∀ c, c < 7 → ∀ a, a < x_fn c → ∀ b, b < x_fn c → a ≠ b → (x_T c a).2.1 ≠ (x_T c b).2.1 := by decide +kernel
/-- the kind that the table of fields tells is the kind of its type -/
theorem x_fks : ∀ c, c < 7 → ∀ k, k < x_fn c → ((x_fk c)[k]? = some ((match x_ty c k with | .int => 0 | .long => 1 | _ => 2), (x_T c k).2.2.2)) ∧ (x_ty c k = .int ∨ x_ty c k = .long ∨ (∃ t, x_ty c k = .array t) ∨ (∃ t, x_ty c k = .object t)) ∧ (x_T c k).1 = x_cn c := by
  intro c hc
  rcases (show c = 0 ∨ c = 1 ∨ c = 2 ∨ c = 3 ∨ c = 4 ∨ c = 5 ∨ c = 6 by omega) with rfl | rfl | rfl | rfl | rfl | rfl | rfl <;> intro k hk
  · rcases (show k = 0 ∨ k = 1 ∨ k = 2 ∨ k = 3 ∨ k = 4 ∨ k = 5 ∨ k = 6 ∨ k = 7 by exact (by have h : k < 8 := hk; omega)) with rfl | rfl | rfl | rfl | rfl | rfl | rfl | rfl
    · exact ⟨by decide +kernel, Or.inl rfl, by decide +kernel⟩
    · exact ⟨by decide +kernel, Or.inl rfl, by decide +kernel⟩
    · exact ⟨by decide +kernel, Or.inl rfl, by decide +kernel⟩
    · exact ⟨by decide +kernel, Or.inl rfl, by decide +kernel⟩
    · exact ⟨by decide +kernel, Or.inr (Or.inr (Or.inl ⟨_, rfl⟩)), by decide +kernel⟩
    · exact ⟨by decide +kernel, Or.inr (Or.inr (Or.inl ⟨_, rfl⟩)), by decide +kernel⟩
    · exact ⟨by decide +kernel, Or.inr (Or.inr (Or.inl ⟨_, rfl⟩)), by decide +kernel⟩
    · exact ⟨by decide +kernel, Or.inr (Or.inr (Or.inl ⟨_, rfl⟩)), by decide +kernel⟩
  · rcases (show k = 0 ∨ k = 1 by exact (by have h : k < 2 := hk; omega)) with rfl | rfl
    · exact ⟨by decide +kernel, Or.inr (Or.inr (Or.inl ⟨_, rfl⟩)), by decide +kernel⟩
    · exact ⟨by decide +kernel, Or.inl rfl, by decide +kernel⟩
  · rcases (show k = 0 ∨ k = 1 ∨ k = 2 ∨ k = 3 ∨ k = 4 ∨ k = 5 by exact (by have h : k < 6 := hk; omega)) with rfl | rfl | rfl | rfl | rfl | rfl
    · exact ⟨by decide +kernel, Or.inr (Or.inr (Or.inl ⟨_, rfl⟩)), by decide +kernel⟩
    · exact ⟨by decide +kernel, Or.inr (Or.inr (Or.inl ⟨_, rfl⟩)), by decide +kernel⟩
    · exact ⟨by decide +kernel, Or.inr (Or.inr (Or.inl ⟨_, rfl⟩)), by decide +kernel⟩
    · exact ⟨by decide +kernel, Or.inr (Or.inr (Or.inl ⟨_, rfl⟩)), by decide +kernel⟩
    · exact ⟨by decide +kernel, Or.inl rfl, by decide +kernel⟩
    · exact ⟨by decide +kernel, Or.inr (Or.inl rfl), by decide +kernel⟩
  · rcases (show k = 0 ∨ k = 1 ∨ k = 2 ∨ k = 3 ∨ k = 4 ∨ k = 5 by exact (by have h : k < 6 := hk; omega)) with rfl | rfl | rfl | rfl | rfl | rfl
    · exact ⟨by decide +kernel, Or.inr (Or.inr (Or.inl ⟨_, rfl⟩)), by decide +kernel⟩
    · exact ⟨by decide +kernel, Or.inl rfl, by decide +kernel⟩
    · exact ⟨by decide +kernel, Or.inl rfl, by decide +kernel⟩
    · exact ⟨by decide +kernel, Or.inl rfl, by decide +kernel⟩
    · exact ⟨by decide +kernel, Or.inl rfl, by decide +kernel⟩
    · exact ⟨by decide +kernel, Or.inl rfl, by decide +kernel⟩
  · rcases (show k = 0 ∨ k = 1 ∨ k = 2 ∨ k = 3 by exact (by have h : k < 4 := hk; omega)) with rfl | rfl | rfl | rfl
    · exact ⟨by decide +kernel, Or.inr (Or.inr (Or.inr ⟨_, rfl⟩)), by decide +kernel⟩
    · exact ⟨by decide +kernel, Or.inl rfl, by decide +kernel⟩
    · exact ⟨by decide +kernel, Or.inl rfl, by decide +kernel⟩
    · exact ⟨by decide +kernel, Or.inl rfl, by decide +kernel⟩
  · rcases (show k = 0 ∨ k = 1 ∨ k = 2 ∨ k = 3 ∨ k = 4 by exact (by have h : k < 5 := hk; omega)) with rfl | rfl | rfl | rfl | rfl
    · exact ⟨by decide +kernel, Or.inr (Or.inr (Or.inr ⟨_, rfl⟩)), by decide +kernel⟩
    · exact ⟨by decide +kernel, Or.inr (Or.inr (Or.inr ⟨_, rfl⟩)), by decide +kernel⟩
    · exact ⟨by decide +kernel, Or.inr (Or.inr (Or.inr ⟨_, rfl⟩)), by decide +kernel⟩
    · exact ⟨by decide +kernel, Or.inr (Or.inr (Or.inr ⟨_, rfl⟩)), by decide +kernel⟩
    · exact ⟨by decide +kernel, Or.inr (Or.inr (Or.inr ⟨_, rfl⟩)), by decide +kernel⟩
  · rcases (show k = 0 ∨ k = 1 ∨ k = 2 ∨ k = 3 ∨ k = 4 ∨ k = 5 ∨ k = 6 ∨ k = 7 ∨ k = 8 ∨ k = 9 ∨ k = 10 ∨ k = 11 ∨ k = 12 ∨ k = 13 ∨ k = 14 ∨ k = 15 ∨ k = 16 ∨ k = 17 ∨ k = 18 ∨ k = 19 by exact (by have h : k < 20 := hk; omega)) with rfl | rfl | rfl | rfl | rfl | rfl | rfl | rfl | rfl | rfl | rfl | rfl | rfl | rfl | rfl | rfl | rfl | rfl | rfl | rfl
    · exact ⟨by decide +kernel, Or.inr (Or.inr (Or.inl ⟨_, rfl⟩)), by decide +kernel⟩
    · exact ⟨by decide +kernel, Or.inr (Or.inr (Or.inl ⟨_, rfl⟩)), by decide +kernel⟩
    · exact ⟨by decide +kernel, Or.inl rfl, by decide +kernel⟩
    · exact ⟨by decide +kernel, Or.inr (Or.inr (Or.inl ⟨_, rfl⟩)), by decide +kernel⟩
    · exact ⟨by decide +kernel, Or.inr (Or.inr (Or.inl ⟨_, rfl⟩)), by decide +kernel⟩
    · exact ⟨by decide +kernel, Or.inl rfl, by decide +kernel⟩
    · exact ⟨by decide +kernel, Or.inl rfl, by decide +kernel⟩
    · exact ⟨by decide +kernel, Or.inl rfl, by decide +kernel⟩
    · exact ⟨by decide +kernel, Or.inl rfl, by decide +kernel⟩
    · exact ⟨by decide +kernel, Or.inl rfl, by decide +kernel⟩
    · exact ⟨by decide +kernel, Or.inl rfl, by decide +kernel⟩
    · exact ⟨by decide +kernel, Or.inr (Or.inr (Or.inl ⟨_, rfl⟩)), by decide +kernel⟩
    · exact ⟨by decide +kernel, Or.inl rfl, by decide +kernel⟩
    · exact ⟨by decide +kernel, Or.inl rfl, by decide +kernel⟩
    · exact ⟨by decide +kernel, Or.inr (Or.inr (Or.inl ⟨_, rfl⟩)), by decide +kernel⟩
    · exact ⟨by decide +kernel, Or.inr (Or.inr (Or.inl ⟨_, rfl⟩)), by decide +kernel⟩
    · exact ⟨by decide +kernel, Or.inr (Or.inl rfl), by decide +kernel⟩
    · exact ⟨by decide +kernel, Or.inr (Or.inr (Or.inl ⟨_, rfl⟩)), by decide +kernel⟩
    · exact ⟨by decide +kernel, Or.inr (Or.inl rfl), by decide +kernel⟩
    · exact ⟨by decide +kernel, Or.inr (Or.inl rfl), by decide +kernel⟩

def x_nzs : List ((Nat × Nat × Nat × Nat) × (Nat × Nat × Nat)) := [((8, 7, 5, 0), (60, 61, 51)), ((5, 7, 0, 0), (68, 69, 52)), ((5, 16, 1, 0), (110, 111, 53)), ((1, 9, 0, 0), (116, 69, 52)), ((5, 23, 3, 0), (127, 128, 54)), ((5, 30, 4, 0), (159, 160, 55)), ((4, 9, 0, 0), (165, 69, 52)), ((5, 37, 2, 0), (184, 185, 56)), ((8, 10, 6, 0), (608, 609, 57))]
def x_nckB (z : (Nat × Nat × Nat × Nat) × (Nat × Nat × Nat)) : Bool := decide (lw_tbl[z.2.1]? = some (.classLink (x_cn z.1.1) z.1.2.1 (x_cn z.1.2.2.1))) && decide (lw_tbl[z.2.2.1]? = some (.instantiable (x_cn z.1.2.2.1) (x_fn z.1.2.2.1))) && decide (lw_tbl[z.2.2.2]? = some (.initialized (x_cn z.1.2.2.1))) && decide (z.1.2.2.1 < 7)
theorem x_nok : x_nzs.all x_nckB = true := by decide +kernel
theorem x_nzl : x_nls = x_nzs.map (fun z => z.1) := by decide +kernel
theorem x_mnaok : lw_tbl[190]? = some (.classLink (x_cn 2) 9 "[[J") ∧ lw_tbl[191]? = some (.arrayOver (.array .long)) ∧ lw_tbl[213]? = some (.arrayClass .long) ∧ lw_tbl[109]? = some (.arrayClass .int) ∧ lw_tbl[158]? = some (.arrayClass .char) ∧ lw_tbl[117]? = some (.arrayOver (.object "WeighingDesign$Design")) := by decide +kernel
def x_czs : List ((Nat × Nat × Value) × Nat) := [((5, 247, .int (-100000)), 240), ((5, 246, .int (100000)), 241), ((5, 48, .int (-2000000001)), 242), ((5, 75, .int (-2000000002)), 274), ((5, 79, .int (-2000000003)), 275), ((5, 235, .int (-2000000004)), 325), ((7, 265, .int (1431655765)), 378), ((7, 266, .int (858993459)), 379), ((7, 267, .int (252645135)), 380), ((5, 170, .long (-2000000001)), 459), ((5, 175, .long (-2000000002)), 468), ((5, 197, .long (-2000000004)), 505), ((2, 83, .long (-1)), 515), ((5, 216, .long (2)), 538), ((6, 98, .int (-100000)), 682), ((6, 99, .int (100000)), 683), ((6, 100, .int (-2000000001)), 684), ((6, 110, .int (-2000000002)), 700), ((6, 111, .int (-2000000003)), 701), ((6, 125, .int (-2000000004)), 738), ((6, 153, .long (-2000000001)), 830), ((6, 155, .long (-2000000002)), 831), ((6, 164, .long (-2000000004)), 860), ((6, 169, .long (-1)), 865), ((6, 174, .long (2)), 878)]
def x_cckB (z : (Nat × Nat × Value) × Nat) : Bool := match z.1.2.2 with | .int v => decide (lw_tbl[z.2]? = some (.constant (x_cn z.1.1) z.1.2.1 v)) | .long v => decide (lw_tbl[z.2]? = some (.constantLong (x_cn z.1.1) z.1.2.1 v)) | _ => false
theorem x_cok : x_czs.all x_cckB = true := by decide +kernel
theorem x_czl : x_css = x_czs.map (fun z => z.1) := by decide +kernel
theorem m_ini_math : lw_tbl[59]? = some (Cond.initialized "java/lang/Math") := by decide +kernel
def x_gw : List Cond := lw_tbl.filter goodWord
end
section
/-! A SMALL MACHINE of this claim's own: one method's run over cells that are numbered, with references by number. 'xs' is one step, 'RunP' a run, 'Wp' a run to an end with Q. Part 04 ties it to the machine of the claim. -/
abbrev xC : Type := (Nat × vp_A) ⊕ (Nat × List Value)
/-- how many cells, the cells, the script (length and contents) -/
abbrev xW : Type := Nat × (Nat → xC) × (Nat × (Nat → Int32))
abbrev xK : Type := Nat × List Value × List Value × xW
abbrev xR : Type := Option (xK ⊕ (Option Value ⊕ (Nat × List Value × List Value)))
/-- the number that stands for the script -/
def x_scr : Nat := 1000000
/-- no value -/
abbrev x_no : Value := .retAddr 0
def rd (w : xW) (a : Nat) : xC := w.2.1 a
def wr (w : xW) (a : Nat) (c : xC) : xW := (w.1, fun j => if j = a then c else w.2.1 j, w.2.2)
def x_new (w : xW) (c : xC) : xW := (w.1 + 1, fun j => if j = w.1 then c else w.2.1 j, w.2.2)
def x_wfv (n : Nat) (v : Value) : Bool := match v with
  | .ref k => decide (k < n) || k == x_scr
  | _ => true
def x_wfc (n : Nat) (c : xC) : Bool := match c with
  | .inl (_, len, .inr (.inr (.inr (.inr f)))) => (List.range len).all (fun j => match f j with | none => true | some k => decide (k < n))
  | .inl _ => true
  | .inr (_, fs) => fs.all (x_wfv n)
/-- all references lead to cells -/
def x_wf (w : xW) (ls st : List Value) : Bool := (List.range w.1).all (fun k => x_wfc w.1 (w.2.1 k)) && ls.all (x_wfv w.1) && st.all (x_wfv w.1) && decide (w.1 < 1000)
def x_go (pc : Nat) (ls st : List Value) (w : xW) : xR := some (.inl (pc, ls, st, w))
def x_jmp (pc : Nat) (off : Int) : Option Nat := if 0 ≤ (pc : Int) + off then some ((pc : Int) + off).toNat else none
def x_jgo (pc : Nat) (off : Int) (ls st : List Value) (w : xW) : xR := match x_jmp pc off with
  | some t => x_go t ls st w
  | none => none
def x_br (c : Bool) (pc : Nat) (off : Int) (ls st : List Value) (w : xW) : xR := match x_jmp pc off with
  | some t => some (.inl (bif c then t else pc + 3, ls, st, w))
  | none => none
def x_cd (c : Jvm.ClassFile.Cond) (x y : Int32) : Bool := match c with
  | .eq => decide (x = y)
  | .ne => decide (¬ x = y)
  | .lt => decide (x < y)
  | .ge => decide (y ≤ x)
  | .gt => decide (y < x)
  | .le => decide (x ≤ y)
def x_ii (f : Int32 → Int32 → Int32) (pc : Nat) (ls st : List Value) (w : xW) : xR := match st with
  | .int y :: .int x :: r => x_go (pc + 1) ls (.int (f x y) :: r) w
  | _ => none
def x_ll (f : Int64 → Int64 → Int64) (pc : Nat) (ls st : List Value) (w : xW) : xR := match st with
  | .long y :: .long x :: r => x_go (pc + 1) ls (.long (f x y) :: r) w
  | _ => none
/-- the place ahead holds no long whose second half would be hurt -/
def x_ok (ls : List Value) (k : Nat) : Bool := match k with
  | 0 => true
  | j + 1 => match ls[j]? with
    | some v => decide (v.category = 1)
    | none => true
def x_iload (k pc : Nat) (ls st : List Value) (w : xW) : xR := match ls[k]? with
  | some (.int x) => x_go pc ls (.int x :: st) w
  | _ => none
def x_lload (k pc : Nat) (ls st : List Value) (w : xW) : xR := match ls[k]? with
  | some (.long x) => x_go pc ls (.long x :: st) w
  | _ => none
def x_aload (k pc : Nat) (ls st : List Value) (w : xW) : xR := match ls[k]? with
  | some (.ref x) => x_go pc ls (.ref x :: st) w
  | _ => none
def x_istore (k pc : Nat) (ls st : List Value) (w : xW) : xR := match st with
  | .int x :: r => if k < ls.length ∧ x_ok ls k = true then x_go pc (ls.set k (.int x)) r w else none
  | _ => none
def x_lstore (k pc : Nat) (ls st : List Value) (w : xW) : xR := match st with
  | .long x :: r => if k + 1 < ls.length ∧ x_ok ls k = true then x_go pc ((ls.set k (.long x)).set (k + 1) x_no) r w else none
  | _ => none
def x_astore (k pc : Nat) (ls st : List Value) (w : xW) : xR := match st with
  | .ref x :: r => if k < ls.length ∧ x_ok ls k = true then x_go pc (ls.set k (.ref x)) r w else none
  | _ => none
def x_iinc (k : Nat) (n : Int) (pc : Nat) (ls st : List Value) (w : xW) : xR := match ls[k]? with
  | some (.int x) => if x_ok ls k = true then x_go pc (ls.set k (.int (x + Int32.ofInt n))) st w else none
  | _ => none
def x_getf (ci k pc : Nat) (ls st : List Value) (w : xW) : xR := match st with
  | .ref a :: r => match rd w a with
    | .inr (c, fs) => if c = ci then (match fs[k]? with
      | some v => x_go (pc + 3) ls (v :: r) w
      | none => none) else none
    | _ => none
  | _ => none
def x_kok (kd : Nat) (v : Value) : Bool := match kd, v with
  | 0, .int _ => true
  | 1, .long _ => true
  | 2, .ref _ => true
  | _, _ => false
def x_putf (y ci k pc : Nat) (ls st : List Value) (w : xW) : xR := match st with
  | v :: .ref a :: r => match rd w a with
    | .inr (c, fs) => if c = ci ∧ k < fs.length then (match (x_fk ci)[k]? with
      | some (kd, fin) => if x_kok kd v = true ∧ (fin = true → m_in y = true ∧ m_cl y = ci) then x_go (pc + 3) ls r (wr w a (.inr (ci, fs.set k v))) else none
      | none => none) else none
    | _ => none
  | _ => none
abbrev x_in (i : Int32) (n : Nat) : Prop := ¬ i < 0 ∧ i.toNatClampNeg < n
def x_iald (y pc : Nat) (ls st : List Value) (w : xW) : xR := match st with
  | .int i :: .ref a :: r => if y = m_law then (if a = x_scr ∧ x_in i w.2.2.1 then x_go (pc + 1) ls (.int (w.2.2.2 i.toNatClampNeg) :: r) w else none) else (match rd w a with
    | .inl (t, n, .inl f) => if t = 0 ∧ x_in i n then x_go (pc + 1) ls (.int (f i.toNatClampNeg) :: r) w else none
    | _ => none)
  | _ => none
def x_cald (pc : Nat) (ls st : List Value) (w : xW) : xR := match st with
  | .int i :: .ref a :: r => match rd w a with
    | .inl (t, n, .inl f) => if t = 2 ∧ x_in i n then x_go (pc + 1) ls (.int (f i.toNatClampNeg) :: r) w else none
    | _ => none
  | _ => none
def x_lald (pc : Nat) (ls st : List Value) (w : xW) : xR := match st with
  | .int i :: .ref a :: r => match rd w a with
    | .inl (t, n, .inr (.inl f)) => if t = 1 ∧ x_in i n then x_go (pc + 1) ls (.long (f i.toNatClampNeg) :: r) w else none
    | _ => none
  | _ => none
def x_aald (pc : Nat) (ls st : List Value) (w : xW) : xR := match st with
  | .int i :: .ref a :: r => match rd w a with
    | .inl (t, n, .inr (.inr (.inr (.inr f)))) => if (t = 3 ∨ t = 4) ∧ x_in i n then (match f i.toNatClampNeg with
      | some q => x_go (pc + 1) ls (.ref q :: r) w
      | none => none) else none
    | _ => none
  | _ => none
def x_iast (pc : Nat) (ls st : List Value) (w : xW) : xR := match st with
  | .int x :: .int i :: .ref a :: r => match rd w a with
    | .inl (t, n, .inl f) => if t = 0 ∧ x_in i n then x_go (pc + 1) ls r (wr w a (.inl (0, n, .inl (upd f i.toNatClampNeg x)))) else none
    | _ => none
  | _ => none
def x_cast (pc : Nat) (ls st : List Value) (w : xW) : xR := match st with
  | .int x :: .int i :: .ref a :: r => match rd w a with
    | .inl (t, n, .inl f) => if t = 2 ∧ x_in i n then x_go (pc + 1) ls r (wr w a (.inl (2, n, .inl (upd f i.toNatClampNeg (vp_nar .char x))))) else none
    | _ => none
  | _ => none
def x_last (pc : Nat) (ls st : List Value) (w : xW) : xR := match st with
  | .long x :: .int i :: .ref a :: r => match rd w a with
    | .inl (t, n, .inr (.inl f)) => if t = 1 ∧ x_in i n then x_go (pc + 1) ls r (wr w a (.inl (1, n, .inr (.inl (vp_updL f i.toNatClampNeg x))))) else none
    | _ => none
  | _ => none
def x_aast (pc : Nat) (ls st : List Value) (w : xW) : xR := match st with
  | .ref x :: .int i :: .ref a :: r => match rd w a with
    | .inl (t, n, .inr (.inr (.inr (.inr f)))) => if t = 3 ∧ x_in i n then (match rd w x with
      | .inr (0, _) => x_go (pc + 1) ls r (wr w a (.inl (3, n, .inr (.inr (.inr (.inr (va_up f i.toNatClampNeg (some x))))))))
      | _ => none) else none
    | _ => none
  | _ => none
/-- the script's length, in the law alone -/
def x_alen (y pc : Nat) (ls st : List Value) (w : xW) : xR := match st with
  | .ref a :: r => if y = m_law ∧ a = x_scr then x_go (pc + 1) ls (.int (Int32.ofNat w.2.2.1) :: r) w else none
  | _ => none
def x_nobj (y b idx pc : Nat) (ls st : List Value) (w : xW) : xR := match x_nl (m_cl y) idx with
  | some (ci, _) => if w.1 - b + 1 ≤ m_mc y ∧ x_wf w ls st = true then x_go (pc + 3) ls (.ref w.1 :: st) (x_new w (.inr (ci, x_df ci))) else none
  | none => none
def x_narr (y b : Nat) (t : Jvm.ClassFile.ArrayType) (pc : Nat) (ls st : List Value) (w : xW) : xR := match st with
  | .int n :: r => if w.1 - b + 1 ≤ m_mc y ∧ x_wf w ls r = true ∧ ¬ n < 0 ∧ n.toNatClampNeg ≤ 600 then (match t with
    | .int => x_go (pc + 2) ls (.ref w.1 :: r) (x_new w (.inl (0, n.toNatClampNeg, .inl (fun _ => 0))))
    | .char => x_go (pc + 2) ls (.ref w.1 :: r) (x_new w (.inl (2, n.toNatClampNeg, .inl (fun _ => 0))))
    | .long => x_go (pc + 2) ls (.ref w.1 :: r) (x_new w (.inl (1, n.toNatClampNeg, .inr (.inl (fun _ => 0)))))
    | _ => none) else none
  | _ => none
def x_nref (y b idx pc : Nat) (ls st : List Value) (w : xW) : xR := match st with
  | .int n :: r => if w.1 - b + 1 ≤ m_mc y ∧ x_wf w ls r = true ∧ ¬ n < 0 ∧ n.toNatClampNeg ≤ 600 ∧ x_nl (m_cl y) idx = some (0, 0) then x_go (pc + 3) ls (.ref w.1 :: r) (x_new w (.inl (3, n.toNatClampNeg, .inr (.inr (.inr (.inr (fun _ => none))))))) else none
  | _ => none
/-- k new rows of m longs -/
def x_rows (w : xW) (m : Nat) : Nat → xW
  | 0 => w
  | k + 1 => x_new (x_rows w m k) (.inl (1, m, .inr (.inl (fun _ => 0))))
def x_ngrid (y b idx : Nat) (pc : Nat) (ls st : List Value) (w : xW) : xR := match st with
  | .int k :: .int n :: r => if w.1 - b + (1 + n.toNatClampNeg) ≤ m_mc y ∧ x_wf w ls r = true ∧ ¬ n < 0 ∧ n.toNatClampNeg ≤ 20 ∧ ¬ k < 0 ∧ k.toNatClampNeg ≤ 20 ∧ x_mna (m_cl y) idx = true then x_go (pc + 4) ls (.ref w.1 :: r) (x_rows (x_new w (.inl (4, n.toNatClampNeg, .inr (.inr (.inr (.inr (fun i => if i < n.toNatClampNeg then some (w.1 + 1 + i) else none))))))) k.toNatClampNeg n.toNatClampNeg) else none
  | _ => none
def xlen_args (as : List Value) : Nat := (as.map Value.category).sum
def x_call (y b t : Nat) (as r ls : List Value) (w : xW) : xR := if m_dp t < m_dp y ∧ t < m_law ∧ as.length ≤ 9 ∧ (r.map Value.category).sum ≤ 8 ∧ (xlen_args as ≤ m_ml t) ∧ (m_mc t = 0 ∨ (w.1 - b + m_mc t ≤ m_mc y ∧ x_wf w ls r = true ∧ as.all (x_wfv w.1) = true)) then some (.inr (.inr (t, as, r))) else none
def x_invV (y b idx : Nat) (pc : Nat) (ls st : List Value) (w : xW) : xR := match x_ml (m_cl y) idx with
  | some (0, t) => match st.drop (m_np t) with
    | .ref a :: r => (match rd w a with
      | .inr (c, _) => if c = m_cl t ∧ m_cl t < 7 ∧ (st.take (m_np t)).length = m_np t then x_call y b t (.ref a :: (st.take (m_np t)).reverse) r ls w else none
      | _ => none)
    | _ => none
  | _ => none
def x_invS (y b idx : Nat) (pc : Nat) (ls st : List Value) (w : xW) : xR := match x_ml (m_cl y) idx with
  | some (1, t) => if (st.take (m_np t)).length = m_np t then x_call y b t (st.take (m_np t)).reverse (st.drop (m_np t)) ls w else none
  | some (6, t) => if (st.take (m_np t)).length = m_np t then x_call y b t (st.take (m_np t)).reverse (st.drop (m_np t)) ls w else none
  | some (4, _) => match st with
    | .long x :: r => if (r.map Value.category).sum ≤ 8 ∧ 1 ≤ m_dp y then x_go (pc + 3) ls (.long (if 0 < x then x else -x) :: r) w else none
    | _ => none
  | some (5, _) => match st with
    | .long z :: .long x :: r => if (r.map Value.category).sum ≤ 8 ∧ 1 ≤ m_dp y then x_go (pc + 3) ls (.long (if z < x then x else z) :: r) w else none
    | _ => none
  | _ => none
def x_invI (y b idx : Nat) (pc : Nat) (ls st : List Value) (w : xW) : xR := match x_ml (m_cl y) idx with
  | some (2, t) => match st.drop (m_np t) with
    | .ref a :: r => if (st.take (m_np t)).length = m_np t then x_call y b t (.ref a :: (st.take (m_np t)).reverse) r ls w else none
    | _ => none
  | some (3, _) => match st with
    | .ref a :: r => if (r.map Value.category).sum ≤ 8 ∧ 1 ≤ m_dp y then x_go (pc + 3) ls r w else none
    | _ => none
  | _ => none
def x_ret (y b : Nat) (r : Option Value) (w : xW) : xR := if m_mc y = 0 ∨ y = m_law ∨ w.1 = b + m_mc y then some (.inr (.inl r)) else none
def x_iret (y b : Nat) (st : List Value) (w : xW) : xR := match st with
  | [.int v] => match m_rt y with
    | some .int => x_ret y b (some (.int v)) w
    | some .boolean => if v = 0 ∨ v = 1 then x_ret y b (some (.int v)) w else none
    | some .char => if vp_nar .char v = v then x_ret y b (some (.int v)) w else none
    | _ => none
  | _ => none
def x_lret (y b : Nat) (st : List Value) (w : xW) : xR := match st with
  | [.long v] => match m_rt y with
    | some .long => x_ret y b (some (.long v)) w
    | _ => none
  | _ => none
def x_vret (y b : Nat) (st : List Value) (w : xW) : xR := match st with
  | [] => match m_rt y with
    | none => x_ret y b none w
    | _ => none
  | _ => none
/-- where a tableswitch goes -/
def x_sw (pc : Nat) (d lo hi : Int) (offs : Array Int) (x : Int32) : Option Nat := if x.toInt < lo ∨ hi < x.toInt then x_jmp pc d else match offs[(x.toInt - lo).toNat]? with
  | some o => x_jmp pc o
  | none => none
def xlen (i : Instr) : Nat := match i with
  | .bipush _ | .iload _ | .istore _ | .lload _ | .lstore _ | .ldc _ | .newarray _ => 2
  | .sipush _ | .iinc _ _ | .ifCond _ _ | .if_icmp _ _ | .goto _ | .ldc_w _ | .ldc2_w _ | .getfield _ | .putfield _ | .invokevirtual _ | .invokestatic _ | .invokespecial _ | .new _ | .anewarray _ => 3
  | .multianewarray _ _ => 4
  | _ => 1
/-- one step -/
def xs (y b pc : Nat) (i : Instr) (ls st : List Value) (w : xW) : xR := match i with
  | .iconst n => x_go (pc + 1) ls (.int (Int32.ofInt n) :: st) w
  | .bipush n => x_go (pc + 2) ls (.int (Int8.ofInt n).toInt32 :: st) w
  | .sipush n => x_go (pc + 3) ls (.int (Int16.ofInt n).toInt32 :: st) w
  | .lconst n => x_go (pc + 1) ls (.long (Int64.ofNat n.val) :: st) w
  | .iload_n k => x_iload k.val (pc + 1) ls st w
  | .iload k => x_iload k (pc + 2) ls st w
  | .lload_n k => x_lload k.val (pc + 1) ls st w
  | .lload k => x_lload k (pc + 2) ls st w
  | .aload_n k => x_aload k.val (pc + 1) ls st w
  | .istore_n k => x_istore k.val (pc + 1) ls st w
  | .istore k => x_istore k (pc + 2) ls st w
  | .lstore_n k => x_lstore k.val (pc + 1) ls st w
  | .lstore k => x_lstore k (pc + 2) ls st w
  | .astore_n k => x_astore k.val (pc + 1) ls st w
  | .iinc k n => x_iinc k n (pc + 3) ls st w
  | .iadd => x_ii (fun x z => x + z) pc ls st w
  | .isub => x_ii (fun x z => x - z) pc ls st w
  | .imul => x_ii (fun x z => x * z) pc ls st w
  | .iand => x_ii (fun x z => x &&& z) pc ls st w
  | .ior => x_ii (fun x z => x ||| z) pc ls st w
  | .ixor => x_ii (fun x z => x ^^^ z) pc ls st w
  | .ishl => x_ii (fun x z => x <<< (z &&& 31)) pc ls st w
  | .ishr => x_ii (fun x z => x >>> (z &&& 31)) pc ls st w
  | .iushr => x_ii (fun x z => (x.toUInt32 >>> (z.toUInt32 &&& Int32.toUInt32 31)).toInt32) pc ls st w
  | .idiv => match st with
    | .int z :: .int x :: r => if z = 0 then none else x_go (pc + 1) ls (.int (x / z) :: r) w
    | _ => none
  | .irem => match st with
    | .int z :: .int x :: r => if z = 0 then none else x_go (pc + 1) ls (.int (x - x / z * z) :: r) w
    | _ => none
  | .ineg => match st with
    | .int x :: r => x_go (pc + 1) ls (.int (-x) :: r) w
    | _ => none
  | .ladd => x_ll (fun x z => x + z) pc ls st w
  | .lsub => x_ll (fun x z => x - z) pc ls st w
  | .lmul => x_ll (fun x z => x * z) pc ls st w
  | .ldiv => match st with
    | .long z :: .long x :: r => if z = 0 then none else x_go (pc + 1) ls (.long (x / z) :: r) w
    | _ => none
  | .lrem => match st with
    | .long z :: .long x :: r => if z = 0 then none else x_go (pc + 1) ls (.long (x - x / z * z) :: r) w
    | _ => none
  | .lneg => match st with
    | .long x :: r => x_go (pc + 1) ls (.long (-x) :: r) w
    | _ => none
  | .lcmp => match st with
    | .long z :: .long x :: r => x_go (pc + 1) ls (.int (lg_cmp x z) :: r) w
    | _ => none
  | .i2l => match st with
    | .int x :: r => x_go (pc + 1) ls (.long x.toInt64 :: r) w
    | _ => none
  | .i2c => match st with
    | .int x :: r => x_go (pc + 1) ls (.int (x.toUInt32 % 65536).toInt32 :: r) w
    | _ => none
  | .dup => match st with
    | v :: r => if v.category = 1 then x_go (pc + 1) ls (v :: v :: r) w else none
    | _ => none
  | .dup2 => match st with
    | u :: v :: r => if u.category = 1 ∧ v.category = 1 then x_go (pc + 1) ls (u :: v :: u :: v :: r) w else none
    | _ => none
  | .pop => match st with
    | v :: r => if v.category = 1 then x_go (pc + 1) ls r w else none
    | _ => none
  | .ifCond c o => match st with
    | .int x :: r => x_br (x_cd c x 0) pc o ls r w
    | _ => none
  | .if_icmp c o => match st with
    | .int z :: .int x :: r => x_br (x_cd c x z) pc o ls r w
    | _ => none
  | .goto o => x_jgo pc o ls st w
  | .tableswitch d lo hi offs => match st with
    | .int x :: r => (match x_sw pc d lo hi offs x with
      | some t => x_go t ls r w
      | none => none)
    | _ => none
  | .ldc k => match x_cs (m_cl y) k with
    | some (.int v) => x_go (pc + 2) ls (.int v :: st) w
    | _ => none
  | .ldc_w k => match x_cs (m_cl y) k with
    | some (.int v) => x_go (pc + 3) ls (.int v :: st) w
    | _ => none
  | .ldc2_w k => match x_cs (m_cl y) k with
    | some (.long v) => x_go (pc + 3) ls (.long v :: st) w
    | _ => none
  | .getfield k => match x_fl (m_cl y) k with
    | some (ci, f) => x_getf ci f pc ls st w
    | none => none
  | .putfield k => match x_fl (m_cl y) k with
    | some (ci, f) => x_putf y ci f pc ls st w
    | none => none
  | .iaload => x_iald y pc ls st w
  | .caload => x_cald pc ls st w
  | .laload => x_lald pc ls st w
  | .aaload => x_aald pc ls st w
  | .iastore => x_iast pc ls st w
  | .castore => x_cast pc ls st w
  | .lastore => x_last pc ls st w
  | .aastore => x_aast pc ls st w
  | .arraylength => x_alen y pc ls st w
  | .new k => x_nobj y b k pc ls st w
  | .newarray t => x_narr y b t pc ls st w
  | .anewarray k => x_nref y b k pc ls st w
  | .multianewarray k n => if n = 2 then x_ngrid y b k pc ls st w else none
  | .invokevirtual k => x_invV y b k pc ls st w
  | .invokestatic k => x_invS y b k pc ls st w
  | .invokespecial k => x_invI y b k pc ls st w
  | .ireturn => x_iret y b st w
  | .lreturn => x_lret y b st w
  | .return_ => x_vret y b st w
  | _ => none
def rl (r : Option Value) (st : List Value) : List Value := match r with
  | some v => v :: st
  | none => st
/-- a method's first locals -/
def x_args : List Value → List Value
  | [] => []
  | v :: vs => match v with
    | .long x => .long x :: x_no :: x_args vs
    | .double _ => x_no :: x_no :: x_args vs
    | v => v :: x_args vs
def x_ent (as : List Value) (n : Nat) : List Value := x_args as ++ List.replicate (n - (x_args as).length) x_no
/-- a switch: its length is its own -/
def x_isw (i : Instr) : Prop := match i with
  | .tableswitch _ _ _ _ => True
  | _ => False
def RunP : Nat → Nat → Nat → Nat → List Value → List Value → xW → Option Value → xW → Prop
  | 0, _, _, _, _, _, _, _, _ => False
  | n + 1, y, b, pc, ls, st, w, o, w2 => ∃ i len, decode (m_bc y) pc = .ok (i, len) ∧ (len = xlen i ∨ x_isw i) ∧ match xs y b pc i ls st w with
    | none => False
    | some (.inl (pc1, ls1, st1, w1)) => RunP n y b pc1 ls1 st1 w1 o w2
    | some (.inr (.inl r)) => o = r ∧ w2 = w
    | some (.inr (.inr (t, as, r))) => ∃ o1 w1, RunP n t w.1 0 (x_ent as (m_ml t)) [] w o1 w1 ∧ RunP n y b (pc + 3) ls (rl o1 r) w1 o w2
theorem RunP.up : ∀ (n : Nat) {y b pc : Nat} {ls st : List Value} {w w2 : xW} {o : Option Value}, RunP n y b pc ls st w o w2 → RunP (n + 1) y b pc ls st w o w2
  | 0, _, _, _, _, _, _, _, _, h => h.elim
  | n + 1, y, b, pc, ls, st, w, w2, o, h => by
    obtain ⟨i, len, hd, hl, hs⟩ := h
    refine ⟨i, len, hd, hl, ?_⟩
    cases hx : xs y b pc i ls st w with
    | none => rw [hx] at hs; exact hs.elim
    | some z =>
      rw [hx] at hs
      rcases z with ⟨pc1, ls1, st1, w1⟩ | r | ⟨t, as, r⟩
      · exact RunP.up n hs
      · exact hs
      · obtain ⟨o1, w1, h1, h2⟩ := hs
        exact ⟨o1, w1, RunP.up n h1, RunP.up n h2⟩
theorem RunP.le {n k y b pc : Nat} {ls st : List Value} {w w2 : xW} {o : Option Value} (h : RunP n y b pc ls st w o w2) (hk : n ≤ k) : RunP k y b pc ls st w o w2 := by
  induction k with
  | zero =>
    have : n = 0 := by omega
    subst this
    exact h
  | succ k ih =>
    by_cases e : n = k + 1
    · subst e; exact h
    · exact RunP.up k (ih (by omega))
/-- the run from here comes to an end with Q -/
def Wp (y b pc : Nat) (ls st : List Value) (w : xW) (Q : Option Value → xW → Prop) : Prop := ∃ n o w2, RunP n y b pc ls st w o w2 ∧ Q o w2
theorem Wp_go {y b pc pc1 : Nat} {i : Instr} {ls st ls1 st1 : List Value} {w w1 : xW} {Q : Option Value → xW → Prop} (hd : decode (m_bc y) pc = .ok (i, xlen i)) (hs : xs y b pc i ls st w = some (.inl (pc1, ls1, st1, w1))) : Wp y b pc ls st w Q ↔ Wp y b pc1 ls1 st1 w1 Q := by
  constructor
  · rintro ⟨n, o, w2, h, q⟩
    cases n with
    | zero => exact h.elim
    | succ n =>
      obtain ⟨i', len, hd', -, h⟩ := h
      rw [hd] at hd'
      cases hd'
      rw [hs] at h
      exact ⟨n, o, w2, h, q⟩
  · rintro ⟨n, o, w2, h, q⟩
    exact ⟨n + 1, o, w2, ⟨i, _, hd, Or.inl rfl, by rw [hs]; exact h⟩, q⟩
theorem Wp_none {y b pc : Nat} {i : Instr} {ls st : List Value} {w : xW} {Q : Option Value → xW → Prop} (hd : decode (m_bc y) pc = .ok (i, xlen i)) (hs : xs y b pc i ls st w = none) : Wp y b pc ls st w Q ↔ False := by
  constructor
  · rintro ⟨n, o, w2, h, q⟩
    cases n with
    | zero => exact h.elim
    | succ n =>
      obtain ⟨i', len, hd', -, h⟩ := h
      rw [hd] at hd'
      cases hd'
      rw [hs] at h
      exact h
  · exact fun h => h.elim
theorem Wp_ret {y b pc : Nat} {i : Instr} {ls st : List Value} {w : xW} {r : Option Value} {Q : Option Value → xW → Prop} (hd : decode (m_bc y) pc = .ok (i, xlen i)) (hs : xs y b pc i ls st w = some (.inr (.inl r))) : Wp y b pc ls st w Q ↔ Q r w := by
  constructor
  · rintro ⟨n, o, w2, h, q⟩
    cases n with
    | zero => exact h.elim
    | succ n =>
      obtain ⟨i', len, hd', -, h⟩ := h
      rw [hd] at hd'
      cases hd'
      rw [hs] at h
      obtain ⟨rfl, rfl⟩ := h
      exact q
  · exact fun q => ⟨1, r, w, ⟨i, _, hd, Or.inl rfl, by rw [hs]; exact ⟨rfl, rfl⟩⟩, q⟩
theorem Wp_call {y b pc t : Nat} {i : Instr} {ls st as r : List Value} {w : xW} {Q : Option Value → xW → Prop} (hd : decode (m_bc y) pc = .ok (i, xlen i)) (hs : xs y b pc i ls st w = some (.inr (.inr (t, as, r)))) : Wp y b pc ls st w Q ↔ Wp t w.1 0 (x_ent as (m_ml t)) [] w (fun o1 w1 => Wp y b (pc + 3) ls (rl o1 r) w1 Q) := by
  constructor
  · rintro ⟨n, o, w2, h, q⟩
    cases n with
    | zero => exact h.elim
    | succ n =>
      obtain ⟨i', len, hd', -, h⟩ := h
      rw [hd] at hd'
      cases hd'
      rw [hs] at h
      obtain ⟨o1, w1, h1, h2⟩ := h
      exact ⟨n, o1, w1, h1, n, o, w2, h2, q⟩
  · rintro ⟨n, o1, w1, h1, k, o, w2, h2, q⟩
    refine ⟨max n k + 1, o, w2, ⟨i, _, hd, Or.inl rfl, ?_⟩, q⟩
    rw [hs]
    exact ⟨o1, w1, h1.le (Nat.le_max_left n k), h2.le (Nat.le_max_right n k)⟩
theorem Wp_sw {y b pc : Nat} {d lo hi : Int} {offs : Array Int} {len : Nat} {ls r : List Value} {x : Int32} {w : xW} {Q : Option Value → xW → Prop} (hd : decode (m_bc y) pc = .ok (.tableswitch d lo hi offs, len)) {t : Nat} (ht : x_sw pc d lo hi offs x = some t) : Wp y b pc ls (.int x :: r) w Q ↔ Wp y b t ls r w Q := by
  have hs : xs y b pc (.tableswitch d lo hi offs) ls (.int x :: r) w = some (.inl (t, ls, r, w)) := by
    show (match x_sw pc d lo hi offs x with
      | some t => x_go t ls r w
      | none => none) = _
    rw [ht]
    rfl
  constructor
  · rintro ⟨n, o, w2, h, q⟩
    cases n with
    | zero => exact h.elim
    | succ n =>
      obtain ⟨i', len, hd', -, h⟩ := h
      rw [hd] at hd'
      cases hd'
      rw [hs] at h
      exact ⟨n, o, w2, h, q⟩
  · rintro ⟨n, o, w2, h, q⟩
    exact ⟨n + 1, o, w2, ⟨_, _, hd, Or.inr trivial, by rw [hs]; exact h⟩, q⟩
theorem Wp.mono {y b pc : Nat} {ls st : List Value} {w : xW} {Q Q' : Option Value → xW → Prop} (h : Wp y b pc ls st w Q) (hq : ∀ o w2, Q o w2 → Q' o w2) : Wp y b pc ls st w Q' := by
  obtain ⟨n, o, w2, h1, h2⟩ := h
  exact ⟨n, o, w2, h1, hq o w2 h2⟩
end
section
/-! What the small machine's states mean on the machine of the claim -/
/-- references by number become addresses -/
def cv (ρ : Nat → Nat) (v : Value) : Value := match v with
  | .ref k => .ref (ρ k)
  | v => v
theorem cv_cat (ρ : Nat → Nat) (v : Value) : (cv ρ v).category = v.category := by cases v <;> rfl
theorem cv_rf (ρ : Nat → Nat) (o : Option Nat) : va_rf (o.map ρ) = cv ρ (va_rf o) := by cases o <;> rfl
def ce (ρ : Nat → Nat) (cA : ClassId) (c : xC) : va_E := match c with
  | .inl (_, n, .inl f) => .inl (cA, n, .inl f)
  | .inl (_, n, .inr (.inl f)) => .inl (cA, n, .inr (.inl f))
  | .inl (_, n, .inr (.inr (.inl f))) => .inl (cA, n, .inr (.inr (.inl f)))
  | .inl (_, n, .inr (.inr (.inr (.inl f)))) => .inl (cA, n, .inr (.inr (.inr (.inl f))))
  | .inl (_, n, .inr (.inr (.inr (.inr f)))) => .inl (cA, n, .inr (.inr (.inr (.inr (fun j => (f j).map ρ)))))
  | .inr (ci, fs) => .inr (ci, fs.map (cv ρ))
def wl (ρ κ : Nat → Nat) (w : xW) : va_W := (List.range w.1).map (fun k => (ρ k, ce ρ (κ k) (w.2.1 k)))
theorem wl_get {ρ κ : Nat → Nat} {w : xW} {k : Nat} (h : k < w.1) : (wl ρ κ w)[k]? = some (ρ k, ce ρ (κ k) (w.2.1 k)) := by
  unfold wl
  rw [List.getElem?_map, List.getElem?_range h]
  rfl
theorem wl_inv {ρ κ : Nat → Nat} {w : xW} {k : Nat} {q : Nat × va_E} (h : (wl ρ κ w)[k]? = some q) : k < w.1 ∧ q = (ρ k, ce ρ (κ k) (w.2.1 k)) := by
  have hk : k < w.1 := by
    have := (List.getElem?_eq_some_iff.mp h).1
    simpa [wl] using this
  refine ⟨hk, ?_⟩
  rw [wl_get hk] at h
  exact (Option.some.inj h).symm
theorem wl_set {ρ κ : Nat → Nat} {w : xW} {a : Nat} {c : xC} : (wl ρ κ w).set a (ρ a, ce ρ (κ a) c) = wl ρ κ (wr w a c) := by
  apply List.ext_getElem?
  intro k
  by_cases hk : k < w.1
  · have h2 : (wl ρ κ (wr w a c))[k]? = some (ρ k, ce ρ (κ k) ((wr w a c).2.1 k)) := wl_get (w := wr w a c) hk
    rw [h2]
    by_cases e : k = a
    · subst e
      rw [List.getElem?_set_self (by simpa [wl] using hk)]
      simp [wr]
    · rw [List.getElem?_set_ne (Ne.symm e), wl_get hk]
      simp [wr, e]
  · have h1 : (wl ρ κ w).length = w.1 := by simp [wl]
    have h2 : (wl ρ κ (wr w a c)).length = w.1 := by simp [wl, wr]
    rw [List.getElem?_eq_none (by rw [List.length_set, h1]; omega), List.getElem?_eq_none (by rw [h2]; omega)]
theorem cv_same {ρ ρ' : Nat → Nat} {n : Nat} {v : Value} (h : x_wfv n v = true) (e : ∀ k, k < n ∨ k = x_scr → ρ' k = ρ k) : cv ρ' v = cv ρ v := by
  cases v with
  | ref k =>
    simp only [x_wfv, Bool.or_eq_true, decide_eq_true_eq, beq_iff_eq] at h
    show Value.ref _ = Value.ref _
    rw [e k h]
  | _ => rfl
theorem cvs_same {ρ ρ' : Nat → Nat} {n : Nat} {l : List Value} (h : l.all (x_wfv n) = true) (e : ∀ k, k < n ∨ k = x_scr → ρ' k = ρ k) : l.map (cv ρ') = l.map (cv ρ) := by
  apply List.map_congr_left
  intro v hv
  exact cv_same (List.all_eq_true.mp h v hv) e
theorem ce_same {ρ ρ' : Nat → Nat} {n : Nat} {cA : ClassId} {c : xC} (h : x_wfc n c = true) (e : ∀ k, k < n ∨ k = x_scr → ρ' k = ρ k) : vp_cell cA = vp_cell cA ∧ (∀ D cl H a, va_at D cl (a, ce ρ cA c) H → va_at D cl (a, ce ρ' cA c) H) := by
  refine ⟨rfl, ?_⟩
  intro D cl H a h1
  rcases c with ⟨t, len, f | f | f | f | f⟩ | ⟨ci, fs⟩
  · exact h1
  · exact h1
  · exact h1
  · exact h1
  · show H[a]? = some (vp_cell _ _)
    have h2 : H[a]? = some (vp_cell cA (len, .inr (.inr (.inr (.inr (fun j => (f j).map ρ)))))) := h1
    rw [h2, vp_cell_q, vp_cell_q]
    congr 1
    have hf : ∀ j, j < len → (f j).map ρ = (f j).map ρ' := by
      intro j hj
      have := List.all_eq_true.mp h j (List.mem_range.mpr hj)
      cases hfj : f j with
      | none => rfl
      | some k =>
        rw [hfj] at this
        simp only [decide_eq_true_eq] at this
        show some (ρ k) = some (ρ' k)
        rw [e k (Or.inl this)]
    unfold arrV
    congr 1
    apply Array.ext
    · simp
    · intro j h3 h4
      simp only [Array.size_ofFn] at h3
      simp only [Array.getElem_ofFn, hf j h3]
  · obtain ⟨r, g1, g2⟩ := h1
    have : fs.map (cv ρ') = fs.map (cv ρ) := cvs_same h e
    refine ⟨r, g1, ?_⟩
    show t_OB _ _ _ _ _ (vp_V (fs.map (cv ρ')))
    rw [this]
    exact g2
def tyc (t : Nat) : FieldType := match t with
  | 0 => .int
  | 1 => .long
  | 2 => .char
  | 3 => .object "WeighingDesign$Design"
  | _ => .array .long
theorem va_AOA.moved {t : FieldType} {u U : State} (hvm : u.vm.Alike U.vm) (h : va_AOA t u) : va_AOA t U := by
  obtain ⟨comp, c, k, h1, h2, h3, h4, h5⟩ := arrayOverA_spec h
  obtain ⟨k', hk', he⟩ := hvm.2.2 _ _ h3
  have hi : (U.vm.classes.findIdx? fun (x : Class) => match x.kind with | .array component _ => component == comp | _ => false) = some c := by
    rw [hvm.findIdx?_eq _ (fun _ => rfl)]
    exact h2
  have hkind : k'.kind = .array comp (.array t) := by rw [he]; exact h4
  have f1 : U.vm.findClass (FieldType.array t).toString = some comp := by rw [hvm.findClass]; exact h1
  have f2 : U.vm.findClass ("[" ++ (FieldType.array t).toString) = some c := by rw [hvm.findClass]; exact h5
  unfold va_AOA Cond.before Cond.holds
  simp only [Cond.value]
  rw [f1, Option.bind_some]
  refine (congrArg (fun o : Option Nat => (o.bind (fun c => (U.vm.classes[c]?).map fun (k : Class) => match k.kind with | .array _ ty => decide (ty = FieldType.array t) && decide (U.vm.findClass ("[" ++ (FieldType.array t).toString) = some c) | _ => false) == some true)) hi).trans ?_
  simp [hk', hkind, f2]
def xKn (D : va_G) (s : State) : Prop := (∀ (c : Nat) (q : vw_C), vwCl[c]? = some q → u_Kn s q.1 q.2.1 q.2.2 (D.1 c) (D.2 c)) ∧ va_AO "WeighingDesign$Design" s ∧ va_AOA .long s ∧ va_Nw (.methodLinkNest (x_cn 4) 57 (m_nm 84) "WeighingDesign") s
def xTy (κ : Nat → Nat) (w : xW) (s : State) : Prop := ∀ (k t : Nat) (a : vp_A), k < w.1 → w.2.1 k = .inl (t, a) → ArrOfT s (κ k) (tyc t) ∧ va_RA s (κ k) (tyc t)
theorem xKn.warm {D : va_G} {u U : State} (hW : u.WarmedH U.vm) (h : xKn D u) : xKn D U := ⟨fun c q hq => u_Kn_moved hW.alike (h.1 c q hq), h.2.1.moved hW.alike, h.2.2.1.moved hW.alike, va_Nw.warmM hW h.2.2.2⟩
theorem xKn.same {D : va_G} {u U : State} (hv : u.vm = U.vm) (h : xKn D u) : xKn D U := ⟨fun c q hq => u_Kn_moved (hv ▸ Vm.Alike.refl _) (h.1 c q hq), h.2.1.moved (hv ▸ Vm.Alike.refl _), h.2.2.1.moved (hv ▸ Vm.Alike.refl _), va_Nw.same rfl hv h.2.2.2⟩
theorem xTy.moved {κ : Nat → Nat} {w : xW} {u U : State} (hvm : u.vm.Alike U.vm) (h : xTy κ w u) : xTy κ w U := fun k t a hk ha => ⟨arrOfT_moved hvm (h k t a hk ha).1, (h k t a hk ha).2.moved hvm⟩
theorem xK1 {D : va_G} {κ : Nat → Nat} {w : xW} {s : State} (hK : xKn D s) (hT : xTy κ w s) {k t : Nat} {a : vp_A} (hk : k < w.1) (ha : w.2.1 k = .inl (t, a)) : va_K D vwCl [(κ k, tyc t)] s := by
  refine ⟨hK.1, fun j q hj => ?_⟩
  have hz : j < 1 := (List.getElem?_eq_some_iff.mp hj).1
  rw [show j = 0 by omega] at hj
  cases hj
  exact hT k t a hk ha
theorem xK0 {D : va_G} {s : State} (hK : xKn D s) : va_K D vwCl [] s := ⟨hK.1, fun j q hj => by simp at hj⟩
def x_dead (w : xW) : Prop := ∀ k, w.1 ≤ k → w.2.1 k = .inr (99, [])
def xRel (ρ κ : Nat → Nat) (D : va_G) (A : Nat → Prop) (H0 H : Heap) (locs : List Loc) (s : State) (w : xW) : Prop := va_P D vwCl (wl ρ κ w) H ∧ va_D A (wl ρ κ w) ∧ va_S A H0 H locs ∧ xTy κ w s ∧ x_dead w
/-- the locals that hold values -/
def x_loc : Nat → List Value → List (Nat × Value)
  | _, [] => []
  | i, v :: l => match v with
    | .retAddr _ => x_loc (i + 1) l
    | v => (i, v) :: x_loc (i + 1) l
def xl (ρ : Nat → Nat) (ls : List Value) : List (Nat × Value) := (x_loc 0 ls).map (fun q => (q.1, cv ρ q.2))
theorem x_loc_mem : ∀ (l : List Value) (i : Nat) (q : Nat × Value), q ∈ x_loc i l ↔ (i ≤ q.1 ∧ l[q.1 - i]? = some q.2 ∧ ∀ k, q.2 ≠ .retAddr k)
  | [], i, q => by simp [x_loc]
  | v :: l, i, q => by
    have ih := x_loc_mem l (i + 1) q
    have key : ∀ (u : Value), (i ≤ q.1 ∧ (u :: l)[q.1 - i]? = some q.2 ∧ ∀ k, q.2 ≠ .retAddr k) ↔ ((q = (i, u) ∧ ∀ k, q.2 ≠ .retAddr k) ∨ (i + 1 ≤ q.1 ∧ l[q.1 - (i + 1)]? = some q.2 ∧ ∀ k, q.2 ≠ .retAddr k)) := by
      intro u
      by_cases h : q.1 = i
      · constructor
        · rintro ⟨h1, h2, h3⟩
          rw [show q.1 - i = 0 by omega, List.getElem?_cons_zero] at h2
          exact Or.inl ⟨Prod.ext h (Option.some.inj h2).symm, h3⟩
        · rintro (⟨h1, h3⟩ | ⟨h1, -, -⟩)
          · refine ⟨by omega, ?_, h3⟩
            rw [show q.1 - i = 0 by omega, List.getElem?_cons_zero, h1]
          · omega
      · constructor
        · rintro ⟨h1, h2, h3⟩
          refine Or.inr ⟨by omega, ?_, h3⟩
          rw [show q.1 - i = (q.1 - (i + 1)) + 1 by omega, List.getElem?_cons_succ] at h2
          exact h2
        · rintro (⟨h1, h3⟩ | ⟨h1, h2, h3⟩)
          · exact absurd (by rw [h1]) h
          · refine ⟨by omega, ?_, h3⟩
            rw [show q.1 - i = (q.1 - (i + 1)) + 1 by omega, List.getElem?_cons_succ]
            exact h2
    rw [key v, ← ih]
    cases v with
    | retAddr k =>
      show q ∈ x_loc (i + 1) l ↔ _
      constructor
      · exact fun h => Or.inr h
      · rintro (⟨h1, h3⟩ | h)
        · exact absurd (by rw [h1]) (h3 k)
        · exact h
    | _ =>
      show q ∈ _ :: x_loc (i + 1) l ↔ _
      rw [List.mem_cons]
      constructor
      · rintro (h | h)
        · exact Or.inl ⟨h, fun k hk => by rw [h] at hk; cases hk⟩
        · exact Or.inr h
      · rintro (⟨h, -⟩ | h)
        · exact Or.inl h
        · exact Or.inr h
theorem xl_mem {ρ : Nat → Nat} {ls : List Value} {q : Nat × Value} : q ∈ xl ρ ls ↔ ∃ v, ls[q.1]? = some v ∧ (∀ k, v ≠ .retAddr k) ∧ q.2 = cv ρ v := by
  unfold xl
  rw [List.mem_map]
  constructor
  · rintro ⟨z, hz, rfl⟩
    obtain ⟨-, h2, h3⟩ := (x_loc_mem ls 0 z).mp hz
    exact ⟨z.2, h2, h3, rfl⟩
  · rintro ⟨v, h1, h2, h3⟩
    exact ⟨(q.1, v), (x_loc_mem ls 0 (q.1, v)).mpr ⟨Nat.zero_le _, h1, h2⟩, Prod.ext rfl h3.symm⟩
theorem lv_mono {als : Array Slot} {n : Nat} {l l' : List (Nat × Value)} (h : lv_has als n l) (hs : ∀ q ∈ l', q ∈ l) : lv_has als n l' := ⟨h.1, h.2.1, fun q hq => h.2.2 q (hs q hq)⟩
theorem xl_get {ρ : Nat → Nat} {ls : List Value} {als : Array Slot} {n k : Nat} {v : Value} (h : lv_has als n (xl ρ ls)) (hv : ls[k]? = some v) (hn : ∀ k, v ≠ .retAddr k) : als[k]? = some (.val (cv ρ v)) :=
  h.2.2 (k, cv ρ v) (xl_mem.mpr ⟨v, hv, hn, rfl⟩)
/-- what is left of the locals when a place of one slot is written -/
theorem xl_st1 {ρ : Nat → Nat} {ls : List Value} {k : Nat} {v : Value} (hk : x_ok ls k = true) {q : Nat × Value} (hq : q ∈ xl ρ (ls.set k v)) : q ∈ (k, cv ρ v) :: (xl ρ ls).filter (fun q => !(q.1 == k) && !(q.1 + 1 == k && q.2.category == 2)) := by
  obtain ⟨u, h1, h2, h3⟩ := xl_mem.mp hq
  by_cases e : q.1 = k
  · rw [e] at h1
    have hl : k < ls.length := by
      have := (List.getElem?_eq_some_iff.mp h1).1
      simpa using this
    rw [List.getElem?_set_self hl] at h1
    cases h1
    exact List.mem_cons.mpr (Or.inl (Prod.ext e h3))
  · rw [List.getElem?_set_ne (Ne.symm e)] at h1
    refine List.mem_cons_of_mem _ (List.mem_filter.mpr ⟨xl_mem.mpr ⟨u, h1, h2, h3⟩, ?_⟩)
    have e1 : (q.1 == k) = false := by simpa using e
    have e2 : (q.1 + 1 == k && q.2.category == 2) = false := by
      by_cases e3 : q.1 + 1 = k
      · subst e3
        unfold x_ok at hk
        simp only [h1, decide_eq_true_eq] at hk
        rw [h3, cv_cat, hk]
        simp
      · simp [e3]
    rw [e1, e2]
    rfl
theorem xl_st2 {ρ : Nat → Nat} {ls : List Value} {k : Nat} {x : Int64} (hk : x_ok ls k = true) {q : Nat × Value} (hq : q ∈ xl ρ ((ls.set k (.long x)).set (k + 1) x_no)) : q ∈ (k, Value.long x) :: (xl ρ ls).filter (fun q => !(q.1 == k) && (!(q.1 == k + 1) && !(q.1 + 1 == k && q.2.category == 2))) := by
  obtain ⟨u, h1, h2, h3⟩ := xl_mem.mp hq
  have e4 : q.1 ≠ k + 1 := by
    intro e4
    rw [e4] at h1
    have hl : k + 1 < (ls.set k (.long x)).length := by
      have := (List.getElem?_eq_some_iff.mp h1).1
      simpa using this
    rw [List.getElem?_set_self hl] at h1
    cases h1
    exact h2 0 rfl
  rw [List.getElem?_set_ne (Ne.symm e4)] at h1
  have hq1 : q ∈ xl ρ (ls.set k (.long x)) := xl_mem.mpr ⟨u, h1, h2, h3⟩
  rcases List.mem_cons.mp (xl_st1 hk hq1) with h | h
  · exact List.mem_cons.mpr (Or.inl h)
  · refine List.mem_cons_of_mem _ (List.mem_filter.mpr ⟨(List.mem_filter.mp h).1, ?_⟩)
    have h5 := (List.mem_filter.mp h).2
    have e5 : (q.1 == k + 1) = false := by simpa using e4
    rw [e5]
    simpa using h5
theorem x_args_loc : ∀ (vs : List Value) (i n : Nat) (q : Nat × Value), q ∈ x_loc i (x_args vs ++ List.replicate n x_no) → q ∈ lv_args i vs
  | [], i, 0, q, h => by simp [x_args, x_loc] at h
  | [], i, n + 1, q, h => by
    have h' : q ∈ x_loc i (x_no :: List.replicate n x_no) := h
    exact x_args_loc [] (i + 1) n q h' |> fun z => by simp [lv_args] at z
  | v :: vs, i, n, q, h => by
    cases v with
    | long x =>
      have h' : q ∈ (i, Value.long x) :: x_loc (i + 2) (x_args vs ++ List.replicate n x_no) := h
      show q ∈ (i, Value.long x) :: lv_args (i + 2) vs
      rcases List.mem_cons.mp h' with h1 | h1
      · exact List.mem_cons.mpr (Or.inl h1)
      · exact List.mem_cons_of_mem _ (x_args_loc vs (i + 2) n q h1)
    | double x =>
      have h' : q ∈ x_loc (i + 2) (x_args vs ++ List.replicate n x_no) := h
      show q ∈ (i, Value.double x) :: lv_args (i + 2) vs
      exact List.mem_cons_of_mem _ (x_args_loc vs (i + 2) n q h')
    | retAddr x =>
      have h' : q ∈ x_loc (i + 1) (x_args vs ++ List.replicate n x_no) := h
      show q ∈ (i, Value.retAddr x) :: lv_args (i + 1) vs
      exact List.mem_cons_of_mem _ (x_args_loc vs (i + 1) n q h')
    | _ =>
      have h' : q ∈ (i, _) :: x_loc (i + 1) (x_args vs ++ List.replicate n x_no) := h
      show q ∈ (i, _) :: lv_args (i + 1) vs
      rcases List.mem_cons.mp h' with h1 | h1
      · exact List.mem_cons.mpr (Or.inl h1)
      · exact List.mem_cons_of_mem _ (x_args_loc vs (i + 1) n q h1)
theorem x_args_map (ρ : Nat → Nat) : ∀ (vs : List Value) (i : Nat), lv_args i (vs.map (cv ρ)) = (lv_args i vs).map (fun q => (q.1, cv ρ q.2))
  | [], i => rfl
  | v :: vs, i => by
    show (i, cv ρ v) :: lv_args (if (cv ρ v).category = 2 then i + 2 else i + 1) (vs.map (cv ρ)) = (i, cv ρ v) :: (lv_args (if v.category = 2 then i + 2 else i + 1) vs).map _
    rw [cv_cat, x_args_map ρ vs]
theorem x_args_len : ∀ (vs : List Value), (x_args vs).length = xlen_args vs
  | [] => rfl
  | v :: vs => by
    have ih := x_args_len vs
    have e : xlen_args (v :: vs) = v.category + xlen_args vs := by simp [xlen_args]
    rw [e, ← ih]
    cases v <;> simp [x_args, Value.category] <;> omega
theorem lg_sl_len (ρ : Nat → Nat) : ∀ (vs : List Value), (lg_sl (vs.map (cv ρ))).length = xlen_args vs
  | [] => rfl
  | v :: vs => by
    have ih := lg_sl_len ρ vs
    have e : xlen_args (v :: vs) = v.category + xlen_args vs := by simp [xlen_args]
    rw [e, ← ih]
    simp only [lg_sl, List.map_cons, List.flatMap_cons, List.length_append]
    congr 1
    rw [cv_cat]
    rcases lv_cat v with h | h <;> simp [h]
/-- a method's first locals, on both machines -/
theorem xl_ent {ρ : Nat → Nat} {vs : List Value} {n : Nat} (h : xlen_args vs ≤ n) : lv_has ((lg_sl (vs.map (cv ρ)) ++ List.replicate (n - (lg_sl (vs.map (cv ρ))).length) Slot.unset).toArray) n (xl ρ (x_ent vs n)) := by
  have h1 := lv_entry (vs.map (cv ρ)) (n := n) (by rw [lg_sl_len]; exact h)
  refine lv_mono h1 fun q hq => ?_
  unfold xl x_ent at hq
  obtain ⟨z, hz, rfl⟩ := List.mem_map.mp hq
  rw [x_args_map]
  exact List.mem_map.mpr ⟨z, x_args_loc vs 0 _ z hz, rfl⟩
/-! the room and the tables of a method -/
theorem m_rm_ok (y : Nat) (hy : y ≤ m_law) : m_dp y ≤ (m_rm y).frames ∧ 36 * m_dp y ≤ (m_rm y).locals ∧ m_mc y ≤ (m_rm y).cells ∧ 600 * m_mc y ≤ (m_rm y).slots := by
  unfold m_rm
  by_cases h : y = m_law
  · subst h
    exact ⟨by decide +kernel, by decide +kernel, by decide +kernel, by decide +kernel⟩
  · rw [if_neg h]
    exact ⟨Nat.le_refl _, Nat.le_refl _, Nat.le_refl _, Nat.le_refl _⟩
theorem x_find_mem : ∀ (l : List (Nat × Nat × Nat × Nat)) {c i : Nat} {r : Nat × Nat}, x_find l c i = some r → (c, i, r.1, r.2) ∈ l
  | [], c, i, r, h => by simp [x_find] at h
  | (c1, i1, a, b) :: l, c, i, r, h => by
    unfold x_find at h
    by_cases e : c1 = c ∧ i1 = i
    · rw [if_pos e] at h
      obtain ⟨rfl, rfl⟩ := e
      cases h
      exact List.mem_cons_self
    · rw [if_neg e] at h
      exact List.mem_cons_of_mem _ (x_find_mem l h)
theorem x_cfind_mem : ∀ (l : List (Nat × Nat × Value)) {c i : Nat} {r : Value}, x_cfind l c i = some r → (c, i, r) ∈ l
  | [], c, i, r, h => by simp [x_cfind] at h
  | (c1, i1, a) :: l, c, i, r, h => by
    unfold x_cfind at h
    by_cases e : c1 = c ∧ i1 = i
    · rw [if_pos e] at h
      obtain ⟨rfl, rfl⟩ := e
      cases h
      exact List.mem_cons_self
    · rw [if_neg e] at h
      exact List.mem_cons_of_mem _ (x_cfind_mem l h)
theorem x_gwI {w : Cond} (h : w ∈ lw_tbl) (g : goodWord w = true) : w ∈ x_gw := List.mem_filter.mpr ⟨h, g⟩
theorem x_ml_ok {c i k t : Nat} (h : x_ml c i = some (k, t)) : ∃ p, x_mok (c, i, k, t) p := x_mls_ok _ (x_find_mem _ h)
theorem x_fl_ok {c i ci k : Nat} (h : x_fl c i = some (ci, k)) : Cond.fieldLink (x_cn c) i (x_T ci k).1 (x_T ci k).2.1 (x_T ci k).2.2.1 ∈ x_gw ∧ ci < 7 ∧ k < x_fn ci := by
  have h1 := x_find_mem _ h
  rw [x_fzl] at h1
  obtain ⟨z, hz, e⟩ := List.mem_map.mp h1
  have h2 := List.all_eq_true.mp x_fok z hz
  simp only [x_fckB, Bool.and_eq_true, decide_eq_true_eq] at h2
  rw [e] at h2
  exact ⟨x_gwI (x_w h2.1.1) rfl, h2.1.2, h2.2⟩
theorem x_nl_ok {c i ci k : Nat} (h : x_nl c i = some (ci, k)) : Cond.classLink (x_cn c) i (x_cn ci) ∈ x_gw ∧ Cond.instantiable (x_cn ci) (x_fn ci) ∈ x_gw ∧ Cond.initialized (x_cn ci) ∈ x_gw ∧ ci < 7 := by
  have h1 := x_find_mem _ h
  rw [x_nzl] at h1
  obtain ⟨z, hz, e⟩ := List.mem_map.mp h1
  have h2 := List.all_eq_true.mp x_nok z hz
  simp only [x_nckB, Bool.and_eq_true, decide_eq_true_eq] at h2
  rw [e] at h2
  exact ⟨x_gwI (x_w h2.1.1.1) rfl, x_gwI (x_w h2.1.1.2) rfl, x_gwI (x_w h2.1.2) rfl, h2.2⟩
theorem x_cs_int {c i : Nat} {v : Int32} (h : x_cs c i = some (.int v)) : Cond.constant (x_cn c) i v ∈ x_gw := by
  have h1 := x_cfind_mem _ h
  rw [x_czl] at h1
  obtain ⟨z, hz, e⟩ := List.mem_map.mp h1
  have h2 := List.all_eq_true.mp x_cok z hz
  unfold x_cckB at h2
  rw [e] at h2
  exact x_gwI (x_w (of_decide_eq_true h2)) rfl
theorem x_cs_long {c i : Nat} {v : Int64} (h : x_cs c i = some (.long v)) : Cond.constantLong (x_cn c) i v ∈ x_gw := by
  have h1 := x_cfind_mem _ h
  rw [x_czl] at h1
  obtain ⟨z, hz, e⟩ := List.mem_map.mp h1
  have h2 := List.all_eq_true.mp x_cok z hz
  unfold x_cckB at h2
  rw [e] at h2
  exact x_gwI (x_w (of_decide_eq_true h2)) rfl
theorem x_layG : ∀ c, c < 7 → ∀ w ∈ u_ws (x_cn c) (x_T c) (x_fn c), w ∈ x_gw := by
  intro c hc w hw
  refine x_gwI (x_lays c hc w hw) ?_
  obtain ⟨k, -, rfl⟩ := List.mem_map.mp hw
  unfold u_lay
  split <;> rfl
end
section
/-! One step of the small machine is a step of the claim's -/
def xCx (p : Program) (R : Room) (s : State) (m : MethodId) (args : Array Value) (meth : Method) (c : Code) (D : va_G) (A : Nat → Prop) (H0 : Heap) (y : Nat) : Prop :=
  p.tables.exec = Jvm.exec ∧ c.code = m_bc y ∧ c.maxLocals = m_ml y ∧ s.vm.findClass (m_cn y) = some m.cls ∧ (∀ w ∈ x_gw, w.before args s = true) ∧ (m_in y = true → meth.name = "<init>") ∧ R = m_rm y ∧ (∀ q, H0.size ≤ q → A q) ∧ xKn D s ∧ y ≤ m_law
def xSc (y : Nat) (ρ : Nat → Nat) (A : Nat → Prop) (H0 : Heap) (s : State) (w : xW) : Prop := y = m_law → ρ x_scr < H0.size ∧ ¬ A (ρ x_scr) ∧ va_X (ρ x_scr) w.2.2.1 w.2.2.2 s H0
def xGo (p : Program) (l : Launch) (e : Env) (R : Room) (s : State) (m : MethodId) (args : Array Value) (below : List Frame) (meth : Method) (c : Code) (Qf : State → Prop) (D : va_G) (A : Nat → Prop) (H0 : Heap) (ρ0 κ0 : Nat → Nat) (y b pc : Nat) (ls st : List Value) (w : xW) : Prop :=
  ∀ (ρ κ : Nat → Nat) (H : Heap) (locs : List Loc) (als : Array Slot), b ≤ w.1 → (m_mc y = 0 → w.1 = b ∧ ρ = ρ0 ∧ κ = κ0) → (∀ k, k < b ∨ k = x_scr → ρ k = ρ0 k) → (∀ k, k < b → κ k = κ0 k) → w.1 - b ≤ m_mc y → xRel ρ κ D A H0 H locs s w → xSc y ρ A H0 s w → lv_has als (m_ml y) (xl ρ ls) → W p l e R s m args below meth c H locs (w.1 - b) (600 * (w.1 - b)) Qf (F0 m pc als (st.map (cv ρ)))
section XS
variable {p : Program} {l : Launch} {e : Env} {R : Room} {s : State} {m : MethodId} {args : Array Value} {below : List Frame} {meth : Method} {c : Code} {Qf : State → Prop} {D : va_G} {A : Nat → Prop} {H0 : Heap} {ρ0 κ0 : Nat → Nat} {y b pc pc1 : Nat} {ls st ls1 st1 : List Value} {w w1 : xW}
theorem xGo_pure (hC : xCx p R s m args meth c D A H0 y) (h : ∀ (ρ : Nat → Nat) (H : Heap) (locs : List Loc) (cs sl : Nat) (als : Array Slot), cs ≤ R.cells → sl ≤ R.slots → lv_has als (m_ml y) (xl ρ ls) → (∀ als' : Array Slot, lv_has als' (m_ml y) (xl ρ ls1) → W p l e R s m args below meth c H locs cs sl Qf (F0 m pc1 als' (st1.map (cv ρ)))) → W p l e R s m args below meth c H locs cs sl Qf (F0 m pc als (st.map (cv ρ)))) (k : xGo p l e R s m args below meth c Qf D A H0 ρ0 κ0 y b pc1 ls1 st1 w) : xGo p l e R s m args below meth c Qf D A H0 ρ0 κ0 y b pc ls st w := by
  intro ρ κ H locs als h1 h2 h3 h4 h5 h6 h7 h8
  obtain ⟨-, -, -, -, -, -, hR, -, -, hy⟩ := hC
  obtain ⟨-, -, r3, r4⟩ := m_rm_ok y hy
  refine h ρ H locs _ _ als (by rw [hR]; omega) (by rw [hR]; omega) h8 (fun als' h9 => k ρ κ H locs als' h1 h2 h3 h4 h5 h6 h7 h9)
theorem sn_iload (hC : xCx p R s m args meth c D A H0 y) {k pc2 : Nat} (row : ∀ {H : Heap} {locs : List Loc} {cs sl : Nat} {als : Array Slot} {rest : List Value} {x : Int32}, als[k]? = some (.val (.int x)) → W p l e R s m args below meth c H locs cs sl Qf (F0 m pc2 als (.int x :: rest)) → W p l e R s m args below meth c H locs cs sl Qf (F0 m pc als rest)) (hs : x_iload k pc2 ls st w = some (.inl (pc1, ls1, st1, w1))) (kk : xGo p l e R s m args below meth c Qf D A H0 ρ0 κ0 y b pc1 ls1 st1 w1) : xGo p l e R s m args below meth c Qf D A H0 ρ0 κ0 y b pc ls st w := by
  unfold x_iload at hs
  split at hs
  · rename_i x hx
    cases hs
    exact xGo_pure hC (fun ρ H locs cs sl als _ _ hl k => row (xl_get hl hx (fun _ h => by cases h)) (k als hl)) kk
  · cases hs
theorem sn_lload (hC : xCx p R s m args meth c D A H0 y) {k pc2 : Nat} (row : ∀ {H : Heap} {locs : List Loc} {cs sl : Nat} {als : Array Slot} {rest : List Value} {x : Int64}, als[k]? = some (.val (.long x)) → W p l e R s m args below meth c H locs cs sl Qf (F0 m pc2 als (.long x :: rest)) → W p l e R s m args below meth c H locs cs sl Qf (F0 m pc als rest)) (hs : x_lload k pc2 ls st w = some (.inl (pc1, ls1, st1, w1))) (kk : xGo p l e R s m args below meth c Qf D A H0 ρ0 κ0 y b pc1 ls1 st1 w1) : xGo p l e R s m args below meth c Qf D A H0 ρ0 κ0 y b pc ls st w := by
  unfold x_lload at hs
  split at hs
  · rename_i x hx
    cases hs
    exact xGo_pure hC (fun ρ H locs cs sl als _ _ hl k => row (xl_get hl hx (fun _ h => by cases h)) (k als hl)) kk
  · cases hs
theorem sn_aload (hC : xCx p R s m args meth c D A H0 y) {k pc2 : Nat} (row : ∀ {H : Heap} {locs : List Loc} {cs sl : Nat} {als : Array Slot} {rest : List Value} {x : Nat}, als[k]? = some (.val (.ref x)) → W p l e R s m args below meth c H locs cs sl Qf (F0 m pc2 als (.ref x :: rest)) → W p l e R s m args below meth c H locs cs sl Qf (F0 m pc als rest)) (hs : x_aload k pc2 ls st w = some (.inl (pc1, ls1, st1, w1))) (kk : xGo p l e R s m args below meth c Qf D A H0 ρ0 κ0 y b pc1 ls1 st1 w1) : xGo p l e R s m args below meth c Qf D A H0 ρ0 κ0 y b pc ls st w := by
  unfold x_aload at hs
  split at hs
  · rename_i x hx
    cases hs
    exact xGo_pure hC (fun ρ H locs cs sl als _ _ hl k => row (xl_get hl hx (fun _ h => by cases h)) (k als hl)) kk
  · cases hs
theorem x_lt_ml {ρ : Nat → Nat} {als : Array Slot} {n k : Nat} (hk : k < ls.length) (hn : ls.length ≤ n) : k < n := by omega
theorem sn_istore (hC : xCx p R s m args meth c D A H0 y) (hml : ls.length = m_ml y) {k pc2 : Nat} (row : ∀ {H : Heap} {locs : List Loc} {cs sl nL : Nat} {als : Array Slot} {rest : List Value} {x : Int32} {lv lv' : List (Nat × Value)}, lv_has als nL lv → k < nL → (k, Value.int x) :: lv.filter (fun q => !(q.1 == k) && !(q.1 + 1 == k && q.2.category == 2)) = lv' → (∀ als' : Array Slot, lv_has als' nL lv' → W p l e R s m args below meth c H locs cs sl Qf (F0 m pc2 als' rest)) → W p l e R s m args below meth c H locs cs sl Qf (F0 m pc als (.int x :: rest))) (hs : x_istore k pc2 ls st w = some (.inl (pc1, ls1, st1, w1))) (kk : xGo p l e R s m args below meth c Qf D A H0 ρ0 κ0 y b pc1 ls1 st1 w1) : xGo p l e R s m args below meth c Qf D A H0 ρ0 κ0 y b pc ls st w := by
  unfold x_istore at hs
  split at hs
  · split at hs
    · rename_i x r hx
      cases hs
      exact xGo_pure hC (fun ρ H locs cs sl als _ _ hl k => row hl (by rw [← hml]; exact hx.1) rfl (fun als' h => k als' (lv_mono h (fun q hq => xl_st1 (v := .int x) hx.2 hq)))) kk
    · cases hs
  · cases hs
theorem sn_lstore (hC : xCx p R s m args meth c D A H0 y) (hml : ls.length = m_ml y) {k pc2 : Nat} (row : ∀ {H : Heap} {locs : List Loc} {cs sl nL : Nat} {als : Array Slot} {rest : List Value} {x : Int64} {lv lv' : List (Nat × Value)}, lv_has als nL lv → k + 1 < nL → (k, Value.long x) :: lv.filter (fun q => !(q.1 == k) && (!(q.1 == k + 1) && !(q.1 + 1 == k && q.2.category == 2))) = lv' → (∀ als' : Array Slot, lv_has als' nL lv' → W p l e R s m args below meth c H locs cs sl Qf (F0 m pc2 als' rest)) → W p l e R s m args below meth c H locs cs sl Qf (F0 m pc als (.long x :: rest))) (hs : x_lstore k pc2 ls st w = some (.inl (pc1, ls1, st1, w1))) (kk : xGo p l e R s m args below meth c Qf D A H0 ρ0 κ0 y b pc1 ls1 st1 w1) : xGo p l e R s m args below meth c Qf D A H0 ρ0 κ0 y b pc ls st w := by
  unfold x_lstore at hs
  split at hs
  · split at hs
    · rename_i x r hx
      cases hs
      exact xGo_pure hC (fun ρ H locs cs sl als _ _ hl k => row hl (by rw [← hml]; exact hx.1) rfl (fun als' h => k als' (lv_mono h (fun q hq => xl_st2 hx.2 hq)))) kk
    · cases hs
  · cases hs
theorem sn_astore (hC : xCx p R s m args meth c D A H0 y) (hml : ls.length = m_ml y) {k pc2 : Nat} (row : ∀ {H : Heap} {locs : List Loc} {cs sl nL : Nat} {als : Array Slot} {rest : List Value} {x : Nat} {lv lv' : List (Nat × Value)}, lv_has als nL lv → k < nL → (k, Value.ref x) :: lv.filter (fun q => !(q.1 == k) && !(q.1 + 1 == k && q.2.category == 2)) = lv' → (∀ als' : Array Slot, lv_has als' nL lv' → W p l e R s m args below meth c H locs cs sl Qf (F0 m pc2 als' rest)) → W p l e R s m args below meth c H locs cs sl Qf (F0 m pc als (.ref x :: rest))) (hs : x_astore k pc2 ls st w = some (.inl (pc1, ls1, st1, w1))) (kk : xGo p l e R s m args below meth c Qf D A H0 ρ0 κ0 y b pc1 ls1 st1 w1) : xGo p l e R s m args below meth c Qf D A H0 ρ0 κ0 y b pc ls st w := by
  unfold x_astore at hs
  split at hs
  · split at hs
    · rename_i x r hx
      cases hs
      exact xGo_pure hC (fun ρ H locs cs sl als _ _ hl k => row hl (by rw [← hml]; exact hx.1) rfl (fun als' h => k als' (lv_mono h (fun q hq => xl_st1 (v := .ref x) hx.2 hq)))) kk
    · cases hs
  · cases hs
theorem x_place {α : Type} {a : α} {l : List α} (h : a ∈ l) : ∃ k : Nat, l[k]? = some a := by
  obtain ⟨k, hk⟩ := List.getElem?_of_mem h
  exact ⟨k, hk⟩
theorem sn_iinc (hC : xCx p R s m args meth c D A H0 y) (hml : ls.length = m_ml y) {k : Nat} {n : Int} (hd : decode (m_bc y) pc = .ok (.iinc k n, 3)) (hs : x_iinc k n (pc + 3) ls st w = some (.inl (pc1, ls1, st1, w1))) (kk : xGo p l e R s m args below meth c Qf D A H0 ρ0 κ0 y b pc1 ls1 st1 w1) : xGo p l e R s m args below meth c Qf D A H0 ρ0 κ0 y b pc ls st w := by
  unfold x_iinc at hs
  split at hs
  · split at hs
    · rename_i x hg hx
      cases hs
      refine xGo_pure hC (fun ρ H locs cs sl als _ _ hl k2 => ?_) kk
      have hlt : k < ls.length := (List.getElem?_eq_some_iff.mp hg).1
      obtain ⟨j, hj⟩ := x_place (xl_mem (ρ := ρ) (q := (k, .int x)).mpr ⟨.int x, hg, (fun _ h => by cases h), rfl⟩)
      exact lv_iinc hC.1 hC.2.1 hd hl hj rfl (by rw [← hml]; exact hlt) rfl (fun als' h => k2 als' (lv_mono h (fun q hq => xl_st1 (v := .int (x + Int32.ofInt n)) hx hq)))
    · cases hs
  · cases hs
theorem sn_ii (hC : xCx p R s m args meth c D A H0 y) {f : Int32 → Int32 → Int32} (row : ∀ {H : Heap} {locs : List Loc} {cs sl : Nat} {als : Array Slot} {rest : List Value} {x z : Int32}, W p l e R s m args below meth c H locs cs sl Qf (F0 m (pc + 1) als (.int (f x z) :: rest)) → W p l e R s m args below meth c H locs cs sl Qf (F0 m pc als (.int z :: .int x :: rest))) (hs : x_ii f pc ls st w = some (.inl (pc1, ls1, st1, w1))) (kk : xGo p l e R s m args below meth c Qf D A H0 ρ0 κ0 y b pc1 ls1 st1 w1) : xGo p l e R s m args below meth c Qf D A H0 ρ0 κ0 y b pc ls st w := by
  unfold x_ii at hs
  split at hs
  · cases hs
    exact xGo_pure hC (fun ρ H locs cs sl als _ _ hl k => row (k als hl)) kk
  · cases hs
theorem sn_ll (hC : xCx p R s m args meth c D A H0 y) {f : Int64 → Int64 → Int64} (row : ∀ {H : Heap} {locs : List Loc} {cs sl : Nat} {als : Array Slot} {rest : List Value} {x z : Int64}, W p l e R s m args below meth c H locs cs sl Qf (F0 m (pc + 1) als (.long (f x z) :: rest)) → W p l e R s m args below meth c H locs cs sl Qf (F0 m pc als (.long z :: .long x :: rest))) (hs : x_ll f pc ls st w = some (.inl (pc1, ls1, st1, w1))) (kk : xGo p l e R s m args below meth c Qf D A H0 ρ0 κ0 y b pc1 ls1 st1 w1) : xGo p l e R s m args below meth c Qf D A H0 ρ0 κ0 y b pc ls st w := by
  unfold x_ll at hs
  split at hs
  · cases hs
    exact xGo_pure hC (fun ρ H locs cs sl als _ _ hl k => row (k als hl)) kk
  · cases hs
theorem x_jmp_ok {off : Int} {t : Nat} (h : x_jmp pc off = some t) : (pc : Int) + off = (t : Int) := by
  unfold x_jmp at h
  split at h
  · cases h
    omega
  · cases h
theorem sn_br (hC : xCx p R s m args meth c D A H0 y) {cd : Bool} {off : Int} {st2 : List Value} (row : ∀ {ρ : Nat → Nat} {H : Heap} {locs : List Loc} {cs sl : Nat} {als : Array Slot} {t : Nat}, (pc : Int) + off = (t : Int) → (cd = true → W p l e R s m args below meth c H locs cs sl Qf (F0 m t als (st2.map (cv ρ)))) → (cd = false → W p l e R s m args below meth c H locs cs sl Qf (F0 m (pc + 3) als (st2.map (cv ρ)))) → W p l e R s m args below meth c H locs cs sl Qf (F0 m pc als (st.map (cv ρ)))) (hs : x_br cd pc off ls st2 w = some (.inl (pc1, ls1, st1, w1))) (kk : xGo p l e R s m args below meth c Qf D A H0 ρ0 κ0 y b pc1 ls1 st1 w1) : xGo p l e R s m args below meth c Qf D A H0 ρ0 κ0 y b pc ls st w := by
  unfold x_br at hs
  split at hs
  · rename_i t ht
    cases hs
    refine xGo_pure hC (fun ρ H locs cs sl als _ _ hl k => row (x_jmp_ok ht) (fun e => ?_) (fun e => ?_)) kk
    · have := k als hl
      rw [e] at this
      exact this
    · have := k als hl
      rw [e] at this
      exact this
  · cases hs
/-! worlds -/
theorem xRel.at {ρ κ : Nat → Nat} {H : Heap} {locs : List Loc} (h : xRel ρ κ D A H0 H locs s w) {a : Nat} {cell : xC} (hc : rd w a = cell) (hn : cell ≠ .inr (99, [])) : a < w.1 ∧ (wl ρ κ w)[a]? = some (ρ a, ce ρ (κ a) cell) := by
  obtain ⟨-, -, -, -, hd⟩ := h
  have hlt : a < w.1 := by
    rcases Nat.lt_or_ge a w.1 with q | q
    · exact q
    · exact absurd (hc.symm.trans (hd a q)) hn
  refine ⟨hlt, ?_⟩
  rw [wl_get hlt, ← hc]
  rfl
/-- a cell is written: the world behind -/
theorem xRel.put {ρ κ : Nat → Nat} {H H1 : Heap} {locs locs1 : List Loc} (h : xRel ρ κ D A H0 H locs s w) {a : Nat} {cell : xC} (ha : a < w.1) (hP : va_P D vwCl ((wl ρ κ w).set a (ρ a, ce ρ (κ a) cell)) H1) (hD : va_D A ((wl ρ κ w).set a (ρ a, ce ρ (κ a) cell))) (hS : va_S A H0 H1 locs1) (hty : ∀ t x, cell = .inl (t, x) → ∃ x', rd w a = .inl (t, x')) : xRel ρ κ D A H0 H1 locs1 s (wr w a cell) := by
  obtain ⟨-, -, -, hT, hd⟩ := h
  rw [wl_set] at hP hD
  refine ⟨hP, hD, hS, fun k t x hk hx => ?_, fun k hk => ?_⟩
  · by_cases e : k = a
    · subst e
      have hx' : cell = .inl (t, x) := by simpa [wr] using hx
      obtain ⟨x', h'⟩ := hty t x hx'
      exact hT k t x' hk h'
    · have hx' : w.2.1 k = .inl (t, x) := by simpa [wr, e] using hx
      exact hT k t x hk hx'
  · have hk' : w.1 ≤ k := hk
    have : k ≠ a := by omega
    show (if k = a then cell else w.2.1 k) = _
    rw [if_neg this]
    exact hd k hk'
theorem sn_getf (hC : xCx p R s m args meth c D A H0 y) {idx ci k : Nat} (hf : x_fl (m_cl y) idx = some (ci, k)) (hd : decode (m_bc y) pc = .ok (.getfield idx, 3)) (hs : x_getf ci k pc ls st w = some (.inl (pc1, ls1, st1, w1))) (kk : xGo p l e R s m args below meth c Qf D A H0 ρ0 κ0 y b pc1 ls1 st1 w1) : xGo p l e R s m args below meth c Qf D A H0 ρ0 κ0 y b pc ls st w := by
  unfold x_getf at hs
  split at hs
  · rename_i a r
    split at hs
    · rename_i c' fs hrd
      split at hs
      · rename_i hci
        subst hci
        split at hs
        · rename_i v hv
          cases hs
          intro ρ κ H locs als h1 h2 h3 h4 h5 h6 h7 h8
          obtain ⟨hlt, hw⟩ := h6.at hrd (by intro q; cases q; rw [List.getElem?_nil] at hv; cases hv)
          obtain ⟨hx, hb, hml, hown, hts, hin, hR, hA, hK, hy⟩ := hC
          obtain ⟨g1, g2, g3⟩ := x_fl_ok hf
          refine va_get (v := cv ρ v) hx hb hts (x_layG _ g2) hown (xK0 hK) h6.1 a hw (x_cls _ g2) k g3 (hts _ g1) (fun _ h9 => h9) (by rw [List.getElem?_map, hv]; rfl) hd ?_
          exact kk ρ κ H locs als h1 h2 h3 h4 h5 h6 h7 h8
        · cases hs
      · cases hs
    · cases hs
  · cases hs
theorem x_kfit {ci k kd : Nat} {v : Value} {fin : Bool} {ρ : Nat → Nat} (hci : ci < 7) (hk : k < x_fn ci) (h : (x_fk ci)[k]? = some (kd, fin)) (hv : x_kok kd v = true) : narrow (x_ty ci k) (cv ρ v) = cv ρ v ∧ fits (x_ty ci k) (cv ρ v) = true ∧ (x_T ci k).2.2.2 = fin ∧ (x_T ci k).1 = x_cn ci := by
  obtain ⟨h1, h2, h3⟩ := x_fks ci hci k hk
  rw [h] at h1
  rcases h2 with e | e | ⟨t, e⟩ | ⟨t, e⟩ <;> rw [e] at h1 ⊢ <;> cases h1 <;> cases v <;> simp [x_kok] at hv <;> exact ⟨rfl, rfl, rfl, h3⟩
theorem sn_putf (hC : xCx p R s m args meth c D A H0 y) {idx ci k : Nat} (hf : x_fl (m_cl y) idx = some (ci, k)) (hd : decode (m_bc y) pc = .ok (.putfield idx, 3)) (hs : x_putf y ci k pc ls st w = some (.inl (pc1, ls1, st1, w1))) (kk : xGo p l e R s m args below meth c Qf D A H0 ρ0 κ0 y b pc1 ls1 st1 w1) : xGo p l e R s m args below meth c Qf D A H0 ρ0 κ0 y b pc ls st w := by
  unfold x_putf at hs
  split at hs
  · rename_i v a r
    split at hs
    · rename_i c' fs hrd
      split at hs
      · rename_i hci
        obtain ⟨rfl, hkl⟩ := hci
        split at hs
        · rename_i kd fin hv
          split at hs
          · rename_i hok
            cases hs
            intro ρ κ H locs als h1 h2 h3 h4 h5 h6 h7 h8
            obtain ⟨hlt, hw⟩ := h6.at hrd (by intro q; cases q; exact absurd hkl (Nat.not_lt_zero _))
            obtain ⟨hx, hb, hml, hown, hts, hin, hR, hA, hK, hy⟩ := hC
            obtain ⟨g1, g2, g3⟩ := x_fl_ok hf
            obtain ⟨f1, f2, f3, f4⟩ := x_kfit (ρ := ρ) g2 g3 hv hok.1
            have hset : (Sum.inr (c', (fs.map (cv ρ)).set k (cv ρ v)) : va_E) = ce ρ (κ a) (.inr (c', fs.set k v)) := by
              show _ = Sum.inr (c', (fs.set k v).map (cv ρ))
              rw [List.map_set]
            cases fin with
            | false =>
              refine va_put (A := A) (H0 := H0) hx hb hts (x_layG _ g2) (x_ty c') (x_tys _ g2) (x_nms _ g2) hown (xK0 hK) h6.1 h6.2.1 h6.2.2.1 a hw (x_cls _ g2) k g3 (hts _ g1) (fun _ h9 => h9) f3 (x_tys _ g2 k g3) f1 f2 (by rw [List.length_map]; exact hkl) hd (fun H1 locs1 hP hD hS => ?_)
              rw [hset] at hP hD
              exact kk ρ κ H1 locs1 als h1 h2 h3 h4 h5 (h6.put hlt hP hD hS (fun t x h => by cases h)) h7 h8
            | true =>
              obtain ⟨o1, o2⟩ := hok.2 rfl
              refine va_putF (A := A) (H0 := H0) hx hb hts (x_layG _ g2) (x_ty c') (x_tys _ g2) (x_nms _ g2) hown (xK0 hK) h6.1 h6.2.1 h6.2.2.1 a hw (x_cls _ g2) k g3 (hts _ g1) (fun _ h9 => h9) f3 (hin o1) (by rw [f4, ← o2]; rfl) (x_tys _ g2 k g3) f1 f2 (by rw [List.length_map]; exact hkl) hd (fun H1 locs1 hP hD hS => ?_)
              rw [hset] at hP hD
              exact kk ρ κ H1 locs1 als h1 h2 h3 h4 h5 (h6.put hlt hP hD hS (fun t x h => by cases h)) h7 h8
          · cases hs
        · cases hs
      · cases hs
    · cases hs
  · cases hs
theorem x_in_vp {i : Int32} {n : Nat} (h : x_in i n) : vp_in i n := fun q => q.elim h.1 (fun z => absurd h.2 (by omega))
theorem sn_iald (hC : xCx p R s m args meth c D A H0 y) (hd : decode (m_bc y) pc = .ok (.iaload, 1)) (hs : x_iald y pc ls st w = some (.inl (pc1, ls1, st1, w1))) (kk : xGo p l e R s m args below meth c Qf D A H0 ρ0 κ0 y b pc1 ls1 st1 w1) : xGo p l e R s m args below meth c Qf D A H0 ρ0 κ0 y b pc ls st w := by
  unfold x_iald at hs
  obtain ⟨hx, hb, hml, hown, hts, hin, hR, hA, hK, hy⟩ := hC
  split at hs
  · rename_i i a r
    split at hs
    · rename_i hyl
      split at hs
      · rename_i hi
        cases hs
        intro ρ κ H locs als h1 h2 h3 h4 h5 h6 h7 h8
        obtain ⟨s1, s2, s3⟩ := h7 hyl
        obtain ⟨rfl, hi⟩ := hi
        exact va_sld hx hb s3 s1 s2 h6.2.2.1 (x_in_vp hi) hd (kk ρ κ H locs als h1 h2 h3 h4 h5 h6 h7 h8)
      · cases hs
    · split at hs
      · rename_i t n f hrd
        split at hs
        · rename_i hi
          cases hs
          intro ρ κ H locs als h1 h2 h3 h4 h5 h6 h7 h8
          obtain ⟨rfl, hi⟩ := hi
          obtain ⟨hlt, hw⟩ := h6.at hrd (by intro q; cases q)
          exact va_iald hx hb (xK1 hK h6.2.2.2.1 hlt hrd) h6.1 a 0 hw rfl (x_in_vp hi) hd (kk ρ κ H locs als h1 h2 h3 h4 h5 h6 h7 h8)
        · cases hs
      · cases hs
  · cases hs
theorem sn_cald (hC : xCx p R s m args meth c D A H0 y) (hd : decode (m_bc y) pc = .ok (.caload, 1)) (hs : x_cald pc ls st w = some (.inl (pc1, ls1, st1, w1))) (kk : xGo p l e R s m args below meth c Qf D A H0 ρ0 κ0 y b pc1 ls1 st1 w1) : xGo p l e R s m args below meth c Qf D A H0 ρ0 κ0 y b pc ls st w := by
  unfold x_cald at hs
  obtain ⟨hx, hb, hml, hown, hts, hin, hR, hA, hK, hy⟩ := hC
  split at hs
  · rename_i i a r
    split at hs
    · rename_i t n f hrd
      split at hs
      · rename_i hi
        cases hs
        intro ρ κ H locs als h1 h2 h3 h4 h5 h6 h7 h8
        obtain ⟨rfl, hi⟩ := hi
        obtain ⟨hlt, hw⟩ := h6.at hrd (by intro q; cases q)
        exact va_cald hx hb (xK1 hK h6.2.2.2.1 hlt hrd) h6.1 a 0 hw rfl (x_in_vp hi) hd (kk ρ κ H locs als h1 h2 h3 h4 h5 h6 h7 h8)
      · cases hs
    · cases hs
  · cases hs
theorem sn_lald (hC : xCx p R s m args meth c D A H0 y) (hd : decode (m_bc y) pc = .ok (.laload, 1)) (hs : x_lald pc ls st w = some (.inl (pc1, ls1, st1, w1))) (kk : xGo p l e R s m args below meth c Qf D A H0 ρ0 κ0 y b pc1 ls1 st1 w1) : xGo p l e R s m args below meth c Qf D A H0 ρ0 κ0 y b pc ls st w := by
  unfold x_lald at hs
  obtain ⟨hx, hb, hml, hown, hts, hin, hR, hA, hK, hy⟩ := hC
  split at hs
  · rename_i i a r
    split at hs
    · rename_i t n f hrd
      split at hs
      · rename_i hi
        cases hs
        intro ρ κ H locs als h1 h2 h3 h4 h5 h6 h7 h8
        obtain ⟨rfl, hi⟩ := hi
        obtain ⟨hlt, hw⟩ := h6.at hrd (by intro q; cases q)
        exact va_lald hx hb (xK1 hK h6.2.2.2.1 hlt hrd) h6.1 a 0 hw rfl (x_in_vp hi) hd (kk ρ κ H locs als h1 h2 h3 h4 h5 h6 h7 h8)
      · cases hs
    · cases hs
  · cases hs
theorem sn_aald (hC : xCx p R s m args meth c D A H0 y) (hd : decode (m_bc y) pc = .ok (.aaload, 1)) (hs : x_aald pc ls st w = some (.inl (pc1, ls1, st1, w1))) (kk : xGo p l e R s m args below meth c Qf D A H0 ρ0 κ0 y b pc1 ls1 st1 w1) : xGo p l e R s m args below meth c Qf D A H0 ρ0 κ0 y b pc ls st w := by
  unfold x_aald at hs
  obtain ⟨hx, hb, hml, hown, hts, hin, hR, hA, hK, hy⟩ := hC
  split at hs
  · rename_i i a r
    split at hs
    · rename_i t n f hrd
      split at hs
      · rename_i hi
        split at hs
        · rename_i q hq
          cases hs
          intro ρ κ H locs als h1 h2 h3 h4 h5 h6 h7 h8
          obtain ⟨ht, hi⟩ := hi
          obtain ⟨hlt, hw⟩ := h6.at hrd (by intro q; cases q)
          have hv : (fun j => (f j).map ρ) i.toNatClampNeg = some (ρ q) := by
            show (f i.toNatClampNeg).map ρ = _
            rw [hq]
            rfl
          have hlt2 : i.toNatClampNeg < n := hi.2
          have hty : (tyc t).isReference = true := by rcases ht with rfl | rfl <;> rfl
          refine W.aald (v := .ref (ρ q)) (ty := tyc t) hx hb (h6.1 a _ hw) ((h6.2.2.2.1 a t _ hlt hrd).1 n (fun j => va_rf ((f j).map ρ))) hty (fun q => by cases q) (by show ¬ (i < 0 ∨ (arrV _ _ _).slots.size ≤ _); rw [arrV_size]; exact x_in_vp hi) (by show (arrV _ _ _).slots[_]? = _; rw [arrV_read _ _ hlt2, hv]; rfl) rfl rfl hd ?_
          exact kk ρ κ H locs als h1 h2 h3 h4 h5 h6 h7 h8
        · cases hs
      · cases hs
    · cases hs
  · cases hs
theorem sn_iast (hC : xCx p R s m args meth c D A H0 y) (hd : decode (m_bc y) pc = .ok (.iastore, 1)) (hs : x_iast pc ls st w = some (.inl (pc1, ls1, st1, w1))) (kk : xGo p l e R s m args below meth c Qf D A H0 ρ0 κ0 y b pc1 ls1 st1 w1) : xGo p l e R s m args below meth c Qf D A H0 ρ0 κ0 y b pc ls st w := by
  unfold x_iast at hs
  obtain ⟨hx, hb, hml, hown, hts, hin, hR, hA, hK, hy⟩ := hC
  split at hs
  · rename_i x i a r
    split at hs
    · rename_i t n f hrd
      split at hs
      · rename_i hi
        cases hs
        intro ρ κ H locs als h1 h2 h3 h4 h5 h6 h7 h8
        obtain ⟨rfl, hi⟩ := hi
        obtain ⟨hlt, hw⟩ := h6.at hrd (by intro q; cases q)
        refine va_iast hx hb (xK1 hK h6.2.2.2.1 hlt hrd) h6.1 h6.2.1 h6.2.2.1 a 0 hw rfl (x_in_vp hi) hd (fun H1 locs1 hP hD hS => ?_)
        exact kk ρ κ H1 locs1 als h1 h2 h3 h4 h5 (h6.put (cell := .inl (0, n, .inl (upd f i.toNatClampNeg x))) hlt hP hD hS (fun t x h => by cases h; exact ⟨_, hrd⟩)) h7 h8
      · cases hs
    · cases hs
  · cases hs
theorem sn_cast (hC : xCx p R s m args meth c D A H0 y) (hd : decode (m_bc y) pc = .ok (.castore, 1)) (hs : x_cast pc ls st w = some (.inl (pc1, ls1, st1, w1))) (kk : xGo p l e R s m args below meth c Qf D A H0 ρ0 κ0 y b pc1 ls1 st1 w1) : xGo p l e R s m args below meth c Qf D A H0 ρ0 κ0 y b pc ls st w := by
  unfold x_cast at hs
  obtain ⟨hx, hb, hml, hown, hts, hin, hR, hA, hK, hy⟩ := hC
  split at hs
  · rename_i x i a r
    split at hs
    · rename_i t n f hrd
      split at hs
      · rename_i hi
        cases hs
        intro ρ κ H locs als h1 h2 h3 h4 h5 h6 h7 h8
        obtain ⟨rfl, hi⟩ := hi
        obtain ⟨hlt, hw⟩ := h6.at hrd (by intro q; cases q)
        refine va_cast hx hb (xK1 hK h6.2.2.2.1 hlt hrd) h6.1 h6.2.1 h6.2.2.1 a 0 hw rfl (x_in_vp hi) hd (fun H1 locs1 hP hD hS => ?_)
        exact kk ρ κ H1 locs1 als h1 h2 h3 h4 h5 (h6.put (cell := .inl (2, n, .inl (upd f i.toNatClampNeg (vp_nar .char x)))) hlt hP hD hS (fun t x h => by cases h; exact ⟨_, hrd⟩)) h7 h8
      · cases hs
    · cases hs
  · cases hs
theorem sn_last (hC : xCx p R s m args meth c D A H0 y) (hd : decode (m_bc y) pc = .ok (.lastore, 1)) (hs : x_last pc ls st w = some (.inl (pc1, ls1, st1, w1))) (kk : xGo p l e R s m args below meth c Qf D A H0 ρ0 κ0 y b pc1 ls1 st1 w1) : xGo p l e R s m args below meth c Qf D A H0 ρ0 κ0 y b pc ls st w := by
  unfold x_last at hs
  obtain ⟨hx, hb, hml, hown, hts, hin, hR, hA, hK, hy⟩ := hC
  split at hs
  · rename_i x i a r
    split at hs
    · rename_i t n f hrd
      split at hs
      · rename_i hi
        cases hs
        intro ρ κ H locs als h1 h2 h3 h4 h5 h6 h7 h8
        obtain ⟨rfl, hi⟩ := hi
        obtain ⟨hlt, hw⟩ := h6.at hrd (by intro q; cases q)
        refine va_last hx hb (xK1 hK h6.2.2.2.1 hlt hrd) h6.1 h6.2.1 h6.2.2.1 a 0 hw rfl (x_in_vp hi) hd (fun H1 locs1 hP hD hS => ?_)
        exact kk ρ κ H1 locs1 als h1 h2 h3 h4 h5 (h6.put (cell := .inl (1, n, .inr (.inl (vp_updL f i.toNatClampNeg x)))) hlt hP hD hS (fun t x h => by cases h; exact ⟨_, hrd⟩)) h7 h8
      · cases hs
    · cases hs
  · cases hs
theorem sn_aast (hC : xCx p R s m args meth c D A H0 y) (hd : decode (m_bc y) pc = .ok (.aastore, 1)) (hs : x_aast pc ls st w = some (.inl (pc1, ls1, st1, w1))) (kk : xGo p l e R s m args below meth c Qf D A H0 ρ0 κ0 y b pc1 ls1 st1 w1) : xGo p l e R s m args below meth c Qf D A H0 ρ0 κ0 y b pc ls st w := by
  unfold x_aast at hs
  obtain ⟨hx, hb, hml, hown, hts, hin, hR, hA, hK, hy⟩ := hC
  split at hs
  · rename_i x i a r
    split at hs
    · rename_i t n f hrd
      split at hs
      · rename_i hi
        split at hs
        · rename_i fs hrx
          cases hs
          intro ρ κ H locs als h1 h2 h3 h4 h5 h6 h7 h8
          obtain ⟨rfl, hi⟩ := hi
          obtain ⟨hlt, hw⟩ := h6.at hrd (by intro q; cases q)
          obtain ⟨hlx, hwx⟩ := h6.at hrx (by intro q; cases q)
          refine va_astq (r := (x_cn 0, x_T 0, x_fn 0)) hx hb (xK1 hK h6.2.2.2.1 hlt hrd) h6.1 h6.2.1 h6.2.2.1 a 0 x 0 hw rfl hwx (x_cls 0 (by decide)) (x_in_vp hi) hd (fun H1 locs1 hP hD hS => ?_)
          have hset : (fun j => (va_up f i.toNatClampNeg (some x) j).map ρ) = va_up (fun j => (f j).map ρ) i.toNatClampNeg (some (ρ x)) := by
            funext j
            unfold va_up
            by_cases e : j = i.toNatClampNeg
            · rw [if_pos e, if_pos e]; rfl
            · rw [if_neg e, if_neg e]
          rw [← hset] at hP hD
          exact kk ρ κ H1 locs1 als h1 h2 h3 h4 h5 (h6.put (cell := .inl (3, n, .inr (.inr (.inr (.inr (va_up f i.toNatClampNeg (some x))))))) hlt hP hD hS (fun t x h => by cases h; exact ⟨_, hrd⟩)) h7 h8
        · cases hs
      · cases hs
    · cases hs
  · cases hs
theorem sn_alen (hC : xCx p R s m args meth c D A H0 y) (hd : decode (m_bc y) pc = .ok (.arraylength, 1)) (hs : x_alen y pc ls st w = some (.inl (pc1, ls1, st1, w1))) (kk : xGo p l e R s m args below meth c Qf D A H0 ρ0 κ0 y b pc1 ls1 st1 w1) : xGo p l e R s m args below meth c Qf D A H0 ρ0 κ0 y b pc ls st w := by
  unfold x_alen at hs
  obtain ⟨hx, hb, hml, hown, hts, hin, hR, hA, hK, hy⟩ := hC
  split at hs
  · rename_i a r
    split at hs
    · rename_i hi
      cases hs
      intro ρ κ H locs als h1 h2 h3 h4 h5 h6 h7 h8
      obtain ⟨hyl, rfl⟩ := hi
      obtain ⟨s1, s2, s3⟩ := h7 hyl
      exact va_slen hx hb s3 s1 s2 h6.2.2.1 hd (kk ρ κ H locs als h1 h2 h3 h4 h5 h6 h7 h8)
    · cases hs
  · cases hs
end XS
end
section
/-! New cells; what a step keeps; calls; the whole run -/
section XN
variable {p : Program} {l : Launch} {e : Env} {R : Room} {s : State} {m : MethodId} {args : Array Value} {below : List Frame} {meth : Method} {c : Code} {Qf : State → Prop} {D : va_G} {A : Nat → Prop} {H0 : Heap} {ρ0 κ0 : Nat → Nat} {y b pc pc1 : Nat} {ls st ls1 st1 : List Value} {w w1 : xW}
theorem xRel.grow {ρ κ ρ' κ' : Nat → Nat} {H H1 : Heap} {locs locs1 : List Loc} (h : xRel ρ κ D A H0 H locs s w) (hwf : (List.range w.1).all (fun k => x_wfc w.1 (w.2.1 k)) = true) (hle : w.1 ≤ w1.1) (hold : ∀ k, k < w.1 → w1.2.1 k = w.2.1 k) (hdead : x_dead w1) (hρ : ∀ k, k < w.1 ∨ k = x_scr → ρ' k = ρ k) (hκ : ∀ k, k < w.1 → κ' k = κ k) {N : va_W} (hN : N = (List.range (w1.1 - w.1)).map (fun j => (ρ' (w.1 + j), ce ρ' (κ' (w.1 + j)) (w1.2.1 (w.1 + j))))) (hP : va_P D vwCl (wl ρ κ w ++ N) H1) (hD : va_D A (wl ρ κ w ++ N)) (hS : va_S A H0 H1 locs1) (hty : ∀ (k t : Nat) (a : vp_A), w.1 ≤ k → k < w1.1 → w1.2.1 k = .inl (t, a) → ArrOfT s (κ' k) (tyc t) ∧ va_RA s (κ' k) (tyc t)) : xRel ρ' κ' D A H0 H1 locs1 s w1 := by
  obtain ⟨-, -, -, hT, -⟩ := h
  have hlen : (wl ρ κ w).length = w.1 := by simp [wl]
  have key : ∀ (k : Nat) (q : Nat × va_E), (wl ρ' κ' w1)[k]? = some q → ∃ q2, (wl ρ κ w ++ N)[k]? = some q2 ∧ q2.1 = q.1 ∧ (va_at D vwCl q2 H1 → va_at D vwCl q H1) := by
    intro k q hq
    obtain ⟨hk, rfl⟩ := wl_inv hq
    by_cases hk2 : k < w.1
    · refine ⟨_, by rw [List.getElem?_append_left (by rw [hlen]; exact hk2), wl_get hk2], (hρ k (Or.inl hk2)).symm, fun hat => ?_⟩
      have hc : x_wfc w.1 (w.2.1 k) = true := List.all_eq_true.mp hwf k (List.mem_range.mpr hk2)
      rw [hold k hk2, hκ k hk2, hρ k (Or.inl hk2)]
      exact (ce_same hc hρ).2 D vwCl H1 (ρ k) hat
    · refine ⟨(ρ' k, ce ρ' (κ' k) (w1.2.1 k)), ?_, rfl, fun hat => hat⟩
      rw [List.getElem?_append_right (by rw [hlen]; omega), hN, List.getElem?_map, hlen, List.getElem?_range (by omega)]
      show some (ρ' (w.1 + (k - w.1)), _) = _
      rw [show w.1 + (k - w.1) = k by omega]
  refine ⟨fun k q hq => ?_, ⟨fun i j x z hi hj hxz => ?_, fun k q hq => ?_⟩, hS, fun k t a hk ha => ?_, hdead⟩
  · obtain ⟨q2, g1, -, g3⟩ := key k q hq
    exact g3 (hP k q2 g1)
  · obtain ⟨x2, g1, g2, -⟩ := key i x hi
    obtain ⟨z2, g4, g5, -⟩ := key j z hj
    exact hD.1 i j x2 z2 g1 g4 (by rw [g2, g5]; exact hxz)
  · obtain ⟨q2, g1, g2, -⟩ := key k q hq
    rw [← g2]
    exact hD.2 k q2 g1
  · by_cases hk2 : k < w.1
    · rw [hκ k hk2]
      rw [hold k hk2] at ha
      exact hT k t a hk2 ha
    · exact hty k t a (by omega) hk ha
theorem xl_same {ρ ρ' : Nat → Nat} {n : Nat} (h : ls.all (x_wfv n) = true) (hρ : ∀ k, k < n ∨ k = x_scr → ρ' k = ρ k) {als : Array Slot} {N : Nat} (hl : lv_has als N (xl ρ ls)) : lv_has als N (xl ρ' ls) := by
  refine lv_mono hl fun q hq => ?_
  obtain ⟨v, h1, h2, h3⟩ := xl_mem.mp hq
  refine xl_mem.mpr ⟨v, h1, h2, ?_⟩
  rw [h3]
  exact cv_same (List.all_eq_true.mp h v (List.mem_of_getElem? h1)) hρ
theorem x_wf_ok (h : x_wf w ls st = true) : (List.range w.1).all (fun k => x_wfc w.1 (w.2.1 k)) = true ∧ ls.all (x_wfv w.1) = true ∧ st.all (x_wfv w.1) = true ∧ w.1 < 1000 := by
  simp only [x_wf, Bool.and_eq_true, decide_eq_true_eq] at h
  exact ⟨h.1.1.1, h.1.1.2, h.1.2, h.2⟩
/-- behind a step that made cells -/
theorem xGo_grow {r : List Value} (kk : xGo p l e R s m args below meth c Qf D A H0 ρ0 κ0 y b pc1 ls (.ref w.1 :: r) w1) {ρ κ ρ' κ' : Nat → Nat} {H1 : Heap} {locs1 : List Loc} {als : Array Slot} (h1 : b ≤ w.1) (h3 : ∀ k, k < b ∨ k = x_scr → ρ k = ρ0 k) (h4 : ∀ k, k < b → κ k = κ0 k) (h7 : xSc y ρ A H0 s w) (h8 : lv_has als (m_ml y) (xl ρ ls)) (hwf : x_wf w ls r = true) (hlt : w.1 < w1.1) (hb : w1.1 - b ≤ m_mc y) (hρ : ∀ k, k < w.1 ∨ k = x_scr → ρ' k = ρ k) (hκ : ∀ k, k < w.1 → κ' k = κ k) (hrel : xRel ρ' κ' D A H0 H1 locs1 s w1) (hw : w1.2.2 = w.2.2) {cs sl : Nat} (hcs : cs ≤ w1.1 - b) (hsl : sl ≤ 600 * (w1.1 - b)) : W p l e R s m args below meth c H1 locs1 cs sl Qf (F0 m pc1 als (.ref (ρ' w.1) :: r.map (cv ρ))) := by
  obtain ⟨f1, f2, f3, f4⟩ := x_wf_ok hwf
  refine W.widen hcs hsl ?_
  have := kk ρ' κ' H1 locs1 als (by omega) (fun z => absurd z (by omega)) (fun k hk => (hρ k (hk.elim (fun q => Or.inl (by omega)) Or.inr)).trans (h3 k hk)) (fun k hk => (hκ k (by omega)).trans (h4 k hk)) hb hrel (fun hy => by
    obtain ⟨s1, s2, s3⟩ := h7 hy
    rw [hρ _ (Or.inr rfl), hw]
    exact ⟨s1, s2, s3⟩) (xl_same f2 hρ h8)
  rw [List.map_cons, cvs_same f3 hρ] at this
  exact this
theorem x_new_dead {cell : xC} (h : x_dead w) : x_dead (x_new w cell) := fun k hk => by
  have hk' : w.1 + 1 ≤ k := hk
  show (if k = w.1 then cell else w.2.1 k) = _
  rw [if_neg (by omega)]
  exact h k (by omega)
theorem x_new_at {cell : xC} : (x_new w cell).2.1 w.1 = cell := if_pos rfl
theorem x_new_ne {cell : xC} {k : Nat} (h : k ≠ w.1) : (x_new w cell).2.1 k = w.2.1 k := if_neg h
theorem va_up_lt {f : Nat → Nat} {n q k : Nat} (hn : n < 1000) (hk : k < n ∨ k = x_scr) : va_up f n q k = f k := if_neg (by
  rcases hk with h | h
  · omega
  · rw [h]
    unfold x_scr
    omega)
/-- one new cell -/
theorem xGo_new {r : List Value} {cell : xC} (hA : ∀ q, H0.size ≤ q → A q) (kk : xGo p l e R s m args below meth c Qf D A H0 ρ0 κ0 y b pc1 ls (.ref w.1 :: r) (x_new w cell)) {ρ κ : Nat → Nat} {H H1 : Heap} {locs locs1 : List Loc} {als : Array Slot} (h1 : b ≤ w.1) (h3 : ∀ k, k < b ∨ k = x_scr → ρ k = ρ0 k) (h4 : ∀ k, k < b → κ k = κ0 k) (h6 : xRel ρ κ D A H0 H locs s w) (h7 : xSc y ρ A H0 s w) (h8 : lv_has als (m_ml y) (xl ρ ls)) (hwf : x_wf w ls r = true) (hb : w.1 - b + 1 ≤ m_mc y) {q cA N : Nat} {en : va_E} (he : ce (va_up ρ w.1 q) cA cell = en) (hP : va_P D vwCl (wl ρ κ w ++ [(q, en)]) H1) (hD : va_D A (wl ρ κ w ++ [(q, en)])) (hS : va_S A H0 H1 locs1) (hty : ∀ (t : Nat) (a : vp_A), cell = .inl (t, a) → ArrOfT s cA (tyc t) ∧ va_RA s cA (tyc t)) (hN : N ≤ 600) : W p l e R s m args below meth c H1 locs1 (w.1 - b + 1) (600 * (w.1 - b) + N) Qf (F0 m pc1 als (.ref q :: r.map (cv ρ))) := by
  obtain ⟨f1, f2, f3, f4⟩ := x_wf_ok hwf
  have hz : (x_new w cell).1 = w.1 + 1 := rfl
  have hρ : ∀ k, k < w.1 ∨ k = x_scr → va_up ρ w.1 q k = ρ k := fun k hk => va_up_lt f4 hk
  have hκ : ∀ k, k < w.1 → va_up κ w.1 cA k = κ k := fun k hk => va_up_lt f4 (Or.inl hk)
  have hrel : xRel (va_up ρ w.1 q) (va_up κ w.1 cA) D A H0 H1 locs1 s (x_new w cell) := by
    refine h6.grow f1 (by rw [hz]; omega) (fun k hk => x_new_ne (by omega)) (x_new_dead h6.2.2.2.2) hρ hκ ?_ hP hD hS ?_
    · rw [hz, show w.1 + 1 - w.1 = 1 by omega]
      show [(q, en)] = [(va_up ρ w.1 q (w.1 + 0), ce (va_up ρ w.1 q) (va_up κ w.1 cA (w.1 + 0)) ((x_new w cell).2.1 (w.1 + 0)))]
      rw [Nat.add_zero, x_new_at, va_up_self, va_up_self, he]
    · intro k t a hk1 hk2 hx
      have e : k = w.1 := by rw [hz] at hk2; omega
      subst e
      rw [x_new_at] at hx
      rw [va_up_self]
      exact hty t a hx
  have := xGo_grow (ρ := ρ) (κ := κ) kk h1 h3 h4 h7 h8 hwf (by rw [hz]; omega) (by rw [hz]; omega) hρ hκ hrel rfl (cs := w.1 - b + 1) (sl := 600 * (w.1 - b) + N) (by rw [hz]; omega) (by rw [hz]; omega)
  rw [va_up_self] at this
  exact this
theorem x_dfl {ci : Nat} (h : ci < 7) : ∀ j, j < x_fn ci → defaultValue (x_ty ci j) = vp_V (x_df ci) j := by
  intro j hj
  obtain ⟨h1, h2, -⟩ := x_fks ci h j hj
  unfold vp_V x_df
  rw [List.getD_eq_getElem?_getD, List.getElem?_map, h1]
  rcases h2 with e | e | ⟨t, e⟩ | ⟨t, e⟩ <;> rw [e] <;> rfl
theorem x_df_cv {ρ : Nat → Nat} {ci : Nat} : (x_df ci).map (cv ρ) = x_df ci := by
  unfold x_df
  rw [List.map_map]
  apply List.map_congr_left
  intro q _
  show cv ρ (match q.1 with | 0 => .int 0 | 1 => .long 0 | _ => .null) = (match q.1 with | 0 => .int 0 | 1 => .long 0 | _ => .null)
  split <;> rfl
theorem x_fn_le : ∀ c, c < 7 → x_fn c ≤ 600 := by decide +kernel
theorem m_room (hC : xCx p R s m args meth c D A H0 y) : m_dp y ≤ R.frames ∧ 36 * m_dp y ≤ R.locals ∧ m_mc y ≤ R.cells ∧ 600 * m_mc y ≤ R.slots := by
  obtain ⟨-, -, -, -, -, -, hR, -, -, hy⟩ := hC
  rw [hR]
  exact m_rm_ok y hy
theorem sn_nobj (hC : xCx p R s m args meth c D A H0 y) {idx : Nat} (hd : decode (m_bc y) pc = .ok (.new idx, 3)) (hs : x_nobj y b idx pc ls st w = some (.inl (pc1, ls1, st1, w1))) (kk : xGo p l e R s m args below meth c Qf D A H0 ρ0 κ0 y b pc1 ls1 st1 w1) : xGo p l e R s m args below meth c Qf D A H0 ρ0 κ0 y b pc ls st w := by
  unfold x_nobj at hs
  obtain ⟨r1, r2, r3, r4⟩ := m_room hC
  obtain ⟨hx, hb, hml, hown, hts, hin, hR, hA, hK, hy⟩ := hC
  split at hs
  · rename_i ci z hci
    split at hs
    · rename_i hok
      cases hs
      intro ρ κ H locs als h1 h2 h3 h4 h5 h6 h7 h8
      obtain ⟨g1, g2, g3, g4⟩ := x_nl_ok hci
      have hfn := x_fn_le ci g4
      refine va_new (fs := x_df ci) hx hb hts (x_layG _ g4) (x_ty ci) (x_tys _ g4) hown (hts _ g1) (hts _ g2) (hts _ g3) (xK0 hK) h6.1 h6.2.1 h6.2.2.1 hA (x_cls _ g4) (x_dfl g4) (by omega) (by omega) hd (fun q H1 hP hD hS => ?_)
      exact xGo_new hA kk h1 h3 h4 h6 h7 h8 hok.2 hok.1 (cA := 0) (en := .inr (ci, x_df ci)) (by show (Sum.inr (ci, (x_df ci).map _) : va_E) = _; rw [x_df_cv]) hP hD hS (fun t a h => by cases h) hfn
    · cases hs
  · cases hs
theorem xK_last {cA : ClassId} {ty : FieldType} (h : va_K D vwCl ([] ++ [(cA, ty)]) s) : ArrOfT s cA ty ∧ va_RA s cA ty := h.2 0 _ rfl
theorem sn_narr (hC : xCx p R s m args meth c D A H0 y) {t : Jvm.ClassFile.ArrayType} (hd : decode (m_bc y) pc = .ok (.newarray t, 2)) (hs : x_narr y b t pc ls st w = some (.inl (pc1, ls1, st1, w1))) (kk : xGo p l e R s m args below meth c Qf D A H0 ρ0 κ0 y b pc1 ls1 st1 w1) : xGo p l e R s m args below meth c Qf D A H0 ρ0 κ0 y b pc ls st w := by
  unfold x_narr at hs
  obtain ⟨r1, r2, r3, r4⟩ := m_room hC
  obtain ⟨hx, hb, hml, hown, hts, hin, hR, hA, hK, hy⟩ := hC
  obtain ⟨-, -, a1, a2, a3, -⟩ := x_mnaok
  split at hs
  · rename_i n r
    split at hs
    · rename_i hok
      obtain ⟨o1, o2, o3, o4⟩ := hok
      split at hs
      · cases hs
        intro ρ κ H locs als h1 h2 h3 h4 h5 h6 h7 h8
        refine va_newa (atype := .int) (ty := .int) (a0 := (n.toNatClampNeg, .inl (fun _ => 0))) hx hb (hts _ (x_gwI (x_w a2) rfl)) rfl (xK0 hK) h6.1 h6.2.1 h6.2.2.1 hA (fun cA => rfl) o3 rfl (by show _ * 4 ≤ _; omega) (by omega) (by omega) hd (fun q cA H1 hK1 hP hD hS => ?_)
        exact xGo_new hA kk h1 h3 h4 h6 h7 h8 o2 o1 rfl hP hD hS (fun t a h => by cases h; exact xK_last hK1) o4
      · cases hs
        intro ρ κ H locs als h1 h2 h3 h4 h5 h6 h7 h8
        refine va_newa (atype := .char) (ty := .char) (a0 := (n.toNatClampNeg, .inl (fun _ => 0))) hx hb (hts _ (x_gwI (x_w a3) rfl)) rfl (xK0 hK) h6.1 h6.2.1 h6.2.2.1 hA (fun cA => rfl) o3 rfl (by show _ * 2 ≤ _; omega) (by omega) (by omega) hd (fun q cA H1 hK1 hP hD hS => ?_)
        exact xGo_new hA kk h1 h3 h4 h6 h7 h8 o2 o1 rfl hP hD hS (fun t a h => by cases h; exact xK_last hK1) o4
      · cases hs
        intro ρ κ H locs als h1 h2 h3 h4 h5 h6 h7 h8
        refine va_newa (atype := .long) (ty := .long) (a0 := (n.toNatClampNeg, .inr (.inl (fun _ => 0)))) hx hb (hts _ (x_gwI (x_w a1) rfl)) rfl (xK0 hK) h6.1 h6.2.1 h6.2.2.1 hA (fun cA => rfl) o3 rfl (by show _ * 8 ≤ _; omega) (by omega) (by omega) hd (fun q cA H1 hK1 hP hD hS => ?_)
        exact xGo_new hA kk h1 h3 h4 h6 h7 h8 o2 o1 rfl hP hD hS (fun t a h => by cases h; exact xK_last hK1) o4
      · cases hs
    · cases hs
  · cases hs
theorem sn_nref (hC : xCx p R s m args meth c D A H0 y) {idx : Nat} (hd : decode (m_bc y) pc = .ok (.anewarray idx, 3)) (hs : x_nref y b idx pc ls st w = some (.inl (pc1, ls1, st1, w1))) (kk : xGo p l e R s m args below meth c Qf D A H0 ρ0 κ0 y b pc1 ls1 st1 w1) : xGo p l e R s m args below meth c Qf D A H0 ρ0 κ0 y b pc ls st w := by
  unfold x_nref at hs
  obtain ⟨r1, r2, r3, r4⟩ := m_room hC
  obtain ⟨hx, hb, hml, hown, hts, hin, hR, hA, hK, hy⟩ := hC
  split at hs
  · rename_i n r
    split at hs
    · rename_i hok
      obtain ⟨o1, o2, o3, o4, o5⟩ := hok
      cases hs
      intro ρ κ H locs als h1 h2 h3 h4 h5 h6 h7 h8
      obtain ⟨g1, -, -, -⟩ := x_nl_ok o5
      refine va_newq (C := "WeighingDesign$Design") hx hb hown (hts _ g1) hK.2.1 (xK0 hK) h6.1 h6.2.1 h6.2.2.1 hA o3 rfl (by omega) (by omega) (by omega) hd (fun q cA H1 hK1 hP hD hS => ?_)
      exact xGo_new hA kk h1 h3 h4 h6 h7 h8 o2 o1 rfl hP hD hS (fun t a h => by cases h; exact xK_last hK1) o4
    · cases hs
  · cases hs
theorem x_rows_1 (mm : Nat) : ∀ k : Nat, (x_rows w mm k).1 = w.1 + k ∧ (x_rows w mm k).2.2 = w.2.2
  | 0 => ⟨rfl, rfl⟩
  | k + 1 => by
    obtain ⟨h1, h2⟩ := x_rows_1 mm k
    exact ⟨by show (x_rows w mm k).1 + 1 = _; omega, h2⟩
theorem x_rows_at (mm : Nat) : ∀ k j : Nat, (x_rows w mm k).2.1 j = if w.1 ≤ j ∧ j < w.1 + k then .inl (1, mm, .inr (.inl (fun _ => 0))) else w.2.1 j
  | 0, j => by
    rw [if_neg (by omega)]
    rfl
  | k + 1, j => by
    have ih := x_rows_at mm k j
    obtain ⟨h1, -⟩ := x_rows_1 (w := w) mm k
    show (if j = (x_rows w mm k).1 then _ else (x_rows w mm k).2.1 j) = _
    rw [h1, ih]
    by_cases e : j = w.1 + k
    · rw [if_pos e, if_pos (by omega)]
    · rw [if_neg e]
      by_cases e2 : w.1 ≤ j ∧ j < w.1 + k
      · rw [if_pos e2, if_pos (by omega)]
      · rw [if_neg e2, if_neg (by omega)]
theorem x_rows_dead (mm k : Nat) (h : x_dead w) : x_dead (x_rows w mm k) := fun j hj => by
  rw [(x_rows_1 mm k).1] at hj
  rw [x_rows_at, if_neg (by omega)]
  exact h j (by omega)
theorem sn_ngrid (hC : xCx p R s m args meth c D A H0 y) {idx : Nat} (hd : decode (m_bc y) pc = .ok (.multianewarray idx 2, 4)) (hs : x_ngrid y b idx pc ls st w = some (.inl (pc1, ls1, st1, w1))) (kk : xGo p l e R s m args below meth c Qf D A H0 ρ0 κ0 y b pc1 ls1 st1 w1) : xGo p l e R s m args below meth c Qf D A H0 ρ0 κ0 y b pc ls st w := by
  unfold x_ngrid at hs
  obtain ⟨r1, r2, r3, r4⟩ := m_room hC
  obtain ⟨hx, hb, hml, hown, hts, hin, hR, hA, hK, hy⟩ := hC
  obtain ⟨a1, -, a3, -, -, -⟩ := x_mnaok
  split at hs
  · rename_i k n r
    split at hs
    · rename_i hok
      obtain ⟨o1, o2, o3, o4, o5, o6, o7⟩ := hok
      cases hs
      intro ρ κ H locs als h1 h2 h3 h4 h5 h6 h7 h8
      obtain ⟨f1, f2, f3, f4⟩ := x_wf_ok o2
      simp only [x_mna, Bool.and_eq_true, beq_iff_eq] at o7
      obtain ⟨o7, rfl⟩ := o7
      have hcn : m_cn y = x_cn 2 := by rw [← o7]; rfl
      have hcl : (Cond.classLink (m_cn y) 9 ("[" ++ (FieldType.array .long).toString)).before args s = true := by
        rw [hcn]
        exact hts _ (x_gwI (x_w a1) rfl)
      obtain ⟨comp, cc0, kk0, q1, -, -, -, -⟩ := arrayOverA_spec (t := .long) hK.2.2.1
      have hmul : n.toNatClampNeg * k.toNatClampNeg ≤ n.toNatClampNeg * 20 := Nat.mul_le_mul_left _ o6
      generalize hN : n.toNatClampNeg = N at *
      generalize hM : k.toNatClampNeg = M at *
      refine va_mna (X := wl ρ κ w) (L := []) (f := fun _ => .inr (0, [])) (ty := .long) (cy := comp) (z := (M, .inr (.inl (fun _ => 0)))) hx hb hown hcl hK.2.2.1 (hts _ (x_gwI (x_w a3) rfl)) q1 (xK0 hK) (by simpa [va_pl] using h6.1) (by simpa [va_pl] using h6.2.1) h6.2.2.1 hA o3 o5 hN hM (by omega) (by show _ * 8 ≤ _; omega) (by omega) rfl rfl (by omega) (by omega) (fun c => by rw [vp_cell_l, ← arrV_new]; rfl) hd (fun q ra cA H1 hr1 hr2 hK1 hP hD hS => ?_)
      obtain ⟨cA2, kA2, comp2, c1, c2, c3⟩ := Cond.arrayClass_spec (show (Cond.arrayClass .long).before args s = true from hts _ (x_gwI (x_w a3) rfl))
      have ec : some comp = some cA2 := q1.symm.trans c1
      cases ec
      have tyR : ArrOfT s comp .long ∧ va_RA s comp .long := ⟨fun n z => ⟨(fun k h => by cases h), kA2, c2, comp2, c3⟩, c1⟩
      have tyO : ArrOfT s cA (.array .long) ∧ va_RA s cA (.array .long) := xK_last hK1
      obtain ⟨ρ', eρ⟩ : ∃ ρ' : Nat → Nat, ρ' = fun k => if k = w.1 then q else if w.1 < k ∧ k ≤ w.1 + N then ra (k - w.1 - 1) else ρ k := ⟨_, rfl⟩
      obtain ⟨κ', eκ⟩ : ∃ κ' : Nat → Nat, κ' = fun k => if k = w.1 then cA else if w.1 < k ∧ k ≤ w.1 + N then comp else κ k := ⟨_, rfl⟩
      have hρ : ∀ k, k < w.1 ∨ k = x_scr → ρ' k = ρ k := fun k hk => by
        have hk2 : k < w.1 ∨ k = 1000000 := hk
        have hm : N ≤ 20 := o4
        rw [eρ]
        show (if _ then _ else _) = _
        rw [if_neg (by omega), if_neg (by omega)]
      have hκ : ∀ k, k < w.1 → κ' k = κ k := fun k hk => by
        rw [eκ]
        show (if _ then _ else _) = _
        rw [if_neg (by omega), if_neg (by omega)]
      obtain ⟨w2, ew⟩ : ∃ w2 : xW, w2 = x_rows (x_new w (.inl (4, N, .inr (.inr (.inr (.inr (fun i => if i < N then some (w.1 + 1 + i) else none))))))) M N := ⟨_, rfl⟩
      rw [← ew] at kk
      have hz : w2.1 = w.1 + 1 + N ∧ w2.2.2 = w.2.2 := by rw [ew]; exact x_rows_1 M N
      have hat : ∀ j, w2.2.1 j = if w.1 + 1 ≤ j ∧ j < w.1 + 1 + N then .inl (1, M, .inr (.inl (fun _ => 0))) else if j = w.1 then .inl (4, N, .inr (.inr (.inr (.inr (fun i => if i < N then some (w.1 + 1 + i) else none))))) else w.2.1 j := fun j => by rw [ew]; exact x_rows_at M N j
      have hdead : x_dead w2 := by rw [ew]; exact x_rows_dead M N (x_new_dead h6.2.2.2.2)
      have hr0 : ρ' w.1 = q := by rw [eρ]; exact if_pos rfl
      have hrj : ∀ j, j < N → ρ' (w.1 + 1 + j) = ra j := fun j hj => by
        rw [eρ]
        show (if _ then _ else _) = _
        rw [if_neg (by omega), if_pos (by omega)]
        rw [show w.1 + 1 + j - w.1 - 1 = j by omega]
      have hk0 : κ' w.1 = cA := by rw [eκ]; exact if_pos rfl
      have hkj : ∀ j, j < N → κ' (w.1 + 1 + j) = comp := fun j hj => by
        rw [eκ]
        show (if _ then _ else _) = _
        rw [if_neg (by omega), if_pos (by omega)]
      have hNl : [((q, .inl (cA, N, .inr (.inr (.inr (.inr (fun i => if i < N then some (ra i) else none)))))) : Nat × va_E)] ++ va_pl ([] ++ (List.range N).map ra) (vr_up (fun _ => .inr (0, [])) ((List.range N).map ra) (.inl (comp, (M, .inr (.inl (fun _ => 0)))))) = (List.range (w2.1 - w.1)).map (fun j => (ρ' (w.1 + j), ce ρ' (κ' (w.1 + j)) (w2.2.1 (w.1 + j)))) := by
        rw [hz.1, show w.1 + 1 + N - w.1 = N + 1 by omega, List.range_succ_eq_map, List.map_cons, List.map_map]
        show _ :: _ = _ :: _
        congr 1
        · rw [Nat.add_zero, hr0, hk0, hat, if_neg (by omega), if_pos rfl]
          show (q, (Sum.inl (cA, N, _) : va_E)) = (q, Sum.inl (cA, N, _))
          congr 8
          funext j
          show _ = (if j < N then some (w.1 + 1 + j) else none).map ρ'
          by_cases hj : j < N
          · rw [if_pos hj, if_pos hj]
            show _ = some _
            rw [hrj j hj]
          · rw [if_neg hj, if_neg hj]
            rfl
        · unfold va_pl
          rw [List.nil_append, List.map_map]
          apply List.map_congr_left
          intro j hj
          have hj' := List.mem_range.mp hj
          show (ra j, vr_up _ _ _ (ra j)) = (ρ' (w.1 + (j + 1)), ce ρ' (κ' (w.1 + (j + 1))) (w2.2.1 (w.1 + (j + 1))))
          rw [vr_up_in (List.mem_map.mpr ⟨j, hj, rfl⟩), show w.1 + (j + 1) = w.1 + 1 + j by omega, hrj j hj', hkj j hj', hat, if_pos (by omega)]
          rfl
      have hrel : xRel ρ' κ' D A H0 H1 locs s w2 := by
        refine h6.grow f1 (by omega) (fun k hk => by rw [hat, if_neg (by omega), if_neg (by omega)]) hdead hρ hκ hNl.symm.symm (by rw [← List.append_assoc]; exact hP) (by rw [← List.append_assoc]; exact hD) hS ?_
        intro k t a hk1 hk2 hx
        rw [hat] at hx
        by_cases e : k = w.1
        · rw [if_neg (by omega), if_pos e] at hx
          cases hx
          rw [e, hk0]
          exact tyO
        · rw [if_pos (by omega)] at hx
          cases hx
          rw [show k = w.1 + 1 + (k - w.1 - 1) by omega, hkj _ (by omega)]
          exact tyR
      have := xGo_grow (ρ := ρ) (κ := κ) kk h1 h3 h4 h7 h8 o2 (by omega) (by omega) hρ hκ hrel hz.2 (cs := w.1 - b + 1 + N) (sl := 600 * (w.1 - b) + N + N * M) (by omega) (by omega)
      rw [hr0] at this
      exact this
    · cases hs
  · cases hs
end XN
end
section
section XR
variable {p : Program} {l : Launch} {e : Env} {R : Room} {s : State} {m : MethodId} {args : Array Value} {below : List Frame} {meth : Method} {c : Code} {Qf : State → Prop} {D : va_G} {A : Nat → Prop} {H0 : Heap} {ρ0 κ0 : Nat → Nat} {y b pc pc1 : Nat} {ls st ls1 st1 : List Value} {w w1 : xW} {i : Instr}
theorem x_cd_eq (hC : xCx p R s m args meth c D A H0 y) {cd : Jvm.ClassFile.Cond} {off : Int} {x : Int32} {r : List Value} {t : Nat} {H : Heap} {locs : List Loc} {cs sl : Nat} {als : Array Slot} (hd : decode (m_bc y) pc = .ok (.ifCond cd off, 3)) (ht : (pc : Int) + off = (t : Int)) (k1 : x_cd cd x 0 = true → W p l e R s m args below meth c H locs cs sl Qf (F0 m t als r)) (k2 : x_cd cd x 0 = false → W p l e R s m args below meth c H locs cs sl Qf (F0 m (pc + 3) als r)) : W p l e R s m args below meth c H locs cs sl Qf (F0 m pc als (.int x :: r)) := by
  cases cd
  · exact lv_if_eq hC.1 hC.2.1 hd ht (fun h => k1 (by simp [x_cd, h])) (fun h => k2 (by simp [x_cd, h]))
  · exact lv_if_ne hC.1 hC.2.1 hd ht (fun h => k1 (by simpa [x_cd] using h)) (fun h => k2 (by simpa [x_cd] using h))
  · exact lv_if_lt hC.1 hC.2.1 hd ht (fun h => k1 (by simpa [x_cd] using h)) (fun h => k2 (by simpa [x_cd] using h))
  · exact lv_if_ge hC.1 hC.2.1 hd ht (fun h => k1 (by simpa [x_cd] using h)) (fun h => k2 (by simpa [x_cd] using h))
  · exact lv_if_gt hC.1 hC.2.1 hd ht (fun h => k1 (by simpa [x_cd] using h)) (fun h => k2 (by simpa [x_cd] using h))
  · exact lv_if_le hC.1 hC.2.1 hd ht (fun h => k1 (by simpa [x_cd] using h)) (fun h => k2 (by simpa [x_cd] using h))
theorem x_cd_cm (hC : xCx p R s m args meth c D A H0 y) {cd : Jvm.ClassFile.Cond} {off : Int} {x z : Int32} {r : List Value} {t : Nat} {H : Heap} {locs : List Loc} {cs sl : Nat} {als : Array Slot} (hd : decode (m_bc y) pc = .ok (.if_icmp cd off, 3)) (ht : (pc : Int) + off = (t : Int)) (k1 : x_cd cd x z = true → W p l e R s m args below meth c H locs cs sl Qf (F0 m t als r)) (k2 : x_cd cd x z = false → W p l e R s m args below meth c H locs cs sl Qf (F0 m (pc + 3) als r)) : W p l e R s m args below meth c H locs cs sl Qf (F0 m pc als (.int z :: .int x :: r)) := by
  cases cd
  · exact lv_icmp_eq hC.1 hC.2.1 hd ht (fun h => k1 (by simp [x_cd, h])) (fun h => k2 (by simp [x_cd, h]))
  · exact lv_icmp_ne hC.1 hC.2.1 hd ht (fun h => k1 (by simpa [x_cd] using h)) (fun h => k2 (by simpa [x_cd] using h))
  · exact lv_icmp_lt hC.1 hC.2.1 hd ht (fun h => k1 (by simpa [x_cd] using h)) (fun h => k2 (by simpa [x_cd] using h))
  · exact lv_icmp_ge hC.1 hC.2.1 hd ht (fun h => k1 (by simpa [x_cd] using h)) (fun h => k2 (by simpa [x_cd] using h))
  · exact lv_icmp_gt hC.1 hC.2.1 hd ht (fun h => k1 (by simpa [x_cd] using h)) (fun h => k2 (by simpa [x_cd] using h))
  · exact lv_icmp_le hC.1 hC.2.1 hd ht (fun h => k1 (by simpa [x_cd] using h)) (fun h => k2 (by simpa [x_cd] using h))
theorem x_dl {bc : ByteArray} {len : Nat} (h : decode bc pc = .ok (i, len)) (hl : len = xlen i) : decode bc pc = .ok (i, xlen i) := hl ▸ h
theorem lv_cats {ρ : Nat → Nat} {r : List Value} (h : (r.map Value.category).sum ≤ 8) : ((r.map (cv ρ)).map fun v => v.category).sum ≤ 8 := by
  rw [List.map_map, show ((fun v : Value => v.category) ∘ cv ρ) = Value.category from funext fun v => cv_cat ρ v]
  exact h
/-- one step that goes on -/
theorem xs_snd (hC : xCx p R s m args meth c D A H0 y) (hml : ls.length = m_ml y) {len : Nat} (hd : decode (m_bc y) pc = .ok (i, len)) (hlen : len = xlen i ∨ x_isw i) (hs : xs y b pc i ls st w = some (.inl (pc1, ls1, st1, w1))) (kk : xGo p l e R s m args below meth c Qf D A H0 ρ0 κ0 y b pc1 ls1 st1 w1) : xGo p l e R s m args below meth c Qf D A H0 ρ0 κ0 y b pc ls st w := by
  have hC2 := hC
  obtain ⟨hx, hb, hml2, hown, hts, hin, hR, hA, hK, hy⟩ := hC2
  cases i with
  | tableswitch d lo hi offs =>
    simp only [xs] at hs
    split at hs
    · rename_i x r
      split at hs
      · rename_i t ht
        cases hs
        refine xGo_pure hC (fun ρ H locs cs sl als _ _ hl k => ?_) kk
        unfold x_sw at ht
        split at ht
        · rename_i h1
          exact lv_tableOut hx hb hd h1 (x_jmp_ok ht) (k als hl)
        · rename_i h1
          split at ht
          · rename_i o ho
            exact lv_tableIn hx hb hd (fun q => h1 (Or.inl q)) (fun q => h1 (Or.inr q)) ho (x_jmp_ok ht) (k als hl)
          · cases ht
      · cases hs
    · cases hs
  | iconst n =>
    have hl := hlen.resolve_right (fun q => q)
    subst hl
    simp only [xs, x_go] at hs
    cases hs
    exact xGo_pure hC (fun ρ H locs cs sl als _ _ hl k => lv_iconst hx hb hd rfl (k als hl)) kk
  | bipush n =>
    have hl := hlen.resolve_right (fun q => q)
    subst hl
    simp only [xs, x_go] at hs
    cases hs
    exact xGo_pure hC (fun ρ H locs cs sl als _ _ hl k => lv_bipush hx hb hd rfl (k als hl)) kk
  | sipush n =>
    have hl := hlen.resolve_right (fun q => q)
    subst hl
    simp only [xs, x_go] at hs
    cases hs
    exact xGo_pure hC (fun ρ H locs cs sl als _ _ hl k => lv_sipush hx hb hd rfl (k als hl)) kk
  | lconst n =>
    have hl := hlen.resolve_right (fun q => q)
    subst hl
    simp only [xs, x_go] at hs
    cases hs
    exact xGo_pure hC (fun ρ H locs cs sl als _ _ hl k => lv_lconst hx hb hd rfl (k als hl)) kk
  | iload_n k =>
    have hl := hlen.resolve_right (fun q => q)
    subst hl
    exact sn_iload hC (fun h k => lv_iload_n hx hb hd rfl h k) hs kk
  | iload k =>
    have hl := hlen.resolve_right (fun q => q)
    subst hl
    exact sn_iload hC (fun h k => lv_iload hx hb hd h k) hs kk
  | lload_n k =>
    have hl := hlen.resolve_right (fun q => q)
    subst hl
    exact sn_lload hC (fun h k => lv_lload_n hx hb hd rfl h k) hs kk
  | lload k =>
    have hl := hlen.resolve_right (fun q => q)
    subst hl
    exact sn_lload hC (fun h k => lv_lload hx hb hd h k) hs kk
  | aload_n k =>
    have hl := hlen.resolve_right (fun q => q)
    subst hl
    exact sn_aload hC (fun h k => lv_aload_n hx hb hd rfl h k) hs kk
  | istore_n k =>
    have hl := hlen.resolve_right (fun q => q)
    subst hl
    exact sn_istore hC hml (fun h1 h2 h3 k => lv_istore_n hx hb hd rfl h1 h2 h3 k) hs kk
  | istore k =>
    have hl := hlen.resolve_right (fun q => q)
    subst hl
    exact sn_istore hC hml (fun h1 h2 h3 k => lv_istore hx hb hd h1 h2 h3 k) hs kk
  | lstore_n k =>
    have hl := hlen.resolve_right (fun q => q)
    subst hl
    exact sn_lstore hC hml (fun h1 h2 h3 k => lv_lstore_n hx hb hd rfl h1 h2 h3 k) hs kk
  | lstore k =>
    have hl := hlen.resolve_right (fun q => q)
    subst hl
    exact sn_lstore hC hml (fun h1 h2 h3 k => lv_lstore hx hb hd h1 h2 h3 k) hs kk
  | astore_n k =>
    have hl := hlen.resolve_right (fun q => q)
    subst hl
    exact sn_astore hC hml (fun h1 h2 h3 k => lv_astore_n hx hb hd rfl h1 h2 h3 k) hs kk
  | iinc k n =>
    have hl := hlen.resolve_right (fun q => q)
    subst hl
    exact sn_iinc hC hml hd hs kk
  | iadd => exact sn_ii hC (fun k => lv_iadd hx hb (x_dl hd (hlen.resolve_right (fun q => q))) k) hs kk
  | isub => exact sn_ii hC (fun k => lv_isub hx hb (x_dl hd (hlen.resolve_right (fun q => q))) k) hs kk
  | imul => exact sn_ii hC (fun k => lv_imul hx hb (x_dl hd (hlen.resolve_right (fun q => q))) k) hs kk
  | iand => exact sn_ii hC (fun k => lv_iand hx hb (x_dl hd (hlen.resolve_right (fun q => q))) k) hs kk
  | ior => exact sn_ii hC (fun k => lv_ior hx hb (x_dl hd (hlen.resolve_right (fun q => q))) k) hs kk
  | ixor => exact sn_ii hC (fun k => lv_ixor hx hb (x_dl hd (hlen.resolve_right (fun q => q))) k) hs kk
  | ishl => exact sn_ii hC (fun k => lv_ishl hx hb (x_dl hd (hlen.resolve_right (fun q => q))) k) hs kk
  | ishr => exact sn_ii hC (fun k => lv_ishr hx hb (x_dl hd (hlen.resolve_right (fun q => q))) k) hs kk
  | iushr => exact sn_ii hC (fun k => lv_iushr hx hb (x_dl hd (hlen.resolve_right (fun q => q))) rfl k) hs kk
  | ladd => exact sn_ll hC (fun k => lv_ladd hx hb (x_dl hd (hlen.resolve_right (fun q => q))) k) hs kk
  | lsub => exact sn_ll hC (fun k => lv_lsub hx hb (x_dl hd (hlen.resolve_right (fun q => q))) k) hs kk
  | lmul => exact sn_ll hC (fun k => lv_lmul hx hb (x_dl hd (hlen.resolve_right (fun q => q))) k) hs kk
  | idiv =>
    have hl := hlen.resolve_right (fun q => q)
    subst hl
    simp only [xs, x_go] at hs
    split at hs
    · split at hs
      · cases hs
      · rename_i hz
        cases hs
        exact xGo_pure hC (fun ρ H locs cs sl als _ _ hl k => lv_idiv hx hb hd hz (k als hl)) kk
    · cases hs
  | irem =>
    have hl := hlen.resolve_right (fun q => q)
    subst hl
    simp only [xs, x_go] at hs
    split at hs
    · split at hs
      · cases hs
      · rename_i hz
        cases hs
        exact xGo_pure hC (fun ρ H locs cs sl als _ _ hl k => lv_irem hx hb hd hz (k als hl)) kk
    · cases hs
  | ldiv =>
    have hl := hlen.resolve_right (fun q => q)
    subst hl
    simp only [xs, x_go] at hs
    split at hs
    · split at hs
      · cases hs
      · rename_i hz
        cases hs
        exact xGo_pure hC (fun ρ H locs cs sl als _ _ hl k => lv_ldiv hx hb hd hz (k als hl)) kk
    · cases hs
  | lrem =>
    have hl := hlen.resolve_right (fun q => q)
    subst hl
    simp only [xs, x_go] at hs
    split at hs
    · split at hs
      · cases hs
      · rename_i hz
        cases hs
        exact xGo_pure hC (fun ρ H locs cs sl als _ _ hl k => lv_lrem hx hb hd hz (k als hl)) kk
    · cases hs
  | ineg =>
    have hl := hlen.resolve_right (fun q => q)
    subst hl
    simp only [xs, x_go] at hs
    split at hs
    · cases hs
      exact xGo_pure hC (fun ρ H locs cs sl als _ _ hl k => lv_ineg hx hb hd (k als hl)) kk
    · cases hs
  | lneg =>
    have hl := hlen.resolve_right (fun q => q)
    subst hl
    simp only [xs, x_go] at hs
    split at hs
    · cases hs
      exact xGo_pure hC (fun ρ H locs cs sl als _ _ hl k => lv_lneg hx hb hd (k als hl)) kk
    · cases hs
  | lcmp =>
    have hl := hlen.resolve_right (fun q => q)
    subst hl
    simp only [xs, x_go] at hs
    split at hs
    · cases hs
      exact xGo_pure hC (fun ρ H locs cs sl als _ _ hl k => W.lcmp hx hb hd (k als hl)) kk
    · cases hs
  | i2l =>
    have hl := hlen.resolve_right (fun q => q)
    subst hl
    simp only [xs, x_go] at hs
    split at hs
    · cases hs
      exact xGo_pure hC (fun ρ H locs cs sl als _ _ hl k => lv_i2l hx hb hd rfl (k als hl)) kk
    · cases hs
  | i2c =>
    have hl := hlen.resolve_right (fun q => q)
    subst hl
    simp only [xs, x_go] at hs
    split at hs
    · cases hs
      exact xGo_pure hC (fun ρ H locs cs sl als _ _ hl k => lv_i2c hx hb hd rfl (k als hl)) kk
    · cases hs
  | dup =>
    have hl := hlen.resolve_right (fun q => q)
    subst hl
    simp only [xs, x_go] at hs
    split at hs
    · split at hs
      · rename_i hz
        cases hs
        exact xGo_pure hC (fun ρ H locs cs sl als _ _ hl k => lv_dup hx hb hd (by rw [cv_cat]; exact hz) (k als hl)) kk
      · cases hs
    · cases hs
  | dup2 =>
    have hl := hlen.resolve_right (fun q => q)
    subst hl
    simp only [xs, x_go] at hs
    split at hs
    · split at hs
      · rename_i hz
        cases hs
        exact xGo_pure hC (fun ρ H locs cs sl als _ _ hl k => lv_dup2_11 hx hb hd (by rw [cv_cat]; exact hz.1) (by rw [cv_cat]; exact hz.2) (k als hl)) kk
      · cases hs
    · cases hs
  | pop =>
    have hl := hlen.resolve_right (fun q => q)
    subst hl
    simp only [xs, x_go] at hs
    split at hs
    · split at hs
      · rename_i hz
        cases hs
        exact xGo_pure hC (fun ρ H locs cs sl als _ _ hl k => lv_pop hx hb hd (by rw [cv_cat]; exact hz) (k als hl)) kk
      · cases hs
    · cases hs
  | ifCond cd o =>
    have hl := hlen.resolve_right (fun q => q)
    subst hl
    simp only [xs] at hs
    split at hs
    · exact sn_br hC (fun ht k1 k2 => x_cd_eq hC hd ht k1 k2) hs kk
    · cases hs
  | if_icmp cd o =>
    have hl := hlen.resolve_right (fun q => q)
    subst hl
    simp only [xs] at hs
    split at hs
    · exact sn_br hC (fun ht k1 k2 => x_cd_cm hC hd ht k1 k2) hs kk
    · cases hs
  | goto o =>
    have hl := hlen.resolve_right (fun q => q)
    subst hl
    simp only [xs, x_jgo] at hs
    split at hs
    · rename_i t ht
      cases hs
      exact xGo_pure hC (fun ρ H locs cs sl als _ _ hl k => lv_goto hx hb hd (x_jmp_ok ht) (k als hl)) kk
    · cases hs
  | ldc k =>
    have hl := hlen.resolve_right (fun q => q)
    subst hl
    simp only [xs, x_go] at hs
    split at hs
    · rename_i v hv
      cases hs
      exact xGo_pure hC (fun ρ H locs cs sl als _ _ hl k => lv_ldc hx hb hown (hts _ (x_cs_int hv)) hd (k als hl)) kk
    · cases hs
  | ldc_w k =>
    have hl := hlen.resolve_right (fun q => q)
    subst hl
    simp only [xs, x_go] at hs
    split at hs
    · rename_i v hv
      cases hs
      exact xGo_pure hC (fun ρ H locs cs sl als _ _ hl k => lv_ldcw hx hb hown (hts _ (x_cs_int hv)) hd (k als hl)) kk
    · cases hs
  | ldc2_w k =>
    have hl := hlen.resolve_right (fun q => q)
    subst hl
    simp only [xs, x_go] at hs
    split at hs
    · rename_i v hv
      cases hs
      exact xGo_pure hC (fun ρ H locs cs sl als _ _ hl k => lv_ldc2 hx hb hown (hts _ (x_cs_long hv)) hd (k als hl)) kk
    · cases hs
  | getfield k =>
    have hl := hlen.resolve_right (fun q => q)
    subst hl
    simp only [xs] at hs
    split at hs
    · rename_i ci f hf
      exact sn_getf hC hf hd hs kk
    · cases hs
  | putfield k =>
    have hl := hlen.resolve_right (fun q => q)
    subst hl
    simp only [xs] at hs
    split at hs
    · rename_i ci f hf
      exact sn_putf hC hf hd hs kk
    · cases hs
  | iaload => exact sn_iald hC (x_dl hd (hlen.resolve_right (fun q => q))) hs kk
  | caload => exact sn_cald hC (x_dl hd (hlen.resolve_right (fun q => q))) hs kk
  | laload => exact sn_lald hC (x_dl hd (hlen.resolve_right (fun q => q))) hs kk
  | aaload => exact sn_aald hC (x_dl hd (hlen.resolve_right (fun q => q))) hs kk
  | iastore => exact sn_iast hC (x_dl hd (hlen.resolve_right (fun q => q))) hs kk
  | castore => exact sn_cast hC (x_dl hd (hlen.resolve_right (fun q => q))) hs kk
  | lastore => exact sn_last hC (x_dl hd (hlen.resolve_right (fun q => q))) hs kk
  | aastore => exact sn_aast hC (x_dl hd (hlen.resolve_right (fun q => q))) hs kk
  | arraylength => exact sn_alen hC (x_dl hd (hlen.resolve_right (fun q => q))) hs kk
  | new k => exact sn_nobj hC (x_dl hd (hlen.resolve_right (fun q => q))) hs kk
  | newarray t => exact sn_narr hC (x_dl hd (hlen.resolve_right (fun q => q))) hs kk
  | anewarray k => exact sn_nref hC (x_dl hd (hlen.resolve_right (fun q => q))) hs kk
  | multianewarray k n =>
    have hl := hlen.resolve_right (fun q => q)
    subst hl
    simp only [xs] at hs
    split at hs
    · rename_i hn
      subst hn
      exact sn_ngrid hC hd hs kk
    · cases hs
  | invokevirtual k =>
    exfalso
    simp only [xs, x_invV, x_call] at hs
    repeat' split at hs
    all_goals cases hs
  | invokestatic k =>
    have hl := hlen.resolve_right (fun q => q)
    subst hl
    obtain ⟨r1, r2, r3, r4⟩ := m_room hC
    simp only [xs, x_invS, x_call, x_go] at hs
    split at hs
    · repeat' split at hs
      all_goals cases hs
    · repeat' split at hs
      all_goals cases hs
    · rename_i t hk
      obtain ⟨q, w1, w2, w3⟩ := x_ml_ok hk
      split at hs
      · split at hs
        · rename_i hz
          cases hs
          exact xGo_pure hC (fun ρ H locs cs sl als hcs hsl hl k => va_mabs_long hx hb (hml2.trans hl.1.symm) hown (hts _ (x_gwI (x_w w1) rfl)) (hts _ (x_gwI (x_w w2) rfl)) (hts _ (x_gwI (x_w (m_ini_math)) rfl)) (hts _ (x_gwI (x_w w3) rfl)) (by omega) (by have := lv_cats (ρ := ρ) hz.1; omega) hcs hsl hd (k als hl)) kk
        · cases hs
      · cases hs
    · rename_i t hk
      obtain ⟨q, w1, w2, w3⟩ := x_ml_ok hk
      split at hs
      · split at hs
        · rename_i hz
          cases hs
          exact xGo_pure hC (fun ρ H locs cs sl als hcs hsl hl k => va_mmax_long hx hb (hml2.trans hl.1.symm) hown (hts _ (x_gwI (x_w w1) rfl)) (hts _ (x_gwI (x_w w2) rfl)) (hts _ (x_gwI (x_w (m_ini_math)) rfl)) (hts _ (x_gwI (x_w w3) rfl)) (by omega) (by have := lv_cats (ρ := ρ) hz.1; omega) hcs hsl hd (k als hl)) kk
        · cases hs
      · cases hs
    · cases hs
  | invokespecial k =>
    have hl := hlen.resolve_right (fun q => q)
    subst hl
    obtain ⟨r1, r2, r3, r4⟩ := m_room hC
    simp only [xs, x_invI, x_call, x_go] at hs
    split at hs
    · repeat' split at hs
      all_goals cases hs
    · rename_i t hk
      obtain ⟨q, w1, w2, w3⟩ := x_ml_ok hk
      split at hs
      · split at hs
        · rename_i hz
          cases hs
          exact xGo_pure hC (fun ρ H locs cs sl als hcs hsl hl k => W.objInit hx hb hown (hts _ (x_gwI (x_w w1) rfl)) (hts _ (x_gwI (x_w w2) rfl)) (hts _ (x_gwI (x_w w3) rfl)) rfl (hl.1.trans hml2.symm) rfl hd (by omega) (by have := lv_cats (ρ := ρ) hz.1; show 2 * 0 + _ + 12 ≤ _; omega) (k als hl)) kk
        · cases hs
      · cases hs
    · cases hs
  | ireturn =>
    exfalso
    simp only [xs, x_iret, x_ret] at hs
    repeat' split at hs
    all_goals cases hs
  | lreturn =>
    exfalso
    simp only [xs, x_lret, x_ret] at hs
    repeat' split at hs
    all_goals cases hs
  | return_ =>
    exfalso
    simp only [xs, x_vret, x_ret] at hs
    repeat' split at hs
    all_goals cases hs
  | _ =>
    exfalso
    simp only [xs, reduceCtorEq] at hs
end XR
end
section
/-! What a step keeps -/
theorem xs_keep0 {y b pc pc1 : Nat} {i : Instr} {ls st ls1 st1 : List Value} {w w1 : xW} (h : xs y b pc i ls st w = some (.inl (pc1, ls1, st1, w1))) : ls1.length = ls.length ∧ w1.2.2 = w.2.2 ∧ w.1 ≤ w1.1 ∧ (m_mc y = 0 → w1.1 = w.1) := by
  cases i
  all_goals simp only [xs, x_iload, x_lload, x_aload, x_istore, x_lstore, x_astore, x_iinc, x_ii, x_ll, x_br, x_jgo, x_getf, x_putf, x_iald, x_cald, x_lald, x_aald, x_iast, x_cast, x_last, x_aast, x_alen, x_nobj, x_narr, x_nref, x_ngrid, x_invV, x_invS, x_invI, x_call, x_iret, x_lret, x_vret, x_ret, x_go, reduceCtorEq] at h
  all_goals (repeat' split at h)
  all_goals cases h
  all_goals first
    | exact ⟨rfl, rfl, Nat.le_refl _, fun _ => rfl⟩
    | exact ⟨by simp only [List.length_set], rfl, Nat.le_refl _, fun _ => rfl⟩
    | (rename_i hok _; exact ⟨rfl, rfl, Nat.le_succ _, fun z => absurd hok.1 (by omega)⟩)
    | (rename_i hok; exact ⟨rfl, rfl, Nat.le_succ _, fun z => absurd hok.1 (by omega)⟩)
    | (rename_i hok; exact ⟨rfl, (x_rows_1 _ _).2, by rw [(x_rows_1 _ _).1]; show w.1 ≤ w.1 + 1 + _; omega, fun z => absurd hok.1 (by omega)⟩)
theorem x_dead_wr {w : xW} {a : Nat} {c0 c : xC} (h : x_dead w) (hrd : rd w a = c0) (hc : c0 ≠ .inr (99, [])) : x_dead (wr w a c) := fun k hk => by
  have hk' : w.1 ≤ k := hk
  show (if k = a then c else w.2.1 k) = _
  by_cases e : k = a
  · subst e
    exact absurd (hrd.symm.trans (h k hk')) hc
  · rw [if_neg e]
    exact h k hk'
theorem xs_keep {y b pc pc1 : Nat} {i : Instr} {ls st ls1 st1 : List Value} {w w1 : xW} (h : xs y b pc i ls st w = some (.inl (pc1, ls1, st1, w1))) : ls1.length = ls.length ∧ w1.2.2 = w.2.2 ∧ w.1 ≤ w1.1 ∧ (m_mc y = 0 → w1.1 = w.1) ∧ (x_dead w → x_dead w1) := by
  obtain ⟨h1, h2, h3, h4⟩ := xs_keep0 h
  refine ⟨h1, h2, h3, h4, fun z => ?_⟩
  clear h1 h2 h3 h4
  cases i
  all_goals simp only [xs, x_iload, x_lload, x_aload, x_istore, x_lstore, x_astore, x_iinc, x_ii, x_ll, x_br, x_jgo, x_getf, x_putf, x_iald, x_cald, x_lald, x_aald, x_iast, x_cast, x_last, x_aast, x_alen, x_nobj, x_narr, x_nref, x_ngrid, x_invV, x_invS, x_invI, x_call, x_iret, x_lret, x_vret, x_ret, x_go, reduceCtorEq] at h
  all_goals (repeat' split at h)
  all_goals cases h
  all_goals first
    | exact z
    | exact x_new_dead z
    | exact x_rows_dead _ _ (x_new_dead z)
    | (refine x_dead_wr z (by assumption) ?_; intro q; cases q; done)
    | (refine x_dead_wr z (by assumption) ?_; intro q; cases q; rename_i hci; exact absurd hci.2 (Nat.not_lt_zero _))
theorem xs_call {y b pc t : Nat} {i : Instr} {ls st as r : List Value} {w : xW} (h : xs y b pc i ls st w = some (.inr (.inr (t, as, r)))) : m_dp t < m_dp y ∧ t < m_law ∧ (r.map Value.category).sum ≤ 8 ∧ xlen_args as ≤ m_ml t ∧ (m_mc t = 0 ∨ (w.1 - b + m_mc t ≤ m_mc y ∧ x_wf w ls r = true ∧ as.all (x_wfv w.1) = true)) := by
  cases i
  all_goals simp only [xs, x_iload, x_lload, x_aload, x_istore, x_lstore, x_astore, x_iinc, x_ii, x_ll, x_br, x_jgo, x_getf, x_putf, x_iald, x_cald, x_lald, x_aald, x_iast, x_cast, x_last, x_aast, x_alen, x_nobj, x_narr, x_nref, x_ngrid, x_invV, x_invS, x_invI, x_call, x_iret, x_lret, x_vret, x_ret, x_go, reduceCtorEq] at h
  all_goals (repeat' split at h)
  all_goals cases h
  all_goals (rename_i hh; exact ⟨hh.1, hh.2.1, hh.2.2.2.1, hh.2.2.2.2.1, hh.2.2.2.2.2⟩)
theorem xs_ret {y b pc : Nat} {i : Instr} {ls st : List Value} {w : xW} {o : Option Value} (h : xs y b pc i ls st w = some (.inr (.inl o))) : (m_mc y = 0 ∨ y = m_law ∨ w.1 = b + m_mc y) ∧ ((i = .return_ ∧ st = [] ∧ o = none ∧ m_rt y = none) ∨ (∃ v ty, i = .ireturn ∧ st = [.int v] ∧ o = some (.int v) ∧ m_rt y = some ty ∧ narrow ty (.int v) = .int v) ∨ (∃ v, i = .lreturn ∧ st = [.long v] ∧ o = some (.long v) ∧ m_rt y = some .long)) := by
  cases i
  all_goals simp only [xs, x_iload, x_lload, x_aload, x_istore, x_lstore, x_astore, x_iinc, x_ii, x_ll, x_br, x_jgo, x_getf, x_putf, x_iald, x_cald, x_lald, x_aald, x_iast, x_cast, x_last, x_aast, x_alen, x_nobj, x_narr, x_nref, x_ngrid, x_invV, x_invS, x_invI, x_call, x_iret, x_lret, x_vret, x_ret, x_go, reduceCtorEq] at h
  all_goals (repeat' split at h)
  all_goals cases h
  · exact ⟨by assumption, Or.inr (Or.inl ⟨_, .int, rfl, rfl, rfl, by assumption, rfl⟩)⟩
  · rename_i hr hv hm
    refine ⟨hm, Or.inr (Or.inl ⟨_, _, rfl, rfl, rfl, hr, ?_⟩)⟩
    rcases hv with rfl | rfl <;> rfl
  · rename_i hr hv hm
    refine ⟨hm, Or.inr (Or.inl ⟨_, _, rfl, rfl, rfl, hr, ?_⟩)⟩
    show Value.int _ = _
    exact congrArg Value.int hv
  · rename_i hr hm
    exact ⟨hm, Or.inr (Or.inr ⟨_, rfl, rfl, rfl, hr⟩)⟩
  · rename_i hr hm
    exact ⟨hm, Or.inl ⟨rfl, rfl, rfl, hr⟩⟩
theorem x_ent_len {as : List Value} {n : Nat} (h : xlen_args as ≤ n) : (x_ent as n).length = n := by
  unfold x_ent
  rw [List.length_append, List.length_replicate, x_args_len]
  omega
theorem RunP_keep : ∀ (n : Nat) {y b pc : Nat} {ls st : List Value} {w w2 : xW} {o : Option Value}, RunP n y b pc ls st w o w2 → b ≤ w.1 → w2.2.2 = w.2.2 ∧ w.1 ≤ w2.1 ∧ (m_mc y = 0 → w2.1 = w.1) ∧ (m_mc y = 0 ∨ y = m_law ∨ w2.1 = b + m_mc y) ∧ (x_dead w → x_dead w2)
  | 0, _, _, _, _, _, _, _, _, h, _ => h.elim
  | n + 1, y, b, pc, ls, st, w, w2, o, h, hb => by
    obtain ⟨i, len, hd, hl, hs⟩ := h
    cases hx : xs y b pc i ls st w with
    | none => rw [hx] at hs; exact hs.elim
    | some z =>
      rw [hx] at hs
      rcases z with ⟨pc1, ls1, st1, w1⟩ | r | ⟨t, as, r⟩
      · obtain ⟨-, k2, k3, k4, k5⟩ := xs_keep hx
        obtain ⟨g1, g2, g3, g4, g5⟩ := RunP_keep n hs (by omega)
        exact ⟨g1.trans k2, by omega, fun z => (g3 z).trans (k4 z), g4, fun z => g5 (k5 z)⟩
      · obtain ⟨rfl, rfl⟩ := hs
        exact ⟨rfl, Nat.le_refl _, fun _ => rfl, (xs_ret hx).1, fun z => z⟩
      · obtain ⟨o1, w1, h1, h2⟩ := hs
        obtain ⟨-, -, -, -, c5⟩ := xs_call hx
        obtain ⟨k1, k2, k3, k4, k5⟩ := RunP_keep n h1 (Nat.le_refl _)
        obtain ⟨g1, g2, g3, g4, g5⟩ := RunP_keep n h2 (by omega)
        refine ⟨g1.trans k1, by omega, fun z => ?_, g4, fun z => g5 (k5 z)⟩
        have : m_mc t = 0 := by rcases c5 with c5 | c5 <;> omega
        rw [g3 z, k3 this]
/-! A method's contract, out of a run of the small machine -/
def x_ws (t : Nat) : List Cond := Cond.code (m_nm t) (m_bc t) (m_ml t) (m_rt t) :: x_gw
def xQ (ρ κ : Nat → Nat) (D : va_G) (A1 : Nat → Prop) (t : Nat) (w w1 : xW) (o1 : Option Value) : Array Value → State → Outcome → State → Prop := fun _ st oc u => (∃ ρ' κ' : Nat → Nat, (m_mc t = 0 → ρ' = ρ ∧ κ' = κ) ∧ (∀ k, k < w.1 ∨ k = x_scr → ρ' k = ρ k) ∧ (∀ k, k < w.1 → κ' k = κ k) ∧ oc = .returned (o1.map (cv ρ')) ∧ va_P D vwCl (wl ρ' κ' w1) u.heap ∧ va_D A1 (wl ρ' κ' w1) ∧ xTy κ' w1 u) ∧ va_F A1 st u
def xPre (ρ κ : Nat → Nat) (D : va_G) (sz : Nat) (w : xW) (as : List Value) : Array Value → State → Prop := va_Pc (as.map (cv ρ)) (fun U => U.heap.size = sz ∧ va_P D vwCl (wl ρ κ w) U.heap ∧ xKn D U ∧ xTy κ w U ∧ va_D (fun _ => True) (wl ρ κ w))
def xMet (l : Launch) (t : Nat) (as : List Value) (w w1 : xW) (o1 : Option Value) : Prop := ∀ (ρ κ : Nat → Nat) (D : va_G) (sz : Nat), Met l (m_nm t) (x_ws t) (m_rm t) (xPre ρ κ D sz w as) (xQ ρ κ D (va_A (wl ρ κ w) sz) t w w1 o1) (m_mc t) (600 * m_mc t) (va_A (wl ρ κ w) sz)
theorem xPre_blind {ρ κ : Nat → Nat} {D : va_G} {sz : Nat} {w : xW} {as : List Value} : FrameBlind (xPre ρ κ D sz w as) := fun a U g mk q => by
  obtain ⟨q0, q1, qP, qK, qT, qD⟩ := q
  exact ⟨q0, q1, qP, qK.same (u := U) (U := U.calling g mk a) rfl, qT.moved (u := U) (U := U.calling g mk a) (Vm.Alike.refl U.vm), qD⟩
theorem x_good_in {ws : List Cond} (h : ∀ w ∈ ws, w ∈ x_gw) : GoodIn x_gw ws := fun w hw => ⟨h w hw, good_of_word (List.mem_filter.mp (h w hw)).2⟩
theorem x_ws_in {t : Nat} (ht : t < m_law) : ∀ w ∈ x_ws t, w ∈ x_gw := fun w hw => (List.mem_cons.mp hw).elim (fun e => by rw [e]; exact x_gwI (m_code t ht) rfl) (fun h => h)
theorem x_nest : ∀ {c i t : Nat}, (c, i, 6, t) ∈ x_mls → c = 4 ∧ i = 57 ∧ t = 84 := by
  intro c i t h
  have h2 : ∀ q ∈ x_mls, q.2.2.1 = 6 → q.1 = 4 ∧ q.2.1 = 57 ∧ q.2.2.2 = 84 := by decide +kernel
  exact h2 _ h rfl
section XR
variable {p : Program} {l : Launch} {e : Env} {R : Room} {s : State} {m : MethodId} {args : Array Value} {below : List Frame} {meth : Method} {c : Code} {Qf : State → Prop} {D : va_G} {A : Nat → Prop} {H0 : Heap} {ρ0 κ0 : Nat → Nat} {y b pc pc1 : Nat} {ls st ls1 st1 : List Value} {w w1 : xW} {i : Instr}
/-- behind a call -/
theorem xGo_after {t : Nat} {o1 : Option Value} {r : List Value} (hA : ∀ q, H0.size ≤ q → A q) (kk : xGo p l e R s m args below meth c Qf D A H0 ρ0 κ0 y b (pc + 3) ls (rl o1 r) w1) (ht : t ≠ m_law) (hmc : m_mc t = 0 ∨ (w.1 - b + m_mc t ≤ m_mc y ∧ x_wf w ls r = true)) (hgrow : w1.1 = w.1 + m_mc t) (hscr : w1.2.2 = w.2.2) (hdead : x_dead w1) {ρ κ : Nat → Nat} {H : Heap} {locs : List Loc} {als : Array Slot} {st0 : List Value} (h1 : b ≤ w.1) (h2 : m_mc y = 0 → w.1 = b ∧ ρ = ρ0 ∧ κ = κ0) (h3 : ∀ k, k < b ∨ k = x_scr → ρ k = ρ0 k) (h4 : ∀ k, k < b → κ k = κ0 k) (h5 : w.1 - b ≤ m_mc y) (h6 : xRel ρ κ D A H0 H locs s w) (h7 : xSc y ρ A H0 s w) (h8 : lv_has als (m_ml y) (xl ρ ls)) {av : Array Value} (hr : va_Run p l e R s m args below meth c H locs (w.1 - b) (600 * (w.1 - b)) (m_mc t) (600 * m_mc t) (F0 m pc als st0) (r.map (cv ρ)) (xQ ρ κ D (va_A (wl ρ κ w) H.size) t w w1 o1 av) (va_A (wl ρ κ w) H.size)) : W p l e R s m args below meth c H locs (w.1 - b) (600 * (w.1 - b)) Qf (F0 m pc als st0) := by
  intro T hT X
  obtain ⟨v, st₀, u, T', L, g0, X', hL, e1, e2, ⟨⟨ρ', κ', q1, q2, q3, hv, qP, qD, qT⟩, hz, hk⟩, stp⟩ := hr T hT X
  rw [g0] at hz hk
  have hv' : v = o1.map (cv ρ') := Outcome.returned.inj hv
  have hAA : ∀ q, va_A (wl ρ κ w) H.size q → A q := fun q hq => by
    rcases hq with ⟨k, en, hq⟩ | hq
    · exact h6.2.1.2 k (q, en) hq
    · exact hA q (Nat.le_trans h6.2.2.1.1 hq)
  have hS : va_S A H0 T'.heap (locs ++ L) := ⟨Nat.le_trans h6.2.2.1.1 (by rw [e1]; exact hz), fun q a1 a2 => by
      rw [e1, hk q (Nat.lt_of_lt_of_le a1 h6.2.2.1.1) (fun z => a2 (hAA q z))]
      exact h6.2.2.1.2.1 q a1 a2, fun q hq => by
      rcases List.mem_append.mp hq with h | h
      · exact h6.2.2.1.2.2 q h
      · exact hAA _ (hL q h)⟩
  have hal : u.vm.Alike s.vm := by rw [← e2]; exact X'.warmed.alike.symm
  have hrel : xRel ρ' κ' D A H0 T'.heap (locs ++ L) s w1 := ⟨by rw [e1]; exact qP, qD.weaken (fun _ q _ h => hAA q.1 h), hS, qT.moved hal, hdead⟩
  have hst : v.toList ++ r.map (cv ρ) = (rl o1 r).map (cv ρ') := by
    have hr' : r.map (cv ρ) = r.map (cv ρ') := by
      rcases hmc with h | h
      · rw [(q1 h).1]
      · exact (cvs_same (x_wf_ok h.2).2.2.1 q2).symm
    rw [hv', hr']
    cases o1 <;> rfl
  have hls : lv_has als (m_ml y) (xl ρ' ls) := by
    rcases hmc with h | h
    · rw [(q1 h).1]
      exact h8
    · exact xl_same (x_wf_ok h.2).2.1 q2 h8
  have K := kk ρ' κ' T'.heap (locs ++ L) als (by omega) (fun z => by
      obtain ⟨z1, z2, z3⟩ := h2 z
      have hm : m_mc t = 0 := by rcases hmc with h | h <;> omega
      exact ⟨by omega, (q1 hm).1.trans z2, (q1 hm).2.trans z3⟩) (fun k hk => (q2 k (hk.elim (fun z => Or.inl (by omega)) Or.inr)).trans (h3 k hk)) (fun k hk => (q3 k (by omega)).trans (h4 k hk)) (by rcases hmc with h | h <;> omega) hrel (fun hy => by
      obtain ⟨s1, s2, s3⟩ := h7 hy
      rw [q2 _ (Or.inr rfl), hscr]
      exact ⟨s1, s2, s3⟩) hls
  have X2 : Stand p l e R s m args below meth c T' (locs ++ L) (w1.1 - b) (600 * (w1.1 - b)) := by
    have a1 : w.1 - b + m_mc t = w1.1 - b := by omega
    have a2 : 600 * (w.1 - b) + 600 * m_mc t = 600 * (w1.1 - b) := by omega
    have X3 := X'
    rw [a1, a2] at X3
    exact X3
  obtain ⟨t2, b1, b2⟩ := K T' rfl X2
  refine ⟨t2, stp t2 ?_, b2⟩
  show Steps p.tables e below (T'.setTop (F0 m (pc + 3) als (v.toList ++ r.map (cv ρ)))) t2
  rw [hst]
  exact b1
theorem m_mc_rm {t : Nat} (ht : t ≠ m_law) : (m_rm t).cells = m_mc t ∧ (m_rm t).slots = 600 * m_mc t ∧ (m_rm t).frames = m_dp t ∧ (m_rm t).locals = 36 * m_dp t := by
  unfold m_rm
  rw [if_neg ht]
  exact ⟨rfl, rfl, rfl, rfl⟩
theorem x_take {n : Nat} {a : Value} {r : List Value} (h : st.drop n = a :: r) : st = st.take n ++ a :: r := by
  rw [← h, List.take_append_drop]
/-- one step that calls -/
theorem xs_inv (hC : xCx p R s m args meth c D A H0 y) (hml : ls.length = m_ml y) {len t : Nat} {as r : List Value} {o1 : Option Value} (hd : decode (m_bc y) pc = .ok (i, len)) (hlen : len = xlen i ∨ x_isw i) (hs : xs y b pc i ls st w = some (.inr (.inr (t, as, r)))) (hM : xMet l t as w w1 o1) (hgrow : w1.1 = w.1 + m_mc t) (hscr : w1.2.2 = w.2.2) (hdead : x_dead w1) (kk : xGo p l e R s m args below meth c Qf D A H0 ρ0 κ0 y b (pc + 3) ls (rl o1 r) w1) : xGo p l e R s m args below meth c Qf D A H0 ρ0 κ0 y b pc ls st w := by
  obtain ⟨c1, c2, c3, c4, c5⟩ := xs_call hs
  have htl : t ≠ m_law := by omega
  obtain ⟨r1, r2, r3, r4⟩ := m_room hC
  obtain ⟨z1, z2, z3, z4⟩ := m_mc_rm htl
  obtain ⟨hx, hb, hml2, hown, hts, hin, hR, hA, hK, hy⟩ := hC
  obtain ⟨f1, f2, f3, f4, f5⟩ := m_facts t c2
  have hini := hts _ (x_gwI (x_w (m_ini t c2)) rfl)
  have hRR : (m_rm t).frames + 1 ≤ R.frames ∧ 8 + (m_ml t + 11) + (m_rm t).locals ≤ R.locals := by rw [z3, z4]; omega
  have hfit : w.1 - b ≤ m_mc y → (w.1 - b + m_mc t ≤ R.cells ∧ 600 * (w.1 - b) + 600 * m_mc t ≤ R.slots) := fun h5 => by rcases c5 with h | h <;> omega
  have hmc : m_mc t = 0 ∨ (w.1 - b + m_mc t ≤ m_mc y ∧ x_wf w ls r = true) := c5.elim Or.inl (fun h => Or.inr ⟨h.1, h.2.1⟩)
  cases i with
  | invokevirtual idx =>
    have hl := hlen.resolve_right (fun q => q)
    subst hl
    simp only [xs, x_invV] at hs
    split at hs
    · rename_i t' hk
      split at hs
      · rename_i a r' hst
        split at hs
        · rename_i cc fs hrd
          split at hs
          · rename_i hcc
            obtain ⟨q1, q2, q3⟩ := hcc
            simp only [x_call] at hs
            split at hs
            · cases hs
              obtain ⟨pz, w1', w2', w3', -⟩ := x_ml_ok hk
              intro ρ κ H locs als h1 h2 h3 h4 h5 h6 h7 h8
              obtain ⟨hlt, hw⟩ := h6.at hrd (by intro q; cases q; rw [← q1] at q2; omega)
              have hG : GoodIn x_gw (wsV (m_cn y) idx (m_cn t) (m_nm t) (x_ws t)) := x_good_in (fun wd hwd => by
                rcases List.mem_append.mp hwd with h | h
                · rcases List.mem_cons.mp h with h | h
                  · rw [h]; exact x_gwI (x_w w1') rfl
                  · rcases List.mem_cons.mp h with h | h
                    · rw [h]; exact x_gwI (x_w w2') rfl
                    · rcases List.mem_cons.mp h with h | h
                      · rw [h]; exact x_gwI (x_w w3') rfl
                      · rw [List.mem_singleton.mp h]; exact x_gwI (x_w (m_ini t c2)) rfl
                · exact x_ws_in c2 wd h)
              have hrun := va_runV (e := e) (below := below) (meth := meth) (locs := locs) (g := F0 m pc als (st.map (cv ρ))) (b := ρ a) (As := ((st.take (m_np t)).reverse).map (cv ρ)) (rest := r.map (cv ρ)) ⟨hx, hb, hml2, hown, hts⟩ (hM ρ κ D H.size) (cwV (m_np t) hts hG rfl z1 z2 ⟨rfl, f2, f3, f4⟩ hRR) ⟨xPre_blind, by
                  have := va_recv (xK0 hK) h6.1 (x_cls _ (by rw [q1]; exact q2)) hw
                  rw [q1] at this
                  exact this, fun U hU hW => ⟨rfl, by rw [hU], by rw [hU]; exact h6.1, hK.warm hW, h6.2.2.2.1.moved hW.alike, h6.2.1.weaken (fun _ _ _ _ => trivial)⟩⟩ rfl (by rw [List.length_map, List.length_reverse]; exact q3) h8.1 (by
                  show st.map (cv ρ) = _
                  conv => lhs; rw [x_take hst]
                  rw [List.map_append, List.map_reverse, List.reverse_reverse]
                  rfl) (lv_room (lv_cats c3)) hd (hfit h5)
              exact xGo_after hA kk htl hmc hgrow hscr hdead h1 h2 h3 h4 h5 h6 h7 h8 hrun
            · cases hs
          · cases hs
        · cases hs
      · cases hs
    · cases hs
  | invokestatic idx =>
    have hl := hlen.resolve_right (fun q => q)
    subst hl
    simp only [xs, x_invS, x_go] at hs
    split at hs
    · rename_i t' hk
      split at hs
      · rename_i q3
        simp only [x_call] at hs
        split at hs
        · cases hs
          obtain ⟨pz, w1', w2', -⟩ := x_ml_ok hk
          intro ρ κ H locs als h1 h2 h3 h4 h5 h6 h7 h8
          have hrun := va_runS (e := e) (below := below) (meth := meth) (locs := locs) (g := F0 m pc als (st.map (cv ρ))) (As := ((st.take (m_np t)).reverse).map (cv ρ)) (rest := (st.drop (m_np t)).map (cv ρ)) ⟨hx, hb, hml2, hown, hts⟩ (hM ρ κ D H.size) ⟨callB_of (own := m_cn y) (m_np t) hts (x_good_in (x_ws_in c2)) rfl z1 z2 hini (hts _ (x_gwI (x_w w1') rfl)) ⟨f2, f3, f4⟩ hRR, hts _ (x_gwI (x_w w2') rfl)⟩ ⟨xPre_blind, fun U hU hW => ⟨rfl, by rw [hU], by rw [hU]; exact h6.1, hK.warm hW, h6.2.2.2.1.moved hW.alike, h6.2.1.weaken (fun _ _ _ _ => trivial)⟩⟩ rfl (by rw [List.length_map, List.length_reverse]; exact q3) h8.1 (by
              show st.map (cv ρ) = _
              rw [List.map_reverse, List.reverse_reverse, ← List.map_append, List.take_append_drop]) (lv_room (lv_cats c3)) hd (hfit h5)
          exact xGo_after hA kk htl hmc hgrow hscr hdead h1 h2 h3 h4 h5 h6 h7 h8 hrun
        · cases hs
      · cases hs
    · rename_i t' hk
      split at hs
      · rename_i q3
        simp only [x_call] at hs
        split at hs
        · cases hs
          obtain ⟨pz, w1', w2', -⟩ := x_ml_ok hk
          intro ρ κ H locs als h1 h2 h3 h4 h5 h6 h7 h8
          have hrun := va_runSN (e := e) (below := below) (meth := meth) (locs := locs) (g := F0 m pc als (st.map (cv ρ))) (host := "WeighingDesign") (As := ((st.take (m_np t)).reverse).map (cv ρ)) (rest := (st.drop (m_np t)).map (cv ρ)) ⟨hx, hb, hml2, hown, hts⟩ (hM ρ κ D H.size) ⟨va_cnB (own := m_cn y) (m_np t) hts (x_good_in (x_ws_in c2)) rfl z1 z2 (by
                obtain ⟨n1, n2, n3⟩ := x_nest (x_find_mem _ hk)
                rw [show m_cn y = x_cn 4 from congrArg x_cn n1, n2, show t = 84 from n3]
                exact hK.2.2.2) hini ⟨f2, f3, f4⟩ hRR, hts _ (x_gwI (x_w w2') rfl), trivial⟩ ⟨xPre_blind, fun U hU hW => ⟨rfl, by rw [hU], by rw [hU]; exact h6.1, hK.warm hW, h6.2.2.2.1.moved hW.alike, h6.2.1.weaken (fun _ _ _ _ => trivial)⟩⟩ rfl (by rw [List.length_map, List.length_reverse]; exact q3) h8.1 (by
              show st.map (cv ρ) = _
              rw [List.map_reverse, List.reverse_reverse, ← List.map_append, List.take_append_drop]) (lv_room (lv_cats c3)) hd (hfit h5)
          exact xGo_after hA kk htl hmc hgrow hscr hdead h1 h2 h3 h4 h5 h6 h7 h8 hrun
        · cases hs
      · cases hs
    · repeat' split at hs
      all_goals cases hs
    · repeat' split at hs
      all_goals cases hs
    · cases hs
  | invokespecial idx =>
    have hl := hlen.resolve_right (fun q => q)
    subst hl
    simp only [xs, x_invI, x_go] at hs
    split at hs
    · rename_i t' hk
      split at hs
      · rename_i a r' hst
        split at hs
        · rename_i q3
          simp only [x_call] at hs
          split at hs
          · cases hs
            obtain ⟨pz, w1', w2', w3', w4', w5'⟩ := x_ml_ok hk
            intro ρ κ H locs als h1 h2 h3 h4 h5 h6 h7 h8
            have hrun := va_runI (e := e) (below := below) (meth := meth) (locs := locs) (g := F0 m pc als (st.map (cv ρ))) (b := ρ a) (As := ((st.take (m_np t)).reverse).map (cv ρ)) (rest := r.map (cv ρ)) (ws := x_ws t) (bytes := m_bc t) (maxL := m_ml t) ⟨hx, hb, hml2, hown, hts⟩ (hM ρ κ D H.size) (cwI (own := m_cn y) (ws' := x_gw) (m_np t) hts (x_good_in (x_ws_in c2)) (by unfold x_ws; rw [w5']) z1 z2 hini (hts _ (x_gwI (x_w w1') rfl)) (hts _ (x_gwI (x_w w2') rfl)) w3' ⟨f2, f3, f4⟩ hRR) ⟨xPre_blind, fun U hU hW => ⟨rfl, by rw [hU], by rw [hU]; exact h6.1, hK.warm hW, h6.2.2.2.1.moved hW.alike, h6.2.1.weaken (fun _ _ _ _ => trivial)⟩⟩ rfl (by rw [List.length_map, List.length_reverse]; exact q3) h8.1 (by
                show st.map (cv ρ) = _
                conv => lhs; rw [x_take hst]
                rw [List.map_append, List.map_reverse, List.reverse_reverse]
                rfl) (lv_room (lv_cats c3)) hd (hfit h5)
            exact xGo_after hA kk htl hmc hgrow hscr hdead h1 h2 h3 h4 h5 h6 h7 h8 hrun
          · cases hs
        · cases hs
      · cases hs
    · repeat' split at hs
      all_goals cases hs
    · cases hs
  | _ =>
    exfalso
    simp only [xs, x_iload, x_lload, x_aload, x_istore, x_lstore, x_astore, x_iinc, x_ii, x_ll, x_br, x_jgo, x_getf, x_putf, x_iald, x_cald, x_lald, x_aald, x_iast, x_cast, x_last, x_aast, x_alen, x_nobj, x_narr, x_nref, x_ngrid, x_invV, x_invS, x_invI, x_call, x_iret, x_lret, x_vret, x_ret, x_go, reduceCtorEq] at hs
    repeat' split at hs
    all_goals cases hs
end XR
end
section
/-! A run of the small machine is a run of the claim's -/
def xTp (y : Nat) (i : Instr) (st : List Value) (o : Option Value) : Prop := (i = .return_ ∧ st = [] ∧ o = none ∧ m_rt y = none) ∨ (∃ v ty, i = .ireturn ∧ st = [.int v] ∧ o = some (.int v) ∧ m_rt y = some ty ∧ narrow ty (.int v) = .int v) ∨ (∃ v, i = .lreturn ∧ st = [.long v] ∧ o = some (.long v) ∧ m_rt y = some .long)
/-- what is owed at a method's end -/
def xRt (p : Program) (l : Launch) (e : Env) (R : Room) (s : State) (m : MethodId) (args : Array Value) (below : List Frame) (meth : Method) (c : Code) (Qf : State → Prop) (D : va_G) (A : Nat → Prop) (H0 : Heap) (ρ0 κ0 : Nat → Nat) (y b : Nat) (o : Option Value) (w2 : xW) : Prop :=
  ∀ (ρ κ : Nat → Nat) (H : Heap) (locs : List Loc) (als : Array Slot) (pc : Nat) (i : Instr) (st : List Value), decode (m_bc y) pc = .ok (i, 1) → xTp y i st o → (m_mc y = 0 → w2.1 = b ∧ ρ = ρ0 ∧ κ = κ0) → (∀ k, k < b ∨ k = x_scr → ρ k = ρ0 k) → (∀ k, k < b → κ k = κ0 k) → b ≤ w2.1 → w2.1 - b ≤ m_mc y → xRel ρ κ D A H0 H locs s w2 → W p l e R s m args below meth c H locs (w2.1 - b) (600 * (w2.1 - b)) Qf (F0 m pc als (st.map (cv ρ)))
def xSnd (l : Launch) (n : Nat) : Prop := ∀ {y b pc : Nat} {ls st : List Value} {w w2 : xW} {o : Option Value}, RunP n y b pc ls st w o w2 → y ≤ m_law → ls.length = m_ml y → ∀ {p : Program} {e : Env} {R : Room} {s : State} {m : MethodId} {args : Array Value} {below : List Frame} {meth : Method} {c : Code} {Qf : State → Prop} {D : va_G} {A : Nat → Prop} {H0 : Heap} {ρ0 κ0 : Nat → Nat}, xCx p R s m args meth c D A H0 y → xRt p l e R s m args below meth c Qf D A H0 ρ0 κ0 y b o w2 → xGo p l e R s m args below meth c Qf D A H0 ρ0 κ0 y b pc ls st w
set_option maxHeartbeats 1000000 in
theorem xMet_of {l : Launch} {n t : Nat} {as : List Value} {w w1 : xW} {o1 : Option Value} (IH : xSnd l n) (h : RunP n t w.1 0 (x_ent as (m_ml t)) [] w o1 w1) (ht : t < m_law) (has : xlen_args as ≤ m_ml t) (hdead : x_dead w) : xMet l t as w w1 o1 := by
  obtain ⟨k1, k2, k3, k4, k5⟩ := RunP_keep n h (Nat.le_refl _)
  have htl : t ≠ m_law := by omega
  have hmc : w1.1 - w.1 = m_mc t := by
    rcases k4 with z | z | z
    · have := k3 z
      omega
    · exact absurd z htl
    · omega
  intro ρ κ D sz
  obtain ⟨f1, f2, f3, f4, f5⟩ := m_facts t ht
  refine Met.ofW (cc := m_bc t) (maxL := m_ml t) (ret := m_rt t) f1 rfl ?_
  intro p e s m args below meth c s₁ B hml hv
  obtain ⟨rfl, hsz, hP, hK, hT, hD0⟩ := hv
  have hx := B.exec
  have hb := B.bytes
  have hr := B.returns
  have hts := atoms_spec (ws := x_ws t) B.pre
  have hts2 : ∀ w ∈ x_gw, w.before (as.map (cv ρ)).toArray s = true := fun wd hw => hts wd (List.mem_cons_of_mem _ hw)
  have hown : s.vm.findClass (m_cn t) = some m.cls := findClass_of_methodNamed B.named
  have hlocks := B.notSynchronized
  have hin : m_in t = true → meth.name = "<init>" := fun q => by
    have h1 := (name_of_methodNamed B.named B.method).1
    rw [h1]
    have q2 : (m_nd t).1 = "<init>" := by simpa [m_in] using q
    exact q2
  subst hsz
  have hD := hD0.self (sz := s.heap.size)
  have hA : ∀ q : Nat, s.heap.size ≤ q → va_A (wl ρ κ w) s.heap.size q := fun q h => Or.inr h
  have hCx : xCx p (m_rm t) s m (as.map (cv ρ)).toArray meth c D (va_A (wl ρ κ w) s.heap.size) s.heap t := ⟨hx, hb, hml, hown, hts2, hin, rfl, hA, hK, by omega⟩
  rw [lg_entry_eq]
  have hrel : xRel ρ κ D (va_A (wl ρ κ w) s.heap.size) s.heap s.heap [] s w := ⟨hP, hD, va_S.rf, hT, hdead⟩
  have K := IH (p := p) (e := e) (R := m_rm t) (s := s) (m := m) (args := (as.map (cv ρ)).toArray) (below := below) (meth := meth) (c := c) (Qf := MQ below (xQ ρ κ D (va_A (wl ρ κ w) s.heap.size) t w w1 o1) (as.map (cv ρ)).toArray s (m_mc t) (600 * m_mc t) (va_A (wl ρ κ w) s.heap.size)) (ρ0 := ρ) (κ0 := κ) h (by omega) (x_ent_len has) hCx (by
    intro ρ' κ' H locs als pc i st hd htp g1 g2 g3 g4 g5 g6
    rw [hmc]
    have hq : ∀ (oc : Outcome), oc = .returned (o1.map (cv ρ')) → ∀ u : State, u.heap = H → s.WarmedH u.vm → xQ ρ κ D (va_A (wl ρ κ w) s.heap.size) t w w1 o1 (as.map (cv ρ)).toArray s oc u := fun oc hoc u hu hW => ⟨⟨ρ', κ', fun z => (g1 z).2, g2, g3, hoc, by rw [hu]; exact g6.1, g6.2.1, g6.2.2.2.1.moved hW.alike⟩, g6.2.2.1.F hu⟩
    rcases htp with ⟨rfl, rfl, rfl, e4⟩ | ⟨v, ty, rfl, rfl, rfl, e4, e5⟩ | ⟨v, rfl, rfl, rfl, e4⟩
    · exact W.vret hx hb (hr.trans e4) (hq _ rfl) g6.2.2.1.2.2 hd
    · exact W.zret hx hb (hr.trans e4) e5 (hq _ rfl) g6.2.2.1.2.2 hd
    · exact W.lret hx hb (hr.trans e4) (hq _ rfl) g6.2.2.1.2.2 hd)
  have K2 := K ρ κ s.heap [] _ (Nat.le_refl _) (fun _ => ⟨rfl, rfl, rfl⟩) (fun _ _ => rfl) (fun _ _ => rfl) (by omega) hrel (fun z => absurd z htl) (xl_ent has)
  rw [Nat.sub_self] at K2
  exact K2
theorem snd (l : Launch) : ∀ n : Nat, xSnd l n := by
  intro n
  induction n with
  | zero => exact fun h => h.elim
  | succ n ih =>
    intro y b pc ls st w w2 o h hy hml p e R s m args below meth c Qf D A H0 ρ0 κ0 hC hrt
    obtain ⟨i, len, hd, hl, hs⟩ := h
    cases hx : xs y b pc i ls st w with
    | none => rw [hx] at hs; exact hs.elim
    | some z =>
      rw [hx] at hs
      rcases z with ⟨pc1, ls1, st1, w1⟩ | r | ⟨t, as, r⟩
      · obtain ⟨k1, -, -, -, -⟩ := xs_keep hx
        exact xs_snd hC hml hd hl hx (ih hs hy (k1.trans hml) hC hrt)
      · obtain ⟨rfl, rfl⟩ := hs
        obtain ⟨k1, k2⟩ := xs_ret hx
        intro ρ κ H locs als h1 h2 h3 h4 h5 h6 h7 h8
        have hd1 : decode (m_bc y) pc = .ok (i, 1) := by
          rcases k2 with ⟨rfl, -⟩ | ⟨v, ty, rfl, -⟩ | ⟨v, rfl, -⟩ <;> exact x_dl hd (hl.resolve_right (fun q => q))
        exact hrt ρ κ H locs als pc i st hd1 k2 h2 h3 h4 h1 h5 h6
      · obtain ⟨o1, w1, g1, g2⟩ := hs
        obtain ⟨c1, c2, c3, c4, c5⟩ := xs_call hx
        obtain ⟨k1, k2, k3, k4, k5⟩ := RunP_keep n g1 (Nat.le_refl _)
        intro ρ κ H locs als h1 h2 h3 h4 h5 h6 h7 h8
        have hM := xMet_of ih g1 c2 c4 h6.2.2.2.2
        have hgrow : w1.1 = w.1 + m_mc t := by
          rcases k4 with z | z | z
          · have := k3 z
            omega
          · omega
          · exact z
        exact xs_inv hC hml hd hl hx hM hgrow k1 (k5 h6.2.2.2.2) (ih g2 hy hml hC hrt) ρ κ H locs als h1 h2 h3 h4 h5 h6 h7 h8
/-! The law: its start -/
def x_w0 (L : Nat) (sc : Nat → Int32) : xW := (0, fun _ => .inr (99, []), (L, sc))
def xLaw (L : Nat) (sc : Nat → Int32) : Prop := ∃ (n : Nat) (w2 : xW), RunP n m_law 0 0 [.ref x_scr, x_no, x_no, x_no] [] (x_w0 L sc) (some (.int 1)) w2
end
section
/-! THE CLAIM OUT OF ONE WALK OF THE LAW'S BODY. Your part is whole_start (and what it stands on); all else here is the same for every law, but numbers. -/
def R_law : String := "WeighingDesignLaw"
def lw_P (b : Addr) (xs : List Int32) (args : Array Value) (s : State) : Prop := args = #[.ref b] ∧ s.IntsAt b xs ∧ xs.length ≤ 2560 ∧ (Jvm.Cond.and given_1 narrow_1).before args s = true
def lw_Q (_ : Array Value) (s : State) (o : Outcome) (t : State) : Prop := o = .returned (some (.int 1)) ∧ Framed s o t [] 600000 7302250
def lw_Z (below : List Frame) (a : Array Value) (s : State) : State → Prop := fun t => ∃ o, t.status = .running ∧ Ended t below o ∧ lw_Q a s o t
/-- the law's own end, with 1 on the stack, nothing written that was there before, its room as the claim has it -/
theorem lw_ret {p : Program} {l : Launch} {e : Env} {s : State} {m : MethodId} {below : List Frame} {meth : Method} {c : Code} {b : Nat} (hx : p.tables.exec = Jvm.exec) (hb : c.code = code) (hr : meth.sig.returnType = ret) (hlocks : meth.locks = false) {pc : Nat} {H : Heap} {ls : Array Slot} (hdg : decode code pc = .ok (.ireturn, 1)) : W p l e room_1 s m #[Value.ref b] below meth c H [] 600000 7302250 (lw_Z below #[Value.ref b] s) (F0 m pc ls [.int 1]) := by
  intro T hT X
  obtain ⟨fs, hret, hrun, hended, hW, hframe⟩ := X.leave (v := some (.int 1)) (hlocks := hlocks) (fun h => by rw [hr] at h; cases h)
  have hmeth' : T.vm.method? m = some meth := X.method'
  refine ⟨T.setFrames fs, ?_, .returned (some (.int 1)), hrun, hended, rfl, ⟨_, rfl⟩, hW, hframe⟩
  jvm_step X.here [X.here.top, hx, hb, hdg, hmeth', hr, ret, narrow_b1]
  (try refine ⟨rfl, ?_⟩); (try refine ⟨rfl, ?_⟩)
  first | (intro acts; rw [hret _ acts rfl rfl rfl]) | rw [hret _ _ rfl rfl rfl]
  exact Steps.refl _
/-- what holds at the law's entry: the machine, the code, the tables' words (any of lw_tbl by 'hts w (by decide +kernel)'), the script of L ints xs at the cell b, what the Statement gives of the start (any of its parts by flat_of_before) -/
def lw_At (p : Program) (s : State) (m : MethodId) (meth : Method) (c : Code) (b L : Nat) (xs : Nat → Int32) : Prop :=
  p.tables.exec = Jvm.exec ∧ c.code = code ∧ meth.sig.returnType = ret ∧ c.maxLocals = 4 ∧ s.vm.findClass R_law = some m.cls ∧ (∀ w ∈ lw_tbl, w.before #[Value.ref b] s = true) ∧ va_X b L xs s s.heap ∧ b < s.heap.size ∧ meth.locks = false ∧ (Jvm.Cond.and given_1 narrow_1).before #[Value.ref b] s = true

theorem x_start {p : Program} {e : Env} {s : State} {m : MethodId} {below : List Frame} {meth : Method} {c : Code} (l : Launch) {b L : Nat} {sc : Nat → Int32} (C0 : lw_At p s m meth c b L sc) (hrun : xLaw L sc) : W p l e room_1 s m #[Value.ref b] below meth c s.heap [] 0 0 (lw_Z below #[Value.ref b] s) (entryFrame m ([Value.ref b] : List Value).toArray 4) := by
  obtain ⟨hx, hb, hr, hml, hown, hts, hX, hbl, hlocks, hgv⟩ := id C0
  obtain ⟨n, w2, hrun⟩ := hrun
  have kn : ∀ c, c < 7 → ∃ (cC : ClassId) (iS : Nat → Nat), u_Kn s (x_cn c) (x_T c) (x_fn c) cC iS := by
    intro c hc
    have hi : ∃ w ∈ lw_tbl, w = Cond.instantiable (x_cn c) (x_fn c) := by
      rcases (show c = 0 ∨ c = 1 ∨ c = 2 ∨ c = 3 ∨ c = 4 ∨ c = 5 ∨ c = 6 by omega) with rfl | rfl | rfl | rfl | rfl | rfl | rfl <;> exact ⟨_, by decide +kernel, rfl⟩
    obtain ⟨wd, hw, e⟩ := hi
    exact u_known (n := x_fn c) hts (x_lays c hc) (by rw [← e]; exact hts _ hw)
  obtain ⟨dC, dI, hKc⟩ : ∃ (dC : Nat → ClassId) (dI : Nat → Nat → Nat), ∀ c, c < 7 → u_Kn s (x_cn c) (x_T c) (x_fn c) (dC c) (dI c) := by
    refine ⟨fun c => if h : c < 7 then Classical.choose (kn c h) else 0, fun c => if h : c < 7 then Classical.choose (Classical.choose_spec (kn c h)) else fun _ => 0, fun c hc => ?_⟩
    show u_Kn s (x_cn c) (x_T c) (x_fn c) (if h : c < 7 then Classical.choose (kn c h) else 0) (if h : c < 7 then Classical.choose (Classical.choose_spec (kn c h)) else fun _ => 0)
    rw [dif_pos hc, dif_pos hc]
    exact Classical.choose_spec (Classical.choose_spec (kn c hc))
  have hK : xKn (dC, dI) s := by
    refine ⟨fun c q hq => ?_, va_AO.of (A := #[Value.ref b]) (hts _ (x_w x_mnaok.2.2.2.2.2)), hts _ (x_w x_mnaok.2.1), va_Nw.of rfl (hts _ (by decide +kernel))⟩
    have hc : c < 7 := (List.getElem?_eq_some_iff.mp hq).1
    have h2 := x_cls c hc
    rw [hq] at h2
    cases h2
    exact hKc c hc
  have hgw : ∀ w ∈ x_gw, w.before #[Value.ref b] s = true := fun w hw => hts w (List.mem_filter.mp hw).1
  have hCx : xCx p room_1 s m #[Value.ref b] meth c (dC, dI) (fun q : Nat => s.heap.size ≤ q) s.heap m_law := ⟨hx, hb, hml, hown, hgw, fun z => absurd z (by decide +kernel), (by unfold m_rm; rw [if_pos rfl]), fun _ h => h, hK, Nat.le_refl _⟩
  have hl := lv_entry ([.ref b]) (n := 4) (Nat.le_of_ble_eq_true rfl)
  rw [lg_entry_eq]
  generalize (lg_sl ([.ref b]) ++ List.replicate (4 - (lg_sl ([.ref b])).length) Slot.unset).toArray = als at hl ⊢
  have hl : lv_has als (m_ml m_law) (xl (fun _ => b) [.ref x_scr, x_no, x_no, x_no]) := hl
  have K := snd l n (p := p) (e := e) (below := below) (Qf := lw_Z below #[Value.ref b] s) (ρ0 := fun _ => b) (κ0 := fun _ => 0) hrun (Nat.le_refl _) rfl hCx (by
    intro ρ' κ' H locs als2 pc i st hd htp g1 g2 g3 g4 g5 g6
    rcases htp with ⟨rfl, rfl, e3, e4⟩ | ⟨v, ty, rfl, rfl, e3, e4, e5⟩ | ⟨v, rfl, rfl, e3, e4⟩
    · cases e3
    · cases e3
      have g5' : w2.1 - 0 ≤ 600 := g5
      refine va_forget (fun q hq => g6.2.2.1.2.2 q hq) ?_
      refine W.widen (k := 600000) (n := 7302250) (by omega) (by omega) ?_
      exact lw_ret hx hb hr hlocks hd
    · cases e3)
  exact K (fun _ => b) (fun _ => 0) s.heap [] als (Nat.le_refl _) (fun z => absurd z (by decide +kernel)) (fun _ _ => rfl) (fun _ _ => rfl) (Nat.zero_le _) ⟨fun k q h => by simp [wl, x_w0] at h, ⟨fun i j x z h => by simp [wl, x_w0] at h, fun k q h => by simp [wl, x_w0] at h⟩, va_S.rf, fun k t a h => absurd h (Nat.not_lt_zero _), fun k _ => rfl⟩ (fun _ => ⟨hbl, Nat.not_le.mpr hbl, hX⟩) hl
end
section
theorem law_run (L : Nat) (sc : Nat → Int32) (hL : L ≤ 2560) : xLaw L sc := by sorry
theorem whole_start {p : Program} {e : Env} {s : State} {m : MethodId} {below : List Frame} {meth : Method} {c : Code} (l : Launch) (hflags : l.flags = flags0) {b L : Nat} {xs : Nat → Int32} (hL : L ≤ 2560) (C0 : lw_At p s m meth c b L xs) : W p l e room_1 s m #[Value.ref b] below meth c s.heap [] 0 0 (lw_Z below #[Value.ref b] s) (entryFrame m ([Value.ref b] : List Value).toArray 4) := x_start l C0 (law_run L xs hL)
-- ===== YOUR PART ENDS =====
set_option maxHeartbeats 4000000 in
theorem lw_walk (l : Launch) (hflags : l.flags = flags0) (b : Addr) (xs : List Int32) : MetFree l x (headSpec (Jvm.Cond.code x code maxLocals ret :: tables_1) room_1) (lw_P b xs) (fun _ _ _ _ _ => True) lw_Q := by
  refine MetFree.of_bodyS (code := code) (maxLocals := maxLocals) (ret := ret) (by decide) ?_ ?_
  · intro args s m h hn
    obtain ⟨meth, c, h1, h2, h3, h4, h5, h6, -, -⟩ := Cond.code_spec hn (atoms_spec (ws := Jvm.Cond.code x code maxLocals ret :: tables_1) h _ List.mem_cons_self)
    exact ⟨meth, c, h1, h2, h3, h4, h5, h6⟩
  · intro p e s m args below meth c s₁ B hml0 hP _
    obtain ⟨rfl, hx, hbd, hgv⟩ := hP
    obtain ⟨scr, harrAt, hlist, hof, hsmall⟩ := hx
    obtain ⟨hcb, hkn, -, -⟩ := State.arrayAt?_spec harrAt
    have hown : s.vm.findClass R_law = some m.cls := findClass_of_methodNamed B.named
    have hts0 : ∀ c ∈ (Jvm.Cond.code x code maxLocals ret :: tables_1), c.before #[Value.ref b] s = true := atoms_spec (ws := Jvm.Cond.code x code maxLocals ret :: tables_1) B.pre
    have hts : ∀ w ∈ lw_tbl, w.before #[Value.ref b] s = true := k2_hts_sels lw_privs (fun w hw => hts0 w (List.mem_cons_of_mem _ hw)) lw_privs_ok
    have hml : c.maxLocals = 4 := B.maxLocals_eq (hts0 _ List.mem_cons_self)
    have X₀ : Stand p l e room_1 s m #[Value.ref b] below meth c s₁ [] 0 0 := Stand.of_body B
    have hh0 : s₁.heap = s.heap := by rw [B.state]; rfl
    have hsz : scr.slots.size = xs.length := by rw [← Array.length_toList, hlist, List.length_map]
    have hval : ∀ j : Nat, j < xs.length → scr.slots[j]? = some (.int (xs.getD j 0)) := fun j hj => by
      rw [← Array.getElem?_toList, hlist]
      simp [hj]
    have hbl : b < s.heap.size := (Array.getElem?_eq_some_iff.mp hcb).1
    have hX : va_X b xs.length (fun j => xs.getD j 0) s s.heap := ⟨scr, hcb, hof, hkn, hsz, hval⟩
    have K : W p l e room_1 s m #[Value.ref b] below meth c s₁.heap [] 0 0 (lw_Z below #[Value.ref b] s) (entryFrame m ([Value.ref b] : List Value).toArray 4) := by
      rw [hh0]
      exact whole_start l hflags hbd ⟨B.exec, B.bytes, B.returns, hml, hown, hts, hX, hbl, B.notSynchronized, hgv⟩
    obtain ⟨t, a1, o, b1, b2, b3⟩ := K s₁ rfl X₀
    exact ⟨t, o, a1, b1, b2, b3⟩
theorem lw_pre_spec {args : Array Value} {s : State} (h : (Jvm.Cond.and given_1 narrow_1).before args s = true) (hr : rest_1_c.before args s = true) : ∃ (b : Addr) (xs : List Int32), lw_P b xs args s := by
  have hs := flat_of_before _ h
  have hq := flat_of_before _ hr
  have hc : (Cond.count 1).before args s = true := hs _ (by decide +kernel)
  have harr : (Cond.arrayOf (.arg 0) .int).before args s = true := hs _ (by decide +kernel)
  have hle : (Cond.le (.length (.arg 0)) (.int 2560)).before args s = true := hs _ (by decide +kernel)
  have hlen : (Cond.isInt (.length (.arg 0))).before args s = true := hq _ (by decide +kernel)
  have hall : (Cond.all (.arg 0) (.isInt (.elem (.arg 0) (.index 0)))).before args s = true := hq _ (by decide +kernel)
  obtain ⟨b, xs, hb, hx⟩ := State.ints_of_pre rfl harr hlen hall
  have hsm : xs.length < 2 ^ 31 := hx.choose_spec.2.2.2
  have hev : (Term.length (.arg 0)).eval args s none [] s = some (.int xs.length.toInt32) := hx.length_eval hb
  have hv := Cond.le_ints hev (show (Term.int 2560).eval args s none [] s = some (.int 2560) from rfl)
  have hd : xs.length.toInt32 ≤ 2560 := by
    simpa [Cond.before, Cond.holds, hv] using hle
  have hN : xs.length ≤ 2560 := (Int32.ofNat_le_ofNat hsm (by decide)).mp (show Int32.ofNat xs.length ≤ Int32.ofNat 2560 from hd)
  exact ⟨b, xs, Cond.one_arg hc (show args[0]? = some (.ref b) from hb), hx, hN, h⟩
theorem lw_comes (l : Launch) (hflags : l.flags = flags0) : Comes l x (Jvm.Cond.code x code maxLocals ret :: tables_1) room_1 (fun tb e args s => Calls_1 tb e args s ∧ rest_1 tb e args s ∧ Pre_1 tb e args s)
    (fun _ _ args s o t => lw_Q args s o t) := by
  intro p e ha hc hk s m args below hf hfit hheap happ hpre
  obtain ⟨b, xs, hP⟩ := lw_pre_spec hpre.2.2 hpre.2.1
  obtain ⟨k, o, h1, h2, h3, hQ⟩ := lw_walk l hflags b xs p e ha hc hk s m args below hf ((Spec.applies_iff_loose hf).mp happ).1 hP trivial
  exact ⟨k, o, h1, h2, h3, hQ⟩
theorem lw_frame {s t : State} {o : Outcome} {args : Array Value} (h : Framed s o t [] 600000 7302250) :
    Framed s o t (fieldLocs frame_1_writes args s ++ arrayLocs frame_1_arrays args s ++ staticLocs frame_1_statics s) 600000 7302250 := h
theorem lw_limb (L : Cond) (hL : ∀ (args : Array Value) (s t : State), L.after args s (.returned (some (.int 1))) t = true) :
    ArmFor flags0 classFile x code maxLocals ret World_1 tables_1 room_1 Calls_1 rest_1 Pre_1
      (fun tb e a s o t => postC L tb e a s o t ∧ Framed s o t (fieldLocs frame_1_writes a s ++ arrayLocs frame_1_arrays a s ++ staticLocs frame_1_statics s) 600000 7302250) := by
  intro l hflags _ _ p e ha hc hk s m args below hf hfit hheap happ hpre
  obtain ⟨k, o, h1, h2, h3, rfl, hF⟩ := lw_comes l hflags p e ha hc hk s m args below hf hfit hheap happ hpre
  exact ⟨k, _, h1, h2, h3, hL args s _, lw_frame hF⟩
theorem i_vc : Claimed_1_1 ∧ Claimed_1_2 := ⟨lw_limb limb_1_1 (fun args s t => by simp [limb_1_1, Cond.after, Cond.holds, Cond.value]), lw_limb limb_1_2 (fun args s t => Cond.after_iff.mpr (by
  first | (rw [show limb_1_2 = Cond.eq .result (.int 1) from rfl, Cond.eq_ints (x := 1) (y := 1) rfl rfl]; simp; done) | (simp [limb_1_2, Cond.value, Term.eval]; done)))⟩
end
