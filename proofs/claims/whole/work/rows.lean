section
-- ===== PART A: goes FIRST, ahead of the names: the tables' words, and 'selects' of the private methods out of them =====
/-- a private method of a class that the tables say can be made, by its rows of tables_1 -/
def lw_okq (q : MethodName × Nat) : Prop := (q.1.cls ≠ "java/lang/invoke/MethodHandle" ∧ q.1.cls ≠ "java/lang/invoke/VarHandle") ∧ Cond.instantiable q.1.cls q.2 ∈ tables_1 ∧ Cond.privateMethod q.1 ∈ tables_1 ∧ Cond.instanceMethod q.1 ∈ tables_1
theorem lw_p0 : lw_okq (⟨"DusterRounds", "finding", "(I)I"⟩, 8) := ⟨⟨by decide +kernel, by decide +kernel⟩, List.mem_of_getElem? (i := 15) (by decide +kernel), List.mem_of_getElem? (i := 156) (by decide +kernel), List.mem_of_getElem? (i := 157) (by decide +kernel)⟩
theorem lw_p1 : lw_okq (⟨"DusterRounds", "isDuster", "(I)Z"⟩, 8) := ⟨⟨by decide +kernel, by decide +kernel⟩, List.mem_of_getElem? (i := 15) (by decide +kernel), List.mem_of_getElem? (i := 215) (by decide +kernel), List.mem_of_getElem? (i := 216) (by decide +kernel)⟩
theorem lw_p2 : lw_okq (⟨"DusterRounds", "lookAhead", "(I)V"⟩, 8) := ⟨⟨by decide +kernel, by decide +kernel⟩, List.mem_of_getElem? (i := 15) (by decide +kernel), List.mem_of_getElem? (i := 309) (by decide +kernel), List.mem_of_getElem? (i := 310) (by decide +kernel)⟩
theorem lw_p3 : lw_okq (⟨"DusterRounds", "firstWith", "([III)I"⟩, 8) := ⟨⟨by decide +kernel, by decide +kernel⟩, List.mem_of_getElem? (i := 15) (by decide +kernel), List.mem_of_getElem? (i := 337) (by decide +kernel), List.mem_of_getElem? (i := 338) (by decide +kernel)⟩
theorem lw_p4 : lw_okq (⟨"DusterRounds", "dustAheadAfter", "(I)I"⟩, 8) := ⟨⟨by decide +kernel, by decide +kernel⟩, List.mem_of_getElem? (i := 15) (by decide +kernel), List.mem_of_getElem? (i := 350) (by decide +kernel), List.mem_of_getElem? (i := 351) (by decide +kernel)⟩
theorem lw_p5 : lw_okq (⟨"DusterRounds", "withMostMemories", "([IIII)I"⟩, 8) := ⟨⟨by decide +kernel, by decide +kernel⟩, List.mem_of_getElem? (i := 15) (by decide +kernel), List.mem_of_getElem? (i := 358) (by decide +kernel), List.mem_of_getElem? (i := 359) (by decide +kernel)⟩
theorem lw_p6 : lw_okq (⟨"DusterRounds$Tape", "step", "()V"⟩, 7) := ⟨⟨by decide +kernel, by decide +kernel⟩, List.mem_of_getElem? (i := 73) (by decide +kernel), List.mem_of_getElem? (i := 408) (by decide +kernel), List.mem_of_getElem? (i := 409) (by decide +kernel)⟩
theorem lw_p7 : lw_okq (⟨"DusterRounds$Tape", "stepOverWord", "()V"⟩, 7) := ⟨⟨by decide +kernel, by decide +kernel⟩, List.mem_of_getElem? (i := 73) (by decide +kernel), List.mem_of_getElem? (i := 415) (by decide +kernel), List.mem_of_getElem? (i := 416) (by decide +kernel)⟩
theorem lw_p8 : lw_okq (⟨"DusterRounds$Tape", "stepOverNumber", "()V"⟩, 7) := ⟨⟨by decide +kernel, by decide +kernel⟩, List.mem_of_getElem? (i := 73) (by decide +kernel), List.mem_of_getElem? (i := 487) (by decide +kernel), List.mem_of_getElem? (i := 488) (by decide +kernel)⟩
theorem lw_p9 : lw_okq (⟨"DusterRounds$Tape", "tellItem", "(LDusterRounds$House;)Z"⟩, 7) := ⟨⟨by decide +kernel, by decide +kernel⟩, List.mem_of_getElem? (i := 73) (by decide +kernel), List.mem_of_getElem? (i := 492) (by decide +kernel), List.mem_of_getElem? (i := 493) (by decide +kernel)⟩
theorem lw_p10 : lw_okq (⟨"DusterRounds$Tape", "tellRoom", "(LDusterRounds$House;)Z"⟩, 7) := ⟨⟨by decide +kernel, by decide +kernel⟩, List.mem_of_getElem? (i := 73) (by decide +kernel), List.mem_of_getElem? (i := 496) (by decide +kernel), List.mem_of_getElem? (i := 497) (by decide +kernel)⟩
theorem lw_p11 : lw_okq (⟨"DusterRounds$Tape", "isNumberTo", "(I)Z"⟩, 7) := ⟨⟨by decide +kernel, by decide +kernel⟩, List.mem_of_getElem? (i := 73) (by decide +kernel), List.mem_of_getElem? (i := 500) (by decide +kernel), List.mem_of_getElem? (i := 501) (by decide +kernel)⟩
theorem lw_p12 : lw_okq (⟨"DusterRounds$Tape", "isWord", "(I)Z"⟩, 7) := ⟨⟨by decide +kernel, by decide +kernel⟩, List.mem_of_getElem? (i := 73) (by decide +kernel), List.mem_of_getElem? (i := 504) (by decide +kernel), List.mem_of_getElem? (i := 505) (by decide +kernel)⟩
theorem lw_p13 : lw_okq (⟨"DusterRounds$Tape", "tellMemories", "()Z"⟩, 7) := ⟨⟨by decide +kernel, by decide +kernel⟩, List.mem_of_getElem? (i := 73) (by decide +kernel), List.mem_of_getElem? (i := 508) (by decide +kernel), List.mem_of_getElem? (i := 509) (by decide +kernel)⟩
theorem lw_p14 : lw_okq (⟨"DusterRounds$Tape", "tellFalls", "(LDusterRounds$House;)Z"⟩, 7) := ⟨⟨by decide +kernel, by decide +kernel⟩, List.mem_of_getElem? (i := 73) (by decide +kernel), List.mem_of_getElem? (i := 512) (by decide +kernel), List.mem_of_getElem? (i := 513) (by decide +kernel)⟩
theorem lw_p15 : lw_okq (⟨"DusterRounds$Tape", "tellWash", "(LDusterRounds$House;)Z"⟩, 7) := ⟨⟨by decide +kernel, by decide +kernel⟩, List.mem_of_getElem? (i := 73) (by decide +kernel), List.mem_of_getElem? (i := 516) (by decide +kernel), List.mem_of_getElem? (i := 517) (by decide +kernel)⟩
def lw_privs_1 : List (MethodName × Nat) := [(⟨"DusterRounds", "finding", "(I)I"⟩, 8), (⟨"DusterRounds", "isDuster", "(I)Z"⟩, 8), (⟨"DusterRounds", "lookAhead", "(I)V"⟩, 8), (⟨"DusterRounds", "firstWith", "([III)I"⟩, 8), (⟨"DusterRounds", "dustAheadAfter", "(I)I"⟩, 8), (⟨"DusterRounds", "withMostMemories", "([IIII)I"⟩, 8), (⟨"DusterRounds$Tape", "step", "()V"⟩, 7), (⟨"DusterRounds$Tape", "stepOverWord", "()V"⟩, 7), (⟨"DusterRounds$Tape", "stepOverNumber", "()V"⟩, 7), (⟨"DusterRounds$Tape", "tellItem", "(LDusterRounds$House;)Z"⟩, 7), (⟨"DusterRounds$Tape", "tellRoom", "(LDusterRounds$House;)Z"⟩, 7), (⟨"DusterRounds$Tape", "isNumberTo", "(I)Z"⟩, 7), (⟨"DusterRounds$Tape", "isWord", "(I)Z"⟩, 7), (⟨"DusterRounds$Tape", "tellMemories", "()Z"⟩, 7), (⟨"DusterRounds$Tape", "tellFalls", "(LDusterRounds$House;)Z"⟩, 7), (⟨"DusterRounds$Tape", "tellWash", "(LDusterRounds$House;)Z"⟩, 7)]
theorem lw_r1 : ∀ q ∈ lw_privs_1, lw_okq q := List.forall_mem_cons.mpr ⟨lw_p0, List.forall_mem_cons.mpr ⟨lw_p1, List.forall_mem_cons.mpr ⟨lw_p2, List.forall_mem_cons.mpr ⟨lw_p3, List.forall_mem_cons.mpr ⟨lw_p4, List.forall_mem_cons.mpr ⟨lw_p5, List.forall_mem_cons.mpr ⟨lw_p6, List.forall_mem_cons.mpr ⟨lw_p7, List.forall_mem_cons.mpr ⟨lw_p8, List.forall_mem_cons.mpr ⟨lw_p9, List.forall_mem_cons.mpr ⟨lw_p10, List.forall_mem_cons.mpr ⟨lw_p11, List.forall_mem_cons.mpr ⟨lw_p12, List.forall_mem_cons.mpr ⟨lw_p13, List.forall_mem_cons.mpr ⟨lw_p14, List.forall_mem_cons.mpr ⟨lw_p15, fun _ h => absurd h List.not_mem_nil⟩⟩⟩⟩⟩⟩⟩⟩⟩⟩⟩⟩⟩⟩⟩⟩
theorem lw_p16 : lw_okq (⟨"DusterRounds$Tape", "tellDuster", "(LDusterRounds$House;)Z"⟩, 7) := ⟨⟨by decide +kernel, by decide +kernel⟩, List.mem_of_getElem? (i := 73) (by decide +kernel), List.mem_of_getElem? (i := 521) (by decide +kernel), List.mem_of_getElem? (i := 522) (by decide +kernel)⟩
theorem lw_p17 : lw_okq (⟨"DusterRounds", "sheetAt", "(I)LDusterRounds$Sheet;"⟩, 8) := ⟨⟨by decide +kernel, by decide +kernel⟩, List.mem_of_getElem? (i := 15) (by decide +kernel), List.mem_of_getElem? (i := 531) (by decide +kernel), List.mem_of_getElem? (i := 532) (by decide +kernel)⟩
theorem lw_p18 : lw_okq (⟨"DusterRounds", "aheadGoesAs", "(LDusterRounds$Sheet;I)Z"⟩, 8) := ⟨⟨by decide +kernel, by decide +kernel⟩, List.mem_of_getElem? (i := 15) (by decide +kernel), List.mem_of_getElem? (i := 575) (by decide +kernel), List.mem_of_getElem? (i := 576) (by decide +kernel)⟩
theorem lw_p19 : lw_okq (⟨"DusterRoundsModel", "places", "(III)V"⟩, 19) := ⟨⟨by decide +kernel, by decide +kernel⟩, List.mem_of_getElem? (i := 603) (by decide +kernel), List.mem_of_getElem? (i := 609) (by decide +kernel), List.mem_of_getElem? (i := 610) (by decide +kernel)⟩
theorem lw_p20 : lw_okq (⟨"DusterRoundsModel", "becomes", "(II)I"⟩, 19) := ⟨⟨by decide +kernel, by decide +kernel⟩, List.mem_of_getElem? (i := 603) (by decide +kernel), List.mem_of_getElem? (i := 678) (by decide +kernel), List.mem_of_getElem? (i := 679) (by decide +kernel)⟩
theorem lw_p21 : lw_okq (⟨"DusterRoundsModel", "finds", "(I)I"⟩, 19) := ⟨⟨by decide +kernel, by decide +kernel⟩, List.mem_of_getElem? (i := 603) (by decide +kernel), List.mem_of_getElem? (i := 683) (by decide +kernel), List.mem_of_getElem? (i := 684) (by decide +kernel)⟩
theorem lw_p22 : lw_okq (⟨"DusterRoundsModel", "there", "(II)I"⟩, 19) := ⟨⟨by decide +kernel, by decide +kernel⟩, List.mem_of_getElem? (i := 603) (by decide +kernel), List.mem_of_getElem? (i := 698) (by decide +kernel), List.mem_of_getElem? (i := 699) (by decide +kernel)⟩
theorem lw_p23 : lw_okq (⟨"DusterRoundsModel", "inRoom", "(I)I"⟩, 19) := ⟨⟨by decide +kernel, by decide +kernel⟩, List.mem_of_getElem? (i := 603) (by decide +kernel), List.mem_of_getElem? (i := 702) (by decide +kernel), List.mem_of_getElem? (i := 703) (by decide +kernel)⟩
theorem lw_p24 : lw_okq (⟨"DusterRoundsModel", "roomOfOne", "(I)I"⟩, 19) := ⟨⟨by decide +kernel, by decide +kernel⟩, List.mem_of_getElem? (i := 603) (by decide +kernel), List.mem_of_getElem? (i := 706) (by decide +kernel), List.mem_of_getElem? (i := 707) (by decide +kernel)⟩
theorem lw_p25 : lw_okq (⟨"DusterRoundsModel", "its", "(II)I"⟩, 19) := ⟨⟨by decide +kernel, by decide +kernel⟩, List.mem_of_getElem? (i := 603) (by decide +kernel), List.mem_of_getElem? (i := 710) (by decide +kernel), List.mem_of_getElem? (i := 711) (by decide +kernel)⟩
theorem lw_p26 : lw_okq (⟨"DusterRoundsModel", "dustOfAll", "()I"⟩, 19) := ⟨⟨by decide +kernel, by decide +kernel⟩, List.mem_of_getElem? (i := 603) (by decide +kernel), List.mem_of_getElem? (i := 718) (by decide +kernel), List.mem_of_getElem? (i := 719) (by decide +kernel)⟩
theorem lw_p27 : lw_okq (⟨"DusterRoundsModel", "common", "()I"⟩, 19) := ⟨⟨by decide +kernel, by decide +kernel⟩, List.mem_of_getElem? (i := 603) (by decide +kernel), List.mem_of_getElem? (i := 722) (by decide +kernel), List.mem_of_getElem? (i := 723) (by decide +kernel)⟩
theorem lw_p28 : lw_okq (⟨"DusterRoundsModel", "anywhere", "()I"⟩, 19) := ⟨⟨by decide +kernel, by decide +kernel⟩, List.mem_of_getElem? (i := 603) (by decide +kernel), List.mem_of_getElem? (i := 726) (by decide +kernel), List.mem_of_getElem? (i := 727) (by decide +kernel)⟩
theorem lw_p29 : lw_okq (⟨"DusterRoundsModel", "heldByAny", "()I"⟩, 19) := ⟨⟨by decide +kernel, by decide +kernel⟩, List.mem_of_getElem? (i := 603) (by decide +kernel), List.mem_of_getElem? (i := 730) (by decide +kernel), List.mem_of_getElem? (i := 731) (by decide +kernel)⟩
theorem lw_p30 : lw_okq (⟨"DusterRoundsModel", "adds", "(III)V"⟩, 19) := ⟨⟨by decide +kernel, by decide +kernel⟩, List.mem_of_getElem? (i := 603) (by decide +kernel), List.mem_of_getElem? (i := 742) (by decide +kernel), List.mem_of_getElem? (i := 743) (by decide +kernel)⟩
theorem lw_p31 : lw_okq (⟨"DusterRoundsModel", "puts", "(III)V"⟩, 19) := ⟨⟨by decide +kernel, by decide +kernel⟩, List.mem_of_getElem? (i := 603) (by decide +kernel), List.mem_of_getElem? (i := 746) (by decide +kernel), List.mem_of_getElem? (i := 747) (by decide +kernel)⟩
def lw_privs_2 : List (MethodName × Nat) := [(⟨"DusterRounds$Tape", "tellDuster", "(LDusterRounds$House;)Z"⟩, 7), (⟨"DusterRounds", "sheetAt", "(I)LDusterRounds$Sheet;"⟩, 8), (⟨"DusterRounds", "aheadGoesAs", "(LDusterRounds$Sheet;I)Z"⟩, 8), (⟨"DusterRoundsModel", "places", "(III)V"⟩, 19), (⟨"DusterRoundsModel", "becomes", "(II)I"⟩, 19), (⟨"DusterRoundsModel", "finds", "(I)I"⟩, 19), (⟨"DusterRoundsModel", "there", "(II)I"⟩, 19), (⟨"DusterRoundsModel", "inRoom", "(I)I"⟩, 19), (⟨"DusterRoundsModel", "roomOfOne", "(I)I"⟩, 19), (⟨"DusterRoundsModel", "its", "(II)I"⟩, 19), (⟨"DusterRoundsModel", "dustOfAll", "()I"⟩, 19), (⟨"DusterRoundsModel", "common", "()I"⟩, 19), (⟨"DusterRoundsModel", "anywhere", "()I"⟩, 19), (⟨"DusterRoundsModel", "heldByAny", "()I"⟩, 19), (⟨"DusterRoundsModel", "adds", "(III)V"⟩, 19), (⟨"DusterRoundsModel", "puts", "(III)V"⟩, 19)]
theorem lw_r2 : ∀ q ∈ lw_privs_2, lw_okq q := List.forall_mem_cons.mpr ⟨lw_p16, List.forall_mem_cons.mpr ⟨lw_p17, List.forall_mem_cons.mpr ⟨lw_p18, List.forall_mem_cons.mpr ⟨lw_p19, List.forall_mem_cons.mpr ⟨lw_p20, List.forall_mem_cons.mpr ⟨lw_p21, List.forall_mem_cons.mpr ⟨lw_p22, List.forall_mem_cons.mpr ⟨lw_p23, List.forall_mem_cons.mpr ⟨lw_p24, List.forall_mem_cons.mpr ⟨lw_p25, List.forall_mem_cons.mpr ⟨lw_p26, List.forall_mem_cons.mpr ⟨lw_p27, List.forall_mem_cons.mpr ⟨lw_p28, List.forall_mem_cons.mpr ⟨lw_p29, List.forall_mem_cons.mpr ⟨lw_p30, List.forall_mem_cons.mpr ⟨lw_p31, fun _ h => absurd h List.not_mem_nil⟩⟩⟩⟩⟩⟩⟩⟩⟩⟩⟩⟩⟩⟩⟩⟩
theorem lw_p32 : lw_okq (⟨"DusterRoundsModel", "isOne", "(I)Z"⟩, 19) := ⟨⟨by decide +kernel, by decide +kernel⟩, List.mem_of_getElem? (i := 603) (by decide +kernel), List.mem_of_getElem? (i := 754) (by decide +kernel), List.mem_of_getElem? (i := 755) (by decide +kernel)⟩
theorem lw_p33 : lw_okq (⟨"DusterRoundsModel", "wipes", "(I)I"⟩, 19) := ⟨⟨by decide +kernel, by decide +kernel⟩, List.mem_of_getElem? (i := 603) (by decide +kernel), List.mem_of_getElem? (i := 758) (by decide +kernel), List.mem_of_getElem? (i := 759) (by decide +kernel)⟩
theorem lw_p34 : lw_okq (⟨"DusterRoundsModel", "takesUp", "(I)I"⟩, 19) := ⟨⟨by decide +kernel, by decide +kernel⟩, List.mem_of_getElem? (i := 603) (by decide +kernel), List.mem_of_getElem? (i := 762) (by decide +kernel), List.mem_of_getElem? (i := 763) (by decide +kernel)⟩
theorem lw_p35 : lw_okq (⟨"DusterRoundsModel", "leaves", "(I)I"⟩, 19) := ⟨⟨by decide +kernel, by decide +kernel⟩, List.mem_of_getElem? (i := 603) (by decide +kernel), List.mem_of_getElem? (i := 766) (by decide +kernel), List.mem_of_getElem? (i := 767) (by decide +kernel)⟩
theorem lw_p36 : lw_okq (⟨"DusterRoundsModel", "isKeeping", "(I)Z"⟩, 19) := ⟨⟨by decide +kernel, by decide +kernel⟩, List.mem_of_getElem? (i := 603) (by decide +kernel), List.mem_of_getElem? (i := 770) (by decide +kernel), List.mem_of_getElem? (i := 771) (by decide +kernel)⟩
theorem lw_p37 : lw_okq (⟨"DusterRoundsModel", "goes", "(II)I"⟩, 19) := ⟨⟨by decide +kernel, by decide +kernel⟩, List.mem_of_getElem? (i := 603) (by decide +kernel), List.mem_of_getElem? (i := 797) (by decide +kernel), List.mem_of_getElem? (i := 798) (by decide +kernel)⟩
theorem lw_p38 : lw_okq (⟨"DusterRoundsModel", "washes", "(I)I"⟩, 19) := ⟨⟨by decide +kernel, by decide +kernel⟩, List.mem_of_getElem? (i := 603) (by decide +kernel), List.mem_of_getElem? (i := 811) (by decide +kernel), List.mem_of_getElem? (i := 812) (by decide +kernel)⟩
theorem lw_p39 : lw_okq (⟨"DusterRoundsModel", "shakes", "(I)I"⟩, 19) := ⟨⟨by decide +kernel, by decide +kernel⟩, List.mem_of_getElem? (i := 603) (by decide +kernel), List.mem_of_getElem? (i := 819) (by decide +kernel), List.mem_of_getElem? (i := 820) (by decide +kernel)⟩
theorem lw_p40 : lw_okq (⟨"DusterRoundsModel", "passes", "(I)V"⟩, 19) := ⟨⟨by decide +kernel, by decide +kernel⟩, List.mem_of_getElem? (i := 603) (by decide +kernel), List.mem_of_getElem? (i := 828) (by decide +kernel), List.mem_of_getElem? (i := 829) (by decide +kernel)⟩
theorem lw_p41 : lw_okq (⟨"DusterRoundsModel", "oneDay", "()V"⟩, 19) := ⟨⟨by decide +kernel, by decide +kernel⟩, List.mem_of_getElem? (i := 603) (by decide +kernel), List.mem_of_getElem? (i := 832) (by decide +kernel), List.mem_of_getElem? (i := 833) (by decide +kernel)⟩
theorem lw_p42 : lw_okq (⟨"DusterRoundsModel", "behind", "(II)I"⟩, 19) := ⟨⟨by decide +kernel, by decide +kernel⟩, List.mem_of_getElem? (i := 603) (by decide +kernel), List.mem_of_getElem? (i := 840) (by decide +kernel), List.mem_of_getElem? (i := 841) (by decide +kernel)⟩
theorem lw_p43 : lw_okq (⟨"DusterRoundsModel", "moveAll", "(Z[I)V"⟩, 19) := ⟨⟨by decide +kernel, by decide +kernel⟩, List.mem_of_getElem? (i := 603) (by decide +kernel), List.mem_of_getElem? (i := 844) (by decide +kernel), List.mem_of_getElem? (i := 845) (by decide +kernel)⟩
theorem lw_p44 : lw_okq (⟨"DusterRoundsModel", "whenHas", "(II)I"⟩, 19) := ⟨⟨by decide +kernel, by decide +kernel⟩, List.mem_of_getElem? (i := 603) (by decide +kernel), List.mem_of_getElem? (i := 864) (by decide +kernel), List.mem_of_getElem? (i := 865) (by decide +kernel)⟩
theorem lw_p45 : lw_okq (⟨"DusterRoundsModel", "dustBehind", "(I)I"⟩, 19) := ⟨⟨by decide +kernel, by decide +kernel⟩, List.mem_of_getElem? (i := 603) (by decide +kernel), List.mem_of_getElem? (i := 876) (by decide +kernel), List.mem_of_getElem? (i := 877) (by decide +kernel)⟩
theorem lw_p46 : lw_okq (⟨"DusterRoundsModel", "mostBy", "(IIII)I"⟩, 19) := ⟨⟨by decide +kernel, by decide +kernel⟩, List.mem_of_getElem? (i := 603) (by decide +kernel), List.mem_of_getElem? (i := 884) (by decide +kernel), List.mem_of_getElem? (i := 885) (by decide +kernel)⟩
theorem lw_p47 : lw_okq (⟨"DusterRoundsModel", "memoriesBehind", "(I)I"⟩, 19) := ⟨⟨by decide +kernel, by decide +kernel⟩, List.mem_of_getElem? (i := 603) (by decide +kernel), List.mem_of_getElem? (i := 888) (by decide +kernel), List.mem_of_getElem? (i := 889) (by decide +kernel)⟩
def lw_privs_3 : List (MethodName × Nat) := [(⟨"DusterRoundsModel", "isOne", "(I)Z"⟩, 19), (⟨"DusterRoundsModel", "wipes", "(I)I"⟩, 19), (⟨"DusterRoundsModel", "takesUp", "(I)I"⟩, 19), (⟨"DusterRoundsModel", "leaves", "(I)I"⟩, 19), (⟨"DusterRoundsModel", "isKeeping", "(I)Z"⟩, 19), (⟨"DusterRoundsModel", "goes", "(II)I"⟩, 19), (⟨"DusterRoundsModel", "washes", "(I)I"⟩, 19), (⟨"DusterRoundsModel", "shakes", "(I)I"⟩, 19), (⟨"DusterRoundsModel", "passes", "(I)V"⟩, 19), (⟨"DusterRoundsModel", "oneDay", "()V"⟩, 19), (⟨"DusterRoundsModel", "behind", "(II)I"⟩, 19), (⟨"DusterRoundsModel", "moveAll", "(Z[I)V"⟩, 19), (⟨"DusterRoundsModel", "whenHas", "(II)I"⟩, 19), (⟨"DusterRoundsModel", "dustBehind", "(I)I"⟩, 19), (⟨"DusterRoundsModel", "mostBy", "(IIII)I"⟩, 19), (⟨"DusterRoundsModel", "memoriesBehind", "(I)I"⟩, 19)]
theorem lw_r3 : ∀ q ∈ lw_privs_3, lw_okq q := List.forall_mem_cons.mpr ⟨lw_p32, List.forall_mem_cons.mpr ⟨lw_p33, List.forall_mem_cons.mpr ⟨lw_p34, List.forall_mem_cons.mpr ⟨lw_p35, List.forall_mem_cons.mpr ⟨lw_p36, List.forall_mem_cons.mpr ⟨lw_p37, List.forall_mem_cons.mpr ⟨lw_p38, List.forall_mem_cons.mpr ⟨lw_p39, List.forall_mem_cons.mpr ⟨lw_p40, List.forall_mem_cons.mpr ⟨lw_p41, List.forall_mem_cons.mpr ⟨lw_p42, List.forall_mem_cons.mpr ⟨lw_p43, List.forall_mem_cons.mpr ⟨lw_p44, List.forall_mem_cons.mpr ⟨lw_p45, List.forall_mem_cons.mpr ⟨lw_p46, List.forall_mem_cons.mpr ⟨lw_p47, fun _ h => absurd h List.not_mem_nil⟩⟩⟩⟩⟩⟩⟩⟩⟩⟩⟩⟩⟩⟩⟩⟩
theorem lw_p48 : lw_okq (⟨"DusterRoundsModel", "memoriesOfAll", "()I"⟩, 19) := ⟨⟨by decide +kernel, by decide +kernel⟩, List.mem_of_getElem? (i := 603) (by decide +kernel), List.mem_of_getElem? (i := 892) (by decide +kernel), List.mem_of_getElem? (i := 893) (by decide +kernel)⟩
theorem lw_p49 : lw_okq (⟨"DusterRoundsModel", "advance", "()V"⟩, 19) := ⟨⟨by decide +kernel, by decide +kernel⟩, List.mem_of_getElem? (i := 603) (by decide +kernel), List.mem_of_getElem? (i := 928) (by decide +kernel), List.mem_of_getElem? (i := 929) (by decide +kernel)⟩
theorem lw_p50 : lw_okq (⟨"DusterRoundsModel", "byteAt", "(I)I"⟩, 19) := ⟨⟨by decide +kernel, by decide +kernel⟩, List.mem_of_getElem? (i := 603) (by decide +kernel), List.mem_of_getElem? (i := 932) (by decide +kernel), List.mem_of_getElem? (i := 933) (by decide +kernel)⟩
theorem lw_p51 : lw_okq (⟨"DusterRoundsModel", "wantItem", "()V"⟩, 19) := ⟨⟨by decide +kernel, by decide +kernel⟩, List.mem_of_getElem? (i := 603) (by decide +kernel), List.mem_of_getElem? (i := 945) (by decide +kernel), List.mem_of_getElem? (i := 946) (by decide +kernel)⟩
theorem lw_p52 : lw_okq (⟨"DusterRoundsModel", "kindHere", "()I"⟩, 19) := ⟨⟨by decide +kernel, by decide +kernel⟩, List.mem_of_getElem? (i := 603) (by decide +kernel), List.mem_of_getElem? (i := 949) (by decide +kernel), List.mem_of_getElem? (i := 950) (by decide +kernel)⟩
theorem lw_p53 : lw_okq (⟨"DusterRoundsModel", "isWord", "(J)Z"⟩, 19) := ⟨⟨by decide +kernel, by decide +kernel⟩, List.mem_of_getElem? (i := 603) (by decide +kernel), List.mem_of_getElem? (i := 954) (by decide +kernel), List.mem_of_getElem? (i := 955) (by decide +kernel)⟩
theorem lw_p54 : lw_okq (⟨"DusterRoundsModel", "wantOne", "(I)V"⟩, 19) := ⟨⟨by decide +kernel, by decide +kernel⟩, List.mem_of_getElem? (i := 603) (by decide +kernel), List.mem_of_getElem? (i := 963) (by decide +kernel), List.mem_of_getElem? (i := 964) (by decide +kernel)⟩
theorem lw_p55 : lw_okq (⟨"DusterRoundsModel", "mayMemories", "(J)I"⟩, 19) := ⟨⟨by decide +kernel, by decide +kernel⟩, List.mem_of_getElem? (i := 603) (by decide +kernel), List.mem_of_getElem? (i := 968) (by decide +kernel), List.mem_of_getElem? (i := 969) (by decide +kernel)⟩
theorem lw_p56 : lw_okq (⟨"DusterRoundsModel", "wantNumber", "(II)I"⟩, 19) := ⟨⟨by decide +kernel, by decide +kernel⟩, List.mem_of_getElem? (i := 603) (by decide +kernel), List.mem_of_getElem? (i := 972) (by decide +kernel), List.mem_of_getElem? (i := 973) (by decide +kernel)⟩
theorem lw_p57 : lw_okq (⟨"DusterRoundsModel", "mayWant", "(JIII)I"⟩, 19) := ⟨⟨by decide +kernel, by decide +kernel⟩, List.mem_of_getElem? (i := 603) (by decide +kernel), List.mem_of_getElem? (i := 977) (by decide +kernel), List.mem_of_getElem? (i := 978) (by decide +kernel)⟩
theorem lw_p58 : lw_okq (⟨"DusterRoundsModel", "wantRoom", "()V"⟩, 19) := ⟨⟨by decide +kernel, by decide +kernel⟩, List.mem_of_getElem? (i := 603) (by decide +kernel), List.mem_of_getElem? (i := 982) (by decide +kernel), List.mem_of_getElem? (i := 983) (by decide +kernel)⟩
theorem lw_p59 : lw_okq (⟨"DusterRoundsModel", "isPart", "(III)Z"⟩, 19) := ⟨⟨by decide +kernel, by decide +kernel⟩, List.mem_of_getElem? (i := 603) (by decide +kernel), List.mem_of_getElem? (i := 1010) (by decide +kernel), List.mem_of_getElem? (i := 1011) (by decide +kernel)⟩
theorem lw_p60 : lw_okq (⟨"DusterRoundsModel", "badSheet", "(I)I"⟩, 19) := ⟨⟨by decide +kernel, by decide +kernel⟩, List.mem_of_getElem? (i := 603) (by decide +kernel), List.mem_of_getElem? (i := 1018) (by decide +kernel), List.mem_of_getElem? (i := 1019) (by decide +kernel)⟩
theorem lw_p61 : lw_okq (⟨"DusterRoundsModel", "isSo", "(II)Z"⟩, 19) := ⟨⟨by decide +kernel, by decide +kernel⟩, List.mem_of_getElem? (i := 603) (by decide +kernel), List.mem_of_getElem? (i := 1031) (by decide +kernel), List.mem_of_getElem? (i := 1032) (by decide +kernel)⟩
theorem lw_p62 : lw_okq (⟨"DusterRoundsModel", "grimeOfAll", "()I"⟩, 19) := ⟨⟨by decide +kernel, by decide +kernel⟩, List.mem_of_getElem? (i := 603) (by decide +kernel), List.mem_of_getElem? (i := 1051) (by decide +kernel), List.mem_of_getElem? (i := 1052) (by decide +kernel)⟩
def lw_privs_4 : List (MethodName × Nat) := [(⟨"DusterRoundsModel", "memoriesOfAll", "()I"⟩, 19), (⟨"DusterRoundsModel", "advance", "()V"⟩, 19), (⟨"DusterRoundsModel", "byteAt", "(I)I"⟩, 19), (⟨"DusterRoundsModel", "wantItem", "()V"⟩, 19), (⟨"DusterRoundsModel", "kindHere", "()I"⟩, 19), (⟨"DusterRoundsModel", "isWord", "(J)Z"⟩, 19), (⟨"DusterRoundsModel", "wantOne", "(I)V"⟩, 19), (⟨"DusterRoundsModel", "mayMemories", "(J)I"⟩, 19), (⟨"DusterRoundsModel", "wantNumber", "(II)I"⟩, 19), (⟨"DusterRoundsModel", "mayWant", "(JIII)I"⟩, 19), (⟨"DusterRoundsModel", "wantRoom", "()V"⟩, 19), (⟨"DusterRoundsModel", "isPart", "(III)Z"⟩, 19), (⟨"DusterRoundsModel", "badSheet", "(I)I"⟩, 19), (⟨"DusterRoundsModel", "isSo", "(II)Z"⟩, 19), (⟨"DusterRoundsModel", "grimeOfAll", "()I"⟩, 19)]
theorem lw_r4 : ∀ q ∈ lw_privs_4, lw_okq q := List.forall_mem_cons.mpr ⟨lw_p48, List.forall_mem_cons.mpr ⟨lw_p49, List.forall_mem_cons.mpr ⟨lw_p50, List.forall_mem_cons.mpr ⟨lw_p51, List.forall_mem_cons.mpr ⟨lw_p52, List.forall_mem_cons.mpr ⟨lw_p53, List.forall_mem_cons.mpr ⟨lw_p54, List.forall_mem_cons.mpr ⟨lw_p55, List.forall_mem_cons.mpr ⟨lw_p56, List.forall_mem_cons.mpr ⟨lw_p57, List.forall_mem_cons.mpr ⟨lw_p58, List.forall_mem_cons.mpr ⟨lw_p59, List.forall_mem_cons.mpr ⟨lw_p60, List.forall_mem_cons.mpr ⟨lw_p61, List.forall_mem_cons.mpr ⟨lw_p62, fun _ h => absurd h List.not_mem_nil⟩⟩⟩⟩⟩⟩⟩⟩⟩⟩⟩⟩⟩⟩⟩
def lw_privs : List (MethodName × Nat) := lw_privs_1 ++ (lw_privs_2 ++ (lw_privs_3 ++ (lw_privs_4)))
def lw_tbl : List Cond := k2_sels lw_privs ++ tables_1
theorem lw_privs_ok : ∀ q ∈ lw_privs, lw_okq q := by
  show ∀ q ∈ lw_privs_1 ++ (lw_privs_2 ++ (lw_privs_3 ++ (lw_privs_4))), lw_okq q
  exact List.forall_mem_append.mpr ⟨lw_r1, List.forall_mem_append.mpr ⟨lw_r2, List.forall_mem_append.mpr ⟨lw_r3, lw_r4⟩⟩⟩
end
section
def RX0 : String := "DusterRounds$House"
def TX0 : u_T := fun k => match k with
  | 0 => ("DusterRounds$House", "dust", "[I", true)
  | 1 => ("DusterRounds$House", "memories", "[I", true)
  | 2 => ("DusterRounds$House", "kinds", "[I", true)
  | 3 => ("DusterRounds$House", "held", "[I", true)
  | 4 => ("DusterRounds$House", "grimes", "[I", true)
  | 5 => ("DusterRounds$House", "rounds", "[I", true)
  | 6 => ("DusterRounds$House", "day", "I", false)
  | 7 => ("DusterRounds$House", "fall", "I", false)
  | _ => ("DusterRounds$House", "dusters", "I", false)
def tyX0 : Nat → FieldType := fun k => match k with
  | 0 => .array .int
  | 1 => .array .int
  | 2 => .array .int
  | 3 => .array .int
  | 4 => .array .int
  | 5 => .array .int
  | 6 => .int
  | 7 => .int
  | _ => .int
abbrev wsX00 : List Cond := u_ws RX0 TX0 9
theorem nmX0 : ∀ a, a < 9 → ∀ b, b < 9 → a ≠ b → (TX0 a).2.1 ≠ (TX0 b).2.1 := by decide +kernel
theorem tyX0_ok : ∀ k, k < 9 → parseFieldDescriptor (TX0 k).2.2.1 = some (tyX0 k) := by decide +kernel
abbrev cX0_init : ByteArray := prog_2_method_1_code
def yX0_init : MethodName := ⟨RX0, "<init>", "()V"⟩
abbrev cX0_becomeAs : ByteArray := prog_2_method_2_code
def yX0_becomeAs : MethodName := ⟨RX0, "becomeAs", "(LDusterRounds$House;)V"⟩
abbrev cX0_addDuster : ByteArray := prog_2_method_3_code
def yX0_addDuster : MethodName := ⟨RX0, "addDuster", "(I)I"⟩
abbrev cX0_whereIs : ByteArray := prog_2_method_4_code
def yX0_whereIs : MethodName := ⟨RX0, "whereIs", "(I)I"⟩
abbrev cX0_whoIsIn : ByteArray := prog_2_method_5_code
def yX0_whoIsIn : MethodName := ⟨RX0, "whoIsIn", "(I)I"⟩
abbrev cX0_goDays : ByteArray := prog_2_method_6_code
def yX0_goDays : MethodName := ⟨RX0, "goDays", "(I)V"⟩
abbrev cX0_goDay : ByteArray := prog_2_method_7_code
def yX0_goDay : MethodName := ⟨RX0, "goDay", "()V"⟩
abbrev cX0_goThrough : ByteArray := prog_2_method_8_code
def yX0_goThrough : MethodName := ⟨RX0, "goThrough", "(II)I"⟩
abbrev cX0_washOne : ByteArray := prog_2_method_9_code
def yX0_washOne : MethodName := ⟨RX0, "washOne", "(I)I"⟩
abbrev cX0_shakeOne : ByteArray := prog_2_method_10_code
def yX0_shakeOne : MethodName := ⟨RX0, "shakeOne", "(I)I"⟩
abbrev cX0_dustOfAll : ByteArray := prog_2_method_11_code
def yX0_dustOfAll : MethodName := ⟨RX0, "dustOfAll", "()I"⟩
abbrev cX0_memoriesCounted : ByteArray := prog_2_method_12_code
def yX0_memoriesCounted : MethodName := ⟨RX0, "memoriesCounted", "()I"⟩
abbrev cX0_memoriesEverywhere : ByteArray := prog_2_method_13_code
def yX0_memoriesEverywhere : MethodName := ⟨RX0, "memoriesEverywhere", "()I"⟩
abbrev cX0_memoriesAnywhere : ByteArray := prog_2_method_14_code
def yX0_memoriesAnywhere : MethodName := ⟨RX0, "memoriesAnywhere", "()I"⟩
abbrev cX0_memoriesHeld : ByteArray := prog_2_method_15_code
def yX0_memoriesHeld : MethodName := ⟨RX0, "memoriesHeld", "()I"⟩
abbrev cX0_grimeOfAll : ByteArray := prog_2_method_16_code
def yX0_grimeOfAll : MethodName := ⟨RX0, "grimeOfAll", "()I"⟩
abbrev cX0_leastOf : ByteArray := prog_2_method_17_code
def yX0_leastOf : MethodName := ⟨RX0, "leastOf", "(II)I"⟩
def RX1 : String := "DusterRounds$Kinds"
def TX1 : u_T := fun k => match k with
  | _ => ("", "", "", false)
def tyX1 : Nat → FieldType := fun k => match k with
  | _ => .int
abbrev wsX10 : List Cond := u_ws RX1 TX1 0
theorem nmX1 : ∀ a, a < 0 → ∀ b, b < 0 → a ≠ b → (TX1 a).2.1 ≠ (TX1 b).2.1 := by decide +kernel
theorem tyX1_ok : ∀ k, k < 0 → parseFieldDescriptor (TX1 k).2.2.1 = some (tyX1 k) := by decide +kernel
abbrev cX1_isUnder : ByteArray := prog_3_method_2_code
def yX1_isUnder : MethodName := ⟨RX1, "isUnder", "(II)Z"⟩
abbrev cX1_wipes : ByteArray := prog_3_method_3_code
def yX1_wipes : MethodName := ⟨RX1, "wipes", "(II)I"⟩
abbrev cX1_takesUp : ByteArray := prog_3_method_4_code
def yX1_takesUp : MethodName := ⟨RX1, "takesUp", "(II)I"⟩
abbrev cX1_leaves : ByteArray := prog_3_method_5_code
def yX1_leaves : MethodName := ⟨RX1, "leaves", "(II)I"⟩
abbrev cX1_keeps : ByteArray := prog_3_method_6_code
def yX1_keeps : MethodName := ⟨RX1, "keeps", "(II)Z"⟩
def RX2 : String := "DusterRounds$Sheet"
def TX2 : u_T := fun k => match k with
  | 0 => ("DusterRounds$Sheet", "numbers", "[J", true)
  | 1 => ("DusterRounds$Sheet", "bits", "I", false)
  | _ => ("DusterRounds$Sheet", "size", "I", false)
def tyX2 : Nat → FieldType := fun k => match k with
  | 0 => .array .long
  | 1 => .int
  | _ => .int
abbrev wsX20 : List Cond := u_ws RX2 TX2 3
theorem nmX2 : ∀ a, a < 3 → ∀ b, b < 3 → a ≠ b → (TX2 a).2.1 ≠ (TX2 b).2.1 := by decide +kernel
theorem tyX2_ok : ∀ k, k < 3 → parseFieldDescriptor (TX2 k).2.2.1 = some (tyX2 k) := by decide +kernel
abbrev cX2_init : ByteArray := prog_4_method_1_code
def yX2_init : MethodName := ⟨RX2, "<init>", "()V"⟩
abbrev cX2_isMissing : ByteArray := prog_4_method_2_code
def yX2_isMissing : MethodName := ⟨RX2, "isMissing", "()Z"⟩
abbrev cX2_begin : ByteArray := prog_4_method_3_code
def yX2_begin : MethodName := ⟨RX2, "begin", "(II)I"⟩
abbrev cX2_put : ByteArray := prog_4_method_4_code
def yX2_put : MethodName := ⟨RX2, "put", "(IJ)V"⟩
abbrev cX2_hasRun : ByteArray := prog_4_method_5_code
def yX2_hasRun : MethodName := ⟨RX2, "hasRun", "(II)Z"⟩
def RX3 : String := "DusterRounds$Tape"
def TX3 : u_T := fun k => match k with
  | 0 => ("DusterRounds$Tape", "bytes", "[I", true)
  | 1 => ("DusterRounds$Tape", "length", "I", false)
  | 2 => ("DusterRounds$Tape", "token", "I", false)
  | 3 => ("DusterRounds$Tape", "value", "I", false)
  | 4 => ("DusterRounds$Tape", "start", "I", false)
  | 5 => ("DusterRounds$Tape", "end", "I", false)
  | _ => ("DusterRounds$Tape", "memories", "I", false)
def tyX3 : Nat → FieldType := fun k => match k with
  | 0 => .array .int
  | 1 => .int
  | 2 => .int
  | 3 => .int
  | 4 => .int
  | 5 => .int
  | _ => .int
abbrev wsX30 : List Cond := u_ws RX3 TX3 7
theorem nmX3 : ∀ a, a < 7 → ∀ b, b < 7 → a ≠ b → (TX3 a).2.1 ≠ (TX3 b).2.1 := by decide +kernel
theorem tyX3_ok : ∀ k, k < 7 → parseFieldDescriptor (TX3 k).2.2.1 = some (tyX3 k) := by decide +kernel
abbrev cX3_init : ByteArray := prog_5_method_1_code
def yX3_init : MethodName := ⟨RX3, "<init>", "()V"⟩
abbrev cX3_put : ByteArray := prog_5_method_2_code
def yX3_put : MethodName := ⟨RX3, "put", "(I)V"⟩
abbrev cX3_tellHouse : ByteArray := prog_5_method_3_code
def yX3_tellHouse : MethodName := ⟨RX3, "tellHouse", "(LDusterRounds$House;)I"⟩
abbrev cX3_tellItem : ByteArray := prog_5_method_4_code
def yX3_tellItem : MethodName := ⟨RX3, "tellItem", "(LDusterRounds$House;)Z"⟩
abbrev cX3_tellDuster : ByteArray := prog_5_method_5_code
def yX3_tellDuster : MethodName := ⟨RX3, "tellDuster", "(LDusterRounds$House;)Z"⟩
abbrev cX3_tellRoom : ByteArray := prog_5_method_6_code
def yX3_tellRoom : MethodName := ⟨RX3, "tellRoom", "(LDusterRounds$House;)Z"⟩
abbrev cX3_tellFalls : ByteArray := prog_5_method_7_code
def yX3_tellFalls : MethodName := ⟨RX3, "tellFalls", "(LDusterRounds$House;)Z"⟩
abbrev cX3_tellWash : ByteArray := prog_5_method_8_code
def yX3_tellWash : MethodName := ⟨RX3, "tellWash", "(LDusterRounds$House;)Z"⟩
abbrev cX3_tellMemories : ByteArray := prog_5_method_9_code
def yX3_tellMemories : MethodName := ⟨RX3, "tellMemories", "()Z"⟩
abbrev cX3_isWord : ByteArray := prog_5_method_10_code
def yX3_isWord : MethodName := ⟨RX3, "isWord", "(I)Z"⟩
abbrev cX3_isNumberTo : ByteArray := prog_5_method_11_code
def yX3_isNumberTo : MethodName := ⟨RX3, "isNumberTo", "(I)Z"⟩
abbrev cX3_step : ByteArray := prog_5_method_12_code
def yX3_step : MethodName := ⟨RX3, "step", "()V"⟩
abbrev cX3_stepOverWord : ByteArray := prog_5_method_13_code
def yX3_stepOverWord : MethodName := ⟨RX3, "stepOverWord", "()V"⟩
abbrev cX3_stepOverNumber : ByteArray := prog_5_method_14_code
def yX3_stepOverNumber : MethodName := ⟨RX3, "stepOverNumber", "()V"⟩
abbrev cX3_isLetter : ByteArray := prog_5_method_15_code
def yX3_isLetter : MethodName := ⟨RX3, "isLetter", "(I)Z"⟩
abbrev cX3_isDigit : ByteArray := prog_5_method_16_code
def yX3_isDigit : MethodName := ⟨RX3, "isDigit", "(I)Z"⟩
abbrev cX3_nameOf : ByteArray := prog_5_method_17_code
def yX3_nameOf : MethodName := ⟨RX3, "nameOf", "(I)Ljava/lang/String;"⟩
def RX4 : String := "DusterRounds"
def TX4 : u_T := fun k => match k with
  | 0 => ("DusterRounds", "live", "LDusterRounds$House;", true)
  | 1 => ("DusterRounds", "kept", "LDusterRounds$House;", true)
  | 2 => ("DusterRounds", "ahead", "LDusterRounds$House;", true)
  | 3 => ("DusterRounds", "aside", "LDusterRounds$House;", true)
  | 4 => ("DusterRounds", "tape", "LDusterRounds$Tape;", true)
  | 5 => ("DusterRounds", "sheets", "[LDusterRounds$Sheet;", true)
  | 6 => ("DusterRounds", "found", "[I", true)
  | _ => ("DusterRounds", "somethingKept", "Z", false)
def tyX4 : Nat → FieldType := fun k => match k with
  | 0 => .object "DusterRounds$House"
  | 1 => .object "DusterRounds$House"
  | 2 => .object "DusterRounds$House"
  | 3 => .object "DusterRounds$House"
  | 4 => .object "DusterRounds$Tape"
  | 5 => .array (.object "DusterRounds$Sheet")
  | 6 => .array .int
  | _ => .boolean
abbrev wsX40 : List Cond := u_ws RX4 TX4 8
theorem nmX4 : ∀ a, a < 8 → ∀ b, b < 8 → a ≠ b → (TX4 a).2.1 ≠ (TX4 b).2.1 := by decide +kernel
theorem tyX4_ok : ∀ k, k < 8 → parseFieldDescriptor (TX4 k).2.2.1 = some (tyX4 k) := by decide +kernel
abbrev cX4_init : ByteArray := prog_1_method_1_code
def yX4_init : MethodName := ⟨RX4, "<init>", "()V"⟩
abbrev cX4_falls : ByteArray := prog_1_method_2_code
def yX4_falls : MethodName := ⟨RX4, "falls", "(I)I"⟩
abbrev cX4_room : ByteArray := prog_1_method_3_code
def yX4_room : MethodName := ⟨RX4, "room", "(III)I"⟩
abbrev cX4_roomOf : ByteArray := prog_1_method_4_code
def yX4_roomOf : MethodName := ⟨RX4, "roomOf", "(II)I"⟩
abbrev cX4_now : ByteArray := prog_1_method_5_code
def yX4_now : MethodName := ⟨RX4, "now", "(I)I"⟩
abbrev cX4_duster : ByteArray := prog_1_method_6_code
def yX4_duster : MethodName := ⟨RX4, "duster", "(I)I"⟩
abbrev cX4_of : ByteArray := prog_1_method_7_code
def yX4_of : MethodName := ⟨RX4, "of", "(II)I"⟩
abbrev cX4_set : ByteArray := prog_1_method_8_code
def yX4_set : MethodName := ⟨RX4, "set", "(III)I"⟩
abbrev cX4_turn : ByteArray := prog_1_method_9_code
def yX4_turn : MethodName := ⟨RX4, "turn", "(II)I"⟩
abbrev cX4_as : ByteArray := prog_1_method_10_code
def yX4_as : MethodName := ⟨RX4, "as", "(II)I"⟩
abbrev cX4_through : ByteArray := prog_1_method_11_code
def yX4_through : MethodName := ⟨RX4, "through", "(II)I"⟩
abbrev cX4_wash : ByteArray := prog_1_method_12_code
def yX4_wash : MethodName := ⟨RX4, "wash", "(I)I"⟩
abbrev cX4_shake : ByteArray := prog_1_method_13_code
def yX4_shake : MethodName := ⟨RX4, "shake", "(I)I"⟩
abbrev cX4_days : ByteArray := prog_1_method_14_code
def yX4_days : MethodName := ⟨RX4, "days", "(I)I"⟩
abbrev cX4_on : ByteArray := prog_1_method_15_code
def yX4_on : MethodName := ⟨RX4, "on", "(III)I"⟩
abbrev cX4_then : ByteArray := prog_1_method_16_code
def yX4_then : MethodName := ⟨RX4, "then", "(III)I"⟩
abbrev cX4_clean : ByteArray := prog_1_method_17_code
def yX4_clean : MethodName := ⟨RX4, "clean", "(I)I"⟩
abbrev cX4_comes : ByteArray := prog_1_method_18_code
def yX4_comes : MethodName := ⟨RX4, "comes", "(II)I"⟩
abbrev cX4_holds : ByteArray := prog_1_method_19_code
def yX4_holds : MethodName := ⟨RX4, "holds", "(II)I"⟩
abbrev cX4_round : ByteArray := prog_1_method_20_code
def yX4_round : MethodName := ⟨RX4, "round", "(II)I"⟩
abbrev cX4_kind : ByteArray := prog_1_method_21_code
def yX4_kind : MethodName := ⟨RX4, "kind", "(II)I"⟩
abbrev cX4_grime : ByteArray := prog_1_method_22_code
def yX4_grime : MethodName := ⟨RX4, "grime", "(II)I"⟩
abbrev cX4_best : ByteArray := prog_1_method_23_code
def yX4_best : MethodName := ⟨RX4, "best", "(I)I"⟩
abbrev cX4_delay : ByteArray := prog_1_method_24_code
def yX4_delay : MethodName := ⟨RX4, "delay", "(III)I"⟩
abbrev cX4_bears : ByteArray := prog_1_method_25_code
def yX4_bears : MethodName := ⟨RX4, "bears", "(I)I"⟩
abbrev cX4_fullest : ByteArray := prog_1_method_26_code
def yX4_fullest : MethodName := ⟨RX4, "fullest", "(I)I"⟩
abbrev cX4_feed : ByteArray := prog_1_method_27_code
def yX4_feed : MethodName := ⟨RX4, "feed", "(II)I"⟩
abbrev cX4_wipe : ByteArray := prog_1_method_28_code
def yX4_wipe : MethodName := ⟨RX4, "wipe", "()I"⟩
abbrev cX4_house : ByteArray := prog_1_method_29_code
def yX4_house : MethodName := ⟨RX4, "house", "()I"⟩
abbrev cX4_sheet : ByteArray := prog_1_method_30_code
def yX4_sheet : MethodName := ⟨RX4, "sheet", "(III)I"⟩
abbrev cX4_write : ByteArray := prog_1_method_31_code
def yX4_write : MethodName := ⟨RX4, "write", "(IIJ)J"⟩
abbrev cX4_copy : ByteArray := prog_1_method_32_code
def yX4_copy : MethodName := ⟨RX4, "copy", "(IIIII)I"⟩
abbrev cX4_lays : ByteArray := prog_1_method_33_code
def yX4_lays : MethodName := ⟨RX4, "lays", "(I)I"⟩
abbrev cX4_book : ByteArray := prog_1_method_34_code
def yX4_book : MethodName := ⟨RX4, "book", "(II)I"⟩
abbrev cX4_read : ByteArray := prog_1_method_35_code
def yX4_read : MethodName := ⟨RX4, "read", "(III)I"⟩
abbrev cX4_image : ByteArray := prog_1_method_36_code
def yX4_image : MethodName := ⟨RX4, "image", "()I"⟩
abbrev cX4_undo : ByteArray := prog_1_method_37_code
def yX4_undo : MethodName := ⟨RX4, "undo", "()I"⟩
abbrev cX4_tear : ByteArray := prog_1_method_38_code
def yX4_tear : MethodName := ⟨RX4, "tear", "()I"⟩
abbrev cX4_count : ByteArray := prog_1_method_39_code
def yX4_count : MethodName := ⟨RX4, "count", "(I)I"⟩
abbrev cX4_status : ByteArray := prog_1_method_40_code
def yX4_status : MethodName := ⟨RX4, "status", "(I)I"⟩
abbrev cX4_finding : ByteArray := prog_1_method_41_code
def yX4_finding : MethodName := ⟨RX4, "finding", "(I)I"⟩
abbrev cX4_within : ByteArray := prog_1_method_42_code
def yX4_within : MethodName := ⟨RX4, "within", "(III)Z"⟩
abbrev cX4_isRoom : ByteArray := prog_1_method_43_code
def yX4_isRoom : MethodName := ⟨RX4, "isRoom", "(I)Z"⟩
abbrev cX4_isMemory : ByteArray := prog_1_method_44_code
def yX4_isMemory : MethodName := ⟨RX4, "isMemory", "(I)Z"⟩
abbrev cX4_isKind : ByteArray := prog_1_method_45_code
def yX4_isKind : MethodName := ⟨RX4, "isKind", "(I)Z"⟩
abbrev cX4_sheetAt : ByteArray := prog_1_method_46_code
def yX4_sheetAt : MethodName := ⟨RX4, "sheetAt", "(I)LDusterRounds$Sheet;"⟩
abbrev cX4_isDuster : ByteArray := prog_1_method_47_code
def yX4_isDuster : MethodName := ⟨RX4, "isDuster", "(I)Z"⟩
abbrev cX4_lookAhead : ByteArray := prog_1_method_48_code
def yX4_lookAhead : MethodName := ⟨RX4, "lookAhead", "(I)V"⟩
abbrev cX4_dustAheadAfter : ByteArray := prog_1_method_49_code
def yX4_dustAheadAfter : MethodName := ⟨RX4, "dustAheadAfter", "(I)I"⟩
abbrev cX4_firstWith : ByteArray := prog_1_method_50_code
def yX4_firstWith : MethodName := ⟨RX4, "firstWith", "([III)I"⟩
abbrev cX4_withMostMemories : ByteArray := prog_1_method_51_code
def yX4_withMostMemories : MethodName := ⟨RX4, "withMostMemories", "([IIII)I"⟩
abbrev cX4_aheadGoesAs : ByteArray := prog_1_method_52_code
def yX4_aheadGoesAs : MethodName := ⟨RX4, "aheadGoesAs", "(LDusterRounds$Sheet;I)Z"⟩
def RX5 : String := "DusterRoundsModel"
def TX5 : u_T := fun k => match k with
  | 0 => ("DusterRoundsModel", "row", "[I", true)
  | 1 => ("DusterRoundsModel", "found", "[I", true)
  | 2 => ("DusterRoundsModel", "tried", "[I", true)
  | 3 => ("DusterRoundsModel", "before1", "[I", true)
  | 4 => ("DusterRoundsModel", "tape", "[I", true)
  | 5 => ("DusterRoundsModel", "tapeMany", "I", false)
  | 6 => ("DusterRoundsModel", "sort", "I", false)
  | 7 => ("DusterRoundsModel", "begins", "I", false)
  | 8 => ("DusterRoundsModel", "tokenEnds", "I", false)
  | 9 => ("DusterRoundsModel", "word", "J", false)
  | 10 => ("DusterRoundsModel", "value", "I", false)
  | 11 => ("DusterRoundsModel", "good", "Z", false)
  | 12 => ("DusterRoundsModel", "bitsOf", "[I", true)
  | 13 => ("DusterRoundsModel", "sizeOf", "[I", true)
  | 14 => ("DusterRoundsModel", "sheets", "[J", true)
  | 15 => ("DusterRoundsModel", "lent", "[J", true)
  | 16 => ("DusterRoundsModel", "image", "[I", true)
  | 17 => ("DusterRoundsModel", "before", "[I", true)
  | _ => ("DusterRoundsModel", "isKept", "Z", false)
def tyX5 : Nat → FieldType := fun k => match k with
  | 0 => .array .int
  | 1 => .array .int
  | 2 => .array .int
  | 3 => .array .int
  | 4 => .array .int
  | 5 => .int
  | 6 => .int
  | 7 => .int
  | 8 => .int
  | 9 => .long
  | 10 => .int
  | 11 => .boolean
  | 12 => .array .int
  | 13 => .array .int
  | 14 => .array .long
  | 15 => .array .long
  | 16 => .array .int
  | 17 => .array .int
  | _ => .boolean
abbrev wsX50 : List Cond := u_ws RX5 TX5 19
theorem nmX5 : ∀ a, a < 19 → ∀ b, b < 19 → a ≠ b → (TX5 a).2.1 ≠ (TX5 b).2.1 := by decide +kernel
theorem tyX5_ok : ∀ k, k < 19 → parseFieldDescriptor (TX5 k).2.2.1 = some (tyX5 k) := by decide +kernel
abbrev cX5_init : ByteArray := prog_7_method_1_code
def yX5_init : MethodName := ⟨RX5, "<init>", "()V"⟩
abbrev cX5_in : ByteArray := prog_7_method_2_code
def yX5_in : MethodName := ⟨RX5, "in", "(III)Z"⟩
abbrev cX5_finds : ByteArray := prog_7_method_3_code
def yX5_finds : MethodName := ⟨RX5, "finds", "(I)I"⟩
abbrev cX5_held : ByteArray := prog_7_method_4_code
def yX5_held : MethodName := ⟨RX5, "held", "(III)I"⟩
abbrev cX5_its : ByteArray := prog_7_method_5_code
def yX5_its : MethodName := ⟨RX5, "its", "(II)I"⟩
abbrev cX5_puts : ByteArray := prog_7_method_6_code
def yX5_puts : MethodName := ⟨RX5, "puts", "(III)V"⟩
abbrev cX5_there : ByteArray := prog_7_method_7_code
def yX5_there : MethodName := ⟨RX5, "there", "(II)I"⟩
abbrev cX5_places : ByteArray := prog_7_method_8_code
def yX5_places : MethodName := ⟨RX5, "places", "(III)V"⟩
abbrev cX5_becomes : ByteArray := prog_7_method_9_code
def yX5_becomes : MethodName := ⟨RX5, "becomes", "(II)I"⟩
abbrev cX5_isOne : ByteArray := prog_7_method_10_code
def yX5_isOne : MethodName := ⟨RX5, "isOne", "(I)Z"⟩
abbrev cX5_isKind : ByteArray := prog_7_method_11_code
def yX5_isKind : MethodName := ⟨RX5, "isKind", "(I)Z"⟩
abbrev cX5_isRoom : ByteArray := prog_7_method_12_code
def yX5_isRoom : MethodName := ⟨RX5, "isRoom", "(I)Z"⟩
abbrev cX5_isMemory : ByteArray := prog_7_method_13_code
def yX5_isMemory : MethodName := ⟨RX5, "isMemory", "(I)Z"⟩
abbrev cX5_bits : ByteArray := prog_7_method_14_code
def yX5_bits : MethodName := ⟨RX5, "bits", "(I)I"⟩
abbrev cX5_falls : ByteArray := prog_7_method_15_code
def yX5_falls : MethodName := ⟨RX5, "falls", "(I)I"⟩
abbrev cX5_room : ByteArray := prog_7_method_16_code
def yX5_room : MethodName := ⟨RX5, "room", "(III)I"⟩
abbrev cX5_roomOfOne : ByteArray := prog_7_method_17_code
def yX5_roomOfOne : MethodName := ⟨RX5, "roomOfOne", "(I)I"⟩
abbrev cX5_inRoom : ByteArray := prog_7_method_18_code
def yX5_inRoom : MethodName := ⟨RX5, "inRoom", "(I)I"⟩
abbrev cX5_roomOf : ByteArray := prog_7_method_19_code
def yX5_roomOf : MethodName := ⟨RX5, "roomOf", "(II)I"⟩
abbrev cX5_dustOfAll : ByteArray := prog_7_method_20_code
def yX5_dustOfAll : MethodName := ⟨RX5, "dustOfAll", "()I"⟩
abbrev cX5_memoriesOfAll : ByteArray := prog_7_method_21_code
def yX5_memoriesOfAll : MethodName := ⟨RX5, "memoriesOfAll", "()I"⟩
abbrev cX5_common : ByteArray := prog_7_method_22_code
def yX5_common : MethodName := ⟨RX5, "common", "()I"⟩
abbrev cX5_anywhere : ByteArray := prog_7_method_23_code
def yX5_anywhere : MethodName := ⟨RX5, "anywhere", "()I"⟩
abbrev cX5_heldByAny : ByteArray := prog_7_method_24_code
def yX5_heldByAny : MethodName := ⟨RX5, "heldByAny", "()I"⟩
abbrev cX5_now : ByteArray := prog_7_method_25_code
def yX5_now : MethodName := ⟨RX5, "now", "(I)I"⟩
abbrev cX5_wipes : ByteArray := prog_7_method_26_code
def yX5_wipes : MethodName := ⟨RX5, "wipes", "(I)I"⟩
abbrev cX5_takesUp : ByteArray := prog_7_method_27_code
def yX5_takesUp : MethodName := ⟨RX5, "takesUp", "(I)I"⟩
abbrev cX5_leaves : ByteArray := prog_7_method_28_code
def yX5_leaves : MethodName := ⟨RX5, "leaves", "(I)I"⟩
abbrev cX5_isKeeping : ByteArray := prog_7_method_29_code
def yX5_isKeeping : MethodName := ⟨RX5, "isKeeping", "(I)Z"⟩
abbrev cX5_adds : ByteArray := prog_7_method_30_code
def yX5_adds : MethodName := ⟨RX5, "adds", "(III)V"⟩
abbrev cX5_duster : ByteArray := prog_7_method_31_code
def yX5_duster : MethodName := ⟨RX5, "duster", "(I)I"⟩
abbrev cX5_of : ByteArray := prog_7_method_32_code
def yX5_of : MethodName := ⟨RX5, "of", "(II)I"⟩
abbrev cX5_isPart : ByteArray := prog_7_method_33_code
def yX5_isPart : MethodName := ⟨RX5, "isPart", "(II)Z"⟩
abbrev cX5_set : ByteArray := prog_7_method_34_code
def yX5_set : MethodName := ⟨RX5, "set", "(III)I"⟩
abbrev cX5_turn : ByteArray := prog_7_method_35_code
def yX5_turn : MethodName := ⟨RX5, "turn", "(II)I"⟩
abbrev cX5_as : ByteArray := prog_7_method_36_code
def yX5_as : MethodName := ⟨RX5, "as", "(II)I"⟩
abbrev cX5_least : ByteArray := prog_7_method_37_code
def yX5_least : MethodName := ⟨RX5, "least", "(II)I"⟩
abbrev cX5_goes : ByteArray := prog_7_method_38_code
def yX5_goes : MethodName := ⟨RX5, "goes", "(II)I"⟩
abbrev cX5_through : ByteArray := prog_7_method_39_code
def yX5_through : MethodName := ⟨RX5, "through", "(II)I"⟩
abbrev cX5_washes : ByteArray := prog_7_method_40_code
def yX5_washes : MethodName := ⟨RX5, "washes", "(I)I"⟩
abbrev cX5_wash : ByteArray := prog_7_method_41_code
def yX5_wash : MethodName := ⟨RX5, "wash", "(I)I"⟩
abbrev cX5_shakes : ByteArray := prog_7_method_42_code
def yX5_shakes : MethodName := ⟨RX5, "shakes", "(I)I"⟩
abbrev cX5_shake : ByteArray := prog_7_method_43_code
def yX5_shake : MethodName := ⟨RX5, "shake", "(I)I"⟩
abbrev cX5_oneDay : ByteArray := prog_7_method_44_code
def yX5_oneDay : MethodName := ⟨RX5, "oneDay", "()V"⟩
abbrev cX5_passes : ByteArray := prog_7_method_45_code
def yX5_passes : MethodName := ⟨RX5, "passes", "(I)V"⟩
abbrev cX5_days : ByteArray := prog_7_method_46_code
def yX5_days : MethodName := ⟨RX5, "days", "(I)I"⟩
abbrev cX5_behind : ByteArray := prog_7_method_47_code
def yX5_behind : MethodName := ⟨RX5, "behind", "(II)I"⟩
abbrev cX5_on : ByteArray := prog_7_method_48_code
def yX5_on : MethodName := ⟨RX5, "on", "(III)I"⟩
abbrev cX5_then : ByteArray := prog_7_method_49_code
def yX5_then : MethodName := ⟨RX5, "then", "(III)I"⟩
abbrev cX5_clean : ByteArray := prog_7_method_50_code
def yX5_clean : MethodName := ⟨RX5, "clean", "(I)I"⟩
abbrev cX5_whenHas : ByteArray := prog_7_method_51_code
def yX5_whenHas : MethodName := ⟨RX5, "whenHas", "(II)I"⟩
abbrev cX5_comes : ByteArray := prog_7_method_52_code
def yX5_comes : MethodName := ⟨RX5, "comes", "(II)I"⟩
abbrev cX5_holds : ByteArray := prog_7_method_53_code
def yX5_holds : MethodName := ⟨RX5, "holds", "(II)I"⟩
abbrev cX5_dustBehind : ByteArray := prog_7_method_54_code
def yX5_dustBehind : MethodName := ⟨RX5, "dustBehind", "(I)I"⟩
abbrev cX5_memoriesBehind : ByteArray := prog_7_method_55_code
def yX5_memoriesBehind : MethodName := ⟨RX5, "memoriesBehind", "(I)I"⟩
abbrev cX5_round : ByteArray := prog_7_method_56_code
def yX5_round : MethodName := ⟨RX5, "round", "(II)I"⟩
abbrev cX5_mostBy : ByteArray := prog_7_method_57_code
def yX5_mostBy : MethodName := ⟨RX5, "mostBy", "(IIII)I"⟩
abbrev cX5_kind : ByteArray := prog_7_method_58_code
def yX5_kind : MethodName := ⟨RX5, "kind", "(II)I"⟩
abbrev cX5_grime : ByteArray := prog_7_method_59_code
def yX5_grime : MethodName := ⟨RX5, "grime", "(II)I"⟩
abbrev cX5_best : ByteArray := prog_7_method_60_code
def yX5_best : MethodName := ⟨RX5, "best", "(I)I"⟩
abbrev cX5_delay : ByteArray := prog_7_method_61_code
def yX5_delay : MethodName := ⟨RX5, "delay", "(III)I"⟩
abbrev cX5_bears : ByteArray := prog_7_method_62_code
def yX5_bears : MethodName := ⟨RX5, "bears", "(I)I"⟩
abbrev cX5_fullest : ByteArray := prog_7_method_63_code
def yX5_fullest : MethodName := ⟨RX5, "fullest", "(I)I"⟩
abbrev cX5_feed : ByteArray := prog_7_method_64_code
def yX5_feed : MethodName := ⟨RX5, "feed", "(II)I"⟩
abbrev cX5_wipe : ByteArray := prog_7_method_65_code
def yX5_wipe : MethodName := ⟨RX5, "wipe", "()I"⟩
abbrev cX5_byteAt : ByteArray := prog_7_method_66_code
def yX5_byteAt : MethodName := ⟨RX5, "byteAt", "(I)I"⟩
abbrev cX5_isLetter : ByteArray := prog_7_method_67_code
def yX5_isLetter : MethodName := ⟨RX5, "isLetter", "(I)Z"⟩
abbrev cX5_isDigit : ByteArray := prog_7_method_68_code
def yX5_isDigit : MethodName := ⟨RX5, "isDigit", "(I)Z"⟩
abbrev cX5_advance : ByteArray := prog_7_method_69_code
def yX5_advance : MethodName := ⟨RX5, "advance", "()V"⟩
abbrev cX5_isWord : ByteArray := prog_7_method_70_code
def yX5_isWord : MethodName := ⟨RX5, "isWord", "(J)Z"⟩
abbrev cX5_kindHere : ByteArray := prog_7_method_71_code
def yX5_kindHere : MethodName := ⟨RX5, "kindHere", "()I"⟩
abbrev cX5_wantNumber : ByteArray := prog_7_method_72_code
def yX5_wantNumber : MethodName := ⟨RX5, "wantNumber", "(II)I"⟩
abbrev cX5_mayWant : ByteArray := prog_7_method_73_code
def yX5_mayWant : MethodName := ⟨RX5, "mayWant", "(JIII)I"⟩
abbrev cX5_mayMemories : ByteArray := prog_7_method_74_code
def yX5_mayMemories : MethodName := ⟨RX5, "mayMemories", "(J)I"⟩
abbrev cX5_wantOne : ByteArray := prog_7_method_75_code
def yX5_wantOne : MethodName := ⟨RX5, "wantOne", "(I)V"⟩
abbrev cX5_wantRoom : ByteArray := prog_7_method_76_code
def yX5_wantRoom : MethodName := ⟨RX5, "wantRoom", "()V"⟩
abbrev cX5_wantItem : ByteArray := prog_7_method_77_code
def yX5_wantItem : MethodName := ⟨RX5, "wantItem", "()V"⟩
abbrev cX5_house : ByteArray := prog_7_method_78_code
def yX5_house : MethodName := ⟨RX5, "house", "()I"⟩
abbrev cX5_isSheet : ByteArray := prog_7_method_79_code
def yX5_isSheet : MethodName := ⟨RX5, "isSheet", "(I)Z"⟩
abbrev cX5_narrow : ByteArray := prog_7_method_80_code
def yX5_narrow : MethodName := ⟨RX5, "narrow", "(IJ)J"⟩
abbrev cX5_sheet : ByteArray := prog_7_method_81_code
def yX5_sheet : MethodName := ⟨RX5, "sheet", "(III)I"⟩
abbrev cX5_write : ByteArray := prog_7_method_82_code
def yX5_write : MethodName := ⟨RX5, "write", "(IIJ)J"⟩
abbrev cX5_isPart_ : ByteArray := prog_7_method_83_code
def yX5_isPart_ : MethodName := ⟨RX5, "isPart", "(III)Z"⟩
abbrev cX5_copy : ByteArray := prog_7_method_84_code
def yX5_copy : MethodName := ⟨RX5, "copy", "(IIIII)I"⟩
abbrev cX5_badSheet : ByteArray := prog_7_method_85_code
def yX5_badSheet : MethodName := ⟨RX5, "badSheet", "(I)I"⟩
abbrev cX5_lays : ByteArray := prog_7_method_86_code
def yX5_lays : MethodName := ⟨RX5, "lays", "(I)I"⟩
abbrev cX5_book : ByteArray := prog_7_method_87_code
def yX5_book : MethodName := ⟨RX5, "book", "(II)I"⟩
abbrev cX5_isSo : ByteArray := prog_7_method_88_code
def yX5_isSo : MethodName := ⟨RX5, "isSo", "(II)Z"⟩
abbrev cX5_read : ByteArray := prog_7_method_89_code
def yX5_read : MethodName := ⟨RX5, "read", "(III)I"⟩
abbrev cX5_moveAll : ByteArray := prog_7_method_90_code
def yX5_moveAll : MethodName := ⟨RX5, "moveAll", "(Z[I)V"⟩
abbrev cX5_image : ByteArray := prog_7_method_91_code
def yX5_image : MethodName := ⟨RX5, "image", "()I"⟩
abbrev cX5_undo : ByteArray := prog_7_method_92_code
def yX5_undo : MethodName := ⟨RX5, "undo", "()I"⟩
abbrev cX5_tear : ByteArray := prog_7_method_93_code
def yX5_tear : MethodName := ⟨RX5, "tear", "()I"⟩
abbrev cX5_grimeOfAll : ByteArray := prog_7_method_94_code
def yX5_grimeOfAll : MethodName := ⟨RX5, "grimeOfAll", "()I"⟩
abbrev cX5_count : ByteArray := prog_7_method_95_code
def yX5_count : MethodName := ⟨RX5, "count", "(I)I"⟩
abbrev cX5_status : ByteArray := prog_7_method_96_code
def yX5_status : MethodName := ⟨RX5, "status", "(I)I"⟩
def RJ6 : String := "java/lang/Integer"
def TJ6 : u_T := fun k => match k with
  | _ => ("", "", "", false)
def tyJ6 : Nat → FieldType := fun k => match k with
  | _ => .int
abbrev wsJ60 : List Cond := u_ws RJ6 TJ6 0
theorem nmJ6 : ∀ a, a < 0 → ∀ b, b < 0 → a ≠ b → (TJ6 a).2.1 ≠ (TJ6 b).2.1 := by decide +kernel
theorem tyJ6_ok : ∀ k, k < 0 → parseFieldDescriptor (TJ6 k).2.2.1 = some (tyJ6 k) := by decide +kernel
abbrev cJ6_bitCount_0f7a4 : ByteArray := prog_8_method_49_code
def yJ6_bitCount_0f7a4 : MethodName := ⟨RJ6, "bitCount", "(I)I"⟩
def RJ9 : String := "java/lang/Math"
def TJ9 : u_T := fun k => match k with
  | _ => ("", "", "", false)
def tyJ9 : Nat → FieldType := fun k => match k with
  | _ => .int
abbrev wsJ90 : List Cond := u_ws RJ9 TJ9 0
theorem nmJ9 : ∀ a, a < 0 → ∀ b, b < 0 → a ≠ b → (TJ9 a).2.1 ≠ (TJ9 b).2.1 := by decide +kernel
theorem tyJ9_ok : ∀ k, k < 0 → parseFieldDescriptor (TJ9 k).2.2.1 = some (tyJ9 k) := by decide +kernel
abbrev cJ9_max_7cf53 : ByteArray := prog_9_method_65_code
def yJ9_max_7cf53 : MethodName := ⟨RJ9, "max", "(II)I"⟩
abbrev cJ9_min_7cf53 : ByteArray := prog_9_method_69_code
def yJ9_min_7cf53 : MethodName := ⟨RJ9, "min", "(II)I"⟩
def RJ0 : String := "java/lang/String"
def TJ0 : u_T := fun k => match k with
  | _ => ("", "", "", false)
def tyJ0 : Nat → FieldType := fun k => match k with
  | _ => .int
abbrev wsJ00 : List Cond := u_ws RJ0 TJ0 0
theorem nmJ0 : ∀ a, a < 0 → ∀ b, b < 0 → a ≠ b → (TJ0 a).2.1 ≠ (TJ0 b).2.1 := by decide +kernel
theorem tyJ0_ok : ∀ k, k < 0 → parseFieldDescriptor (TJ0 k).2.2.1 = some (tyJ0 k) := by decide +kernel
abbrev cJ0_length_8abf5 : ByteArray := prog_10_method_54_code
def yJ0_length_8abf5 : MethodName := ⟨RJ0, "length", "()I"⟩
abbrev cJ0_charAt_5068e : ByteArray := prog_10_method_56_code
def yJ0_charAt_5068e : MethodName := ⟨RJ0, "charAt", "(I)C"⟩
abbrev cJ0_coder_7d493 : ByteArray := prog_10_method_152_code
def yJ0_coder_7d493 : MethodName := ⟨RJ0, "coder", "()B"⟩
abbrev cJ0_isLatin1_aae02 : ByteArray := prog_10_method_154_code
def yJ0_isLatin1_aae02 : MethodName := ⟨RJ0, "isLatin1", "()Z"⟩
abbrev cJ0_checkIndex_df160 : ByteArray := prog_10_method_155_code
def yJ0_checkIndex_df160 : MethodName := ⟨RJ0, "checkIndex", "(II)V"⟩
def RJ1 : String := "java/lang/StringLatin1"
def TJ1 : u_T := fun k => match k with
  | _ => ("", "", "", false)
def tyJ1 : Nat → FieldType := fun k => match k with
  | _ => .int
abbrev wsJ10 : List Cond := u_ws RJ1 TJ1 0
theorem nmJ1 : ∀ a, a < 0 → ∀ b, b < 0 → a ≠ b → (TJ1 a).2.1 ≠ (TJ1 b).2.1 := by decide +kernel
theorem tyJ1_ok : ∀ k, k < 0 → parseFieldDescriptor (TJ1 k).2.2.1 = some (tyJ1 k) := by decide +kernel
abbrev cJ1_charAt_3b067 : ByteArray := prog_11_method_2_code
def yJ1_charAt_3b067 : MethodName := ⟨RJ1, "charAt", "([BI)C"⟩
def RJ2 : String := "java/lang/StringUTF16"
def TJ2 : u_T := fun k => match k with
  | _ => ("", "", "", false)
def tyJ2 : Nat → FieldType := fun k => match k with
  | _ => .int
abbrev wsJ20 : List Cond := u_ws RJ2 TJ2 0
theorem nmJ2 : ∀ a, a < 0 → ∀ b, b < 0 → a ≠ b → (TJ2 a).2.1 ≠ (TJ2 b).2.1 := by decide +kernel
theorem tyJ2_ok : ∀ k, k < 0 → parseFieldDescriptor (TJ2 k).2.2.1 = some (tyJ2 k) := by decide +kernel
abbrev cJ2_getChar_3b067 : ByteArray := prog_12_method_5_code
def yJ2_getChar_3b067 : MethodName := ⟨RJ2, "getChar", "([BI)C"⟩
abbrev cJ2_length_9d52b : ByteArray := prog_12_method_6_code
def yJ2_length_9d52b : MethodName := ⟨RJ2, "length", "([B)I"⟩
abbrev cJ2_charAt_3b067 : ByteArray := prog_12_method_83_code
def yJ2_charAt_3b067 : MethodName := ⟨RJ2, "charAt", "([BI)C"⟩
abbrev cJ2_checkIndex_2214a : ByteArray := prog_12_method_91_code
def yJ2_checkIndex_2214a : MethodName := ⟨RJ2, "checkIndex", "(I[B)V"⟩
def RJ10 : String := "java/lang/System"
def TJ10 : u_T := fun k => match k with
  | _ => ("", "", "", false)
def tyJ10 : Nat → FieldType := fun k => match k with
  | _ => .int
abbrev wsJ100 : List Cond := u_ws RJ10 TJ10 0
theorem nmJ10 : ∀ a, a < 0 → ∀ b, b < 0 → a ≠ b → (TJ10 a).2.1 ≠ (TJ10 b).2.1 := by decide +kernel
theorem tyJ10_ok : ∀ k, k < 0 → parseFieldDescriptor (TJ10 k).2.2.1 = some (tyJ10 k) := by decide +kernel
def RJ3 : String := "jdk/internal/util/Preconditions"
def TJ3 : u_T := fun k => match k with
  | _ => ("", "", "", false)
def tyJ3 : Nat → FieldType := fun k => match k with
  | _ => .int
abbrev wsJ30 : List Cond := u_ws RJ3 TJ3 0
theorem nmJ3 : ∀ a, a < 0 → ∀ b, b < 0 → a ≠ b → (TJ3 a).2.1 ≠ (TJ3 b).2.1 := by decide +kernel
theorem tyJ3_ok : ∀ k, k < 0 → parseFieldDescriptor (TJ3 k).2.2.1 = some (tyJ3 k) := by decide +kernel
abbrev cJ3_checkIndex_8e157 : ByteArray := prog_14_method_11_code
def yJ3_checkIndex_8e157 : MethodName := ⟨RJ3, "checkIndex", "(IILjava/util/function/BiFunction;)I"⟩
def RL : String := "DusterRoundsLaw"
abbrev cL_law : ByteArray := code
def yL_law : MethodName := ⟨RL, "law", "([I)Z"⟩
abbrev vwCl : List vw_C := [(RX0, TX0, 9), (RX2, TX2, 3), (RX3, TX3, 7), (RX4, TX4, 8), (RX5, TX5, 19)]
def zz_good (w : Cond) : Bool := goodWord w
def zT : List Cond := lw_tbl.filter zz_good
theorem zT_in {w : Cond} (i : Nat) (h : lw_tbl[i]? = some w) (hg : zz_good w = true) : w ∈ zT := List.mem_filter.mpr ⟨List.mem_of_getElem? h, hg⟩
end
section
theorem wd_0 : (Jvm.Cond.selects "DusterRounds" ({ cls := "DusterRounds", name := "finding", desc := "(I)I" } : Jvm.MethodName) ({ cls := "DusterRounds", name := "finding", desc := "(I)I" } : Jvm.MethodName)) ∈ zT := zT_in 0 (by decide +kernel) (by decide +kernel)
theorem wd_1 : (Jvm.Cond.selects "DusterRounds" ({ cls := "DusterRounds", name := "isDuster", desc := "(I)Z" } : Jvm.MethodName) ({ cls := "DusterRounds", name := "isDuster", desc := "(I)Z" } : Jvm.MethodName)) ∈ zT := zT_in 1 (by decide +kernel) (by decide +kernel)
theorem wd_2 : (Jvm.Cond.selects "DusterRounds" ({ cls := "DusterRounds", name := "lookAhead", desc := "(I)V" } : Jvm.MethodName) ({ cls := "DusterRounds", name := "lookAhead", desc := "(I)V" } : Jvm.MethodName)) ∈ zT := zT_in 2 (by decide +kernel) (by decide +kernel)
theorem wd_3 : (Jvm.Cond.selects "DusterRounds" ({ cls := "DusterRounds", name := "firstWith", desc := "([III)I" } : Jvm.MethodName) ({ cls := "DusterRounds", name := "firstWith", desc := "([III)I" } : Jvm.MethodName)) ∈ zT := zT_in 3 (by decide +kernel) (by decide +kernel)
theorem wd_4 : (Jvm.Cond.selects "DusterRounds" ({ cls := "DusterRounds", name := "dustAheadAfter", desc := "(I)I" } : Jvm.MethodName) ({ cls := "DusterRounds", name := "dustAheadAfter", desc := "(I)I" } : Jvm.MethodName)) ∈ zT := zT_in 4 (by decide +kernel) (by decide +kernel)
theorem wd_5 : (Jvm.Cond.selects "DusterRounds" ({ cls := "DusterRounds", name := "withMostMemories", desc := "([IIII)I" } : Jvm.MethodName) ({ cls := "DusterRounds", name := "withMostMemories", desc := "([IIII)I" } : Jvm.MethodName)) ∈ zT := zT_in 5 (by decide +kernel) (by decide +kernel)
theorem wd_6 : (Jvm.Cond.selects "DusterRounds$Tape" ({ cls := "DusterRounds$Tape", name := "step", desc := "()V" } : Jvm.MethodName) ({ cls := "DusterRounds$Tape", name := "step", desc := "()V" } : Jvm.MethodName)) ∈ zT := zT_in 6 (by decide +kernel) (by decide +kernel)
theorem wd_7 : (Jvm.Cond.selects "DusterRounds$Tape" ({ cls := "DusterRounds$Tape", name := "stepOverWord", desc := "()V" } : Jvm.MethodName) ({ cls := "DusterRounds$Tape", name := "stepOverWord", desc := "()V" } : Jvm.MethodName)) ∈ zT := zT_in 7 (by decide +kernel) (by decide +kernel)
theorem wd_8 : (Jvm.Cond.selects "DusterRounds$Tape" ({ cls := "DusterRounds$Tape", name := "stepOverNumber", desc := "()V" } : Jvm.MethodName) ({ cls := "DusterRounds$Tape", name := "stepOverNumber", desc := "()V" } : Jvm.MethodName)) ∈ zT := zT_in 8 (by decide +kernel) (by decide +kernel)
theorem wd_9 : (Jvm.Cond.selects "DusterRounds$Tape" ({ cls := "DusterRounds$Tape", name := "tellItem", desc := "(LDusterRounds$House;)Z" } : Jvm.MethodName) ({ cls := "DusterRounds$Tape", name := "tellItem", desc := "(LDusterRounds$House;)Z" } : Jvm.MethodName)) ∈ zT := zT_in 9 (by decide +kernel) (by decide +kernel)
theorem wd_10 : (Jvm.Cond.selects "DusterRounds$Tape" ({ cls := "DusterRounds$Tape", name := "tellRoom", desc := "(LDusterRounds$House;)Z" } : Jvm.MethodName) ({ cls := "DusterRounds$Tape", name := "tellRoom", desc := "(LDusterRounds$House;)Z" } : Jvm.MethodName)) ∈ zT := zT_in 10 (by decide +kernel) (by decide +kernel)
theorem wd_11 : (Jvm.Cond.selects "DusterRounds$Tape" ({ cls := "DusterRounds$Tape", name := "isNumberTo", desc := "(I)Z" } : Jvm.MethodName) ({ cls := "DusterRounds$Tape", name := "isNumberTo", desc := "(I)Z" } : Jvm.MethodName)) ∈ zT := zT_in 11 (by decide +kernel) (by decide +kernel)
theorem wd_12 : (Jvm.Cond.selects "DusterRounds$Tape" ({ cls := "DusterRounds$Tape", name := "isWord", desc := "(I)Z" } : Jvm.MethodName) ({ cls := "DusterRounds$Tape", name := "isWord", desc := "(I)Z" } : Jvm.MethodName)) ∈ zT := zT_in 12 (by decide +kernel) (by decide +kernel)
theorem wd_13 : (Jvm.Cond.selects "DusterRounds$Tape" ({ cls := "DusterRounds$Tape", name := "tellMemories", desc := "()Z" } : Jvm.MethodName) ({ cls := "DusterRounds$Tape", name := "tellMemories", desc := "()Z" } : Jvm.MethodName)) ∈ zT := zT_in 13 (by decide +kernel) (by decide +kernel)
theorem wd_14 : (Jvm.Cond.selects "DusterRounds$Tape" ({ cls := "DusterRounds$Tape", name := "tellFalls", desc := "(LDusterRounds$House;)Z" } : Jvm.MethodName) ({ cls := "DusterRounds$Tape", name := "tellFalls", desc := "(LDusterRounds$House;)Z" } : Jvm.MethodName)) ∈ zT := zT_in 14 (by decide +kernel) (by decide +kernel)
theorem wd_15 : (Jvm.Cond.selects "DusterRounds$Tape" ({ cls := "DusterRounds$Tape", name := "tellWash", desc := "(LDusterRounds$House;)Z" } : Jvm.MethodName) ({ cls := "DusterRounds$Tape", name := "tellWash", desc := "(LDusterRounds$House;)Z" } : Jvm.MethodName)) ∈ zT := zT_in 15 (by decide +kernel) (by decide +kernel)
theorem wd_16 : (Jvm.Cond.selects "DusterRounds$Tape" ({ cls := "DusterRounds$Tape", name := "tellDuster", desc := "(LDusterRounds$House;)Z" } : Jvm.MethodName) ({ cls := "DusterRounds$Tape", name := "tellDuster", desc := "(LDusterRounds$House;)Z" } : Jvm.MethodName)) ∈ zT := zT_in 16 (by decide +kernel) (by decide +kernel)
theorem wd_17 : (Jvm.Cond.selects "DusterRounds" ({ cls := "DusterRounds", name := "sheetAt", desc := "(I)LDusterRounds$Sheet;" } : Jvm.MethodName) ({ cls := "DusterRounds", name := "sheetAt", desc := "(I)LDusterRounds$Sheet;" } : Jvm.MethodName)) ∈ zT := zT_in 17 (by decide +kernel) (by decide +kernel)
theorem wd_18 : (Jvm.Cond.selects "DusterRounds" ({ cls := "DusterRounds", name := "aheadGoesAs", desc := "(LDusterRounds$Sheet;I)Z" } : Jvm.MethodName) ({ cls := "DusterRounds", name := "aheadGoesAs", desc := "(LDusterRounds$Sheet;I)Z" } : Jvm.MethodName)) ∈ zT := zT_in 18 (by decide +kernel) (by decide +kernel)
theorem wd_19 : (Jvm.Cond.selects "DusterRoundsModel" ({ cls := "DusterRoundsModel", name := "places", desc := "(III)V" } : Jvm.MethodName) ({ cls := "DusterRoundsModel", name := "places", desc := "(III)V" } : Jvm.MethodName)) ∈ zT := zT_in 19 (by decide +kernel) (by decide +kernel)
theorem wd_20 : (Jvm.Cond.selects "DusterRoundsModel" ({ cls := "DusterRoundsModel", name := "becomes", desc := "(II)I" } : Jvm.MethodName) ({ cls := "DusterRoundsModel", name := "becomes", desc := "(II)I" } : Jvm.MethodName)) ∈ zT := zT_in 20 (by decide +kernel) (by decide +kernel)
theorem wd_21 : (Jvm.Cond.selects "DusterRoundsModel" ({ cls := "DusterRoundsModel", name := "finds", desc := "(I)I" } : Jvm.MethodName) ({ cls := "DusterRoundsModel", name := "finds", desc := "(I)I" } : Jvm.MethodName)) ∈ zT := zT_in 21 (by decide +kernel) (by decide +kernel)
theorem wd_22 : (Jvm.Cond.selects "DusterRoundsModel" ({ cls := "DusterRoundsModel", name := "there", desc := "(II)I" } : Jvm.MethodName) ({ cls := "DusterRoundsModel", name := "there", desc := "(II)I" } : Jvm.MethodName)) ∈ zT := zT_in 22 (by decide +kernel) (by decide +kernel)
theorem wd_23 : (Jvm.Cond.selects "DusterRoundsModel" ({ cls := "DusterRoundsModel", name := "inRoom", desc := "(I)I" } : Jvm.MethodName) ({ cls := "DusterRoundsModel", name := "inRoom", desc := "(I)I" } : Jvm.MethodName)) ∈ zT := zT_in 23 (by decide +kernel) (by decide +kernel)
theorem wd_24 : (Jvm.Cond.selects "DusterRoundsModel" ({ cls := "DusterRoundsModel", name := "roomOfOne", desc := "(I)I" } : Jvm.MethodName) ({ cls := "DusterRoundsModel", name := "roomOfOne", desc := "(I)I" } : Jvm.MethodName)) ∈ zT := zT_in 24 (by decide +kernel) (by decide +kernel)
theorem wd_25 : (Jvm.Cond.selects "DusterRoundsModel" ({ cls := "DusterRoundsModel", name := "its", desc := "(II)I" } : Jvm.MethodName) ({ cls := "DusterRoundsModel", name := "its", desc := "(II)I" } : Jvm.MethodName)) ∈ zT := zT_in 25 (by decide +kernel) (by decide +kernel)
theorem wd_26 : (Jvm.Cond.selects "DusterRoundsModel" ({ cls := "DusterRoundsModel", name := "dustOfAll", desc := "()I" } : Jvm.MethodName) ({ cls := "DusterRoundsModel", name := "dustOfAll", desc := "()I" } : Jvm.MethodName)) ∈ zT := zT_in 26 (by decide +kernel) (by decide +kernel)
theorem wd_27 : (Jvm.Cond.selects "DusterRoundsModel" ({ cls := "DusterRoundsModel", name := "common", desc := "()I" } : Jvm.MethodName) ({ cls := "DusterRoundsModel", name := "common", desc := "()I" } : Jvm.MethodName)) ∈ zT := zT_in 27 (by decide +kernel) (by decide +kernel)
theorem wd_28 : (Jvm.Cond.selects "DusterRoundsModel" ({ cls := "DusterRoundsModel", name := "anywhere", desc := "()I" } : Jvm.MethodName) ({ cls := "DusterRoundsModel", name := "anywhere", desc := "()I" } : Jvm.MethodName)) ∈ zT := zT_in 28 (by decide +kernel) (by decide +kernel)
theorem wd_29 : (Jvm.Cond.selects "DusterRoundsModel" ({ cls := "DusterRoundsModel", name := "heldByAny", desc := "()I" } : Jvm.MethodName) ({ cls := "DusterRoundsModel", name := "heldByAny", desc := "()I" } : Jvm.MethodName)) ∈ zT := zT_in 29 (by decide +kernel) (by decide +kernel)
theorem wd_30 : (Jvm.Cond.selects "DusterRoundsModel" ({ cls := "DusterRoundsModel", name := "adds", desc := "(III)V" } : Jvm.MethodName) ({ cls := "DusterRoundsModel", name := "adds", desc := "(III)V" } : Jvm.MethodName)) ∈ zT := zT_in 30 (by decide +kernel) (by decide +kernel)
theorem wd_31 : (Jvm.Cond.selects "DusterRoundsModel" ({ cls := "DusterRoundsModel", name := "puts", desc := "(III)V" } : Jvm.MethodName) ({ cls := "DusterRoundsModel", name := "puts", desc := "(III)V" } : Jvm.MethodName)) ∈ zT := zT_in 31 (by decide +kernel) (by decide +kernel)
theorem wd_32 : (Jvm.Cond.selects "DusterRoundsModel" ({ cls := "DusterRoundsModel", name := "isOne", desc := "(I)Z" } : Jvm.MethodName) ({ cls := "DusterRoundsModel", name := "isOne", desc := "(I)Z" } : Jvm.MethodName)) ∈ zT := zT_in 32 (by decide +kernel) (by decide +kernel)
theorem wd_33 : (Jvm.Cond.selects "DusterRoundsModel" ({ cls := "DusterRoundsModel", name := "wipes", desc := "(I)I" } : Jvm.MethodName) ({ cls := "DusterRoundsModel", name := "wipes", desc := "(I)I" } : Jvm.MethodName)) ∈ zT := zT_in 33 (by decide +kernel) (by decide +kernel)
theorem wd_34 : (Jvm.Cond.selects "DusterRoundsModel" ({ cls := "DusterRoundsModel", name := "takesUp", desc := "(I)I" } : Jvm.MethodName) ({ cls := "DusterRoundsModel", name := "takesUp", desc := "(I)I" } : Jvm.MethodName)) ∈ zT := zT_in 34 (by decide +kernel) (by decide +kernel)
theorem wd_35 : (Jvm.Cond.selects "DusterRoundsModel" ({ cls := "DusterRoundsModel", name := "leaves", desc := "(I)I" } : Jvm.MethodName) ({ cls := "DusterRoundsModel", name := "leaves", desc := "(I)I" } : Jvm.MethodName)) ∈ zT := zT_in 35 (by decide +kernel) (by decide +kernel)
theorem wd_36 : (Jvm.Cond.selects "DusterRoundsModel" ({ cls := "DusterRoundsModel", name := "isKeeping", desc := "(I)Z" } : Jvm.MethodName) ({ cls := "DusterRoundsModel", name := "isKeeping", desc := "(I)Z" } : Jvm.MethodName)) ∈ zT := zT_in 36 (by decide +kernel) (by decide +kernel)
theorem wd_37 : (Jvm.Cond.selects "DusterRoundsModel" ({ cls := "DusterRoundsModel", name := "goes", desc := "(II)I" } : Jvm.MethodName) ({ cls := "DusterRoundsModel", name := "goes", desc := "(II)I" } : Jvm.MethodName)) ∈ zT := zT_in 37 (by decide +kernel) (by decide +kernel)
theorem wd_38 : (Jvm.Cond.selects "DusterRoundsModel" ({ cls := "DusterRoundsModel", name := "washes", desc := "(I)I" } : Jvm.MethodName) ({ cls := "DusterRoundsModel", name := "washes", desc := "(I)I" } : Jvm.MethodName)) ∈ zT := zT_in 38 (by decide +kernel) (by decide +kernel)
theorem wd_39 : (Jvm.Cond.selects "DusterRoundsModel" ({ cls := "DusterRoundsModel", name := "shakes", desc := "(I)I" } : Jvm.MethodName) ({ cls := "DusterRoundsModel", name := "shakes", desc := "(I)I" } : Jvm.MethodName)) ∈ zT := zT_in 39 (by decide +kernel) (by decide +kernel)
theorem wd_40 : (Jvm.Cond.selects "DusterRoundsModel" ({ cls := "DusterRoundsModel", name := "passes", desc := "(I)V" } : Jvm.MethodName) ({ cls := "DusterRoundsModel", name := "passes", desc := "(I)V" } : Jvm.MethodName)) ∈ zT := zT_in 40 (by decide +kernel) (by decide +kernel)
theorem wd_41 : (Jvm.Cond.selects "DusterRoundsModel" ({ cls := "DusterRoundsModel", name := "oneDay", desc := "()V" } : Jvm.MethodName) ({ cls := "DusterRoundsModel", name := "oneDay", desc := "()V" } : Jvm.MethodName)) ∈ zT := zT_in 41 (by decide +kernel) (by decide +kernel)
theorem wd_42 : (Jvm.Cond.selects "DusterRoundsModel" ({ cls := "DusterRoundsModel", name := "behind", desc := "(II)I" } : Jvm.MethodName) ({ cls := "DusterRoundsModel", name := "behind", desc := "(II)I" } : Jvm.MethodName)) ∈ zT := zT_in 42 (by decide +kernel) (by decide +kernel)
theorem wd_43 : (Jvm.Cond.selects "DusterRoundsModel" ({ cls := "DusterRoundsModel", name := "moveAll", desc := "(Z[I)V" } : Jvm.MethodName) ({ cls := "DusterRoundsModel", name := "moveAll", desc := "(Z[I)V" } : Jvm.MethodName)) ∈ zT := zT_in 43 (by decide +kernel) (by decide +kernel)
theorem wd_44 : (Jvm.Cond.selects "DusterRoundsModel" ({ cls := "DusterRoundsModel", name := "whenHas", desc := "(II)I" } : Jvm.MethodName) ({ cls := "DusterRoundsModel", name := "whenHas", desc := "(II)I" } : Jvm.MethodName)) ∈ zT := zT_in 44 (by decide +kernel) (by decide +kernel)
theorem wd_45 : (Jvm.Cond.selects "DusterRoundsModel" ({ cls := "DusterRoundsModel", name := "dustBehind", desc := "(I)I" } : Jvm.MethodName) ({ cls := "DusterRoundsModel", name := "dustBehind", desc := "(I)I" } : Jvm.MethodName)) ∈ zT := zT_in 45 (by decide +kernel) (by decide +kernel)
theorem wd_46 : (Jvm.Cond.selects "DusterRoundsModel" ({ cls := "DusterRoundsModel", name := "mostBy", desc := "(IIII)I" } : Jvm.MethodName) ({ cls := "DusterRoundsModel", name := "mostBy", desc := "(IIII)I" } : Jvm.MethodName)) ∈ zT := zT_in 46 (by decide +kernel) (by decide +kernel)
theorem wd_47 : (Jvm.Cond.selects "DusterRoundsModel" ({ cls := "DusterRoundsModel", name := "memoriesBehind", desc := "(I)I" } : Jvm.MethodName) ({ cls := "DusterRoundsModel", name := "memoriesBehind", desc := "(I)I" } : Jvm.MethodName)) ∈ zT := zT_in 47 (by decide +kernel) (by decide +kernel)
theorem wd_48 : (Jvm.Cond.selects "DusterRoundsModel" ({ cls := "DusterRoundsModel", name := "memoriesOfAll", desc := "()I" } : Jvm.MethodName) ({ cls := "DusterRoundsModel", name := "memoriesOfAll", desc := "()I" } : Jvm.MethodName)) ∈ zT := zT_in 48 (by decide +kernel) (by decide +kernel)
theorem wd_49 : (Jvm.Cond.selects "DusterRoundsModel" ({ cls := "DusterRoundsModel", name := "advance", desc := "()V" } : Jvm.MethodName) ({ cls := "DusterRoundsModel", name := "advance", desc := "()V" } : Jvm.MethodName)) ∈ zT := zT_in 49 (by decide +kernel) (by decide +kernel)
theorem wd_50 : (Jvm.Cond.selects "DusterRoundsModel" ({ cls := "DusterRoundsModel", name := "byteAt", desc := "(I)I" } : Jvm.MethodName) ({ cls := "DusterRoundsModel", name := "byteAt", desc := "(I)I" } : Jvm.MethodName)) ∈ zT := zT_in 50 (by decide +kernel) (by decide +kernel)
theorem wd_51 : (Jvm.Cond.selects "DusterRoundsModel" ({ cls := "DusterRoundsModel", name := "wantItem", desc := "()V" } : Jvm.MethodName) ({ cls := "DusterRoundsModel", name := "wantItem", desc := "()V" } : Jvm.MethodName)) ∈ zT := zT_in 51 (by decide +kernel) (by decide +kernel)
theorem wd_52 : (Jvm.Cond.selects "DusterRoundsModel" ({ cls := "DusterRoundsModel", name := "kindHere", desc := "()I" } : Jvm.MethodName) ({ cls := "DusterRoundsModel", name := "kindHere", desc := "()I" } : Jvm.MethodName)) ∈ zT := zT_in 52 (by decide +kernel) (by decide +kernel)
theorem wd_53 : (Jvm.Cond.selects "DusterRoundsModel" ({ cls := "DusterRoundsModel", name := "isWord", desc := "(J)Z" } : Jvm.MethodName) ({ cls := "DusterRoundsModel", name := "isWord", desc := "(J)Z" } : Jvm.MethodName)) ∈ zT := zT_in 53 (by decide +kernel) (by decide +kernel)
theorem wd_54 : (Jvm.Cond.selects "DusterRoundsModel" ({ cls := "DusterRoundsModel", name := "wantOne", desc := "(I)V" } : Jvm.MethodName) ({ cls := "DusterRoundsModel", name := "wantOne", desc := "(I)V" } : Jvm.MethodName)) ∈ zT := zT_in 54 (by decide +kernel) (by decide +kernel)
theorem wd_55 : (Jvm.Cond.selects "DusterRoundsModel" ({ cls := "DusterRoundsModel", name := "mayMemories", desc := "(J)I" } : Jvm.MethodName) ({ cls := "DusterRoundsModel", name := "mayMemories", desc := "(J)I" } : Jvm.MethodName)) ∈ zT := zT_in 55 (by decide +kernel) (by decide +kernel)
theorem wd_56 : (Jvm.Cond.selects "DusterRoundsModel" ({ cls := "DusterRoundsModel", name := "wantNumber", desc := "(II)I" } : Jvm.MethodName) ({ cls := "DusterRoundsModel", name := "wantNumber", desc := "(II)I" } : Jvm.MethodName)) ∈ zT := zT_in 56 (by decide +kernel) (by decide +kernel)
theorem wd_57 : (Jvm.Cond.selects "DusterRoundsModel" ({ cls := "DusterRoundsModel", name := "mayWant", desc := "(JIII)I" } : Jvm.MethodName) ({ cls := "DusterRoundsModel", name := "mayWant", desc := "(JIII)I" } : Jvm.MethodName)) ∈ zT := zT_in 57 (by decide +kernel) (by decide +kernel)
theorem wd_58 : (Jvm.Cond.selects "DusterRoundsModel" ({ cls := "DusterRoundsModel", name := "wantRoom", desc := "()V" } : Jvm.MethodName) ({ cls := "DusterRoundsModel", name := "wantRoom", desc := "()V" } : Jvm.MethodName)) ∈ zT := zT_in 58 (by decide +kernel) (by decide +kernel)
theorem wd_59 : (Jvm.Cond.selects "DusterRoundsModel" ({ cls := "DusterRoundsModel", name := "isPart", desc := "(III)Z" } : Jvm.MethodName) ({ cls := "DusterRoundsModel", name := "isPart", desc := "(III)Z" } : Jvm.MethodName)) ∈ zT := zT_in 59 (by decide +kernel) (by decide +kernel)
theorem wd_60 : (Jvm.Cond.selects "DusterRoundsModel" ({ cls := "DusterRoundsModel", name := "badSheet", desc := "(I)I" } : Jvm.MethodName) ({ cls := "DusterRoundsModel", name := "badSheet", desc := "(I)I" } : Jvm.MethodName)) ∈ zT := zT_in 60 (by decide +kernel) (by decide +kernel)
theorem wd_61 : (Jvm.Cond.selects "DusterRoundsModel" ({ cls := "DusterRoundsModel", name := "isSo", desc := "(II)Z" } : Jvm.MethodName) ({ cls := "DusterRoundsModel", name := "isSo", desc := "(II)Z" } : Jvm.MethodName)) ∈ zT := zT_in 61 (by decide +kernel) (by decide +kernel)
theorem wd_62 : (Jvm.Cond.selects "DusterRoundsModel" ({ cls := "DusterRoundsModel", name := "grimeOfAll", desc := "()I" } : Jvm.MethodName) ({ cls := "DusterRoundsModel", name := "grimeOfAll", desc := "()I" } : Jvm.MethodName)) ∈ zT := zT_in 62 (by decide +kernel) (by decide +kernel)
theorem wd_63 : (Jvm.Cond.initialized "DusterRoundsLaw") ∈ zT := zT_in 63 (by decide +kernel) (by decide +kernel)
theorem wd_64 : (Jvm.Cond.initialized "DusterRounds") ∈ zT := zT_in 64 (by decide +kernel) (by decide +kernel)
theorem wd_65 : (Jvm.Cond.initialized "DusterRounds$House") ∈ zT := zT_in 65 (by decide +kernel) (by decide +kernel)
theorem wd_66 : (Jvm.Cond.initialized "DusterRounds$Tape") ∈ zT := zT_in 66 (by decide +kernel) (by decide +kernel)
theorem wd_67 : (Jvm.Cond.initialized "DusterRounds$Sheet") ∈ zT := zT_in 67 (by decide +kernel) (by decide +kernel)
theorem wd_68 : (Jvm.Cond.initialized "DusterRoundsModel") ∈ zT := zT_in 68 (by decide +kernel) (by decide +kernel)
theorem wd_69 : (Jvm.Cond.initialized "DusterRounds$Kinds") ∈ zT := zT_in 69 (by decide +kernel) (by decide +kernel)
theorem wd_70 : (Jvm.Cond.initialized "java/lang/Math") ∈ zT := zT_in 70 (by decide +kernel) (by decide +kernel)
theorem wd_71 : (Jvm.Cond.initialized "java/lang/Integer") ∈ zT := zT_in 71 (by decide +kernel) (by decide +kernel)
theorem wd_72 : (Jvm.Cond.initialized "java/lang/System") ∈ zT := zT_in 72 (by decide +kernel) (by decide +kernel)
theorem wd_73 : (Jvm.Cond.initialized "java/lang/String") ∈ zT := zT_in 73 (by decide +kernel) (by decide +kernel)
theorem wd_74 : (Jvm.Cond.initialized "java/lang/StringLatin1") ∈ zT := zT_in 74 (by decide +kernel) (by decide +kernel)
theorem wd_75 : (Jvm.Cond.initialized "jdk/internal/util/Preconditions") ∈ zT := zT_in 75 (by decide +kernel) (by decide +kernel)
theorem wd_76 : (Jvm.Cond.initialized "java/lang/StringUTF16") ∈ zT := zT_in 76 (by decide +kernel) (by decide +kernel)
theorem wd_77 : (Jvm.Cond.classLink "DusterRoundsLaw" (7 : Nat) "DusterRounds") ∈ zT := zT_in 77 (by decide +kernel) (by decide +kernel)
theorem wd_78 : (Jvm.Cond.instantiable "DusterRounds" (8 : Nat)) ∈ zT := zT_in 78 (by decide +kernel) (by decide +kernel)
theorem wd_79 : (Jvm.Cond.methodLink "DusterRoundsLaw" (9 : Nat) ({ cls := "DusterRounds", name := "<init>", desc := "()V" } : Jvm.MethodName)) ∈ zT := zT_in 79 (by decide +kernel) (by decide +kernel)
theorem wd_80 : (Jvm.Cond.instanceMethod ({ cls := "DusterRounds", name := "<init>", desc := "()V" } : Jvm.MethodName)) ∈ zT := zT_in 80 (by decide +kernel) (by decide +kernel)
theorem wd_81 : (Jvm.Cond.code ({ cls := "DusterRounds", name := "<init>", desc := "()V" } : Jvm.MethodName) prog_1_method_1_code (2 : Nat) (Option.none : Option Jvm.ClassFile.FieldType)) ∈ zT := zT_in 81 (by decide +kernel) (by decide +kernel)
theorem wd_82 : (Jvm.Cond.methodLink "DusterRounds" (3 : Nat) ({ cls := "java/lang/Object", name := "<init>", desc := "()V" } : Jvm.MethodName)) ∈ zT := zT_in 82 (by decide +kernel) (by decide +kernel)
theorem wd_83 : (Jvm.Cond.instanceMethod ({ cls := "java/lang/Object", name := "<init>", desc := "()V" } : Jvm.MethodName)) ∈ zT := zT_in 83 (by decide +kernel) (by decide +kernel)
theorem wd_84 : (Jvm.Cond.code ({ cls := "java/lang/Object", name := "<init>", desc := "()V" } : Jvm.MethodName) object_method_1_code (1 : Nat) (Option.none : Option Jvm.ClassFile.FieldType)) ∈ zT := zT_in 84 (by decide +kernel) (by decide +kernel)
theorem wd_85 : (Jvm.Cond.classLink "DusterRounds" (9 : Nat) "DusterRounds$House") ∈ zT := zT_in 85 (by decide +kernel) (by decide +kernel)
theorem wd_86 : (Jvm.Cond.instantiable "DusterRounds$House" (9 : Nat)) ∈ zT := zT_in 86 (by decide +kernel) (by decide +kernel)
theorem wd_87 : (Jvm.Cond.methodLink "DusterRounds" (11 : Nat) ({ cls := "DusterRounds$House", name := "<init>", desc := "()V" } : Jvm.MethodName)) ∈ zT := zT_in 87 (by decide +kernel) (by decide +kernel)
theorem wd_88 : (Jvm.Cond.instanceMethod ({ cls := "DusterRounds$House", name := "<init>", desc := "()V" } : Jvm.MethodName)) ∈ zT := zT_in 88 (by decide +kernel) (by decide +kernel)
theorem wd_89 : (Jvm.Cond.code ({ cls := "DusterRounds$House", name := "<init>", desc := "()V" } : Jvm.MethodName) prog_2_method_1_code (2 : Nat) (Option.none : Option Jvm.ClassFile.FieldType)) ∈ zT := zT_in 89 (by decide +kernel) (by decide +kernel)
theorem wd_90 : (Jvm.Cond.methodLink "DusterRounds$House" (3 : Nat) ({ cls := "java/lang/Object", name := "<init>", desc := "()V" } : Jvm.MethodName)) ∈ zT := zT_in 90 (by decide +kernel) (by decide +kernel)
theorem wd_91 : (Jvm.Cond.fieldLink "DusterRounds$House" (9 : Nat) "DusterRounds$House" "dust" "[I") ∈ zT := zT_in 91 (by decide +kernel) (by decide +kernel)
theorem wd_92 : (Jvm.Cond.fieldLink "DusterRounds" (64 : Nat) "DusterRounds$House" "dust" "[I") ∈ zT := zT_in 92 (by decide +kernel) (by decide +kernel)
theorem wd_93 : (Jvm.Cond.fieldLink "DusterRounds$Tape" (78 : Nat) "DusterRounds$House" "dust" "[I") ∈ zT := zT_in 93 (by decide +kernel) (by decide +kernel)
theorem wd_94 : (Jvm.Cond.fieldLink "DusterRounds$House" (15 : Nat) "DusterRounds$House" "memories" "[I") ∈ zT := zT_in 94 (by decide +kernel) (by decide +kernel)
theorem wd_95 : (Jvm.Cond.fieldLink "DusterRounds" (67 : Nat) "DusterRounds$House" "memories" "[I") ∈ zT := zT_in 95 (by decide +kernel) (by decide +kernel)
theorem wd_96 : (Jvm.Cond.fieldLink "DusterRounds$Tape" (81 : Nat) "DusterRounds$House" "memories" "[I") ∈ zT := zT_in 96 (by decide +kernel) (by decide +kernel)
theorem wd_97 : (Jvm.Cond.fieldLink "DusterRounds$House" (18 : Nat) "DusterRounds$House" "kinds" "[I") ∈ zT := zT_in 97 (by decide +kernel) (by decide +kernel)
theorem wd_98 : (Jvm.Cond.fieldLink "DusterRounds" (102 : Nat) "DusterRounds$House" "kinds" "[I") ∈ zT := zT_in 98 (by decide +kernel) (by decide +kernel)
theorem wd_99 : (Jvm.Cond.fieldLink "DusterRounds$House" (21 : Nat) "DusterRounds$House" "held" "[I") ∈ zT := zT_in 99 (by decide +kernel) (by decide +kernel)
theorem wd_100 : (Jvm.Cond.fieldLink "DusterRounds$Tape" (69 : Nat) "DusterRounds$House" "held" "[I") ∈ zT := zT_in 100 (by decide +kernel) (by decide +kernel)
theorem wd_101 : (Jvm.Cond.fieldLink "DusterRounds" (108 : Nat) "DusterRounds$House" "held" "[I") ∈ zT := zT_in 101 (by decide +kernel) (by decide +kernel)
theorem wd_102 : (Jvm.Cond.fieldLink "DusterRounds$House" (24 : Nat) "DusterRounds$House" "grimes" "[I") ∈ zT := zT_in 102 (by decide +kernel) (by decide +kernel)
theorem wd_103 : (Jvm.Cond.fieldLink "DusterRounds$Tape" (75 : Nat) "DusterRounds$House" "grimes" "[I") ∈ zT := zT_in 103 (by decide +kernel) (by decide +kernel)
theorem wd_104 : (Jvm.Cond.fieldLink "DusterRounds" (105 : Nat) "DusterRounds$House" "grimes" "[I") ∈ zT := zT_in 104 (by decide +kernel) (by decide +kernel)
theorem wd_105 : (Jvm.Cond.fieldLink "DusterRounds$House" (27 : Nat) "DusterRounds$House" "rounds" "[I") ∈ zT := zT_in 105 (by decide +kernel) (by decide +kernel)
theorem wd_106 : (Jvm.Cond.fieldLink "DusterRounds" (111 : Nat) "DusterRounds$House" "rounds" "[I") ∈ zT := zT_in 106 (by decide +kernel) (by decide +kernel)
theorem wd_107 : (Jvm.Cond.fieldLink "DusterRounds$House" (30 : Nat) "DusterRounds$House" "day" "I") ∈ zT := zT_in 107 (by decide +kernel) (by decide +kernel)
theorem wd_108 : (Jvm.Cond.fieldLink "DusterRounds" (73 : Nat) "DusterRounds$House" "day" "I") ∈ zT := zT_in 108 (by decide +kernel) (by decide +kernel)
theorem wd_109 : (Jvm.Cond.fieldLink "DusterRounds$House" (34 : Nat) "DusterRounds$House" "fall" "I") ∈ zT := zT_in 109 (by decide +kernel) (by decide +kernel)
theorem wd_110 : (Jvm.Cond.fieldLink "DusterRounds" (56 : Nat) "DusterRounds$House" "fall" "I") ∈ zT := zT_in 110 (by decide +kernel) (by decide +kernel)
theorem wd_111 : (Jvm.Cond.fieldLink "DusterRounds$Tape" (83 : Nat) "DusterRounds$House" "fall" "I") ∈ zT := zT_in 111 (by decide +kernel) (by decide +kernel)
theorem wd_112 : (Jvm.Cond.fieldLink "DusterRounds$House" (37 : Nat) "DusterRounds$House" "dusters" "I") ∈ zT := zT_in 112 (by decide +kernel) (by decide +kernel)
theorem wd_113 : (Jvm.Cond.fieldLink "DusterRounds" (92 : Nat) "DusterRounds$House" "dusters" "I") ∈ zT := zT_in 113 (by decide +kernel) (by decide +kernel)
theorem wd_114 : (Jvm.Cond.fieldLink "DusterRounds$Tape" (86 : Nat) "DusterRounds$House" "dusters" "I") ∈ zT := zT_in 114 (by decide +kernel) (by decide +kernel)
theorem wd_115 : (Jvm.Cond.laysFinal "DusterRounds$House" "DusterRounds$House" "dust" "[I") ∈ zT := zT_in 115 (by decide +kernel) (by decide +kernel)
theorem wd_117 : (Jvm.Cond.laysFinal "DusterRounds$House" "DusterRounds$House" "memories" "[I") ∈ zT := zT_in 117 (by decide +kernel) (by decide +kernel)
theorem wd_119 : (Jvm.Cond.laysFinal "DusterRounds$House" "DusterRounds$House" "kinds" "[I") ∈ zT := zT_in 119 (by decide +kernel) (by decide +kernel)
theorem wd_121 : (Jvm.Cond.laysFinal "DusterRounds$House" "DusterRounds$House" "held" "[I") ∈ zT := zT_in 121 (by decide +kernel) (by decide +kernel)
theorem wd_123 : (Jvm.Cond.laysFinal "DusterRounds$House" "DusterRounds$House" "grimes" "[I") ∈ zT := zT_in 123 (by decide +kernel) (by decide +kernel)
theorem wd_125 : (Jvm.Cond.laysFinal "DusterRounds$House" "DusterRounds$House" "rounds" "[I") ∈ zT := zT_in 125 (by decide +kernel) (by decide +kernel)
theorem wd_127 : (Jvm.Cond.lays "DusterRounds$House" "DusterRounds$House" "day" "I") ∈ zT := zT_in 127 (by decide +kernel) (by decide +kernel)
theorem wd_129 : (Jvm.Cond.lays "DusterRounds$House" "DusterRounds$House" "fall" "I") ∈ zT := zT_in 129 (by decide +kernel) (by decide +kernel)
theorem wd_131 : (Jvm.Cond.lays "DusterRounds$House" "DusterRounds$House" "dusters" "I") ∈ zT := zT_in 131 (by decide +kernel) (by decide +kernel)
theorem wd_134 : (Jvm.Cond.arrayClass Jvm.ClassFile.FieldType.int) ∈ zT := zT_in 134 (by decide +kernel) (by decide +kernel)
theorem wd_135 : (Jvm.Cond.classLink "DusterRounds" (25 : Nat) "DusterRounds$Tape") ∈ zT := zT_in 135 (by decide +kernel) (by decide +kernel)
theorem wd_136 : (Jvm.Cond.instantiable "DusterRounds$Tape" (7 : Nat)) ∈ zT := zT_in 136 (by decide +kernel) (by decide +kernel)
theorem wq_137 : (Jvm.Cond.methodLinkNest "DusterRounds" (27 : Nat) ({ cls := "DusterRounds$Tape", name := "<init>", desc := "()V" } : Jvm.MethodName) "DusterRounds") ∈ lw_tbl := List.mem_of_getElem? (i := 137) (by decide +kernel)
theorem wd_138 : (Jvm.Cond.instanceMethod ({ cls := "DusterRounds$Tape", name := "<init>", desc := "()V" } : Jvm.MethodName)) ∈ zT := zT_in 138 (by decide +kernel) (by decide +kernel)
theorem wd_139 : (Jvm.Cond.code ({ cls := "DusterRounds$Tape", name := "<init>", desc := "()V" } : Jvm.MethodName) prog_5_method_1_code (1 : Nat) (Option.none : Option Jvm.ClassFile.FieldType)) ∈ zT := zT_in 139 (by decide +kernel) (by decide +kernel)
theorem wd_140 : (Jvm.Cond.methodLink "DusterRounds$Tape" (3 : Nat) ({ cls := "java/lang/Object", name := "<init>", desc := "()V" } : Jvm.MethodName)) ∈ zT := zT_in 140 (by decide +kernel) (by decide +kernel)
theorem wd_141 : (Jvm.Cond.fieldLink "DusterRounds$Tape" (9 : Nat) "DusterRounds$Tape" "bytes" "[I") ∈ zT := zT_in 141 (by decide +kernel) (by decide +kernel)
theorem wd_142 : (Jvm.Cond.fieldLink "DusterRounds$Tape" (15 : Nat) "DusterRounds$Tape" "length" "I") ∈ zT := zT_in 142 (by decide +kernel) (by decide +kernel)
theorem wd_143 : (Jvm.Cond.fieldLink "DusterRounds" (182 : Nat) "DusterRounds$Tape" "length" "I") ∈ zT := zT_in 143 (by decide +kernel) (by decide +kernel)
theorem wd_144 : (Jvm.Cond.fieldLink "DusterRounds$Tape" (19 : Nat) "DusterRounds$Tape" "token" "I") ∈ zT := zT_in 144 (by decide +kernel) (by decide +kernel)
theorem wd_145 : (Jvm.Cond.fieldLink "DusterRounds$Tape" (22 : Nat) "DusterRounds$Tape" "value" "I") ∈ zT := zT_in 145 (by decide +kernel) (by decide +kernel)
theorem wd_146 : (Jvm.Cond.fieldLink "DusterRounds$Tape" (25 : Nat) "DusterRounds$Tape" "start" "I") ∈ zT := zT_in 146 (by decide +kernel) (by decide +kernel)
theorem wd_147 : (Jvm.Cond.fieldLink "DusterRounds$Tape" (28 : Nat) "DusterRounds$Tape" "end" "I") ∈ zT := zT_in 147 (by decide +kernel) (by decide +kernel)
theorem wd_148 : (Jvm.Cond.fieldLink "DusterRounds$Tape" (31 : Nat) "DusterRounds$Tape" "memories" "I") ∈ zT := zT_in 148 (by decide +kernel) (by decide +kernel)
theorem wd_149 : (Jvm.Cond.laysFinal "DusterRounds$Tape" "DusterRounds$Tape" "bytes" "[I") ∈ zT := zT_in 149 (by decide +kernel) (by decide +kernel)
theorem wd_151 : (Jvm.Cond.lays "DusterRounds$Tape" "DusterRounds$Tape" "length" "I") ∈ zT := zT_in 151 (by decide +kernel) (by decide +kernel)
theorem wd_153 : (Jvm.Cond.lays "DusterRounds$Tape" "DusterRounds$Tape" "token" "I") ∈ zT := zT_in 153 (by decide +kernel) (by decide +kernel)
theorem wd_155 : (Jvm.Cond.lays "DusterRounds$Tape" "DusterRounds$Tape" "value" "I") ∈ zT := zT_in 155 (by decide +kernel) (by decide +kernel)
theorem wd_157 : (Jvm.Cond.lays "DusterRounds$Tape" "DusterRounds$Tape" "start" "I") ∈ zT := zT_in 157 (by decide +kernel) (by decide +kernel)
theorem wd_159 : (Jvm.Cond.lays "DusterRounds$Tape" "DusterRounds$Tape" "end" "I") ∈ zT := zT_in 159 (by decide +kernel) (by decide +kernel)
theorem wd_161 : (Jvm.Cond.lays "DusterRounds$Tape" "DusterRounds$Tape" "memories" "I") ∈ zT := zT_in 161 (by decide +kernel) (by decide +kernel)
theorem wd_164 : (Jvm.Cond.classLink "DusterRounds" (32 : Nat) "DusterRounds$Sheet") ∈ zT := zT_in 164 (by decide +kernel) (by decide +kernel)
theorem wq_165 : (Jvm.Cond.arrayOver (Jvm.ClassFile.FieldType.object "DusterRounds$Sheet")) ∈ lw_tbl := List.mem_of_getElem? (i := 165) (by decide +kernel)
theorem wd_166 : (Jvm.Cond.instantiable "DusterRounds$Sheet" (3 : Nat)) ∈ zT := zT_in 166 (by decide +kernel) (by decide +kernel)
theorem wq_167 : (Jvm.Cond.methodLinkNest "DusterRounds" (46 : Nat) ({ cls := "DusterRounds$Sheet", name := "<init>", desc := "()V" } : Jvm.MethodName) "DusterRounds") ∈ lw_tbl := List.mem_of_getElem? (i := 167) (by decide +kernel)
theorem wd_168 : (Jvm.Cond.instanceMethod ({ cls := "DusterRounds$Sheet", name := "<init>", desc := "()V" } : Jvm.MethodName)) ∈ zT := zT_in 168 (by decide +kernel) (by decide +kernel)
theorem wd_169 : (Jvm.Cond.code ({ cls := "DusterRounds$Sheet", name := "<init>", desc := "()V" } : Jvm.MethodName) prog_4_method_1_code (1 : Nat) (Option.none : Option Jvm.ClassFile.FieldType)) ∈ zT := zT_in 169 (by decide +kernel) (by decide +kernel)
theorem wd_170 : (Jvm.Cond.methodLink "DusterRounds$Sheet" (3 : Nat) ({ cls := "java/lang/Object", name := "<init>", desc := "()V" } : Jvm.MethodName)) ∈ zT := zT_in 170 (by decide +kernel) (by decide +kernel)
theorem wd_171 : (Jvm.Cond.fieldLink "DusterRounds$Sheet" (9 : Nat) "DusterRounds$Sheet" "numbers" "[J") ∈ zT := zT_in 171 (by decide +kernel) (by decide +kernel)
theorem wd_172 : (Jvm.Cond.fieldLink "DusterRounds" (208 : Nat) "DusterRounds$Sheet" "numbers" "[J") ∈ zT := zT_in 172 (by decide +kernel) (by decide +kernel)
theorem wd_173 : (Jvm.Cond.fieldLink "DusterRounds$Sheet" (15 : Nat) "DusterRounds$Sheet" "bits" "I") ∈ zT := zT_in 173 (by decide +kernel) (by decide +kernel)
theorem wd_174 : (Jvm.Cond.fieldLink "DusterRounds" (215 : Nat) "DusterRounds$Sheet" "bits" "I") ∈ zT := zT_in 174 (by decide +kernel) (by decide +kernel)
theorem wd_175 : (Jvm.Cond.fieldLink "DusterRounds$Sheet" (19 : Nat) "DusterRounds$Sheet" "size" "I") ∈ zT := zT_in 175 (by decide +kernel) (by decide +kernel)
theorem wd_176 : (Jvm.Cond.fieldLink "DusterRounds" (205 : Nat) "DusterRounds$Sheet" "size" "I") ∈ zT := zT_in 176 (by decide +kernel) (by decide +kernel)
theorem wd_177 : (Jvm.Cond.laysFinal "DusterRounds$Sheet" "DusterRounds$Sheet" "numbers" "[J") ∈ zT := zT_in 177 (by decide +kernel) (by decide +kernel)
theorem wd_179 : (Jvm.Cond.lays "DusterRounds$Sheet" "DusterRounds$Sheet" "bits" "I") ∈ zT := zT_in 179 (by decide +kernel) (by decide +kernel)
theorem wd_181 : (Jvm.Cond.lays "DusterRounds$Sheet" "DusterRounds$Sheet" "size" "I") ∈ zT := zT_in 181 (by decide +kernel) (by decide +kernel)
theorem wd_184 : (Jvm.Cond.arrayClass Jvm.ClassFile.FieldType.long) ∈ zT := zT_in 184 (by decide +kernel) (by decide +kernel)
theorem wd_185 : (Jvm.Cond.fieldLink "DusterRounds" (12 : Nat) "DusterRounds" "live" "LDusterRounds$House;") ∈ zT := zT_in 185 (by decide +kernel) (by decide +kernel)
theorem wd_186 : (Jvm.Cond.fieldLink "DusterRounds" (16 : Nat) "DusterRounds" "kept" "LDusterRounds$House;") ∈ zT := zT_in 186 (by decide +kernel) (by decide +kernel)
theorem wd_187 : (Jvm.Cond.fieldLink "DusterRounds" (19 : Nat) "DusterRounds" "ahead" "LDusterRounds$House;") ∈ zT := zT_in 187 (by decide +kernel) (by decide +kernel)
theorem wd_188 : (Jvm.Cond.fieldLink "DusterRounds" (22 : Nat) "DusterRounds" "aside" "LDusterRounds$House;") ∈ zT := zT_in 188 (by decide +kernel) (by decide +kernel)
theorem wd_189 : (Jvm.Cond.fieldLink "DusterRounds" (28 : Nat) "DusterRounds" "tape" "LDusterRounds$Tape;") ∈ zT := zT_in 189 (by decide +kernel) (by decide +kernel)
theorem wd_190 : (Jvm.Cond.fieldLink "DusterRounds" (34 : Nat) "DusterRounds" "sheets" "[LDusterRounds$Sheet;") ∈ zT := zT_in 190 (by decide +kernel) (by decide +kernel)
theorem wd_191 : (Jvm.Cond.fieldLink "DusterRounds" (38 : Nat) "DusterRounds" "found" "[I") ∈ zT := zT_in 191 (by decide +kernel) (by decide +kernel)
theorem wd_192 : (Jvm.Cond.fieldLink "DusterRounds" (42 : Nat) "DusterRounds" "somethingKept" "Z") ∈ zT := zT_in 192 (by decide +kernel) (by decide +kernel)
theorem wd_193 : (Jvm.Cond.laysFinal "DusterRounds" "DusterRounds" "live" "LDusterRounds$House;") ∈ zT := zT_in 193 (by decide +kernel) (by decide +kernel)
theorem wd_195 : (Jvm.Cond.laysFinal "DusterRounds" "DusterRounds" "kept" "LDusterRounds$House;") ∈ zT := zT_in 195 (by decide +kernel) (by decide +kernel)
theorem wd_197 : (Jvm.Cond.laysFinal "DusterRounds" "DusterRounds" "ahead" "LDusterRounds$House;") ∈ zT := zT_in 197 (by decide +kernel) (by decide +kernel)
theorem wd_199 : (Jvm.Cond.laysFinal "DusterRounds" "DusterRounds" "aside" "LDusterRounds$House;") ∈ zT := zT_in 199 (by decide +kernel) (by decide +kernel)
theorem wd_201 : (Jvm.Cond.laysFinal "DusterRounds" "DusterRounds" "tape" "LDusterRounds$Tape;") ∈ zT := zT_in 201 (by decide +kernel) (by decide +kernel)
theorem wd_203 : (Jvm.Cond.laysFinal "DusterRounds" "DusterRounds" "sheets" "[LDusterRounds$Sheet;") ∈ zT := zT_in 203 (by decide +kernel) (by decide +kernel)
theorem wd_205 : (Jvm.Cond.laysFinal "DusterRounds" "DusterRounds" "found" "[I") ∈ zT := zT_in 205 (by decide +kernel) (by decide +kernel)
theorem wd_207 : (Jvm.Cond.lays "DusterRounds" "DusterRounds" "somethingKept" "Z") ∈ zT := zT_in 207 (by decide +kernel) (by decide +kernel)
theorem wd_210 : (Jvm.Cond.methodLink "DusterRoundsLaw" (13 : Nat) ({ cls := "DusterRounds", name := "falls", desc := "(I)I" } : Jvm.MethodName)) ∈ zT := zT_in 210 (by decide +kernel) (by decide +kernel)
theorem wd_211 : (Jvm.Cond.instanceMethod ({ cls := "DusterRounds", name := "falls", desc := "(I)I" } : Jvm.MethodName)) ∈ zT := zT_in 211 (by decide +kernel) (by decide +kernel)
theorem wd_212 : (Jvm.Cond.selects "DusterRounds" ({ cls := "DusterRounds", name := "falls", desc := "(I)I" } : Jvm.MethodName) ({ cls := "DusterRounds", name := "falls", desc := "(I)I" } : Jvm.MethodName)) ∈ zT := zT_in 212 (by decide +kernel) (by decide +kernel)
theorem wd_213 : (Jvm.Cond.code ({ cls := "DusterRounds", name := "falls", desc := "(I)I" } : Jvm.MethodName) prog_1_method_2_code (3 : Nat) (Option.some Jvm.ClassFile.FieldType.int)) ∈ zT := zT_in 213 (by decide +kernel) (by decide +kernel)
theorem wd_214 : (Jvm.Cond.methodLink "DusterRounds" (47 : Nat) ({ cls := "DusterRounds", name := "within", desc := "(III)Z" } : Jvm.MethodName)) ∈ zT := zT_in 214 (by decide +kernel) (by decide +kernel)
theorem wd_215 : (Jvm.Cond.static ({ cls := "DusterRounds", name := "within", desc := "(III)Z" } : Jvm.MethodName)) ∈ zT := zT_in 215 (by decide +kernel) (by decide +kernel)
theorem wd_216 : (Jvm.Cond.code ({ cls := "DusterRounds", name := "within", desc := "(III)Z" } : Jvm.MethodName) prog_1_method_42_code (3 : Nat) (Option.some Jvm.ClassFile.FieldType.boolean)) ∈ zT := zT_in 216 (by decide +kernel) (by decide +kernel)
theorem wd_217 : (Jvm.Cond.constant "DusterRounds" (51 : Nat) (-1000000001 : Int32)) ∈ zT := zT_in 217 (by decide +kernel) (by decide +kernel)
theorem wd_218 : (Jvm.Cond.methodLink "DusterRounds" (52 : Nat) ({ cls := "DusterRounds", name := "finding", desc := "(I)I" } : Jvm.MethodName)) ∈ zT := zT_in 218 (by decide +kernel) (by decide +kernel)
theorem wd_220 : (Jvm.Cond.instanceMethod ({ cls := "DusterRounds", name := "finding", desc := "(I)I" } : Jvm.MethodName)) ∈ zT := zT_in 220 (by decide +kernel) (by decide +kernel)
theorem wd_221 : (Jvm.Cond.code ({ cls := "DusterRounds", name := "finding", desc := "(I)I" } : Jvm.MethodName) prog_1_method_41_code (3 : Nat) (Option.some Jvm.ClassFile.FieldType.int)) ∈ zT := zT_in 221 (by decide +kernel) (by decide +kernel)
theorem wd_222 : (Jvm.Cond.methodLink "DusterRoundsLaw" (18 : Nat) ({ cls := "DusterRounds", name := "room", desc := "(III)I" } : Jvm.MethodName)) ∈ zT := zT_in 222 (by decide +kernel) (by decide +kernel)
theorem wd_223 : (Jvm.Cond.instanceMethod ({ cls := "DusterRounds", name := "room", desc := "(III)I" } : Jvm.MethodName)) ∈ zT := zT_in 223 (by decide +kernel) (by decide +kernel)
theorem wd_224 : (Jvm.Cond.selects "DusterRounds" ({ cls := "DusterRounds", name := "room", desc := "(III)I" } : Jvm.MethodName) ({ cls := "DusterRounds", name := "room", desc := "(III)I" } : Jvm.MethodName)) ∈ zT := zT_in 224 (by decide +kernel) (by decide +kernel)
theorem wd_225 : (Jvm.Cond.code ({ cls := "DusterRounds", name := "room", desc := "(III)I" } : Jvm.MethodName) prog_1_method_3_code (6 : Nat) (Option.some Jvm.ClassFile.FieldType.int)) ∈ zT := zT_in 225 (by decide +kernel) (by decide +kernel)
theorem wd_226 : (Jvm.Cond.methodLink "DusterRounds" (60 : Nat) ({ cls := "DusterRounds", name := "isRoom", desc := "(I)Z" } : Jvm.MethodName)) ∈ zT := zT_in 226 (by decide +kernel) (by decide +kernel)
theorem wd_227 : (Jvm.Cond.static ({ cls := "DusterRounds", name := "isRoom", desc := "(I)Z" } : Jvm.MethodName)) ∈ zT := zT_in 227 (by decide +kernel) (by decide +kernel)
theorem wd_228 : (Jvm.Cond.code ({ cls := "DusterRounds", name := "isRoom", desc := "(I)Z" } : Jvm.MethodName) prog_1_method_43_code (1 : Nat) (Option.some Jvm.ClassFile.FieldType.boolean)) ∈ zT := zT_in 228 (by decide +kernel) (by decide +kernel)
theorem wd_229 : (Jvm.Cond.methodLink "DusterRoundsLaw" (23 : Nat) ({ cls := "DusterRounds", name := "roomOf", desc := "(II)I" } : Jvm.MethodName)) ∈ zT := zT_in 229 (by decide +kernel) (by decide +kernel)
theorem wd_230 : (Jvm.Cond.instanceMethod ({ cls := "DusterRounds", name := "roomOf", desc := "(II)I" } : Jvm.MethodName)) ∈ zT := zT_in 230 (by decide +kernel) (by decide +kernel)
theorem wd_231 : (Jvm.Cond.selects "DusterRounds" ({ cls := "DusterRounds", name := "roomOf", desc := "(II)I" } : Jvm.MethodName) ({ cls := "DusterRounds", name := "roomOf", desc := "(II)I" } : Jvm.MethodName)) ∈ zT := zT_in 231 (by decide +kernel) (by decide +kernel)
theorem wd_232 : (Jvm.Cond.code ({ cls := "DusterRounds", name := "roomOf", desc := "(II)I" } : Jvm.MethodName) prog_1_method_4_code (3 : Nat) (Option.some Jvm.ClassFile.FieldType.int)) ∈ zT := zT_in 232 (by decide +kernel) (by decide +kernel)
theorem wd_233 : (Jvm.Cond.methodLink "DusterRounds" (70 : Nat) ({ cls := "DusterRounds$House", name := "whoIsIn", desc := "(I)I" } : Jvm.MethodName)) ∈ zT := zT_in 233 (by decide +kernel) (by decide +kernel)
theorem wd_234 : (Jvm.Cond.instanceMethod ({ cls := "DusterRounds$House", name := "whoIsIn", desc := "(I)I" } : Jvm.MethodName)) ∈ zT := zT_in 234 (by decide +kernel) (by decide +kernel)
theorem wd_235 : (Jvm.Cond.selects "DusterRounds$House" ({ cls := "DusterRounds$House", name := "whoIsIn", desc := "(I)I" } : Jvm.MethodName) ({ cls := "DusterRounds$House", name := "whoIsIn", desc := "(I)I" } : Jvm.MethodName)) ∈ zT := zT_in 235 (by decide +kernel) (by decide +kernel)
theorem wd_236 : (Jvm.Cond.code ({ cls := "DusterRounds$House", name := "whoIsIn", desc := "(I)I" } : Jvm.MethodName) prog_2_method_5_code (4 : Nat) (Option.some Jvm.ClassFile.FieldType.int)) ∈ zT := zT_in 236 (by decide +kernel) (by decide +kernel)
theorem wd_237 : (Jvm.Cond.methodLink "DusterRounds$House" (46 : Nat) ({ cls := "DusterRounds$House", name := "whereIs", desc := "(I)I" } : Jvm.MethodName)) ∈ zT := zT_in 237 (by decide +kernel) (by decide +kernel)
theorem wd_238 : (Jvm.Cond.instanceMethod ({ cls := "DusterRounds$House", name := "whereIs", desc := "(I)I" } : Jvm.MethodName)) ∈ zT := zT_in 238 (by decide +kernel) (by decide +kernel)
theorem wd_239 : (Jvm.Cond.selects "DusterRounds$House" ({ cls := "DusterRounds$House", name := "whereIs", desc := "(I)I" } : Jvm.MethodName) ({ cls := "DusterRounds$House", name := "whereIs", desc := "(I)I" } : Jvm.MethodName)) ∈ zT := zT_in 239 (by decide +kernel) (by decide +kernel)
theorem wd_240 : (Jvm.Cond.code ({ cls := "DusterRounds$House", name := "whereIs", desc := "(I)I" } : Jvm.MethodName) prog_2_method_4_code (2 : Nat) (Option.some Jvm.ClassFile.FieldType.int)) ∈ zT := zT_in 240 (by decide +kernel) (by decide +kernel)
theorem wd_241 : (Jvm.Cond.methodLink "DusterRoundsLaw" (28 : Nat) ({ cls := "DusterRounds", name := "now", desc := "(I)I" } : Jvm.MethodName)) ∈ zT := zT_in 241 (by decide +kernel) (by decide +kernel)
theorem wd_242 : (Jvm.Cond.instanceMethod ({ cls := "DusterRounds", name := "now", desc := "(I)I" } : Jvm.MethodName)) ∈ zT := zT_in 242 (by decide +kernel) (by decide +kernel)
theorem wd_243 : (Jvm.Cond.selects "DusterRounds" ({ cls := "DusterRounds", name := "now", desc := "(I)I" } : Jvm.MethodName) ({ cls := "DusterRounds", name := "now", desc := "(I)I" } : Jvm.MethodName)) ∈ zT := zT_in 243 (by decide +kernel) (by decide +kernel)
theorem wd_244 : (Jvm.Cond.code ({ cls := "DusterRounds", name := "now", desc := "(I)I" } : Jvm.MethodName) prog_1_method_5_code (2 : Nat) (Option.some Jvm.ClassFile.FieldType.int)) ∈ zT := zT_in 244 (by decide +kernel) (by decide +kernel)
theorem wd_245 : (Jvm.Cond.methodLink "DusterRounds" (76 : Nat) ({ cls := "DusterRounds$House", name := "dustOfAll", desc := "()I" } : Jvm.MethodName)) ∈ zT := zT_in 245 (by decide +kernel) (by decide +kernel)
theorem wd_246 : (Jvm.Cond.instanceMethod ({ cls := "DusterRounds$House", name := "dustOfAll", desc := "()I" } : Jvm.MethodName)) ∈ zT := zT_in 246 (by decide +kernel) (by decide +kernel)
theorem wd_247 : (Jvm.Cond.selects "DusterRounds$House" ({ cls := "DusterRounds$House", name := "dustOfAll", desc := "()I" } : Jvm.MethodName) ({ cls := "DusterRounds$House", name := "dustOfAll", desc := "()I" } : Jvm.MethodName)) ∈ zT := zT_in 247 (by decide +kernel) (by decide +kernel)
theorem wd_248 : (Jvm.Cond.code ({ cls := "DusterRounds$House", name := "dustOfAll", desc := "()I" } : Jvm.MethodName) prog_2_method_11_code (3 : Nat) (Option.some Jvm.ClassFile.FieldType.int)) ∈ zT := zT_in 248 (by decide +kernel) (by decide +kernel)
theorem wd_249 : (Jvm.Cond.methodLink "DusterRounds" (80 : Nat) ({ cls := "DusterRounds$House", name := "memoriesEverywhere", desc := "()I" } : Jvm.MethodName)) ∈ zT := zT_in 249 (by decide +kernel) (by decide +kernel)
theorem wd_250 : (Jvm.Cond.instanceMethod ({ cls := "DusterRounds$House", name := "memoriesEverywhere", desc := "()I" } : Jvm.MethodName)) ∈ zT := zT_in 250 (by decide +kernel) (by decide +kernel)
theorem wd_251 : (Jvm.Cond.selects "DusterRounds$House" ({ cls := "DusterRounds$House", name := "memoriesEverywhere", desc := "()I" } : Jvm.MethodName) ({ cls := "DusterRounds$House", name := "memoriesEverywhere", desc := "()I" } : Jvm.MethodName)) ∈ zT := zT_in 251 (by decide +kernel) (by decide +kernel)
theorem wd_252 : (Jvm.Cond.code ({ cls := "DusterRounds$House", name := "memoriesEverywhere", desc := "()I" } : Jvm.MethodName) prog_2_method_13_code (3 : Nat) (Option.some Jvm.ClassFile.FieldType.int)) ∈ zT := zT_in 252 (by decide +kernel) (by decide +kernel)
theorem wd_253 : (Jvm.Cond.methodLink "DusterRounds" (83 : Nat) ({ cls := "DusterRounds$House", name := "memoriesAnywhere", desc := "()I" } : Jvm.MethodName)) ∈ zT := zT_in 253 (by decide +kernel) (by decide +kernel)
theorem wd_254 : (Jvm.Cond.instanceMethod ({ cls := "DusterRounds$House", name := "memoriesAnywhere", desc := "()I" } : Jvm.MethodName)) ∈ zT := zT_in 254 (by decide +kernel) (by decide +kernel)
theorem wd_255 : (Jvm.Cond.selects "DusterRounds$House" ({ cls := "DusterRounds$House", name := "memoriesAnywhere", desc := "()I" } : Jvm.MethodName) ({ cls := "DusterRounds$House", name := "memoriesAnywhere", desc := "()I" } : Jvm.MethodName)) ∈ zT := zT_in 255 (by decide +kernel) (by decide +kernel)
theorem wd_256 : (Jvm.Cond.code ({ cls := "DusterRounds$House", name := "memoriesAnywhere", desc := "()I" } : Jvm.MethodName) prog_2_method_14_code (3 : Nat) (Option.some Jvm.ClassFile.FieldType.int)) ∈ zT := zT_in 256 (by decide +kernel) (by decide +kernel)
theorem wd_257 : (Jvm.Cond.methodLink "DusterRounds" (86 : Nat) ({ cls := "DusterRounds$House", name := "memoriesHeld", desc := "()I" } : Jvm.MethodName)) ∈ zT := zT_in 257 (by decide +kernel) (by decide +kernel)
theorem wd_258 : (Jvm.Cond.instanceMethod ({ cls := "DusterRounds$House", name := "memoriesHeld", desc := "()I" } : Jvm.MethodName)) ∈ zT := zT_in 258 (by decide +kernel) (by decide +kernel)
theorem wd_259 : (Jvm.Cond.selects "DusterRounds$House" ({ cls := "DusterRounds$House", name := "memoriesHeld", desc := "()I" } : Jvm.MethodName) ({ cls := "DusterRounds$House", name := "memoriesHeld", desc := "()I" } : Jvm.MethodName)) ∈ zT := zT_in 259 (by decide +kernel) (by decide +kernel)
theorem wd_260 : (Jvm.Cond.code ({ cls := "DusterRounds$House", name := "memoriesHeld", desc := "()I" } : Jvm.MethodName) prog_2_method_15_code (3 : Nat) (Option.some Jvm.ClassFile.FieldType.int)) ∈ zT := zT_in 260 (by decide +kernel) (by decide +kernel)
theorem wd_261 : (Jvm.Cond.methodLink "DusterRoundsLaw" (32 : Nat) ({ cls := "DusterRounds", name := "duster", desc := "(I)I" } : Jvm.MethodName)) ∈ zT := zT_in 261 (by decide +kernel) (by decide +kernel)
theorem wd_262 : (Jvm.Cond.instanceMethod ({ cls := "DusterRounds", name := "duster", desc := "(I)I" } : Jvm.MethodName)) ∈ zT := zT_in 262 (by decide +kernel) (by decide +kernel)
theorem wd_263 : (Jvm.Cond.selects "DusterRounds" ({ cls := "DusterRounds", name := "duster", desc := "(I)I" } : Jvm.MethodName) ({ cls := "DusterRounds", name := "duster", desc := "(I)I" } : Jvm.MethodName)) ∈ zT := zT_in 263 (by decide +kernel) (by decide +kernel)
theorem wd_264 : (Jvm.Cond.code ({ cls := "DusterRounds", name := "duster", desc := "(I)I" } : Jvm.MethodName) prog_1_method_6_code (2 : Nat) (Option.some Jvm.ClassFile.FieldType.int)) ∈ zT := zT_in 264 (by decide +kernel) (by decide +kernel)
theorem wd_265 : (Jvm.Cond.methodLink "DusterRounds" (89 : Nat) ({ cls := "DusterRounds", name := "isKind", desc := "(I)Z" } : Jvm.MethodName)) ∈ zT := zT_in 265 (by decide +kernel) (by decide +kernel)
theorem wd_266 : (Jvm.Cond.static ({ cls := "DusterRounds", name := "isKind", desc := "(I)Z" } : Jvm.MethodName)) ∈ zT := zT_in 266 (by decide +kernel) (by decide +kernel)
theorem wd_267 : (Jvm.Cond.code ({ cls := "DusterRounds", name := "isKind", desc := "(I)Z" } : Jvm.MethodName) prog_1_method_45_code (1 : Nat) (Option.some Jvm.ClassFile.FieldType.boolean)) ∈ zT := zT_in 267 (by decide +kernel) (by decide +kernel)
theorem wd_268 : (Jvm.Cond.constant "DusterRounds" (95 : Nat) (-1000000002 : Int32)) ∈ zT := zT_in 268 (by decide +kernel) (by decide +kernel)
theorem wd_269 : (Jvm.Cond.methodLink "DusterRounds" (96 : Nat) ({ cls := "DusterRounds$House", name := "addDuster", desc := "(I)I" } : Jvm.MethodName)) ∈ zT := zT_in 269 (by decide +kernel) (by decide +kernel)
theorem wd_270 : (Jvm.Cond.instanceMethod ({ cls := "DusterRounds$House", name := "addDuster", desc := "(I)I" } : Jvm.MethodName)) ∈ zT := zT_in 270 (by decide +kernel) (by decide +kernel)
theorem wd_271 : (Jvm.Cond.selects "DusterRounds$House" ({ cls := "DusterRounds$House", name := "addDuster", desc := "(I)I" } : Jvm.MethodName) ({ cls := "DusterRounds$House", name := "addDuster", desc := "(I)I" } : Jvm.MethodName)) ∈ zT := zT_in 271 (by decide +kernel) (by decide +kernel)
theorem wd_272 : (Jvm.Cond.code ({ cls := "DusterRounds$House", name := "addDuster", desc := "(I)I" } : Jvm.MethodName) prog_2_method_3_code (3 : Nat) (Option.some Jvm.ClassFile.FieldType.int)) ∈ zT := zT_in 272 (by decide +kernel) (by decide +kernel)
theorem wd_273 : (Jvm.Cond.methodLink "DusterRoundsLaw" (36 : Nat) ({ cls := "DusterRounds", name := "of", desc := "(II)I" } : Jvm.MethodName)) ∈ zT := zT_in 273 (by decide +kernel) (by decide +kernel)
theorem wd_274 : (Jvm.Cond.instanceMethod ({ cls := "DusterRounds", name := "of", desc := "(II)I" } : Jvm.MethodName)) ∈ zT := zT_in 274 (by decide +kernel) (by decide +kernel)
theorem wd_275 : (Jvm.Cond.selects "DusterRounds" ({ cls := "DusterRounds", name := "of", desc := "(II)I" } : Jvm.MethodName) ({ cls := "DusterRounds", name := "of", desc := "(II)I" } : Jvm.MethodName)) ∈ zT := zT_in 275 (by decide +kernel) (by decide +kernel)
theorem wd_276 : (Jvm.Cond.code ({ cls := "DusterRounds", name := "of", desc := "(II)I" } : Jvm.MethodName) prog_1_method_7_code (5 : Nat) (Option.some Jvm.ClassFile.FieldType.int)) ∈ zT := zT_in 276 (by decide +kernel) (by decide +kernel)
theorem wd_277 : (Jvm.Cond.methodLink "DusterRounds" (99 : Nat) ({ cls := "DusterRounds", name := "isDuster", desc := "(I)Z" } : Jvm.MethodName)) ∈ zT := zT_in 277 (by decide +kernel) (by decide +kernel)
theorem wd_279 : (Jvm.Cond.instanceMethod ({ cls := "DusterRounds", name := "isDuster", desc := "(I)Z" } : Jvm.MethodName)) ∈ zT := zT_in 279 (by decide +kernel) (by decide +kernel)
theorem wd_280 : (Jvm.Cond.code ({ cls := "DusterRounds", name := "isDuster", desc := "(I)Z" } : Jvm.MethodName) prog_1_method_47_code (2 : Nat) (Option.some Jvm.ClassFile.FieldType.boolean)) ∈ zT := zT_in 280 (by decide +kernel) (by decide +kernel)
theorem wd_281 : (Jvm.Cond.methodLink "DusterRounds" (114 : Nat) ({ cls := "DusterRounds$House", name := "whereIs", desc := "(I)I" } : Jvm.MethodName)) ∈ zT := zT_in 281 (by decide +kernel) (by decide +kernel)
theorem wd_282 : (Jvm.Cond.methodLink "DusterRounds" (117 : Nat) ({ cls := "DusterRounds$Kinds", name := "wipes", desc := "(II)I" } : Jvm.MethodName)) ∈ zT := zT_in 282 (by decide +kernel) (by decide +kernel)
theorem wd_283 : (Jvm.Cond.static ({ cls := "DusterRounds$Kinds", name := "wipes", desc := "(II)I" } : Jvm.MethodName)) ∈ zT := zT_in 283 (by decide +kernel) (by decide +kernel)
theorem wd_284 : (Jvm.Cond.code ({ cls := "DusterRounds$Kinds", name := "wipes", desc := "(II)I" } : Jvm.MethodName) prog_3_method_3_code (5 : Nat) (Option.some Jvm.ClassFile.FieldType.int)) ∈ zT := zT_in 284 (by decide +kernel) (by decide +kernel)
theorem wd_285 : (Jvm.Cond.methodLink "DusterRounds" (123 : Nat) ({ cls := "DusterRounds$Kinds", name := "takesUp", desc := "(II)I" } : Jvm.MethodName)) ∈ zT := zT_in 285 (by decide +kernel) (by decide +kernel)
theorem wd_286 : (Jvm.Cond.static ({ cls := "DusterRounds$Kinds", name := "takesUp", desc := "(II)I" } : Jvm.MethodName)) ∈ zT := zT_in 286 (by decide +kernel) (by decide +kernel)
theorem wd_287 : (Jvm.Cond.code ({ cls := "DusterRounds$Kinds", name := "takesUp", desc := "(II)I" } : Jvm.MethodName) prog_3_method_4_code (2 : Nat) (Option.some Jvm.ClassFile.FieldType.int)) ∈ zT := zT_in 287 (by decide +kernel) (by decide +kernel)
theorem wd_288 : (Jvm.Cond.methodLink "DusterRounds" (126 : Nat) ({ cls := "DusterRounds$Kinds", name := "leaves", desc := "(II)I" } : Jvm.MethodName)) ∈ zT := zT_in 288 (by decide +kernel) (by decide +kernel)
theorem wd_289 : (Jvm.Cond.static ({ cls := "DusterRounds$Kinds", name := "leaves", desc := "(II)I" } : Jvm.MethodName)) ∈ zT := zT_in 289 (by decide +kernel) (by decide +kernel)
theorem wd_290 : (Jvm.Cond.code ({ cls := "DusterRounds$Kinds", name := "leaves", desc := "(II)I" } : Jvm.MethodName) prog_3_method_5_code (3 : Nat) (Option.some Jvm.ClassFile.FieldType.int)) ∈ zT := zT_in 290 (by decide +kernel) (by decide +kernel)
theorem wd_291 : (Jvm.Cond.methodLink "DusterRounds$Kinds" (9 : Nat) ({ cls := "java/lang/Math", name := "max", desc := "(II)I" } : Jvm.MethodName)) ∈ zT := zT_in 291 (by decide +kernel) (by decide +kernel)
theorem wd_292 : (Jvm.Cond.static ({ cls := "java/lang/Math", name := "max", desc := "(II)I" } : Jvm.MethodName)) ∈ zT := zT_in 292 (by decide +kernel) (by decide +kernel)
theorem wd_293 : (Jvm.Cond.code ({ cls := "java/lang/Math", name := "max", desc := "(II)I" } : Jvm.MethodName) prog_9_method_65_code (2 : Nat) (Option.some Jvm.ClassFile.FieldType.int)) ∈ zT := zT_in 293 (by decide +kernel) (by decide +kernel)
theorem wd_294 : (Jvm.Cond.methodLink "DusterRounds" (129 : Nat) ({ cls := "DusterRounds$Kinds", name := "keeps", desc := "(II)Z" } : Jvm.MethodName)) ∈ zT := zT_in 294 (by decide +kernel) (by decide +kernel)
theorem wd_295 : (Jvm.Cond.static ({ cls := "DusterRounds$Kinds", name := "keeps", desc := "(II)Z" } : Jvm.MethodName)) ∈ zT := zT_in 295 (by decide +kernel) (by decide +kernel)
theorem wd_296 : (Jvm.Cond.code ({ cls := "DusterRounds$Kinds", name := "keeps", desc := "(II)Z" } : Jvm.MethodName) prog_3_method_6_code (2 : Nat) (Option.some Jvm.ClassFile.FieldType.boolean)) ∈ zT := zT_in 296 (by decide +kernel) (by decide +kernel)
theorem wd_297 : (Jvm.Cond.methodLink "DusterRounds$Kinds" (15 : Nat) ({ cls := "java/lang/Integer", name := "bitCount", desc := "(I)I" } : Jvm.MethodName)) ∈ zT := zT_in 297 (by decide +kernel) (by decide +kernel)
theorem wd_298 : (Jvm.Cond.static ({ cls := "java/lang/Integer", name := "bitCount", desc := "(I)I" } : Jvm.MethodName)) ∈ zT := zT_in 298 (by decide +kernel) (by decide +kernel)
theorem wd_299 : (Jvm.Cond.code ({ cls := "java/lang/Integer", name := "bitCount", desc := "(I)I" } : Jvm.MethodName) prog_8_method_49_code (1 : Nat) (Option.some Jvm.ClassFile.FieldType.int)) ∈ zT := zT_in 299 (by decide +kernel) (by decide +kernel)
theorem wd_300 : (Jvm.Cond.constant "java/lang/Integer" (265 : Nat) (1431655765 : Int32)) ∈ zT := zT_in 300 (by decide +kernel) (by decide +kernel)
theorem wd_301 : (Jvm.Cond.constant "java/lang/Integer" (266 : Nat) (858993459 : Int32)) ∈ zT := zT_in 301 (by decide +kernel) (by decide +kernel)
theorem wd_302 : (Jvm.Cond.constant "java/lang/Integer" (267 : Nat) (252645135 : Int32)) ∈ zT := zT_in 302 (by decide +kernel) (by decide +kernel)
theorem wd_303 : (Jvm.Cond.methodLink "DusterRoundsLaw" (40 : Nat) ({ cls := "DusterRounds", name := "set", desc := "(III)I" } : Jvm.MethodName)) ∈ zT := zT_in 303 (by decide +kernel) (by decide +kernel)
theorem wd_304 : (Jvm.Cond.instanceMethod ({ cls := "DusterRounds", name := "set", desc := "(III)I" } : Jvm.MethodName)) ∈ zT := zT_in 304 (by decide +kernel) (by decide +kernel)
theorem wd_305 : (Jvm.Cond.selects "DusterRounds" ({ cls := "DusterRounds", name := "set", desc := "(III)I" } : Jvm.MethodName) ({ cls := "DusterRounds", name := "set", desc := "(III)I" } : Jvm.MethodName)) ∈ zT := zT_in 305 (by decide +kernel) (by decide +kernel)
theorem wd_306 : (Jvm.Cond.code ({ cls := "DusterRounds", name := "set", desc := "(III)I" } : Jvm.MethodName) prog_1_method_8_code (7 : Nat) (Option.some Jvm.ClassFile.FieldType.int)) ∈ zT := zT_in 306 (by decide +kernel) (by decide +kernel)
theorem wd_307 : (Jvm.Cond.methodLink "DusterRoundsLaw" (44 : Nat) ({ cls := "DusterRounds", name := "turn", desc := "(II)I" } : Jvm.MethodName)) ∈ zT := zT_in 307 (by decide +kernel) (by decide +kernel)
theorem wd_308 : (Jvm.Cond.instanceMethod ({ cls := "DusterRounds", name := "turn", desc := "(II)I" } : Jvm.MethodName)) ∈ zT := zT_in 308 (by decide +kernel) (by decide +kernel)
theorem wd_309 : (Jvm.Cond.selects "DusterRounds" ({ cls := "DusterRounds", name := "turn", desc := "(II)I" } : Jvm.MethodName) ({ cls := "DusterRounds", name := "turn", desc := "(II)I" } : Jvm.MethodName)) ∈ zT := zT_in 309 (by decide +kernel) (by decide +kernel)
theorem wd_310 : (Jvm.Cond.code ({ cls := "DusterRounds", name := "turn", desc := "(II)I" } : Jvm.MethodName) prog_1_method_9_code (4 : Nat) (Option.some Jvm.ClassFile.FieldType.int)) ∈ zT := zT_in 310 (by decide +kernel) (by decide +kernel)
theorem wd_311 : (Jvm.Cond.methodLink "DusterRoundsLaw" (48 : Nat) ({ cls := "DusterRounds", name := "as", desc := "(II)I" } : Jvm.MethodName)) ∈ zT := zT_in 311 (by decide +kernel) (by decide +kernel)
theorem wd_312 : (Jvm.Cond.instanceMethod ({ cls := "DusterRounds", name := "as", desc := "(II)I" } : Jvm.MethodName)) ∈ zT := zT_in 312 (by decide +kernel) (by decide +kernel)
theorem wd_313 : (Jvm.Cond.selects "DusterRounds" ({ cls := "DusterRounds", name := "as", desc := "(II)I" } : Jvm.MethodName) ({ cls := "DusterRounds", name := "as", desc := "(II)I" } : Jvm.MethodName)) ∈ zT := zT_in 313 (by decide +kernel) (by decide +kernel)
theorem wd_314 : (Jvm.Cond.code ({ cls := "DusterRounds", name := "as", desc := "(II)I" } : Jvm.MethodName) prog_1_method_10_code (3 : Nat) (Option.some Jvm.ClassFile.FieldType.int)) ∈ zT := zT_in 314 (by decide +kernel) (by decide +kernel)
theorem wd_315 : (Jvm.Cond.methodLink "DusterRounds" (133 : Nat) ({ cls := "DusterRounds$Kinds", name := "isUnder", desc := "(II)Z" } : Jvm.MethodName)) ∈ zT := zT_in 315 (by decide +kernel) (by decide +kernel)
theorem wd_316 : (Jvm.Cond.static ({ cls := "DusterRounds$Kinds", name := "isUnder", desc := "(II)Z" } : Jvm.MethodName)) ∈ zT := zT_in 316 (by decide +kernel) (by decide +kernel)
theorem wd_317 : (Jvm.Cond.code ({ cls := "DusterRounds$Kinds", name := "isUnder", desc := "(II)Z" } : Jvm.MethodName) prog_3_method_2_code (2 : Nat) (Option.some Jvm.ClassFile.FieldType.boolean)) ∈ zT := zT_in 317 (by decide +kernel) (by decide +kernel)
theorem wd_318 : (Jvm.Cond.constant "DusterRounds" (136 : Nat) (-1000000003 : Int32)) ∈ zT := zT_in 318 (by decide +kernel) (by decide +kernel)
theorem wd_319 : (Jvm.Cond.methodLink "DusterRoundsLaw" (52 : Nat) ({ cls := "DusterRounds", name := "through", desc := "(II)I" } : Jvm.MethodName)) ∈ zT := zT_in 319 (by decide +kernel) (by decide +kernel)
theorem wd_320 : (Jvm.Cond.instanceMethod ({ cls := "DusterRounds", name := "through", desc := "(II)I" } : Jvm.MethodName)) ∈ zT := zT_in 320 (by decide +kernel) (by decide +kernel)
theorem wd_321 : (Jvm.Cond.selects "DusterRounds" ({ cls := "DusterRounds", name := "through", desc := "(II)I" } : Jvm.MethodName) ({ cls := "DusterRounds", name := "through", desc := "(II)I" } : Jvm.MethodName)) ∈ zT := zT_in 321 (by decide +kernel) (by decide +kernel)
theorem wd_322 : (Jvm.Cond.code ({ cls := "DusterRounds", name := "through", desc := "(II)I" } : Jvm.MethodName) prog_1_method_11_code (3 : Nat) (Option.some Jvm.ClassFile.FieldType.int)) ∈ zT := zT_in 322 (by decide +kernel) (by decide +kernel)
theorem wd_323 : (Jvm.Cond.methodLink "DusterRounds" (137 : Nat) ({ cls := "DusterRounds$House", name := "goThrough", desc := "(II)I" } : Jvm.MethodName)) ∈ zT := zT_in 323 (by decide +kernel) (by decide +kernel)
theorem wd_324 : (Jvm.Cond.instanceMethod ({ cls := "DusterRounds$House", name := "goThrough", desc := "(II)I" } : Jvm.MethodName)) ∈ zT := zT_in 324 (by decide +kernel) (by decide +kernel)
theorem wd_325 : (Jvm.Cond.selects "DusterRounds$House" ({ cls := "DusterRounds$House", name := "goThrough", desc := "(II)I" } : Jvm.MethodName) ({ cls := "DusterRounds$House", name := "goThrough", desc := "(II)I" } : Jvm.MethodName)) ∈ zT := zT_in 325 (by decide +kernel) (by decide +kernel)
theorem wd_326 : (Jvm.Cond.code ({ cls := "DusterRounds$House", name := "goThrough", desc := "(II)I" } : Jvm.MethodName) prog_2_method_8_code (11 : Nat) (Option.some Jvm.ClassFile.FieldType.int)) ∈ zT := zT_in 326 (by decide +kernel) (by decide +kernel)
theorem wd_327 : (Jvm.Cond.methodLink "DusterRounds$House" (62 : Nat) ({ cls := "DusterRounds$Kinds", name := "takesUp", desc := "(II)I" } : Jvm.MethodName)) ∈ zT := zT_in 327 (by decide +kernel) (by decide +kernel)
theorem wd_328 : (Jvm.Cond.methodLink "DusterRounds$House" (67 : Nat) ({ cls := "DusterRounds$House", name := "leastOf", desc := "(II)I" } : Jvm.MethodName)) ∈ zT := zT_in 328 (by decide +kernel) (by decide +kernel)
theorem wd_329 : (Jvm.Cond.static ({ cls := "DusterRounds$House", name := "leastOf", desc := "(II)I" } : Jvm.MethodName)) ∈ zT := zT_in 329 (by decide +kernel) (by decide +kernel)
theorem wd_330 : (Jvm.Cond.code ({ cls := "DusterRounds$House", name := "leastOf", desc := "(II)I" } : Jvm.MethodName) prog_2_method_17_code (4 : Nat) (Option.some Jvm.ClassFile.FieldType.int)) ∈ zT := zT_in 330 (by decide +kernel) (by decide +kernel)
theorem wd_331 : (Jvm.Cond.methodLink "DusterRounds$House" (70 : Nat) ({ cls := "DusterRounds$Kinds", name := "leaves", desc := "(II)I" } : Jvm.MethodName)) ∈ zT := zT_in 331 (by decide +kernel) (by decide +kernel)
theorem wd_332 : (Jvm.Cond.methodLink "DusterRounds$House" (73 : Nat) ({ cls := "DusterRounds$Kinds", name := "wipes", desc := "(II)I" } : Jvm.MethodName)) ∈ zT := zT_in 332 (by decide +kernel) (by decide +kernel)
theorem wd_333 : (Jvm.Cond.methodLink "DusterRounds$House" (57 : Nat) ({ cls := "java/lang/Math", name := "min", desc := "(II)I" } : Jvm.MethodName)) ∈ zT := zT_in 333 (by decide +kernel) (by decide +kernel)
theorem wd_334 : (Jvm.Cond.static ({ cls := "java/lang/Math", name := "min", desc := "(II)I" } : Jvm.MethodName)) ∈ zT := zT_in 334 (by decide +kernel) (by decide +kernel)
theorem wd_335 : (Jvm.Cond.code ({ cls := "java/lang/Math", name := "min", desc := "(II)I" } : Jvm.MethodName) prog_9_method_69_code (2 : Nat) (Option.some Jvm.ClassFile.FieldType.int)) ∈ zT := zT_in 335 (by decide +kernel) (by decide +kernel)
theorem wd_336 : (Jvm.Cond.methodLink "DusterRounds$House" (76 : Nat) ({ cls := "DusterRounds$Kinds", name := "keeps", desc := "(II)Z" } : Jvm.MethodName)) ∈ zT := zT_in 336 (by decide +kernel) (by decide +kernel)
theorem wd_337 : (Jvm.Cond.methodLink "DusterRoundsLaw" (56 : Nat) ({ cls := "DusterRounds", name := "wash", desc := "(I)I" } : Jvm.MethodName)) ∈ zT := zT_in 337 (by decide +kernel) (by decide +kernel)
theorem wd_338 : (Jvm.Cond.instanceMethod ({ cls := "DusterRounds", name := "wash", desc := "(I)I" } : Jvm.MethodName)) ∈ zT := zT_in 338 (by decide +kernel) (by decide +kernel)
theorem wd_339 : (Jvm.Cond.selects "DusterRounds" ({ cls := "DusterRounds", name := "wash", desc := "(I)I" } : Jvm.MethodName) ({ cls := "DusterRounds", name := "wash", desc := "(I)I" } : Jvm.MethodName)) ∈ zT := zT_in 339 (by decide +kernel) (by decide +kernel)
theorem wd_340 : (Jvm.Cond.code ({ cls := "DusterRounds", name := "wash", desc := "(I)I" } : Jvm.MethodName) prog_1_method_12_code (2 : Nat) (Option.some Jvm.ClassFile.FieldType.int)) ∈ zT := zT_in 340 (by decide +kernel) (by decide +kernel)
theorem wd_341 : (Jvm.Cond.methodLink "DusterRounds" (140 : Nat) ({ cls := "DusterRounds$House", name := "washOne", desc := "(I)I" } : Jvm.MethodName)) ∈ zT := zT_in 341 (by decide +kernel) (by decide +kernel)
theorem wd_342 : (Jvm.Cond.instanceMethod ({ cls := "DusterRounds$House", name := "washOne", desc := "(I)I" } : Jvm.MethodName)) ∈ zT := zT_in 342 (by decide +kernel) (by decide +kernel)
theorem wd_343 : (Jvm.Cond.selects "DusterRounds$House" ({ cls := "DusterRounds$House", name := "washOne", desc := "(I)I" } : Jvm.MethodName) ({ cls := "DusterRounds$House", name := "washOne", desc := "(I)I" } : Jvm.MethodName)) ∈ zT := zT_in 343 (by decide +kernel) (by decide +kernel)
theorem wd_344 : (Jvm.Cond.code ({ cls := "DusterRounds$House", name := "washOne", desc := "(I)I" } : Jvm.MethodName) prog_2_method_9_code (4 : Nat) (Option.some Jvm.ClassFile.FieldType.int)) ∈ zT := zT_in 344 (by decide +kernel) (by decide +kernel)
theorem wd_345 : (Jvm.Cond.methodLink "DusterRoundsLaw" (60 : Nat) ({ cls := "DusterRounds", name := "shake", desc := "(I)I" } : Jvm.MethodName)) ∈ zT := zT_in 345 (by decide +kernel) (by decide +kernel)
theorem wd_346 : (Jvm.Cond.instanceMethod ({ cls := "DusterRounds", name := "shake", desc := "(I)I" } : Jvm.MethodName)) ∈ zT := zT_in 346 (by decide +kernel) (by decide +kernel)
theorem wd_347 : (Jvm.Cond.selects "DusterRounds" ({ cls := "DusterRounds", name := "shake", desc := "(I)I" } : Jvm.MethodName) ({ cls := "DusterRounds", name := "shake", desc := "(I)I" } : Jvm.MethodName)) ∈ zT := zT_in 347 (by decide +kernel) (by decide +kernel)
theorem wd_348 : (Jvm.Cond.code ({ cls := "DusterRounds", name := "shake", desc := "(I)I" } : Jvm.MethodName) prog_1_method_13_code (2 : Nat) (Option.some Jvm.ClassFile.FieldType.int)) ∈ zT := zT_in 348 (by decide +kernel) (by decide +kernel)
theorem wd_349 : (Jvm.Cond.methodLink "DusterRounds" (143 : Nat) ({ cls := "DusterRounds$House", name := "shakeOne", desc := "(I)I" } : Jvm.MethodName)) ∈ zT := zT_in 349 (by decide +kernel) (by decide +kernel)
theorem wd_350 : (Jvm.Cond.instanceMethod ({ cls := "DusterRounds$House", name := "shakeOne", desc := "(I)I" } : Jvm.MethodName)) ∈ zT := zT_in 350 (by decide +kernel) (by decide +kernel)
theorem wd_351 : (Jvm.Cond.selects "DusterRounds$House" ({ cls := "DusterRounds$House", name := "shakeOne", desc := "(I)I" } : Jvm.MethodName) ({ cls := "DusterRounds$House", name := "shakeOne", desc := "(I)I" } : Jvm.MethodName)) ∈ zT := zT_in 351 (by decide +kernel) (by decide +kernel)
theorem wd_352 : (Jvm.Cond.code ({ cls := "DusterRounds$House", name := "shakeOne", desc := "(I)I" } : Jvm.MethodName) prog_2_method_10_code (3 : Nat) (Option.some Jvm.ClassFile.FieldType.int)) ∈ zT := zT_in 352 (by decide +kernel) (by decide +kernel)
theorem wd_353 : (Jvm.Cond.methodLink "DusterRoundsLaw" (64 : Nat) ({ cls := "DusterRounds", name := "days", desc := "(I)I" } : Jvm.MethodName)) ∈ zT := zT_in 353 (by decide +kernel) (by decide +kernel)
theorem wd_354 : (Jvm.Cond.instanceMethod ({ cls := "DusterRounds", name := "days", desc := "(I)I" } : Jvm.MethodName)) ∈ zT := zT_in 354 (by decide +kernel) (by decide +kernel)
theorem wd_355 : (Jvm.Cond.selects "DusterRounds" ({ cls := "DusterRounds", name := "days", desc := "(I)I" } : Jvm.MethodName) ({ cls := "DusterRounds", name := "days", desc := "(I)I" } : Jvm.MethodName)) ∈ zT := zT_in 355 (by decide +kernel) (by decide +kernel)
theorem wd_356 : (Jvm.Cond.code ({ cls := "DusterRounds", name := "days", desc := "(I)I" } : Jvm.MethodName) prog_1_method_14_code (2 : Nat) (Option.some Jvm.ClassFile.FieldType.int)) ∈ zT := zT_in 356 (by decide +kernel) (by decide +kernel)
theorem wd_357 : (Jvm.Cond.constant "DusterRounds" (146 : Nat) (-1000000005 : Int32)) ∈ zT := zT_in 357 (by decide +kernel) (by decide +kernel)
theorem wd_358 : (Jvm.Cond.methodLink "DusterRounds" (147 : Nat) ({ cls := "DusterRounds$House", name := "goDays", desc := "(I)V" } : Jvm.MethodName)) ∈ zT := zT_in 358 (by decide +kernel) (by decide +kernel)
theorem wd_359 : (Jvm.Cond.instanceMethod ({ cls := "DusterRounds$House", name := "goDays", desc := "(I)V" } : Jvm.MethodName)) ∈ zT := zT_in 359 (by decide +kernel) (by decide +kernel)
theorem wd_360 : (Jvm.Cond.selects "DusterRounds$House" ({ cls := "DusterRounds$House", name := "goDays", desc := "(I)V" } : Jvm.MethodName) ({ cls := "DusterRounds$House", name := "goDays", desc := "(I)V" } : Jvm.MethodName)) ∈ zT := zT_in 360 (by decide +kernel) (by decide +kernel)
theorem wd_361 : (Jvm.Cond.code ({ cls := "DusterRounds$House", name := "goDays", desc := "(I)V" } : Jvm.MethodName) prog_2_method_6_code (3 : Nat) (Option.none : Option Jvm.ClassFile.FieldType)) ∈ zT := zT_in 361 (by decide +kernel) (by decide +kernel)
theorem wd_362 : (Jvm.Cond.methodLink "DusterRounds$House" (50 : Nat) ({ cls := "DusterRounds$House", name := "goDay", desc := "()V" } : Jvm.MethodName)) ∈ zT := zT_in 362 (by decide +kernel) (by decide +kernel)
theorem wd_363 : (Jvm.Cond.instanceMethod ({ cls := "DusterRounds$House", name := "goDay", desc := "()V" } : Jvm.MethodName)) ∈ zT := zT_in 363 (by decide +kernel) (by decide +kernel)
theorem wd_364 : (Jvm.Cond.selects "DusterRounds$House" ({ cls := "DusterRounds$House", name := "goDay", desc := "()V" } : Jvm.MethodName) ({ cls := "DusterRounds$House", name := "goDay", desc := "()V" } : Jvm.MethodName)) ∈ zT := zT_in 364 (by decide +kernel) (by decide +kernel)
theorem wd_365 : (Jvm.Cond.code ({ cls := "DusterRounds$House", name := "goDay", desc := "()V" } : Jvm.MethodName) prog_2_method_7_code (2 : Nat) (Option.none : Option Jvm.ClassFile.FieldType)) ∈ zT := zT_in 365 (by decide +kernel) (by decide +kernel)
theorem wd_366 : (Jvm.Cond.methodLink "DusterRounds$House" (53 : Nat) ({ cls := "DusterRounds$House", name := "goThrough", desc := "(II)I" } : Jvm.MethodName)) ∈ zT := zT_in 366 (by decide +kernel) (by decide +kernel)
theorem wd_367 : (Jvm.Cond.methodLink "DusterRoundsLaw" (68 : Nat) ({ cls := "DusterRounds", name := "on", desc := "(III)I" } : Jvm.MethodName)) ∈ zT := zT_in 367 (by decide +kernel) (by decide +kernel)
theorem wd_368 : (Jvm.Cond.instanceMethod ({ cls := "DusterRounds", name := "on", desc := "(III)I" } : Jvm.MethodName)) ∈ zT := zT_in 368 (by decide +kernel) (by decide +kernel)
theorem wd_369 : (Jvm.Cond.selects "DusterRounds" ({ cls := "DusterRounds", name := "on", desc := "(III)I" } : Jvm.MethodName) ({ cls := "DusterRounds", name := "on", desc := "(III)I" } : Jvm.MethodName)) ∈ zT := zT_in 369 (by decide +kernel) (by decide +kernel)
theorem wd_370 : (Jvm.Cond.code ({ cls := "DusterRounds", name := "on", desc := "(III)I" } : Jvm.MethodName) prog_1_method_15_code (4 : Nat) (Option.some Jvm.ClassFile.FieldType.int)) ∈ zT := zT_in 370 (by decide +kernel) (by decide +kernel)
theorem wd_371 : (Jvm.Cond.methodLink "DusterRounds" (151 : Nat) ({ cls := "DusterRounds", name := "lookAhead", desc := "(I)V" } : Jvm.MethodName)) ∈ zT := zT_in 371 (by decide +kernel) (by decide +kernel)
theorem wd_373 : (Jvm.Cond.instanceMethod ({ cls := "DusterRounds", name := "lookAhead", desc := "(I)V" } : Jvm.MethodName)) ∈ zT := zT_in 373 (by decide +kernel) (by decide +kernel)
theorem wd_374 : (Jvm.Cond.code ({ cls := "DusterRounds", name := "lookAhead", desc := "(I)V" } : Jvm.MethodName) prog_1_method_48_code (2 : Nat) (Option.none : Option Jvm.ClassFile.FieldType)) ∈ zT := zT_in 374 (by decide +kernel) (by decide +kernel)
theorem wd_375 : (Jvm.Cond.methodLink "DusterRounds" (154 : Nat) ({ cls := "DusterRounds$House", name := "becomeAs", desc := "(LDusterRounds$House;)V" } : Jvm.MethodName)) ∈ zT := zT_in 375 (by decide +kernel) (by decide +kernel)
theorem wd_376 : (Jvm.Cond.instanceMethod ({ cls := "DusterRounds$House", name := "becomeAs", desc := "(LDusterRounds$House;)V" } : Jvm.MethodName)) ∈ zT := zT_in 376 (by decide +kernel) (by decide +kernel)
theorem wd_377 : (Jvm.Cond.selects "DusterRounds$House" ({ cls := "DusterRounds$House", name := "becomeAs", desc := "(LDusterRounds$House;)V" } : Jvm.MethodName) ({ cls := "DusterRounds$House", name := "becomeAs", desc := "(LDusterRounds$House;)V" } : Jvm.MethodName)) ∈ zT := zT_in 377 (by decide +kernel) (by decide +kernel)
theorem wd_378 : (Jvm.Cond.code ({ cls := "DusterRounds$House", name := "becomeAs", desc := "(LDusterRounds$House;)V" } : Jvm.MethodName) prog_2_method_2_code (2 : Nat) (Option.none : Option Jvm.ClassFile.FieldType)) ∈ zT := zT_in 378 (by decide +kernel) (by decide +kernel)
theorem wd_379 : (Jvm.Cond.methodLink "DusterRounds$House" (40 : Nat) ({ cls := "java/lang/System", name := "arraycopy", desc := "(Ljava/lang/Object;ILjava/lang/Object;II)V" } : Jvm.MethodName)) ∈ zT := zT_in 379 (by decide +kernel) (by decide +kernel)
theorem wd_380 : (Jvm.Cond.static ({ cls := "java/lang/System", name := "arraycopy", desc := "(Ljava/lang/Object;ILjava/lang/Object;II)V" } : Jvm.MethodName)) ∈ zT := zT_in 380 (by decide +kernel) (by decide +kernel)
theorem wd_381 : (Jvm.Cond.native ({ cls := "java/lang/System", name := "arraycopy", desc := "(Ljava/lang/Object;ILjava/lang/Object;II)V" } : Jvm.MethodName)) ∈ zT := zT_in 381 (by decide +kernel) (by decide +kernel)
theorem wd_382 : (Jvm.Cond.methodLink "DusterRoundsLaw" (72 : Nat) ({ cls := "DusterRounds", name := "then", desc := "(III)I" } : Jvm.MethodName)) ∈ zT := zT_in 382 (by decide +kernel) (by decide +kernel)
theorem wd_383 : (Jvm.Cond.instanceMethod ({ cls := "DusterRounds", name := "then", desc := "(III)I" } : Jvm.MethodName)) ∈ zT := zT_in 383 (by decide +kernel) (by decide +kernel)
theorem wd_384 : (Jvm.Cond.selects "DusterRounds" ({ cls := "DusterRounds", name := "then", desc := "(III)I" } : Jvm.MethodName) ({ cls := "DusterRounds", name := "then", desc := "(III)I" } : Jvm.MethodName)) ∈ zT := zT_in 384 (by decide +kernel) (by decide +kernel)
theorem wd_385 : (Jvm.Cond.code ({ cls := "DusterRounds", name := "then", desc := "(III)I" } : Jvm.MethodName) prog_1_method_16_code (4 : Nat) (Option.some Jvm.ClassFile.FieldType.int)) ∈ zT := zT_in 385 (by decide +kernel) (by decide +kernel)
theorem wd_386 : (Jvm.Cond.methodLink "DusterRoundsLaw" (76 : Nat) ({ cls := "DusterRounds", name := "clean", desc := "(I)I" } : Jvm.MethodName)) ∈ zT := zT_in 386 (by decide +kernel) (by decide +kernel)
theorem wd_387 : (Jvm.Cond.instanceMethod ({ cls := "DusterRounds", name := "clean", desc := "(I)I" } : Jvm.MethodName)) ∈ zT := zT_in 387 (by decide +kernel) (by decide +kernel)
theorem wd_388 : (Jvm.Cond.selects "DusterRounds" ({ cls := "DusterRounds", name := "clean", desc := "(I)I" } : Jvm.MethodName) ({ cls := "DusterRounds", name := "clean", desc := "(I)I" } : Jvm.MethodName)) ∈ zT := zT_in 388 (by decide +kernel) (by decide +kernel)
theorem wd_389 : (Jvm.Cond.code ({ cls := "DusterRounds", name := "clean", desc := "(I)I" } : Jvm.MethodName) prog_1_method_17_code (3 : Nat) (Option.some Jvm.ClassFile.FieldType.int)) ∈ zT := zT_in 389 (by decide +kernel) (by decide +kernel)
theorem wd_390 : (Jvm.Cond.methodLink "DusterRounds" (158 : Nat) ({ cls := "DusterRounds$House", name := "goDay", desc := "()V" } : Jvm.MethodName)) ∈ zT := zT_in 390 (by decide +kernel) (by decide +kernel)
theorem wd_391 : (Jvm.Cond.constant "DusterRounds" (161 : Nat) (-1000000004 : Int32)) ∈ zT := zT_in 391 (by decide +kernel) (by decide +kernel)
theorem wd_392 : (Jvm.Cond.methodLink "DusterRoundsLaw" (80 : Nat) ({ cls := "DusterRounds", name := "comes", desc := "(II)I" } : Jvm.MethodName)) ∈ zT := zT_in 392 (by decide +kernel) (by decide +kernel)
theorem wd_393 : (Jvm.Cond.instanceMethod ({ cls := "DusterRounds", name := "comes", desc := "(II)I" } : Jvm.MethodName)) ∈ zT := zT_in 393 (by decide +kernel) (by decide +kernel)
theorem wd_394 : (Jvm.Cond.selects "DusterRounds" ({ cls := "DusterRounds", name := "comes", desc := "(II)I" } : Jvm.MethodName) ({ cls := "DusterRounds", name := "comes", desc := "(II)I" } : Jvm.MethodName)) ∈ zT := zT_in 394 (by decide +kernel) (by decide +kernel)
theorem wd_395 : (Jvm.Cond.code ({ cls := "DusterRounds", name := "comes", desc := "(II)I" } : Jvm.MethodName) prog_1_method_18_code (3 : Nat) (Option.some Jvm.ClassFile.FieldType.int)) ∈ zT := zT_in 395 (by decide +kernel) (by decide +kernel)
theorem wd_396 : (Jvm.Cond.methodLink "DusterRounds" (162 : Nat) ({ cls := "DusterRounds", name := "isMemory", desc := "(I)Z" } : Jvm.MethodName)) ∈ zT := zT_in 396 (by decide +kernel) (by decide +kernel)
theorem wd_397 : (Jvm.Cond.static ({ cls := "DusterRounds", name := "isMemory", desc := "(I)Z" } : Jvm.MethodName)) ∈ zT := zT_in 397 (by decide +kernel) (by decide +kernel)
theorem wd_398 : (Jvm.Cond.code ({ cls := "DusterRounds", name := "isMemory", desc := "(I)Z" } : Jvm.MethodName) prog_1_method_44_code (1 : Nat) (Option.some Jvm.ClassFile.FieldType.boolean)) ∈ zT := zT_in 398 (by decide +kernel) (by decide +kernel)
theorem wd_399 : (Jvm.Cond.methodLink "DusterRounds" (165 : Nat) ({ cls := "DusterRounds", name := "firstWith", desc := "([III)I" } : Jvm.MethodName)) ∈ zT := zT_in 399 (by decide +kernel) (by decide +kernel)
theorem wd_401 : (Jvm.Cond.instanceMethod ({ cls := "DusterRounds", name := "firstWith", desc := "([III)I" } : Jvm.MethodName)) ∈ zT := zT_in 401 (by decide +kernel) (by decide +kernel)
theorem wd_402 : (Jvm.Cond.code ({ cls := "DusterRounds", name := "firstWith", desc := "([III)I" } : Jvm.MethodName) prog_1_method_50_code (5 : Nat) (Option.some Jvm.ClassFile.FieldType.int)) ∈ zT := zT_in 402 (by decide +kernel) (by decide +kernel)
theorem wd_403 : (Jvm.Cond.methodLink "DusterRoundsLaw" (84 : Nat) ({ cls := "DusterRounds", name := "holds", desc := "(II)I" } : Jvm.MethodName)) ∈ zT := zT_in 403 (by decide +kernel) (by decide +kernel)
theorem wd_404 : (Jvm.Cond.instanceMethod ({ cls := "DusterRounds", name := "holds", desc := "(II)I" } : Jvm.MethodName)) ∈ zT := zT_in 404 (by decide +kernel) (by decide +kernel)
theorem wd_405 : (Jvm.Cond.selects "DusterRounds" ({ cls := "DusterRounds", name := "holds", desc := "(II)I" } : Jvm.MethodName) ({ cls := "DusterRounds", name := "holds", desc := "(II)I" } : Jvm.MethodName)) ∈ zT := zT_in 405 (by decide +kernel) (by decide +kernel)
theorem wd_406 : (Jvm.Cond.code ({ cls := "DusterRounds", name := "holds", desc := "(II)I" } : Jvm.MethodName) prog_1_method_19_code (3 : Nat) (Option.some Jvm.ClassFile.FieldType.int)) ∈ zT := zT_in 406 (by decide +kernel) (by decide +kernel)
theorem wd_407 : (Jvm.Cond.methodLink "DusterRoundsLaw" (88 : Nat) ({ cls := "DusterRounds", name := "round", desc := "(II)I" } : Jvm.MethodName)) ∈ zT := zT_in 407 (by decide +kernel) (by decide +kernel)
theorem wd_408 : (Jvm.Cond.instanceMethod ({ cls := "DusterRounds", name := "round", desc := "(II)I" } : Jvm.MethodName)) ∈ zT := zT_in 408 (by decide +kernel) (by decide +kernel)
theorem wd_409 : (Jvm.Cond.selects "DusterRounds" ({ cls := "DusterRounds", name := "round", desc := "(II)I" } : Jvm.MethodName) ({ cls := "DusterRounds", name := "round", desc := "(II)I" } : Jvm.MethodName)) ∈ zT := zT_in 409 (by decide +kernel) (by decide +kernel)
theorem wd_410 : (Jvm.Cond.code ({ cls := "DusterRounds", name := "round", desc := "(II)I" } : Jvm.MethodName) prog_1_method_20_code (7 : Nat) (Option.some Jvm.ClassFile.FieldType.int)) ∈ zT := zT_in 410 (by decide +kernel) (by decide +kernel)
theorem wd_411 : (Jvm.Cond.constant "DusterRounds" (171 : Nat) (2147483647 : Int32)) ∈ zT := zT_in 411 (by decide +kernel) (by decide +kernel)
theorem wd_412 : (Jvm.Cond.methodLink "DusterRounds" (172 : Nat) ({ cls := "DusterRounds", name := "dustAheadAfter", desc := "(I)I" } : Jvm.MethodName)) ∈ zT := zT_in 412 (by decide +kernel) (by decide +kernel)
theorem wd_414 : (Jvm.Cond.instanceMethod ({ cls := "DusterRounds", name := "dustAheadAfter", desc := "(I)I" } : Jvm.MethodName)) ∈ zT := zT_in 414 (by decide +kernel) (by decide +kernel)
theorem wd_415 : (Jvm.Cond.code ({ cls := "DusterRounds", name := "dustAheadAfter", desc := "(I)I" } : Jvm.MethodName) prog_1_method_49_code (2 : Nat) (Option.some Jvm.ClassFile.FieldType.int)) ∈ zT := zT_in 415 (by decide +kernel) (by decide +kernel)
theorem wd_416 : (Jvm.Cond.methodLink "DusterRoundsLaw" (92 : Nat) ({ cls := "DusterRounds", name := "kind", desc := "(II)I" } : Jvm.MethodName)) ∈ zT := zT_in 416 (by decide +kernel) (by decide +kernel)
theorem wd_417 : (Jvm.Cond.instanceMethod ({ cls := "DusterRounds", name := "kind", desc := "(II)I" } : Jvm.MethodName)) ∈ zT := zT_in 417 (by decide +kernel) (by decide +kernel)
theorem wd_418 : (Jvm.Cond.selects "DusterRounds" ({ cls := "DusterRounds", name := "kind", desc := "(II)I" } : Jvm.MethodName) ({ cls := "DusterRounds", name := "kind", desc := "(II)I" } : Jvm.MethodName)) ∈ zT := zT_in 418 (by decide +kernel) (by decide +kernel)
theorem wd_419 : (Jvm.Cond.code ({ cls := "DusterRounds", name := "kind", desc := "(II)I" } : Jvm.MethodName) prog_1_method_21_code (3 : Nat) (Option.some Jvm.ClassFile.FieldType.int)) ∈ zT := zT_in 419 (by decide +kernel) (by decide +kernel)
theorem wd_420 : (Jvm.Cond.methodLink "DusterRounds" (175 : Nat) ({ cls := "DusterRounds", name := "withMostMemories", desc := "([IIII)I" } : Jvm.MethodName)) ∈ zT := zT_in 420 (by decide +kernel) (by decide +kernel)
theorem wd_422 : (Jvm.Cond.instanceMethod ({ cls := "DusterRounds", name := "withMostMemories", desc := "([IIII)I" } : Jvm.MethodName)) ∈ zT := zT_in 422 (by decide +kernel) (by decide +kernel)
theorem wd_423 : (Jvm.Cond.code ({ cls := "DusterRounds", name := "withMostMemories", desc := "([IIII)I" } : Jvm.MethodName) prog_1_method_51_code (9 : Nat) (Option.some Jvm.ClassFile.FieldType.int)) ∈ zT := zT_in 423 (by decide +kernel) (by decide +kernel)
theorem wd_424 : (Jvm.Cond.methodLink "DusterRounds" (233 : Nat) ({ cls := "DusterRounds$House", name := "memoriesCounted", desc := "()I" } : Jvm.MethodName)) ∈ zT := zT_in 424 (by decide +kernel) (by decide +kernel)
theorem wd_425 : (Jvm.Cond.instanceMethod ({ cls := "DusterRounds$House", name := "memoriesCounted", desc := "()I" } : Jvm.MethodName)) ∈ zT := zT_in 425 (by decide +kernel) (by decide +kernel)
theorem wd_426 : (Jvm.Cond.selects "DusterRounds$House" ({ cls := "DusterRounds$House", name := "memoriesCounted", desc := "()I" } : Jvm.MethodName) ({ cls := "DusterRounds$House", name := "memoriesCounted", desc := "()I" } : Jvm.MethodName)) ∈ zT := zT_in 426 (by decide +kernel) (by decide +kernel)
theorem wd_427 : (Jvm.Cond.code ({ cls := "DusterRounds$House", name := "memoriesCounted", desc := "()I" } : Jvm.MethodName) prog_2_method_12_code (3 : Nat) (Option.some Jvm.ClassFile.FieldType.int)) ∈ zT := zT_in 427 (by decide +kernel) (by decide +kernel)
theorem wd_428 : (Jvm.Cond.methodLink "DusterRounds$House" (80 : Nat) ({ cls := "java/lang/Integer", name := "bitCount", desc := "(I)I" } : Jvm.MethodName)) ∈ zT := zT_in 428 (by decide +kernel) (by decide +kernel)
theorem wd_429 : (Jvm.Cond.methodLink "DusterRoundsLaw" (96 : Nat) ({ cls := "DusterRounds", name := "grime", desc := "(II)I" } : Jvm.MethodName)) ∈ zT := zT_in 429 (by decide +kernel) (by decide +kernel)
theorem wd_430 : (Jvm.Cond.instanceMethod ({ cls := "DusterRounds", name := "grime", desc := "(II)I" } : Jvm.MethodName)) ∈ zT := zT_in 430 (by decide +kernel) (by decide +kernel)
theorem wd_431 : (Jvm.Cond.selects "DusterRounds" ({ cls := "DusterRounds", name := "grime", desc := "(II)I" } : Jvm.MethodName) ({ cls := "DusterRounds", name := "grime", desc := "(II)I" } : Jvm.MethodName)) ∈ zT := zT_in 431 (by decide +kernel) (by decide +kernel)
theorem wd_432 : (Jvm.Cond.code ({ cls := "DusterRounds", name := "grime", desc := "(II)I" } : Jvm.MethodName) prog_1_method_22_code (3 : Nat) (Option.some Jvm.ClassFile.FieldType.int)) ∈ zT := zT_in 432 (by decide +kernel) (by decide +kernel)
theorem wd_433 : (Jvm.Cond.methodLink "DusterRoundsLaw" (100 : Nat) ({ cls := "DusterRounds", name := "best", desc := "(I)I" } : Jvm.MethodName)) ∈ zT := zT_in 433 (by decide +kernel) (by decide +kernel)
theorem wd_434 : (Jvm.Cond.instanceMethod ({ cls := "DusterRounds", name := "best", desc := "(I)I" } : Jvm.MethodName)) ∈ zT := zT_in 434 (by decide +kernel) (by decide +kernel)
theorem wd_435 : (Jvm.Cond.selects "DusterRounds" ({ cls := "DusterRounds", name := "best", desc := "(I)I" } : Jvm.MethodName) ({ cls := "DusterRounds", name := "best", desc := "(I)I" } : Jvm.MethodName)) ∈ zT := zT_in 435 (by decide +kernel) (by decide +kernel)
theorem wd_436 : (Jvm.Cond.code ({ cls := "DusterRounds", name := "best", desc := "(I)I" } : Jvm.MethodName) prog_1_method_23_code (6 : Nat) (Option.some Jvm.ClassFile.FieldType.int)) ∈ zT := zT_in 436 (by decide +kernel) (by decide +kernel)
theorem wd_437 : (Jvm.Cond.methodLink "DusterRoundsLaw" (104 : Nat) ({ cls := "DusterRounds", name := "delay", desc := "(III)I" } : Jvm.MethodName)) ∈ zT := zT_in 437 (by decide +kernel) (by decide +kernel)
theorem wd_438 : (Jvm.Cond.instanceMethod ({ cls := "DusterRounds", name := "delay", desc := "(III)I" } : Jvm.MethodName)) ∈ zT := zT_in 438 (by decide +kernel) (by decide +kernel)
theorem wd_439 : (Jvm.Cond.selects "DusterRounds" ({ cls := "DusterRounds", name := "delay", desc := "(III)I" } : Jvm.MethodName) ({ cls := "DusterRounds", name := "delay", desc := "(III)I" } : Jvm.MethodName)) ∈ zT := zT_in 439 (by decide +kernel) (by decide +kernel)
theorem wd_440 : (Jvm.Cond.code ({ cls := "DusterRounds", name := "delay", desc := "(III)I" } : Jvm.MethodName) prog_1_method_24_code (8 : Nat) (Option.some Jvm.ClassFile.FieldType.int)) ∈ zT := zT_in 440 (by decide +kernel) (by decide +kernel)
theorem wd_441 : (Jvm.Cond.methodLink "DusterRounds" (179 : Nat) ({ cls := "java/lang/Integer", name := "bitCount", desc := "(I)I" } : Jvm.MethodName)) ∈ zT := zT_in 441 (by decide +kernel) (by decide +kernel)
theorem wd_442 : (Jvm.Cond.methodLink "DusterRoundsLaw" (108 : Nat) ({ cls := "DusterRounds", name := "bears", desc := "(I)I" } : Jvm.MethodName)) ∈ zT := zT_in 442 (by decide +kernel) (by decide +kernel)
theorem wd_443 : (Jvm.Cond.instanceMethod ({ cls := "DusterRounds", name := "bears", desc := "(I)I" } : Jvm.MethodName)) ∈ zT := zT_in 443 (by decide +kernel) (by decide +kernel)
theorem wd_444 : (Jvm.Cond.selects "DusterRounds" ({ cls := "DusterRounds", name := "bears", desc := "(I)I" } : Jvm.MethodName) ({ cls := "DusterRounds", name := "bears", desc := "(I)I" } : Jvm.MethodName)) ∈ zT := zT_in 444 (by decide +kernel) (by decide +kernel)
theorem wd_445 : (Jvm.Cond.code ({ cls := "DusterRounds", name := "bears", desc := "(I)I" } : Jvm.MethodName) prog_1_method_25_code (4 : Nat) (Option.some Jvm.ClassFile.FieldType.int)) ∈ zT := zT_in 445 (by decide +kernel) (by decide +kernel)
theorem wd_446 : (Jvm.Cond.methodLink "DusterRoundsLaw" (112 : Nat) ({ cls := "DusterRounds", name := "fullest", desc := "(I)I" } : Jvm.MethodName)) ∈ zT := zT_in 446 (by decide +kernel) (by decide +kernel)
theorem wd_447 : (Jvm.Cond.instanceMethod ({ cls := "DusterRounds", name := "fullest", desc := "(I)I" } : Jvm.MethodName)) ∈ zT := zT_in 447 (by decide +kernel) (by decide +kernel)
theorem wd_448 : (Jvm.Cond.selects "DusterRounds" ({ cls := "DusterRounds", name := "fullest", desc := "(I)I" } : Jvm.MethodName) ({ cls := "DusterRounds", name := "fullest", desc := "(I)I" } : Jvm.MethodName)) ∈ zT := zT_in 448 (by decide +kernel) (by decide +kernel)
theorem wd_449 : (Jvm.Cond.code ({ cls := "DusterRounds", name := "fullest", desc := "(I)I" } : Jvm.MethodName) prog_1_method_26_code (6 : Nat) (Option.some Jvm.ClassFile.FieldType.int)) ∈ zT := zT_in 449 (by decide +kernel) (by decide +kernel)
theorem wd_450 : (Jvm.Cond.methodLink "DusterRoundsLaw" (116 : Nat) ({ cls := "DusterRounds", name := "feed", desc := "(II)I" } : Jvm.MethodName)) ∈ zT := zT_in 450 (by decide +kernel) (by decide +kernel)
theorem wd_451 : (Jvm.Cond.instanceMethod ({ cls := "DusterRounds", name := "feed", desc := "(II)I" } : Jvm.MethodName)) ∈ zT := zT_in 451 (by decide +kernel) (by decide +kernel)
theorem wd_452 : (Jvm.Cond.selects "DusterRounds" ({ cls := "DusterRounds", name := "feed", desc := "(II)I" } : Jvm.MethodName) ({ cls := "DusterRounds", name := "feed", desc := "(II)I" } : Jvm.MethodName)) ∈ zT := zT_in 452 (by decide +kernel) (by decide +kernel)
theorem wd_453 : (Jvm.Cond.code ({ cls := "DusterRounds", name := "feed", desc := "(II)I" } : Jvm.MethodName) prog_1_method_27_code (4 : Nat) (Option.some Jvm.ClassFile.FieldType.int)) ∈ zT := zT_in 453 (by decide +kernel) (by decide +kernel)
theorem wd_454 : (Jvm.Cond.methodLink "DusterRounds" (185 : Nat) ({ cls := "DusterRounds$Tape", name := "put", desc := "(I)V" } : Jvm.MethodName)) ∈ zT := zT_in 454 (by decide +kernel) (by decide +kernel)
theorem wd_455 : (Jvm.Cond.instanceMethod ({ cls := "DusterRounds$Tape", name := "put", desc := "(I)V" } : Jvm.MethodName)) ∈ zT := zT_in 455 (by decide +kernel) (by decide +kernel)
theorem wd_456 : (Jvm.Cond.selects "DusterRounds$Tape" ({ cls := "DusterRounds$Tape", name := "put", desc := "(I)V" } : Jvm.MethodName) ({ cls := "DusterRounds$Tape", name := "put", desc := "(I)V" } : Jvm.MethodName)) ∈ zT := zT_in 456 (by decide +kernel) (by decide +kernel)
theorem wd_457 : (Jvm.Cond.code ({ cls := "DusterRounds$Tape", name := "put", desc := "(I)V" } : Jvm.MethodName) prog_5_method_2_code (2 : Nat) (Option.none : Option Jvm.ClassFile.FieldType)) ∈ zT := zT_in 457 (by decide +kernel) (by decide +kernel)
theorem wd_458 : (Jvm.Cond.methodLink "DusterRoundsLaw" (120 : Nat) ({ cls := "DusterRounds", name := "wipe", desc := "()I" } : Jvm.MethodName)) ∈ zT := zT_in 458 (by decide +kernel) (by decide +kernel)
theorem wd_459 : (Jvm.Cond.instanceMethod ({ cls := "DusterRounds", name := "wipe", desc := "()I" } : Jvm.MethodName)) ∈ zT := zT_in 459 (by decide +kernel) (by decide +kernel)
theorem wd_460 : (Jvm.Cond.selects "DusterRounds" ({ cls := "DusterRounds", name := "wipe", desc := "()I" } : Jvm.MethodName) ({ cls := "DusterRounds", name := "wipe", desc := "()I" } : Jvm.MethodName)) ∈ zT := zT_in 460 (by decide +kernel) (by decide +kernel)
theorem wd_461 : (Jvm.Cond.code ({ cls := "DusterRounds", name := "wipe", desc := "()I" } : Jvm.MethodName) prog_1_method_28_code (2 : Nat) (Option.some Jvm.ClassFile.FieldType.int)) ∈ zT := zT_in 461 (by decide +kernel) (by decide +kernel)
theorem wd_462 : (Jvm.Cond.methodLink "DusterRoundsLaw" (125 : Nat) ({ cls := "DusterRounds", name := "house", desc := "()I" } : Jvm.MethodName)) ∈ zT := zT_in 462 (by decide +kernel) (by decide +kernel)
theorem wd_463 : (Jvm.Cond.instanceMethod ({ cls := "DusterRounds", name := "house", desc := "()I" } : Jvm.MethodName)) ∈ zT := zT_in 463 (by decide +kernel) (by decide +kernel)
theorem wd_464 : (Jvm.Cond.selects "DusterRounds" ({ cls := "DusterRounds", name := "house", desc := "()I" } : Jvm.MethodName) ({ cls := "DusterRounds", name := "house", desc := "()I" } : Jvm.MethodName)) ∈ zT := zT_in 464 (by decide +kernel) (by decide +kernel)
theorem wd_465 : (Jvm.Cond.code ({ cls := "DusterRounds", name := "house", desc := "()I" } : Jvm.MethodName) prog_1_method_29_code (2 : Nat) (Option.some Jvm.ClassFile.FieldType.int)) ∈ zT := zT_in 465 (by decide +kernel) (by decide +kernel)
theorem wd_466 : (Jvm.Cond.methodLink "DusterRounds" (188 : Nat) ({ cls := "DusterRounds$Tape", name := "tellHouse", desc := "(LDusterRounds$House;)I" } : Jvm.MethodName)) ∈ zT := zT_in 466 (by decide +kernel) (by decide +kernel)
theorem wd_467 : (Jvm.Cond.instanceMethod ({ cls := "DusterRounds$Tape", name := "tellHouse", desc := "(LDusterRounds$House;)I" } : Jvm.MethodName)) ∈ zT := zT_in 467 (by decide +kernel) (by decide +kernel)
theorem wd_468 : (Jvm.Cond.selects "DusterRounds$Tape" ({ cls := "DusterRounds$Tape", name := "tellHouse", desc := "(LDusterRounds$House;)I" } : Jvm.MethodName) ({ cls := "DusterRounds$Tape", name := "tellHouse", desc := "(LDusterRounds$House;)I" } : Jvm.MethodName)) ∈ zT := zT_in 468 (by decide +kernel) (by decide +kernel)
theorem wd_469 : (Jvm.Cond.code ({ cls := "DusterRounds$Tape", name := "tellHouse", desc := "(LDusterRounds$House;)I" } : Jvm.MethodName) prog_5_method_3_code (3 : Nat) (Option.some Jvm.ClassFile.FieldType.int)) ∈ zT := zT_in 469 (by decide +kernel) (by decide +kernel)
theorem wd_470 : (Jvm.Cond.methodLink "DusterRounds$Tape" (34 : Nat) ({ cls := "DusterRounds$Tape", name := "step", desc := "()V" } : Jvm.MethodName)) ∈ zT := zT_in 470 (by decide +kernel) (by decide +kernel)
theorem wd_472 : (Jvm.Cond.instanceMethod ({ cls := "DusterRounds$Tape", name := "step", desc := "()V" } : Jvm.MethodName)) ∈ zT := zT_in 472 (by decide +kernel) (by decide +kernel)
theorem wd_473 : (Jvm.Cond.code ({ cls := "DusterRounds$Tape", name := "step", desc := "()V" } : Jvm.MethodName) prog_5_method_12_code (1 : Nat) (Option.none : Option Jvm.ClassFile.FieldType)) ∈ zT := zT_in 473 (by decide +kernel) (by decide +kernel)
theorem wd_474 : (Jvm.Cond.methodLink "DusterRounds$Tape" (92 : Nat) ({ cls := "DusterRounds$Tape", name := "isLetter", desc := "(I)Z" } : Jvm.MethodName)) ∈ zT := zT_in 474 (by decide +kernel) (by decide +kernel)
theorem wd_475 : (Jvm.Cond.static ({ cls := "DusterRounds$Tape", name := "isLetter", desc := "(I)Z" } : Jvm.MethodName)) ∈ zT := zT_in 475 (by decide +kernel) (by decide +kernel)
theorem wd_476 : (Jvm.Cond.code ({ cls := "DusterRounds$Tape", name := "isLetter", desc := "(I)Z" } : Jvm.MethodName) prog_5_method_15_code (1 : Nat) (Option.some Jvm.ClassFile.FieldType.boolean)) ∈ zT := zT_in 476 (by decide +kernel) (by decide +kernel)
theorem wd_477 : (Jvm.Cond.methodLink "DusterRounds$Tape" (95 : Nat) ({ cls := "DusterRounds$Tape", name := "stepOverWord", desc := "()V" } : Jvm.MethodName)) ∈ zT := zT_in 477 (by decide +kernel) (by decide +kernel)
theorem wd_479 : (Jvm.Cond.instanceMethod ({ cls := "DusterRounds$Tape", name := "stepOverWord", desc := "()V" } : Jvm.MethodName)) ∈ zT := zT_in 479 (by decide +kernel) (by decide +kernel)
theorem wd_480 : (Jvm.Cond.code ({ cls := "DusterRounds$Tape", name := "stepOverWord", desc := "()V" } : Jvm.MethodName) prog_5_method_13_code (3 : Nat) (Option.none : Option Jvm.ClassFile.FieldType)) ∈ zT := zT_in 480 (by decide +kernel) (by decide +kernel)
theorem wd_481 : (Jvm.Cond.methodLink "DusterRounds$Tape" (104 : Nat) ({ cls := "DusterRounds$Tape", name := "nameOf", desc := "(I)Ljava/lang/String;" } : Jvm.MethodName)) ∈ zT := zT_in 481 (by decide +kernel) (by decide +kernel)
theorem wd_482 : (Jvm.Cond.static ({ cls := "DusterRounds$Tape", name := "nameOf", desc := "(I)Ljava/lang/String;" } : Jvm.MethodName)) ∈ zT := zT_in 482 (by decide +kernel) (by decide +kernel)
theorem wd_483 : (Jvm.Cond.code ({ cls := "DusterRounds$Tape", name := "nameOf", desc := "(I)Ljava/lang/String;" } : Jvm.MethodName) prog_5_method_17_code (1 : Nat) (Option.some (Jvm.ClassFile.FieldType.object "java/lang/String"))) ∈ zT := zT_in 483 (by decide +kernel) (by decide +kernel)
theorem wq_484 : (Jvm.Cond.stringRef "DusterRounds$Tape" (123 : Nat) "duster") ∈ lw_tbl := List.mem_of_getElem? (i := 484) (by decide +kernel)
theorem wq_485 : (Jvm.Cond.stringRef "DusterRounds$Tape" (125 : Nat) "hemmed") ∈ lw_tbl := List.mem_of_getElem? (i := 485) (by decide +kernel)
theorem wq_486 : (Jvm.Cond.stringRef "DusterRounds$Tape" (127 : Nat) "glass") ∈ lw_tbl := List.mem_of_getElem? (i := 486) (by decide +kernel)
theorem wq_487 : (Jvm.Cond.stringRef "DusterRounds$Tape" (129 : Nat) "wool") ∈ lw_tbl := List.mem_of_getElem? (i := 487) (by decide +kernel)
theorem wq_488 : (Jvm.Cond.stringRef "DusterRounds$Tape" (131 : Nat) "wedding") ∈ lw_tbl := List.mem_of_getElem? (i := 488) (by decide +kernel)
theorem wq_489 : (Jvm.Cond.stringRef "DusterRounds$Tape" (133 : Nat) "silk") ∈ lw_tbl := List.mem_of_getElem? (i := 489) (by decide +kernel)
theorem wq_490 : (Jvm.Cond.stringRef "DusterRounds$Tape" (135 : Nat) "holds") ∈ lw_tbl := List.mem_of_getElem? (i := 490) (by decide +kernel)
theorem wq_491 : (Jvm.Cond.stringRef "DusterRounds$Tape" (137 : Nat) "grime") ∈ lw_tbl := List.mem_of_getElem? (i := 491) (by decide +kernel)
theorem wq_492 : (Jvm.Cond.stringRef "DusterRounds$Tape" (139 : Nat) "room") ∈ lw_tbl := List.mem_of_getElem? (i := 492) (by decide +kernel)
theorem wq_493 : (Jvm.Cond.stringRef "DusterRounds$Tape" (141 : Nat) "dust") ∈ lw_tbl := List.mem_of_getElem? (i := 493) (by decide +kernel)
theorem wq_494 : (Jvm.Cond.stringRef "DusterRounds$Tape" (142 : Nat) "has") ∈ lw_tbl := List.mem_of_getElem? (i := 494) (by decide +kernel)
theorem wq_495 : (Jvm.Cond.stringRef "DusterRounds$Tape" (144 : Nat) "falls") ∈ lw_tbl := List.mem_of_getElem? (i := 495) (by decide +kernel)
theorem wq_496 : (Jvm.Cond.stringRef "DusterRounds$Tape" (146 : Nat) "wash") ∈ lw_tbl := List.mem_of_getElem? (i := 496) (by decide +kernel)
theorem wq_497 : (Jvm.Cond.stringRef "DusterRounds$Tape" (148 : Nat) "") ∈ lw_tbl := List.mem_of_getElem? (i := 497) (by decide +kernel)
theorem wd_498 : (Jvm.Cond.methodLink "DusterRounds$Tape" (108 : Nat) ({ cls := "java/lang/String", name := "length", desc := "()I" } : Jvm.MethodName)) ∈ zT := zT_in 498 (by decide +kernel) (by decide +kernel)
theorem wd_499 : (Jvm.Cond.instanceMethod ({ cls := "java/lang/String", name := "length", desc := "()I" } : Jvm.MethodName)) ∈ zT := zT_in 499 (by decide +kernel) (by decide +kernel)
theorem wd_500 : (Jvm.Cond.selects "java/lang/String" ({ cls := "java/lang/String", name := "length", desc := "()I" } : Jvm.MethodName) ({ cls := "java/lang/String", name := "length", desc := "()I" } : Jvm.MethodName)) ∈ zT := zT_in 500 (by decide +kernel) (by decide +kernel)
theorem wd_501 : (Jvm.Cond.code ({ cls := "java/lang/String", name := "length", desc := "()I" } : Jvm.MethodName) prog_10_method_54_code (1 : Nat) (Option.some Jvm.ClassFile.FieldType.int)) ∈ zT := zT_in 501 (by decide +kernel) (by decide +kernel)
theorem wd_502 : (Jvm.Cond.methodLink "java/lang/String" (335 : Nat) ({ cls := "java/lang/String", name := "coder", desc := "()B" } : Jvm.MethodName)) ∈ zT := zT_in 502 (by decide +kernel) (by decide +kernel)
theorem wd_503 : (Jvm.Cond.instanceMethod ({ cls := "java/lang/String", name := "coder", desc := "()B" } : Jvm.MethodName)) ∈ zT := zT_in 503 (by decide +kernel) (by decide +kernel)
theorem wd_504 : (Jvm.Cond.selects "java/lang/String" ({ cls := "java/lang/String", name := "coder", desc := "()B" } : Jvm.MethodName) ({ cls := "java/lang/String", name := "coder", desc := "()B" } : Jvm.MethodName)) ∈ zT := zT_in 504 (by decide +kernel) (by decide +kernel)
theorem wd_505 : (Jvm.Cond.code ({ cls := "java/lang/String", name := "coder", desc := "()B" } : Jvm.MethodName) prog_10_method_152_code (1 : Nat) (Option.some Jvm.ClassFile.FieldType.byte)) ∈ zT := zT_in 505 (by decide +kernel) (by decide +kernel)
theorem wd_506 : (Jvm.Cond.fieldLink "java/lang/String" (38 : Nat) "java/lang/String" "COMPACT_STRINGS" "Z") ∈ zT := zT_in 506 (by decide +kernel) (by decide +kernel)
theorem wq_507 : (Jvm.Cond.laysStatic "java/lang/String" "COMPACT_STRINGS" "Z") ∈ lw_tbl := List.mem_of_getElem? (i := 507) (by decide +kernel)
theorem wd_508 : (Jvm.Cond.methodLink "DusterRounds$Tape" (113 : Nat) ({ cls := "java/lang/String", name := "charAt", desc := "(I)C" } : Jvm.MethodName)) ∈ zT := zT_in 508 (by decide +kernel) (by decide +kernel)
theorem wd_509 : (Jvm.Cond.instanceMethod ({ cls := "java/lang/String", name := "charAt", desc := "(I)C" } : Jvm.MethodName)) ∈ zT := zT_in 509 (by decide +kernel) (by decide +kernel)
theorem wd_510 : (Jvm.Cond.selects "java/lang/String" ({ cls := "java/lang/String", name := "charAt", desc := "(I)C" } : Jvm.MethodName) ({ cls := "java/lang/String", name := "charAt", desc := "(I)C" } : Jvm.MethodName)) ∈ zT := zT_in 510 (by decide +kernel) (by decide +kernel)
theorem wd_511 : (Jvm.Cond.code ({ cls := "java/lang/String", name := "charAt", desc := "(I)C" } : Jvm.MethodName) prog_10_method_56_code (2 : Nat) (Option.some Jvm.ClassFile.FieldType.char)) ∈ zT := zT_in 511 (by decide +kernel) (by decide +kernel)
theorem wd_512 : (Jvm.Cond.methodLink "java/lang/String" (492 : Nat) ({ cls := "java/lang/String", name := "isLatin1", desc := "()Z" } : Jvm.MethodName)) ∈ zT := zT_in 512 (by decide +kernel) (by decide +kernel)
theorem wd_513 : (Jvm.Cond.instanceMethod ({ cls := "java/lang/String", name := "isLatin1", desc := "()Z" } : Jvm.MethodName)) ∈ zT := zT_in 513 (by decide +kernel) (by decide +kernel)
theorem wd_514 : (Jvm.Cond.selects "java/lang/String" ({ cls := "java/lang/String", name := "isLatin1", desc := "()Z" } : Jvm.MethodName) ({ cls := "java/lang/String", name := "isLatin1", desc := "()Z" } : Jvm.MethodName)) ∈ zT := zT_in 514 (by decide +kernel) (by decide +kernel)
theorem wd_515 : (Jvm.Cond.code ({ cls := "java/lang/String", name := "isLatin1", desc := "()Z" } : Jvm.MethodName) prog_10_method_154_code (1 : Nat) (Option.some Jvm.ClassFile.FieldType.boolean)) ∈ zT := zT_in 515 (by decide +kernel) (by decide +kernel)
theorem wd_516 : (Jvm.Cond.methodLink "java/lang/String" (495 : Nat) ({ cls := "java/lang/StringLatin1", name := "charAt", desc := "([BI)C" } : Jvm.MethodName)) ∈ zT := zT_in 516 (by decide +kernel) (by decide +kernel)
theorem wd_517 : (Jvm.Cond.static ({ cls := "java/lang/StringLatin1", name := "charAt", desc := "([BI)C" } : Jvm.MethodName)) ∈ zT := zT_in 517 (by decide +kernel) (by decide +kernel)
theorem wd_518 : (Jvm.Cond.code ({ cls := "java/lang/StringLatin1", name := "charAt", desc := "([BI)C" } : Jvm.MethodName) prog_11_method_2_code (2 : Nat) (Option.some Jvm.ClassFile.FieldType.char)) ∈ zT := zT_in 518 (by decide +kernel) (by decide +kernel)
theorem wd_519 : (Jvm.Cond.methodLink "java/lang/StringLatin1" (9 : Nat) ({ cls := "java/lang/String", name := "checkIndex", desc := "(II)V" } : Jvm.MethodName)) ∈ zT := zT_in 519 (by decide +kernel) (by decide +kernel)
theorem wd_520 : (Jvm.Cond.static ({ cls := "java/lang/String", name := "checkIndex", desc := "(II)V" } : Jvm.MethodName)) ∈ zT := zT_in 520 (by decide +kernel) (by decide +kernel)
theorem wd_521 : (Jvm.Cond.code ({ cls := "java/lang/String", name := "checkIndex", desc := "(II)V" } : Jvm.MethodName) prog_10_method_155_code (2 : Nat) (Option.none : Option Jvm.ClassFile.FieldType)) ∈ zT := zT_in 521 (by decide +kernel) (by decide +kernel)
theorem wd_522 : (Jvm.Cond.fieldLink "java/lang/String" (1053 : Nat) "jdk/internal/util/Preconditions" "SIOOBE_FORMATTER" "Ljava/util/function/BiFunction;") ∈ zT := zT_in 522 (by decide +kernel) (by decide +kernel)
theorem wq_523 : (Jvm.Cond.laysStatic "jdk/internal/util/Preconditions" "SIOOBE_FORMATTER" "Ljava/util/function/BiFunction;") ∈ lw_tbl := List.mem_of_getElem? (i := 523) (by decide +kernel)
theorem wd_524 : (Jvm.Cond.methodLink "java/lang/String" (1059 : Nat) ({ cls := "jdk/internal/util/Preconditions", name := "checkIndex", desc := "(IILjava/util/function/BiFunction;)I" } : Jvm.MethodName)) ∈ zT := zT_in 524 (by decide +kernel) (by decide +kernel)
theorem wd_525 : (Jvm.Cond.static ({ cls := "jdk/internal/util/Preconditions", name := "checkIndex", desc := "(IILjava/util/function/BiFunction;)I" } : Jvm.MethodName)) ∈ zT := zT_in 525 (by decide +kernel) (by decide +kernel)
theorem wd_526 : (Jvm.Cond.code ({ cls := "jdk/internal/util/Preconditions", name := "checkIndex", desc := "(IILjava/util/function/BiFunction;)I" } : Jvm.MethodName) prog_14_method_11_code (3 : Nat) (Option.some Jvm.ClassFile.FieldType.int)) ∈ zT := zT_in 526 (by decide +kernel) (by decide +kernel)
theorem wd_527 : (Jvm.Cond.methodLink "java/lang/String" (498 : Nat) ({ cls := "java/lang/StringUTF16", name := "charAt", desc := "([BI)C" } : Jvm.MethodName)) ∈ zT := zT_in 527 (by decide +kernel) (by decide +kernel)
theorem wd_528 : (Jvm.Cond.static ({ cls := "java/lang/StringUTF16", name := "charAt", desc := "([BI)C" } : Jvm.MethodName)) ∈ zT := zT_in 528 (by decide +kernel) (by decide +kernel)
theorem wd_529 : (Jvm.Cond.code ({ cls := "java/lang/StringUTF16", name := "charAt", desc := "([BI)C" } : Jvm.MethodName) prog_12_method_83_code (2 : Nat) (Option.some Jvm.ClassFile.FieldType.char)) ∈ zT := zT_in 529 (by decide +kernel) (by decide +kernel)
theorem wd_530 : (Jvm.Cond.methodLink "java/lang/StringUTF16" (67 : Nat) ({ cls := "java/lang/StringUTF16", name := "checkIndex", desc := "(I[B)V" } : Jvm.MethodName)) ∈ zT := zT_in 530 (by decide +kernel) (by decide +kernel)
theorem wd_531 : (Jvm.Cond.static ({ cls := "java/lang/StringUTF16", name := "checkIndex", desc := "(I[B)V" } : Jvm.MethodName)) ∈ zT := zT_in 531 (by decide +kernel) (by decide +kernel)
theorem wd_532 : (Jvm.Cond.code ({ cls := "java/lang/StringUTF16", name := "checkIndex", desc := "(I[B)V" } : Jvm.MethodName) prog_12_method_91_code (2 : Nat) (Option.none : Option Jvm.ClassFile.FieldType)) ∈ zT := zT_in 532 (by decide +kernel) (by decide +kernel)
theorem wd_533 : (Jvm.Cond.methodLink "java/lang/StringUTF16" (48 : Nat) ({ cls := "java/lang/StringUTF16", name := "length", desc := "([B)I" } : Jvm.MethodName)) ∈ zT := zT_in 533 (by decide +kernel) (by decide +kernel)
theorem wd_534 : (Jvm.Cond.static ({ cls := "java/lang/StringUTF16", name := "length", desc := "([B)I" } : Jvm.MethodName)) ∈ zT := zT_in 534 (by decide +kernel) (by decide +kernel)
theorem wd_535 : (Jvm.Cond.code ({ cls := "java/lang/StringUTF16", name := "length", desc := "([B)I" } : Jvm.MethodName) prog_12_method_6_code (1 : Nat) (Option.some Jvm.ClassFile.FieldType.int)) ∈ zT := zT_in 535 (by decide +kernel) (by decide +kernel)
theorem wd_536 : (Jvm.Cond.methodLink "java/lang/StringUTF16" (414 : Nat) ({ cls := "java/lang/String", name := "checkIndex", desc := "(II)V" } : Jvm.MethodName)) ∈ zT := zT_in 536 (by decide +kernel) (by decide +kernel)
theorem wd_537 : (Jvm.Cond.methodLink "java/lang/StringUTF16" (71 : Nat) ({ cls := "java/lang/StringUTF16", name := "getChar", desc := "([BI)C" } : Jvm.MethodName)) ∈ zT := zT_in 537 (by decide +kernel) (by decide +kernel)
theorem wd_538 : (Jvm.Cond.static ({ cls := "java/lang/StringUTF16", name := "getChar", desc := "([BI)C" } : Jvm.MethodName)) ∈ zT := zT_in 538 (by decide +kernel) (by decide +kernel)
theorem wd_539 : (Jvm.Cond.code ({ cls := "java/lang/StringUTF16", name := "getChar", desc := "([BI)C" } : Jvm.MethodName) prog_12_method_5_code (2 : Nat) (Option.some Jvm.ClassFile.FieldType.char)) ∈ zT := zT_in 539 (by decide +kernel) (by decide +kernel)
theorem wd_540 : (Jvm.Cond.fieldLink "java/lang/StringUTF16" (44 : Nat) "java/lang/StringUTF16" "$assertionsDisabled" "Z") ∈ zT := zT_in 540 (by decide +kernel) (by decide +kernel)
theorem wq_541 : (Jvm.Cond.laysStatic "java/lang/StringUTF16" "$assertionsDisabled" "Z") ∈ lw_tbl := List.mem_of_getElem? (i := 541) (by decide +kernel)
theorem wd_542 : (Jvm.Cond.fieldLink "java/lang/StringUTF16" (59 : Nat) "java/lang/StringUTF16" "HI_BYTE_SHIFT" "I") ∈ zT := zT_in 542 (by decide +kernel) (by decide +kernel)
theorem wq_543 : (Jvm.Cond.laysStatic "java/lang/StringUTF16" "HI_BYTE_SHIFT" "I") ∈ lw_tbl := List.mem_of_getElem? (i := 543) (by decide +kernel)
theorem wd_544 : (Jvm.Cond.fieldLink "java/lang/StringUTF16" (63 : Nat) "java/lang/StringUTF16" "LO_BYTE_SHIFT" "I") ∈ zT := zT_in 544 (by decide +kernel) (by decide +kernel)
theorem wq_545 : (Jvm.Cond.laysStatic "java/lang/StringUTF16" "LO_BYTE_SHIFT" "I") ∈ lw_tbl := List.mem_of_getElem? (i := 545) (by decide +kernel)
theorem wd_546 : (Jvm.Cond.methodLink "DusterRounds$Tape" (98 : Nat) ({ cls := "DusterRounds$Tape", name := "isDigit", desc := "(I)Z" } : Jvm.MethodName)) ∈ zT := zT_in 546 (by decide +kernel) (by decide +kernel)
theorem wd_547 : (Jvm.Cond.static ({ cls := "DusterRounds$Tape", name := "isDigit", desc := "(I)Z" } : Jvm.MethodName)) ∈ zT := zT_in 547 (by decide +kernel) (by decide +kernel)
theorem wd_548 : (Jvm.Cond.code ({ cls := "DusterRounds$Tape", name := "isDigit", desc := "(I)Z" } : Jvm.MethodName) prog_5_method_16_code (1 : Nat) (Option.some Jvm.ClassFile.FieldType.boolean)) ∈ zT := zT_in 548 (by decide +kernel) (by decide +kernel)
theorem wd_549 : (Jvm.Cond.methodLink "DusterRounds$Tape" (101 : Nat) ({ cls := "DusterRounds$Tape", name := "stepOverNumber", desc := "()V" } : Jvm.MethodName)) ∈ zT := zT_in 549 (by decide +kernel) (by decide +kernel)
theorem wd_551 : (Jvm.Cond.instanceMethod ({ cls := "DusterRounds$Tape", name := "stepOverNumber", desc := "()V" } : Jvm.MethodName)) ∈ zT := zT_in 551 (by decide +kernel) (by decide +kernel)
theorem wd_552 : (Jvm.Cond.code ({ cls := "DusterRounds$Tape", name := "stepOverNumber", desc := "()V" } : Jvm.MethodName) prog_5_method_14_code (1 : Nat) (Option.none : Option Jvm.ClassFile.FieldType)) ∈ zT := zT_in 552 (by decide +kernel) (by decide +kernel)
theorem wd_553 : (Jvm.Cond.methodLink "DusterRounds$Tape" (117 : Nat) ({ cls := "java/lang/Math", name := "min", desc := "(II)I" } : Jvm.MethodName)) ∈ zT := zT_in 553 (by decide +kernel) (by decide +kernel)
theorem wd_554 : (Jvm.Cond.methodLink "DusterRounds$Tape" (37 : Nat) ({ cls := "DusterRounds$Tape", name := "tellItem", desc := "(LDusterRounds$House;)Z" } : Jvm.MethodName)) ∈ zT := zT_in 554 (by decide +kernel) (by decide +kernel)
theorem wd_556 : (Jvm.Cond.instanceMethod ({ cls := "DusterRounds$Tape", name := "tellItem", desc := "(LDusterRounds$House;)Z" } : Jvm.MethodName)) ∈ zT := zT_in 556 (by decide +kernel) (by decide +kernel)
theorem wd_557 : (Jvm.Cond.code ({ cls := "DusterRounds$Tape", name := "tellItem", desc := "(LDusterRounds$House;)Z" } : Jvm.MethodName) prog_5_method_4_code (2 : Nat) (Option.some Jvm.ClassFile.FieldType.boolean)) ∈ zT := zT_in 557 (by decide +kernel) (by decide +kernel)
theorem wd_558 : (Jvm.Cond.methodLink "DusterRounds$Tape" (41 : Nat) ({ cls := "DusterRounds$Tape", name := "tellRoom", desc := "(LDusterRounds$House;)Z" } : Jvm.MethodName)) ∈ zT := zT_in 558 (by decide +kernel) (by decide +kernel)
theorem wd_560 : (Jvm.Cond.instanceMethod ({ cls := "DusterRounds$Tape", name := "tellRoom", desc := "(LDusterRounds$House;)Z" } : Jvm.MethodName)) ∈ zT := zT_in 560 (by decide +kernel) (by decide +kernel)
theorem wd_561 : (Jvm.Cond.code ({ cls := "DusterRounds$Tape", name := "tellRoom", desc := "(LDusterRounds$House;)Z" } : Jvm.MethodName) prog_5_method_6_code (3 : Nat) (Option.some Jvm.ClassFile.FieldType.boolean)) ∈ zT := zT_in 561 (by decide +kernel) (by decide +kernel)
theorem wd_562 : (Jvm.Cond.methodLink "DusterRounds$Tape" (72 : Nat) ({ cls := "DusterRounds$Tape", name := "isNumberTo", desc := "(I)Z" } : Jvm.MethodName)) ∈ zT := zT_in 562 (by decide +kernel) (by decide +kernel)
theorem wd_564 : (Jvm.Cond.instanceMethod ({ cls := "DusterRounds$Tape", name := "isNumberTo", desc := "(I)Z" } : Jvm.MethodName)) ∈ zT := zT_in 564 (by decide +kernel) (by decide +kernel)
theorem wd_565 : (Jvm.Cond.code ({ cls := "DusterRounds$Tape", name := "isNumberTo", desc := "(I)Z" } : Jvm.MethodName) prog_5_method_11_code (2 : Nat) (Option.some Jvm.ClassFile.FieldType.boolean)) ∈ zT := zT_in 565 (by decide +kernel) (by decide +kernel)
theorem wd_566 : (Jvm.Cond.methodLink "DusterRounds$Tape" (61 : Nat) ({ cls := "DusterRounds$Tape", name := "isWord", desc := "(I)Z" } : Jvm.MethodName)) ∈ zT := zT_in 566 (by decide +kernel) (by decide +kernel)
theorem wd_568 : (Jvm.Cond.instanceMethod ({ cls := "DusterRounds$Tape", name := "isWord", desc := "(I)Z" } : Jvm.MethodName)) ∈ zT := zT_in 568 (by decide +kernel) (by decide +kernel)
theorem wd_569 : (Jvm.Cond.code ({ cls := "DusterRounds$Tape", name := "isWord", desc := "(I)Z" } : Jvm.MethodName) prog_5_method_10_code (2 : Nat) (Option.some Jvm.ClassFile.FieldType.boolean)) ∈ zT := zT_in 569 (by decide +kernel) (by decide +kernel)
theorem wd_570 : (Jvm.Cond.methodLink "DusterRounds$Tape" (65 : Nat) ({ cls := "DusterRounds$Tape", name := "tellMemories", desc := "()Z" } : Jvm.MethodName)) ∈ zT := zT_in 570 (by decide +kernel) (by decide +kernel)
theorem wd_572 : (Jvm.Cond.instanceMethod ({ cls := "DusterRounds$Tape", name := "tellMemories", desc := "()Z" } : Jvm.MethodName)) ∈ zT := zT_in 572 (by decide +kernel) (by decide +kernel)
theorem wd_573 : (Jvm.Cond.code ({ cls := "DusterRounds$Tape", name := "tellMemories", desc := "()Z" } : Jvm.MethodName) prog_5_method_9_code (2 : Nat) (Option.some Jvm.ClassFile.FieldType.boolean)) ∈ zT := zT_in 573 (by decide +kernel) (by decide +kernel)
theorem wd_574 : (Jvm.Cond.methodLink "DusterRounds$Tape" (44 : Nat) ({ cls := "DusterRounds$Tape", name := "tellFalls", desc := "(LDusterRounds$House;)Z" } : Jvm.MethodName)) ∈ zT := zT_in 574 (by decide +kernel) (by decide +kernel)
theorem wd_576 : (Jvm.Cond.instanceMethod ({ cls := "DusterRounds$Tape", name := "tellFalls", desc := "(LDusterRounds$House;)Z" } : Jvm.MethodName)) ∈ zT := zT_in 576 (by decide +kernel) (by decide +kernel)
theorem wd_577 : (Jvm.Cond.code ({ cls := "DusterRounds$Tape", name := "tellFalls", desc := "(LDusterRounds$House;)Z" } : Jvm.MethodName) prog_5_method_7_code (2 : Nat) (Option.some Jvm.ClassFile.FieldType.boolean)) ∈ zT := zT_in 577 (by decide +kernel) (by decide +kernel)
theorem wd_578 : (Jvm.Cond.methodLink "DusterRounds$Tape" (47 : Nat) ({ cls := "DusterRounds$Tape", name := "tellWash", desc := "(LDusterRounds$House;)Z" } : Jvm.MethodName)) ∈ zT := zT_in 578 (by decide +kernel) (by decide +kernel)
theorem wd_580 : (Jvm.Cond.instanceMethod ({ cls := "DusterRounds$Tape", name := "tellWash", desc := "(LDusterRounds$House;)Z" } : Jvm.MethodName)) ∈ zT := zT_in 580 (by decide +kernel) (by decide +kernel)
theorem wd_581 : (Jvm.Cond.code ({ cls := "DusterRounds$Tape", name := "tellWash", desc := "(LDusterRounds$House;)Z" } : Jvm.MethodName) prog_5_method_8_code (2 : Nat) (Option.some Jvm.ClassFile.FieldType.boolean)) ∈ zT := zT_in 581 (by decide +kernel) (by decide +kernel)
theorem wd_582 : (Jvm.Cond.methodLink "DusterRounds$Tape" (89 : Nat) ({ cls := "DusterRounds$House", name := "washOne", desc := "(I)I" } : Jvm.MethodName)) ∈ zT := zT_in 582 (by decide +kernel) (by decide +kernel)
theorem wd_583 : (Jvm.Cond.methodLink "DusterRounds$Tape" (52 : Nat) ({ cls := "DusterRounds$Tape", name := "tellDuster", desc := "(LDusterRounds$House;)Z" } : Jvm.MethodName)) ∈ zT := zT_in 583 (by decide +kernel) (by decide +kernel)
theorem wd_585 : (Jvm.Cond.instanceMethod ({ cls := "DusterRounds$Tape", name := "tellDuster", desc := "(LDusterRounds$House;)Z" } : Jvm.MethodName)) ∈ zT := zT_in 585 (by decide +kernel) (by decide +kernel)
theorem wd_586 : (Jvm.Cond.code ({ cls := "DusterRounds$Tape", name := "tellDuster", desc := "(LDusterRounds$House;)Z" } : Jvm.MethodName) prog_5_method_5_code (3 : Nat) (Option.some Jvm.ClassFile.FieldType.boolean)) ∈ zT := zT_in 586 (by decide +kernel) (by decide +kernel)
theorem wd_587 : (Jvm.Cond.methodLink "DusterRounds$Tape" (55 : Nat) ({ cls := "DusterRounds$House", name := "addDuster", desc := "(I)I" } : Jvm.MethodName)) ∈ zT := zT_in 587 (by decide +kernel) (by decide +kernel)
theorem wd_588 : (Jvm.Cond.arrayClass Jvm.ClassFile.FieldType.byte) ∈ zT := zT_in 588 (by decide +kernel) (by decide +kernel)
theorem wd_589 : (Jvm.Cond.methodLink "DusterRoundsLaw" (129 : Nat) ({ cls := "DusterRounds", name := "sheet", desc := "(III)I" } : Jvm.MethodName)) ∈ zT := zT_in 589 (by decide +kernel) (by decide +kernel)
theorem wd_590 : (Jvm.Cond.instanceMethod ({ cls := "DusterRounds", name := "sheet", desc := "(III)I" } : Jvm.MethodName)) ∈ zT := zT_in 590 (by decide +kernel) (by decide +kernel)
theorem wd_591 : (Jvm.Cond.selects "DusterRounds" ({ cls := "DusterRounds", name := "sheet", desc := "(III)I" } : Jvm.MethodName) ({ cls := "DusterRounds", name := "sheet", desc := "(III)I" } : Jvm.MethodName)) ∈ zT := zT_in 591 (by decide +kernel) (by decide +kernel)
theorem wd_592 : (Jvm.Cond.code ({ cls := "DusterRounds", name := "sheet", desc := "(III)I" } : Jvm.MethodName) prog_1_method_30_code (5 : Nat) (Option.some Jvm.ClassFile.FieldType.int)) ∈ zT := zT_in 592 (by decide +kernel) (by decide +kernel)
theorem wd_593 : (Jvm.Cond.methodLink "DusterRounds" (192 : Nat) ({ cls := "DusterRounds", name := "sheetAt", desc := "(I)LDusterRounds$Sheet;" } : Jvm.MethodName)) ∈ zT := zT_in 593 (by decide +kernel) (by decide +kernel)
theorem wd_595 : (Jvm.Cond.instanceMethod ({ cls := "DusterRounds", name := "sheetAt", desc := "(I)LDusterRounds$Sheet;" } : Jvm.MethodName)) ∈ zT := zT_in 595 (by decide +kernel) (by decide +kernel)
theorem wd_596 : (Jvm.Cond.code ({ cls := "DusterRounds", name := "sheetAt", desc := "(I)LDusterRounds$Sheet;" } : Jvm.MethodName) prog_1_method_46_code (2 : Nat) (Option.some (Jvm.ClassFile.FieldType.object "DusterRounds$Sheet"))) ∈ zT := zT_in 596 (by decide +kernel) (by decide +kernel)
theorem wd_597 : (Jvm.Cond.constant "DusterRounds" (196 : Nat) (-1000000007 : Int32)) ∈ zT := zT_in 597 (by decide +kernel) (by decide +kernel)
theorem wd_598 : (Jvm.Cond.methodLink "DusterRounds" (197 : Nat) ({ cls := "DusterRounds$Sheet", name := "begin", desc := "(II)I" } : Jvm.MethodName)) ∈ zT := zT_in 598 (by decide +kernel) (by decide +kernel)
theorem wd_599 : (Jvm.Cond.instanceMethod ({ cls := "DusterRounds$Sheet", name := "begin", desc := "(II)I" } : Jvm.MethodName)) ∈ zT := zT_in 599 (by decide +kernel) (by decide +kernel)
theorem wd_600 : (Jvm.Cond.selects "DusterRounds$Sheet" ({ cls := "DusterRounds$Sheet", name := "begin", desc := "(II)I" } : Jvm.MethodName) ({ cls := "DusterRounds$Sheet", name := "begin", desc := "(II)I" } : Jvm.MethodName)) ∈ zT := zT_in 600 (by decide +kernel) (by decide +kernel)
theorem wd_601 : (Jvm.Cond.code ({ cls := "DusterRounds$Sheet", name := "begin", desc := "(II)I" } : Jvm.MethodName) prog_4_method_3_code (4 : Nat) (Option.some Jvm.ClassFile.FieldType.int)) ∈ zT := zT_in 601 (by decide +kernel) (by decide +kernel)
theorem wd_602 : (Jvm.Cond.methodLink "DusterRoundsLaw" (135 : Nat) ({ cls := "DusterRounds", name := "write", desc := "(IIJ)J" } : Jvm.MethodName)) ∈ zT := zT_in 602 (by decide +kernel) (by decide +kernel)
theorem wd_603 : (Jvm.Cond.instanceMethod ({ cls := "DusterRounds", name := "write", desc := "(IIJ)J" } : Jvm.MethodName)) ∈ zT := zT_in 603 (by decide +kernel) (by decide +kernel)
theorem wd_604 : (Jvm.Cond.selects "DusterRounds" ({ cls := "DusterRounds", name := "write", desc := "(IIJ)J" } : Jvm.MethodName) ({ cls := "DusterRounds", name := "write", desc := "(IIJ)J" } : Jvm.MethodName)) ∈ zT := zT_in 604 (by decide +kernel) (by decide +kernel)
theorem wd_605 : (Jvm.Cond.code ({ cls := "DusterRounds", name := "write", desc := "(IIJ)J" } : Jvm.MethodName) prog_1_method_31_code (8 : Nat) (Option.some Jvm.ClassFile.FieldType.long)) ∈ zT := zT_in 605 (by decide +kernel) (by decide +kernel)
theorem wd_606 : (Jvm.Cond.methodLink "DusterRounds" (200 : Nat) ({ cls := "DusterRounds$Sheet", name := "isMissing", desc := "()Z" } : Jvm.MethodName)) ∈ zT := zT_in 606 (by decide +kernel) (by decide +kernel)
theorem wd_607 : (Jvm.Cond.instanceMethod ({ cls := "DusterRounds$Sheet", name := "isMissing", desc := "()Z" } : Jvm.MethodName)) ∈ zT := zT_in 607 (by decide +kernel) (by decide +kernel)
theorem wd_608 : (Jvm.Cond.selects "DusterRounds$Sheet" ({ cls := "DusterRounds$Sheet", name := "isMissing", desc := "()Z" } : Jvm.MethodName) ({ cls := "DusterRounds$Sheet", name := "isMissing", desc := "()Z" } : Jvm.MethodName)) ∈ zT := zT_in 608 (by decide +kernel) (by decide +kernel)
theorem wd_609 : (Jvm.Cond.code ({ cls := "DusterRounds$Sheet", name := "isMissing", desc := "()Z" } : Jvm.MethodName) prog_4_method_2_code (1 : Nat) (Option.some Jvm.ClassFile.FieldType.boolean)) ∈ zT := zT_in 609 (by decide +kernel) (by decide +kernel)
theorem wd_610 : (Jvm.Cond.constant "DusterRounds" (204 : Nat) (-1000000006 : Int32)) ∈ zT := zT_in 610 (by decide +kernel) (by decide +kernel)
theorem wd_611 : (Jvm.Cond.methodLink "DusterRounds" (212 : Nat) ({ cls := "DusterRounds$Sheet", name := "put", desc := "(IJ)V" } : Jvm.MethodName)) ∈ zT := zT_in 611 (by decide +kernel) (by decide +kernel)
theorem wd_612 : (Jvm.Cond.instanceMethod ({ cls := "DusterRounds$Sheet", name := "put", desc := "(IJ)V" } : Jvm.MethodName)) ∈ zT := zT_in 612 (by decide +kernel) (by decide +kernel)
theorem wd_613 : (Jvm.Cond.selects "DusterRounds$Sheet" ({ cls := "DusterRounds$Sheet", name := "put", desc := "(IJ)V" } : Jvm.MethodName) ({ cls := "DusterRounds$Sheet", name := "put", desc := "(IJ)V" } : Jvm.MethodName)) ∈ zT := zT_in 613 (by decide +kernel) (by decide +kernel)
theorem wd_614 : (Jvm.Cond.code ({ cls := "DusterRounds$Sheet", name := "put", desc := "(IJ)V" } : Jvm.MethodName) prog_4_method_4_code (4 : Nat) (Option.none : Option Jvm.ClassFile.FieldType)) ∈ zT := zT_in 614 (by decide +kernel) (by decide +kernel)
theorem wd_615 : (Jvm.Cond.methodLink "DusterRoundsLaw" (140 : Nat) ({ cls := "DusterRounds", name := "copy", desc := "(IIIII)I" } : Jvm.MethodName)) ∈ zT := zT_in 615 (by decide +kernel) (by decide +kernel)
theorem wd_616 : (Jvm.Cond.instanceMethod ({ cls := "DusterRounds", name := "copy", desc := "(IIIII)I" } : Jvm.MethodName)) ∈ zT := zT_in 616 (by decide +kernel) (by decide +kernel)
theorem wd_617 : (Jvm.Cond.selects "DusterRounds" ({ cls := "DusterRounds", name := "copy", desc := "(IIIII)I" } : Jvm.MethodName) ({ cls := "DusterRounds", name := "copy", desc := "(IIIII)I" } : Jvm.MethodName)) ∈ zT := zT_in 617 (by decide +kernel) (by decide +kernel)
theorem wd_618 : (Jvm.Cond.code ({ cls := "DusterRounds", name := "copy", desc := "(IIIII)I" } : Jvm.MethodName) prog_1_method_32_code (8 : Nat) (Option.some Jvm.ClassFile.FieldType.int)) ∈ zT := zT_in 618 (by decide +kernel) (by decide +kernel)
theorem wd_619 : (Jvm.Cond.methodLink "DusterRounds" (218 : Nat) ({ cls := "DusterRounds$Sheet", name := "hasRun", desc := "(II)Z" } : Jvm.MethodName)) ∈ zT := zT_in 619 (by decide +kernel) (by decide +kernel)
theorem wd_620 : (Jvm.Cond.instanceMethod ({ cls := "DusterRounds$Sheet", name := "hasRun", desc := "(II)Z" } : Jvm.MethodName)) ∈ zT := zT_in 620 (by decide +kernel) (by decide +kernel)
theorem wd_621 : (Jvm.Cond.selects "DusterRounds$Sheet" ({ cls := "DusterRounds$Sheet", name := "hasRun", desc := "(II)Z" } : Jvm.MethodName) ({ cls := "DusterRounds$Sheet", name := "hasRun", desc := "(II)Z" } : Jvm.MethodName)) ∈ zT := zT_in 621 (by decide +kernel) (by decide +kernel)
theorem wd_622 : (Jvm.Cond.code ({ cls := "DusterRounds$Sheet", name := "hasRun", desc := "(II)Z" } : Jvm.MethodName) prog_4_method_5_code (3 : Nat) (Option.some Jvm.ClassFile.FieldType.boolean)) ∈ zT := zT_in 622 (by decide +kernel) (by decide +kernel)
theorem wd_623 : (Jvm.Cond.methodLink "DusterRounds" (221 : Nat) ({ cls := "java/lang/System", name := "arraycopy", desc := "(Ljava/lang/Object;ILjava/lang/Object;II)V" } : Jvm.MethodName)) ∈ zT := zT_in 623 (by decide +kernel) (by decide +kernel)
theorem wd_624 : (Jvm.Cond.methodLink "DusterRoundsLaw" (145 : Nat) ({ cls := "DusterRounds", name := "lays", desc := "(I)I" } : Jvm.MethodName)) ∈ zT := zT_in 624 (by decide +kernel) (by decide +kernel)
theorem wd_625 : (Jvm.Cond.instanceMethod ({ cls := "DusterRounds", name := "lays", desc := "(I)I" } : Jvm.MethodName)) ∈ zT := zT_in 625 (by decide +kernel) (by decide +kernel)
theorem wd_626 : (Jvm.Cond.selects "DusterRounds" ({ cls := "DusterRounds", name := "lays", desc := "(I)I" } : Jvm.MethodName) ({ cls := "DusterRounds", name := "lays", desc := "(I)I" } : Jvm.MethodName)) ∈ zT := zT_in 626 (by decide +kernel) (by decide +kernel)
theorem wd_627 : (Jvm.Cond.code ({ cls := "DusterRounds", name := "lays", desc := "(I)I" } : Jvm.MethodName) prog_1_method_33_code (7 : Nat) (Option.some Jvm.ClassFile.FieldType.int)) ∈ zT := zT_in 627 (by decide +kernel) (by decide +kernel)
theorem wd_628 : (Jvm.Cond.constantLong "DusterRounds" (227 : Nat) (1023 : Int64)) ∈ zT := zT_in 628 (by decide +kernel) (by decide +kernel)
theorem wd_629 : (Jvm.Cond.methodLink "DusterRoundsLaw" (149 : Nat) ({ cls := "DusterRounds", name := "book", desc := "(II)I" } : Jvm.MethodName)) ∈ zT := zT_in 629 (by decide +kernel) (by decide +kernel)
theorem wd_630 : (Jvm.Cond.instanceMethod ({ cls := "DusterRounds", name := "book", desc := "(II)I" } : Jvm.MethodName)) ∈ zT := zT_in 630 (by decide +kernel) (by decide +kernel)
theorem wd_631 : (Jvm.Cond.selects "DusterRounds" ({ cls := "DusterRounds", name := "book", desc := "(II)I" } : Jvm.MethodName) ({ cls := "DusterRounds", name := "book", desc := "(II)I" } : Jvm.MethodName)) ∈ zT := zT_in 631 (by decide +kernel) (by decide +kernel)
theorem wd_632 : (Jvm.Cond.code ({ cls := "DusterRounds", name := "book", desc := "(II)I" } : Jvm.MethodName) prog_1_method_34_code (5 : Nat) (Option.some Jvm.ClassFile.FieldType.int)) ∈ zT := zT_in 632 (by decide +kernel) (by decide +kernel)
theorem wd_633 : (Jvm.Cond.methodLink "DusterRoundsLaw" (153 : Nat) ({ cls := "DusterRounds", name := "read", desc := "(III)I" } : Jvm.MethodName)) ∈ zT := zT_in 633 (by decide +kernel) (by decide +kernel)
theorem wd_634 : (Jvm.Cond.instanceMethod ({ cls := "DusterRounds", name := "read", desc := "(III)I" } : Jvm.MethodName)) ∈ zT := zT_in 634 (by decide +kernel) (by decide +kernel)
theorem wd_635 : (Jvm.Cond.selects "DusterRounds" ({ cls := "DusterRounds", name := "read", desc := "(III)I" } : Jvm.MethodName) ({ cls := "DusterRounds", name := "read", desc := "(III)I" } : Jvm.MethodName)) ∈ zT := zT_in 635 (by decide +kernel) (by decide +kernel)
theorem wd_636 : (Jvm.Cond.code ({ cls := "DusterRounds", name := "read", desc := "(III)I" } : Jvm.MethodName) prog_1_method_35_code (8 : Nat) (Option.some Jvm.ClassFile.FieldType.int)) ∈ zT := zT_in 636 (by decide +kernel) (by decide +kernel)
theorem wd_637 : (Jvm.Cond.methodLink "DusterRounds" (229 : Nat) ({ cls := "DusterRounds", name := "aheadGoesAs", desc := "(LDusterRounds$Sheet;I)Z" } : Jvm.MethodName)) ∈ zT := zT_in 637 (by decide +kernel) (by decide +kernel)
theorem wd_639 : (Jvm.Cond.instanceMethod ({ cls := "DusterRounds", name := "aheadGoesAs", desc := "(LDusterRounds$Sheet;I)Z" } : Jvm.MethodName)) ∈ zT := zT_in 639 (by decide +kernel) (by decide +kernel)
theorem wd_640 : (Jvm.Cond.code ({ cls := "DusterRounds", name := "aheadGoesAs", desc := "(LDusterRounds$Sheet;I)Z" } : Jvm.MethodName) prog_1_method_52_code (4 : Nat) (Option.some Jvm.ClassFile.FieldType.boolean)) ∈ zT := zT_in 640 (by decide +kernel) (by decide +kernel)
theorem wd_641 : (Jvm.Cond.methodLink "DusterRoundsLaw" (157 : Nat) ({ cls := "DusterRounds", name := "image", desc := "()I" } : Jvm.MethodName)) ∈ zT := zT_in 641 (by decide +kernel) (by decide +kernel)
theorem wd_642 : (Jvm.Cond.instanceMethod ({ cls := "DusterRounds", name := "image", desc := "()I" } : Jvm.MethodName)) ∈ zT := zT_in 642 (by decide +kernel) (by decide +kernel)
theorem wd_643 : (Jvm.Cond.selects "DusterRounds" ({ cls := "DusterRounds", name := "image", desc := "()I" } : Jvm.MethodName) ({ cls := "DusterRounds", name := "image", desc := "()I" } : Jvm.MethodName)) ∈ zT := zT_in 643 (by decide +kernel) (by decide +kernel)
theorem wd_644 : (Jvm.Cond.code ({ cls := "DusterRounds", name := "image", desc := "()I" } : Jvm.MethodName) prog_1_method_36_code (1 : Nat) (Option.some Jvm.ClassFile.FieldType.int)) ∈ zT := zT_in 644 (by decide +kernel) (by decide +kernel)
theorem wd_645 : (Jvm.Cond.methodLink "DusterRoundsLaw" (161 : Nat) ({ cls := "DusterRounds", name := "undo", desc := "()I" } : Jvm.MethodName)) ∈ zT := zT_in 645 (by decide +kernel) (by decide +kernel)
theorem wd_646 : (Jvm.Cond.instanceMethod ({ cls := "DusterRounds", name := "undo", desc := "()I" } : Jvm.MethodName)) ∈ zT := zT_in 646 (by decide +kernel) (by decide +kernel)
theorem wd_647 : (Jvm.Cond.selects "DusterRounds" ({ cls := "DusterRounds", name := "undo", desc := "()I" } : Jvm.MethodName) ({ cls := "DusterRounds", name := "undo", desc := "()I" } : Jvm.MethodName)) ∈ zT := zT_in 647 (by decide +kernel) (by decide +kernel)
theorem wd_648 : (Jvm.Cond.code ({ cls := "DusterRounds", name := "undo", desc := "()I" } : Jvm.MethodName) prog_1_method_37_code (1 : Nat) (Option.some Jvm.ClassFile.FieldType.int)) ∈ zT := zT_in 648 (by decide +kernel) (by decide +kernel)
theorem wd_649 : (Jvm.Cond.methodLink "DusterRoundsLaw" (165 : Nat) ({ cls := "DusterRounds", name := "tear", desc := "()I" } : Jvm.MethodName)) ∈ zT := zT_in 649 (by decide +kernel) (by decide +kernel)
theorem wd_650 : (Jvm.Cond.instanceMethod ({ cls := "DusterRounds", name := "tear", desc := "()I" } : Jvm.MethodName)) ∈ zT := zT_in 650 (by decide +kernel) (by decide +kernel)
theorem wd_651 : (Jvm.Cond.selects "DusterRounds" ({ cls := "DusterRounds", name := "tear", desc := "()I" } : Jvm.MethodName) ({ cls := "DusterRounds", name := "tear", desc := "()I" } : Jvm.MethodName)) ∈ zT := zT_in 651 (by decide +kernel) (by decide +kernel)
theorem wd_652 : (Jvm.Cond.code ({ cls := "DusterRounds", name := "tear", desc := "()I" } : Jvm.MethodName) prog_1_method_38_code (2 : Nat) (Option.some Jvm.ClassFile.FieldType.int)) ∈ zT := zT_in 652 (by decide +kernel) (by decide +kernel)
theorem wd_653 : (Jvm.Cond.methodLink "DusterRoundsLaw" (169 : Nat) ({ cls := "DusterRounds", name := "count", desc := "(I)I" } : Jvm.MethodName)) ∈ zT := zT_in 653 (by decide +kernel) (by decide +kernel)
theorem wd_654 : (Jvm.Cond.instanceMethod ({ cls := "DusterRounds", name := "count", desc := "(I)I" } : Jvm.MethodName)) ∈ zT := zT_in 654 (by decide +kernel) (by decide +kernel)
theorem wd_655 : (Jvm.Cond.selects "DusterRounds" ({ cls := "DusterRounds", name := "count", desc := "(I)I" } : Jvm.MethodName) ({ cls := "DusterRounds", name := "count", desc := "(I)I" } : Jvm.MethodName)) ∈ zT := zT_in 655 (by decide +kernel) (by decide +kernel)
theorem wd_656 : (Jvm.Cond.code ({ cls := "DusterRounds", name := "count", desc := "(I)I" } : Jvm.MethodName) prog_1_method_39_code (2 : Nat) (Option.some Jvm.ClassFile.FieldType.int)) ∈ zT := zT_in 656 (by decide +kernel) (by decide +kernel)
theorem wd_657 : (Jvm.Cond.methodLink "DusterRounds" (236 : Nat) ({ cls := "DusterRounds$House", name := "grimeOfAll", desc := "()I" } : Jvm.MethodName)) ∈ zT := zT_in 657 (by decide +kernel) (by decide +kernel)
theorem wd_658 : (Jvm.Cond.instanceMethod ({ cls := "DusterRounds$House", name := "grimeOfAll", desc := "()I" } : Jvm.MethodName)) ∈ zT := zT_in 658 (by decide +kernel) (by decide +kernel)
theorem wd_659 : (Jvm.Cond.selects "DusterRounds$House" ({ cls := "DusterRounds$House", name := "grimeOfAll", desc := "()I" } : Jvm.MethodName) ({ cls := "DusterRounds$House", name := "grimeOfAll", desc := "()I" } : Jvm.MethodName)) ∈ zT := zT_in 659 (by decide +kernel) (by decide +kernel)
theorem wd_660 : (Jvm.Cond.code ({ cls := "DusterRounds$House", name := "grimeOfAll", desc := "()I" } : Jvm.MethodName) prog_2_method_16_code (3 : Nat) (Option.some Jvm.ClassFile.FieldType.int)) ∈ zT := zT_in 660 (by decide +kernel) (by decide +kernel)
theorem wd_661 : (Jvm.Cond.methodLink "DusterRoundsLaw" (173 : Nat) ({ cls := "DusterRounds", name := "status", desc := "(I)I" } : Jvm.MethodName)) ∈ zT := zT_in 661 (by decide +kernel) (by decide +kernel)
theorem wd_662 : (Jvm.Cond.instanceMethod ({ cls := "DusterRounds", name := "status", desc := "(I)I" } : Jvm.MethodName)) ∈ zT := zT_in 662 (by decide +kernel) (by decide +kernel)
theorem wd_663 : (Jvm.Cond.selects "DusterRounds" ({ cls := "DusterRounds", name := "status", desc := "(I)I" } : Jvm.MethodName) ({ cls := "DusterRounds", name := "status", desc := "(I)I" } : Jvm.MethodName)) ∈ zT := zT_in 663 (by decide +kernel) (by decide +kernel)
theorem wd_664 : (Jvm.Cond.code ({ cls := "DusterRounds", name := "status", desc := "(I)I" } : Jvm.MethodName) prog_1_method_40_code (4 : Nat) (Option.some Jvm.ClassFile.FieldType.int)) ∈ zT := zT_in 664 (by decide +kernel) (by decide +kernel)
theorem wd_665 : (Jvm.Cond.classLink "DusterRoundsLaw" (10 : Nat) "DusterRoundsModel") ∈ zT := zT_in 665 (by decide +kernel) (by decide +kernel)
theorem wd_666 : (Jvm.Cond.instantiable "DusterRoundsModel" (19 : Nat)) ∈ zT := zT_in 666 (by decide +kernel) (by decide +kernel)
theorem wd_667 : (Jvm.Cond.methodLink "DusterRoundsLaw" (12 : Nat) ({ cls := "DusterRoundsModel", name := "<init>", desc := "()V" } : Jvm.MethodName)) ∈ zT := zT_in 667 (by decide +kernel) (by decide +kernel)
theorem wd_668 : (Jvm.Cond.instanceMethod ({ cls := "DusterRoundsModel", name := "<init>", desc := "()V" } : Jvm.MethodName)) ∈ zT := zT_in 668 (by decide +kernel) (by decide +kernel)
theorem wd_669 : (Jvm.Cond.code ({ cls := "DusterRoundsModel", name := "<init>", desc := "()V" } : Jvm.MethodName) prog_7_method_1_code (2 : Nat) (Option.none : Option Jvm.ClassFile.FieldType)) ∈ zT := zT_in 669 (by decide +kernel) (by decide +kernel)
theorem wd_670 : (Jvm.Cond.methodLink "DusterRoundsModel" (1 : Nat) ({ cls := "java/lang/Object", name := "<init>", desc := "()V" } : Jvm.MethodName)) ∈ zT := zT_in 670 (by decide +kernel) (by decide +kernel)
theorem wd_671 : (Jvm.Cond.methodLink "DusterRoundsModel" (44 : Nat) ({ cls := "DusterRoundsModel", name := "places", desc := "(III)V" } : Jvm.MethodName)) ∈ zT := zT_in 671 (by decide +kernel) (by decide +kernel)
theorem wd_673 : (Jvm.Cond.instanceMethod ({ cls := "DusterRoundsModel", name := "places", desc := "(III)V" } : Jvm.MethodName)) ∈ zT := zT_in 673 (by decide +kernel) (by decide +kernel)
theorem wd_674 : (Jvm.Cond.code ({ cls := "DusterRoundsModel", name := "places", desc := "(III)V" } : Jvm.MethodName) prog_7_method_8_code (4 : Nat) (Option.none : Option Jvm.ClassFile.FieldType)) ∈ zT := zT_in 674 (by decide +kernel) (by decide +kernel)
theorem wd_675 : (Jvm.Cond.fieldLink "DusterRoundsModel" (7 : Nat) "DusterRoundsModel" "row" "[I") ∈ zT := zT_in 675 (by decide +kernel) (by decide +kernel)
theorem wd_676 : (Jvm.Cond.fieldLink "DusterRoundsModel" (13 : Nat) "DusterRoundsModel" "found" "[I") ∈ zT := zT_in 676 (by decide +kernel) (by decide +kernel)
theorem wd_677 : (Jvm.Cond.fieldLink "DusterRoundsModel" (16 : Nat) "DusterRoundsModel" "tried" "[I") ∈ zT := zT_in 677 (by decide +kernel) (by decide +kernel)
theorem wd_678 : (Jvm.Cond.fieldLink "DusterRoundsModel" (19 : Nat) "DusterRoundsModel" "before1" "[I") ∈ zT := zT_in 678 (by decide +kernel) (by decide +kernel)
theorem wd_679 : (Jvm.Cond.fieldLink "DusterRoundsModel" (22 : Nat) "DusterRoundsModel" "tape" "[I") ∈ zT := zT_in 679 (by decide +kernel) (by decide +kernel)
theorem wd_680 : (Jvm.Cond.fieldLink "DusterRoundsModel" (174 : Nat) "DusterRoundsModel" "tapeMany" "I") ∈ zT := zT_in 680 (by decide +kernel) (by decide +kernel)
theorem wd_681 : (Jvm.Cond.fieldLink "DusterRoundsModel" (193 : Nat) "DusterRoundsModel" "sort" "I") ∈ zT := zT_in 681 (by decide +kernel) (by decide +kernel)
theorem wd_682 : (Jvm.Cond.fieldLink "DusterRoundsModel" (181 : Nat) "DusterRoundsModel" "begins" "I") ∈ zT := zT_in 682 (by decide +kernel) (by decide +kernel)
theorem wd_683 : (Jvm.Cond.fieldLink "DusterRoundsModel" (178 : Nat) "DusterRoundsModel" "tokenEnds" "I") ∈ zT := zT_in 683 (by decide +kernel) (by decide +kernel)
theorem wd_684 : (Jvm.Cond.fieldLink "DusterRoundsModel" (196 : Nat) "DusterRoundsModel" "word" "J") ∈ zT := zT_in 684 (by decide +kernel) (by decide +kernel)
theorem wd_685 : (Jvm.Cond.fieldLink "DusterRoundsModel" (200 : Nat) "DusterRoundsModel" "value" "I") ∈ zT := zT_in 685 (by decide +kernel) (by decide +kernel)
theorem wd_686 : (Jvm.Cond.fieldLink "DusterRoundsModel" (225 : Nat) "DusterRoundsModel" "good" "Z") ∈ zT := zT_in 686 (by decide +kernel) (by decide +kernel)
theorem wd_687 : (Jvm.Cond.fieldLink "DusterRoundsModel" (25 : Nat) "DusterRoundsModel" "bitsOf" "[I") ∈ zT := zT_in 687 (by decide +kernel) (by decide +kernel)
theorem wd_688 : (Jvm.Cond.fieldLink "DusterRoundsModel" (28 : Nat) "DusterRoundsModel" "sizeOf" "[I") ∈ zT := zT_in 688 (by decide +kernel) (by decide +kernel)
theorem wd_689 : (Jvm.Cond.fieldLink "DusterRoundsModel" (31 : Nat) "DusterRoundsModel" "sheets" "[J") ∈ zT := zT_in 689 (by decide +kernel) (by decide +kernel)
theorem wd_690 : (Jvm.Cond.fieldLink "DusterRoundsModel" (35 : Nat) "DusterRoundsModel" "lent" "[J") ∈ zT := zT_in 690 (by decide +kernel) (by decide +kernel)
theorem wd_691 : (Jvm.Cond.fieldLink "DusterRoundsModel" (38 : Nat) "DusterRoundsModel" "image" "[I") ∈ zT := zT_in 691 (by decide +kernel) (by decide +kernel)
theorem wd_692 : (Jvm.Cond.fieldLink "DusterRoundsModel" (41 : Nat) "DusterRoundsModel" "before" "[I") ∈ zT := zT_in 692 (by decide +kernel) (by decide +kernel)
theorem wd_693 : (Jvm.Cond.fieldLink "DusterRoundsModel" (288 : Nat) "DusterRoundsModel" "isKept" "Z") ∈ zT := zT_in 693 (by decide +kernel) (by decide +kernel)
theorem wd_694 : (Jvm.Cond.laysFinal "DusterRoundsModel" "DusterRoundsModel" "row" "[I") ∈ zT := zT_in 694 (by decide +kernel) (by decide +kernel)
theorem wd_696 : (Jvm.Cond.laysFinal "DusterRoundsModel" "DusterRoundsModel" "found" "[I") ∈ zT := zT_in 696 (by decide +kernel) (by decide +kernel)
theorem wd_698 : (Jvm.Cond.laysFinal "DusterRoundsModel" "DusterRoundsModel" "tried" "[I") ∈ zT := zT_in 698 (by decide +kernel) (by decide +kernel)
theorem wd_700 : (Jvm.Cond.laysFinal "DusterRoundsModel" "DusterRoundsModel" "before1" "[I") ∈ zT := zT_in 700 (by decide +kernel) (by decide +kernel)
theorem wd_702 : (Jvm.Cond.laysFinal "DusterRoundsModel" "DusterRoundsModel" "tape" "[I") ∈ zT := zT_in 702 (by decide +kernel) (by decide +kernel)
theorem wd_704 : (Jvm.Cond.lays "DusterRoundsModel" "DusterRoundsModel" "tapeMany" "I") ∈ zT := zT_in 704 (by decide +kernel) (by decide +kernel)
theorem wd_706 : (Jvm.Cond.lays "DusterRoundsModel" "DusterRoundsModel" "sort" "I") ∈ zT := zT_in 706 (by decide +kernel) (by decide +kernel)
theorem wd_708 : (Jvm.Cond.lays "DusterRoundsModel" "DusterRoundsModel" "begins" "I") ∈ zT := zT_in 708 (by decide +kernel) (by decide +kernel)
theorem wd_710 : (Jvm.Cond.lays "DusterRoundsModel" "DusterRoundsModel" "tokenEnds" "I") ∈ zT := zT_in 710 (by decide +kernel) (by decide +kernel)
theorem wd_712 : (Jvm.Cond.lays "DusterRoundsModel" "DusterRoundsModel" "word" "J") ∈ zT := zT_in 712 (by decide +kernel) (by decide +kernel)
theorem wd_714 : (Jvm.Cond.lays "DusterRoundsModel" "DusterRoundsModel" "value" "I") ∈ zT := zT_in 714 (by decide +kernel) (by decide +kernel)
theorem wd_716 : (Jvm.Cond.lays "DusterRoundsModel" "DusterRoundsModel" "good" "Z") ∈ zT := zT_in 716 (by decide +kernel) (by decide +kernel)
theorem wd_718 : (Jvm.Cond.laysFinal "DusterRoundsModel" "DusterRoundsModel" "bitsOf" "[I") ∈ zT := zT_in 718 (by decide +kernel) (by decide +kernel)
theorem wd_720 : (Jvm.Cond.laysFinal "DusterRoundsModel" "DusterRoundsModel" "sizeOf" "[I") ∈ zT := zT_in 720 (by decide +kernel) (by decide +kernel)
theorem wd_722 : (Jvm.Cond.laysFinal "DusterRoundsModel" "DusterRoundsModel" "sheets" "[J") ∈ zT := zT_in 722 (by decide +kernel) (by decide +kernel)
theorem wd_724 : (Jvm.Cond.laysFinal "DusterRoundsModel" "DusterRoundsModel" "lent" "[J") ∈ zT := zT_in 724 (by decide +kernel) (by decide +kernel)
theorem wd_726 : (Jvm.Cond.laysFinal "DusterRoundsModel" "DusterRoundsModel" "image" "[I") ∈ zT := zT_in 726 (by decide +kernel) (by decide +kernel)
theorem wd_728 : (Jvm.Cond.laysFinal "DusterRoundsModel" "DusterRoundsModel" "before" "[I") ∈ zT := zT_in 728 (by decide +kernel) (by decide +kernel)
theorem wd_730 : (Jvm.Cond.lays "DusterRoundsModel" "DusterRoundsModel" "isKept" "Z") ∈ zT := zT_in 730 (by decide +kernel) (by decide +kernel)
theorem wd_733 : (Jvm.Cond.methodLink "DusterRoundsLaw" (17 : Nat) ({ cls := "DusterRoundsModel", name := "falls", desc := "(I)I" } : Jvm.MethodName)) ∈ zT := zT_in 733 (by decide +kernel) (by decide +kernel)
theorem wd_734 : (Jvm.Cond.instanceMethod ({ cls := "DusterRoundsModel", name := "falls", desc := "(I)I" } : Jvm.MethodName)) ∈ zT := zT_in 734 (by decide +kernel) (by decide +kernel)
theorem wd_735 : (Jvm.Cond.selects "DusterRoundsModel" ({ cls := "DusterRoundsModel", name := "falls", desc := "(I)I" } : Jvm.MethodName) ({ cls := "DusterRoundsModel", name := "falls", desc := "(I)I" } : Jvm.MethodName)) ∈ zT := zT_in 735 (by decide +kernel) (by decide +kernel)
theorem wd_736 : (Jvm.Cond.code ({ cls := "DusterRoundsModel", name := "falls", desc := "(I)I" } : Jvm.MethodName) prog_7_method_15_code (2 : Nat) (Option.some Jvm.ClassFile.FieldType.int)) ∈ zT := zT_in 736 (by decide +kernel) (by decide +kernel)
theorem wd_737 : (Jvm.Cond.methodLink "DusterRoundsModel" (49 : Nat) ({ cls := "DusterRoundsModel", name := "in", desc := "(III)Z" } : Jvm.MethodName)) ∈ zT := zT_in 737 (by decide +kernel) (by decide +kernel)
theorem wd_738 : (Jvm.Cond.static ({ cls := "DusterRoundsModel", name := "in", desc := "(III)Z" } : Jvm.MethodName)) ∈ zT := zT_in 738 (by decide +kernel) (by decide +kernel)
theorem wd_739 : (Jvm.Cond.code ({ cls := "DusterRoundsModel", name := "in", desc := "(III)Z" } : Jvm.MethodName) prog_7_method_2_code (3 : Nat) (Option.some Jvm.ClassFile.FieldType.boolean)) ∈ zT := zT_in 739 (by decide +kernel) (by decide +kernel)
theorem wd_740 : (Jvm.Cond.methodLink "DusterRoundsModel" (53 : Nat) ({ cls := "DusterRoundsModel", name := "becomes", desc := "(II)I" } : Jvm.MethodName)) ∈ zT := zT_in 740 (by decide +kernel) (by decide +kernel)
theorem wd_742 : (Jvm.Cond.instanceMethod ({ cls := "DusterRoundsModel", name := "becomes", desc := "(II)I" } : Jvm.MethodName)) ∈ zT := zT_in 742 (by decide +kernel) (by decide +kernel)
theorem wd_743 : (Jvm.Cond.code ({ cls := "DusterRoundsModel", name := "becomes", desc := "(II)I" } : Jvm.MethodName) prog_7_method_9_code (4 : Nat) (Option.some Jvm.ClassFile.FieldType.int)) ∈ zT := zT_in 743 (by decide +kernel) (by decide +kernel)
theorem wd_744 : (Jvm.Cond.constant "DusterRoundsModel" (48 : Nat) (-1000000001 : Int32)) ∈ zT := zT_in 744 (by decide +kernel) (by decide +kernel)
theorem wd_745 : (Jvm.Cond.methodLink "DusterRoundsModel" (57 : Nat) ({ cls := "DusterRoundsModel", name := "finds", desc := "(I)I" } : Jvm.MethodName)) ∈ zT := zT_in 745 (by decide +kernel) (by decide +kernel)
theorem wd_747 : (Jvm.Cond.instanceMethod ({ cls := "DusterRoundsModel", name := "finds", desc := "(I)I" } : Jvm.MethodName)) ∈ zT := zT_in 747 (by decide +kernel) (by decide +kernel)
theorem wd_748 : (Jvm.Cond.code ({ cls := "DusterRoundsModel", name := "finds", desc := "(I)I" } : Jvm.MethodName) prog_7_method_3_code (2 : Nat) (Option.some Jvm.ClassFile.FieldType.int)) ∈ zT := zT_in 748 (by decide +kernel) (by decide +kernel)
theorem wd_749 : (Jvm.Cond.methodLink "DusterRoundsLaw" (22 : Nat) ({ cls := "DusterRoundsModel", name := "room", desc := "(III)I" } : Jvm.MethodName)) ∈ zT := zT_in 749 (by decide +kernel) (by decide +kernel)
theorem wd_750 : (Jvm.Cond.instanceMethod ({ cls := "DusterRoundsModel", name := "room", desc := "(III)I" } : Jvm.MethodName)) ∈ zT := zT_in 750 (by decide +kernel) (by decide +kernel)
theorem wd_751 : (Jvm.Cond.selects "DusterRoundsModel" ({ cls := "DusterRoundsModel", name := "room", desc := "(III)I" } : Jvm.MethodName) ({ cls := "DusterRoundsModel", name := "room", desc := "(III)I" } : Jvm.MethodName)) ∈ zT := zT_in 751 (by decide +kernel) (by decide +kernel)
theorem wd_752 : (Jvm.Cond.code ({ cls := "DusterRoundsModel", name := "room", desc := "(III)I" } : Jvm.MethodName) prog_7_method_16_code (5 : Nat) (Option.some Jvm.ClassFile.FieldType.int)) ∈ zT := zT_in 752 (by decide +kernel) (by decide +kernel)
theorem wd_753 : (Jvm.Cond.methodLink "DusterRoundsModel" (61 : Nat) ({ cls := "DusterRoundsModel", name := "isRoom", desc := "(I)Z" } : Jvm.MethodName)) ∈ zT := zT_in 753 (by decide +kernel) (by decide +kernel)
theorem wd_754 : (Jvm.Cond.static ({ cls := "DusterRoundsModel", name := "isRoom", desc := "(I)Z" } : Jvm.MethodName)) ∈ zT := zT_in 754 (by decide +kernel) (by decide +kernel)
theorem wd_755 : (Jvm.Cond.code ({ cls := "DusterRoundsModel", name := "isRoom", desc := "(I)Z" } : Jvm.MethodName) prog_7_method_12_code (1 : Nat) (Option.some Jvm.ClassFile.FieldType.boolean)) ∈ zT := zT_in 755 (by decide +kernel) (by decide +kernel)
theorem wd_756 : (Jvm.Cond.methodLink "DusterRoundsLaw" (27 : Nat) ({ cls := "DusterRoundsModel", name := "roomOf", desc := "(II)I" } : Jvm.MethodName)) ∈ zT := zT_in 756 (by decide +kernel) (by decide +kernel)
theorem wd_757 : (Jvm.Cond.instanceMethod ({ cls := "DusterRoundsModel", name := "roomOf", desc := "(II)I" } : Jvm.MethodName)) ∈ zT := zT_in 757 (by decide +kernel) (by decide +kernel)
theorem wd_758 : (Jvm.Cond.selects "DusterRoundsModel" ({ cls := "DusterRoundsModel", name := "roomOf", desc := "(II)I" } : Jvm.MethodName) ({ cls := "DusterRoundsModel", name := "roomOf", desc := "(II)I" } : Jvm.MethodName)) ∈ zT := zT_in 758 (by decide +kernel) (by decide +kernel)
theorem wd_759 : (Jvm.Cond.code ({ cls := "DusterRoundsModel", name := "roomOf", desc := "(II)I" } : Jvm.MethodName) prog_7_method_19_code (3 : Nat) (Option.some Jvm.ClassFile.FieldType.int)) ∈ zT := zT_in 759 (by decide +kernel) (by decide +kernel)
theorem wd_760 : (Jvm.Cond.methodLink "DusterRoundsModel" (71 : Nat) ({ cls := "DusterRoundsModel", name := "there", desc := "(II)I" } : Jvm.MethodName)) ∈ zT := zT_in 760 (by decide +kernel) (by decide +kernel)
theorem wd_762 : (Jvm.Cond.instanceMethod ({ cls := "DusterRoundsModel", name := "there", desc := "(II)I" } : Jvm.MethodName)) ∈ zT := zT_in 762 (by decide +kernel) (by decide +kernel)
theorem wd_763 : (Jvm.Cond.code ({ cls := "DusterRoundsModel", name := "there", desc := "(II)I" } : Jvm.MethodName) prog_7_method_7_code (3 : Nat) (Option.some Jvm.ClassFile.FieldType.int)) ∈ zT := zT_in 763 (by decide +kernel) (by decide +kernel)
theorem wd_764 : (Jvm.Cond.methodLink "DusterRoundsModel" (74 : Nat) ({ cls := "DusterRoundsModel", name := "inRoom", desc := "(I)I" } : Jvm.MethodName)) ∈ zT := zT_in 764 (by decide +kernel) (by decide +kernel)
theorem wd_766 : (Jvm.Cond.instanceMethod ({ cls := "DusterRoundsModel", name := "inRoom", desc := "(I)I" } : Jvm.MethodName)) ∈ zT := zT_in 766 (by decide +kernel) (by decide +kernel)
theorem wd_767 : (Jvm.Cond.code ({ cls := "DusterRoundsModel", name := "inRoom", desc := "(I)I" } : Jvm.MethodName) prog_7_method_18_code (4 : Nat) (Option.some Jvm.ClassFile.FieldType.int)) ∈ zT := zT_in 767 (by decide +kernel) (by decide +kernel)
theorem wd_768 : (Jvm.Cond.methodLink "DusterRoundsModel" (68 : Nat) ({ cls := "DusterRoundsModel", name := "roomOfOne", desc := "(I)I" } : Jvm.MethodName)) ∈ zT := zT_in 768 (by decide +kernel) (by decide +kernel)
theorem wd_770 : (Jvm.Cond.instanceMethod ({ cls := "DusterRoundsModel", name := "roomOfOne", desc := "(I)I" } : Jvm.MethodName)) ∈ zT := zT_in 770 (by decide +kernel) (by decide +kernel)
theorem wd_771 : (Jvm.Cond.code ({ cls := "DusterRoundsModel", name := "roomOfOne", desc := "(I)I" } : Jvm.MethodName) prog_7_method_17_code (2 : Nat) (Option.some Jvm.ClassFile.FieldType.int)) ∈ zT := zT_in 771 (by decide +kernel) (by decide +kernel)
theorem wd_772 : (Jvm.Cond.methodLink "DusterRoundsModel" (65 : Nat) ({ cls := "DusterRoundsModel", name := "its", desc := "(II)I" } : Jvm.MethodName)) ∈ zT := zT_in 772 (by decide +kernel) (by decide +kernel)
theorem wd_774 : (Jvm.Cond.instanceMethod ({ cls := "DusterRoundsModel", name := "its", desc := "(II)I" } : Jvm.MethodName)) ∈ zT := zT_in 774 (by decide +kernel) (by decide +kernel)
theorem wd_775 : (Jvm.Cond.code ({ cls := "DusterRoundsModel", name := "its", desc := "(II)I" } : Jvm.MethodName) prog_7_method_5_code (3 : Nat) (Option.some Jvm.ClassFile.FieldType.int)) ∈ zT := zT_in 775 (by decide +kernel) (by decide +kernel)
theorem wd_776 : (Jvm.Cond.methodLink "DusterRoundsLaw" (31 : Nat) ({ cls := "DusterRoundsModel", name := "now", desc := "(I)I" } : Jvm.MethodName)) ∈ zT := zT_in 776 (by decide +kernel) (by decide +kernel)
theorem wd_777 : (Jvm.Cond.instanceMethod ({ cls := "DusterRoundsModel", name := "now", desc := "(I)I" } : Jvm.MethodName)) ∈ zT := zT_in 777 (by decide +kernel) (by decide +kernel)
theorem wd_778 : (Jvm.Cond.selects "DusterRoundsModel" ({ cls := "DusterRoundsModel", name := "now", desc := "(I)I" } : Jvm.MethodName) ({ cls := "DusterRoundsModel", name := "now", desc := "(I)I" } : Jvm.MethodName)) ∈ zT := zT_in 778 (by decide +kernel) (by decide +kernel)
theorem wd_779 : (Jvm.Cond.code ({ cls := "DusterRoundsModel", name := "now", desc := "(I)I" } : Jvm.MethodName) prog_7_method_25_code (2 : Nat) (Option.some Jvm.ClassFile.FieldType.int)) ∈ zT := zT_in 779 (by decide +kernel) (by decide +kernel)
theorem wd_780 : (Jvm.Cond.methodLink "DusterRoundsModel" (80 : Nat) ({ cls := "DusterRoundsModel", name := "dustOfAll", desc := "()I" } : Jvm.MethodName)) ∈ zT := zT_in 780 (by decide +kernel) (by decide +kernel)
theorem wd_782 : (Jvm.Cond.instanceMethod ({ cls := "DusterRoundsModel", name := "dustOfAll", desc := "()I" } : Jvm.MethodName)) ∈ zT := zT_in 782 (by decide +kernel) (by decide +kernel)
theorem wd_783 : (Jvm.Cond.code ({ cls := "DusterRoundsModel", name := "dustOfAll", desc := "()I" } : Jvm.MethodName) prog_7_method_20_code (3 : Nat) (Option.some Jvm.ClassFile.FieldType.int)) ∈ zT := zT_in 783 (by decide +kernel) (by decide +kernel)
theorem wd_784 : (Jvm.Cond.methodLink "DusterRoundsModel" (84 : Nat) ({ cls := "DusterRoundsModel", name := "common", desc := "()I" } : Jvm.MethodName)) ∈ zT := zT_in 784 (by decide +kernel) (by decide +kernel)
theorem wd_786 : (Jvm.Cond.instanceMethod ({ cls := "DusterRoundsModel", name := "common", desc := "()I" } : Jvm.MethodName)) ∈ zT := zT_in 786 (by decide +kernel) (by decide +kernel)
theorem wd_787 : (Jvm.Cond.code ({ cls := "DusterRoundsModel", name := "common", desc := "()I" } : Jvm.MethodName) prog_7_method_22_code (3 : Nat) (Option.some Jvm.ClassFile.FieldType.int)) ∈ zT := zT_in 787 (by decide +kernel) (by decide +kernel)
theorem wd_788 : (Jvm.Cond.methodLink "DusterRoundsModel" (87 : Nat) ({ cls := "DusterRoundsModel", name := "anywhere", desc := "()I" } : Jvm.MethodName)) ∈ zT := zT_in 788 (by decide +kernel) (by decide +kernel)
theorem wd_790 : (Jvm.Cond.instanceMethod ({ cls := "DusterRoundsModel", name := "anywhere", desc := "()I" } : Jvm.MethodName)) ∈ zT := zT_in 790 (by decide +kernel) (by decide +kernel)
theorem wd_791 : (Jvm.Cond.code ({ cls := "DusterRoundsModel", name := "anywhere", desc := "()I" } : Jvm.MethodName) prog_7_method_23_code (3 : Nat) (Option.some Jvm.ClassFile.FieldType.int)) ∈ zT := zT_in 791 (by decide +kernel) (by decide +kernel)
theorem wd_792 : (Jvm.Cond.methodLink "DusterRoundsModel" (90 : Nat) ({ cls := "DusterRoundsModel", name := "heldByAny", desc := "()I" } : Jvm.MethodName)) ∈ zT := zT_in 792 (by decide +kernel) (by decide +kernel)
theorem wd_794 : (Jvm.Cond.instanceMethod ({ cls := "DusterRoundsModel", name := "heldByAny", desc := "()I" } : Jvm.MethodName)) ∈ zT := zT_in 794 (by decide +kernel) (by decide +kernel)
theorem wd_795 : (Jvm.Cond.code ({ cls := "DusterRoundsModel", name := "heldByAny", desc := "()I" } : Jvm.MethodName) prog_7_method_24_code (3 : Nat) (Option.some Jvm.ClassFile.FieldType.int)) ∈ zT := zT_in 795 (by decide +kernel) (by decide +kernel)
theorem wd_796 : (Jvm.Cond.methodLink "DusterRoundsLaw" (35 : Nat) ({ cls := "DusterRoundsModel", name := "duster", desc := "(I)I" } : Jvm.MethodName)) ∈ zT := zT_in 796 (by decide +kernel) (by decide +kernel)
theorem wd_797 : (Jvm.Cond.instanceMethod ({ cls := "DusterRoundsModel", name := "duster", desc := "(I)I" } : Jvm.MethodName)) ∈ zT := zT_in 797 (by decide +kernel) (by decide +kernel)
theorem wd_798 : (Jvm.Cond.selects "DusterRoundsModel" ({ cls := "DusterRoundsModel", name := "duster", desc := "(I)I" } : Jvm.MethodName) ({ cls := "DusterRoundsModel", name := "duster", desc := "(I)I" } : Jvm.MethodName)) ∈ zT := zT_in 798 (by decide +kernel) (by decide +kernel)
theorem wd_799 : (Jvm.Cond.code ({ cls := "DusterRoundsModel", name := "duster", desc := "(I)I" } : Jvm.MethodName) prog_7_method_31_code (2 : Nat) (Option.some Jvm.ClassFile.FieldType.int)) ∈ zT := zT_in 799 (by decide +kernel) (by decide +kernel)
theorem wd_800 : (Jvm.Cond.methodLink "DusterRoundsModel" (96 : Nat) ({ cls := "DusterRoundsModel", name := "isKind", desc := "(I)Z" } : Jvm.MethodName)) ∈ zT := zT_in 800 (by decide +kernel) (by decide +kernel)
theorem wd_801 : (Jvm.Cond.static ({ cls := "DusterRoundsModel", name := "isKind", desc := "(I)Z" } : Jvm.MethodName)) ∈ zT := zT_in 801 (by decide +kernel) (by decide +kernel)
theorem wd_802 : (Jvm.Cond.code ({ cls := "DusterRoundsModel", name := "isKind", desc := "(I)Z" } : Jvm.MethodName) prog_7_method_11_code (1 : Nat) (Option.some Jvm.ClassFile.FieldType.boolean)) ∈ zT := zT_in 802 (by decide +kernel) (by decide +kernel)
theorem wd_803 : (Jvm.Cond.constant "DusterRoundsModel" (99 : Nat) (-1000000002 : Int32)) ∈ zT := zT_in 803 (by decide +kernel) (by decide +kernel)
theorem wd_804 : (Jvm.Cond.methodLink "DusterRoundsModel" (100 : Nat) ({ cls := "DusterRoundsModel", name := "adds", desc := "(III)V" } : Jvm.MethodName)) ∈ zT := zT_in 804 (by decide +kernel) (by decide +kernel)
theorem wd_806 : (Jvm.Cond.instanceMethod ({ cls := "DusterRoundsModel", name := "adds", desc := "(III)V" } : Jvm.MethodName)) ∈ zT := zT_in 806 (by decide +kernel) (by decide +kernel)
theorem wd_807 : (Jvm.Cond.code ({ cls := "DusterRoundsModel", name := "adds", desc := "(III)V" } : Jvm.MethodName) prog_7_method_30_code (5 : Nat) (Option.none : Option Jvm.ClassFile.FieldType)) ∈ zT := zT_in 807 (by decide +kernel) (by decide +kernel)
theorem wd_808 : (Jvm.Cond.methodLink "DusterRoundsModel" (93 : Nat) ({ cls := "DusterRoundsModel", name := "puts", desc := "(III)V" } : Jvm.MethodName)) ∈ zT := zT_in 808 (by decide +kernel) (by decide +kernel)
theorem wd_810 : (Jvm.Cond.instanceMethod ({ cls := "DusterRoundsModel", name := "puts", desc := "(III)V" } : Jvm.MethodName)) ∈ zT := zT_in 810 (by decide +kernel) (by decide +kernel)
theorem wd_811 : (Jvm.Cond.code ({ cls := "DusterRoundsModel", name := "puts", desc := "(III)V" } : Jvm.MethodName) prog_7_method_6_code (4 : Nat) (Option.none : Option Jvm.ClassFile.FieldType)) ∈ zT := zT_in 811 (by decide +kernel) (by decide +kernel)
theorem wd_812 : (Jvm.Cond.methodLink "DusterRoundsLaw" (39 : Nat) ({ cls := "DusterRoundsModel", name := "of", desc := "(II)I" } : Jvm.MethodName)) ∈ zT := zT_in 812 (by decide +kernel) (by decide +kernel)
theorem wd_813 : (Jvm.Cond.instanceMethod ({ cls := "DusterRoundsModel", name := "of", desc := "(II)I" } : Jvm.MethodName)) ∈ zT := zT_in 813 (by decide +kernel) (by decide +kernel)
theorem wd_814 : (Jvm.Cond.selects "DusterRoundsModel" ({ cls := "DusterRoundsModel", name := "of", desc := "(II)I" } : Jvm.MethodName) ({ cls := "DusterRoundsModel", name := "of", desc := "(II)I" } : Jvm.MethodName)) ∈ zT := zT_in 814 (by decide +kernel) (by decide +kernel)
theorem wd_815 : (Jvm.Cond.code ({ cls := "DusterRoundsModel", name := "of", desc := "(II)I" } : Jvm.MethodName) prog_7_method_32_code (3 : Nat) (Option.some Jvm.ClassFile.FieldType.int)) ∈ zT := zT_in 815 (by decide +kernel) (by decide +kernel)
theorem wd_816 : (Jvm.Cond.methodLink "DusterRoundsModel" (103 : Nat) ({ cls := "DusterRoundsModel", name := "isOne", desc := "(I)Z" } : Jvm.MethodName)) ∈ zT := zT_in 816 (by decide +kernel) (by decide +kernel)
theorem wd_818 : (Jvm.Cond.instanceMethod ({ cls := "DusterRoundsModel", name := "isOne", desc := "(I)Z" } : Jvm.MethodName)) ∈ zT := zT_in 818 (by decide +kernel) (by decide +kernel)
theorem wd_819 : (Jvm.Cond.code ({ cls := "DusterRoundsModel", name := "isOne", desc := "(I)Z" } : Jvm.MethodName) prog_7_method_10_code (2 : Nat) (Option.some Jvm.ClassFile.FieldType.boolean)) ∈ zT := zT_in 819 (by decide +kernel) (by decide +kernel)
theorem wd_820 : (Jvm.Cond.methodLink "DusterRoundsModel" (106 : Nat) ({ cls := "DusterRoundsModel", name := "wipes", desc := "(I)I" } : Jvm.MethodName)) ∈ zT := zT_in 820 (by decide +kernel) (by decide +kernel)
theorem wd_822 : (Jvm.Cond.instanceMethod ({ cls := "DusterRoundsModel", name := "wipes", desc := "(I)I" } : Jvm.MethodName)) ∈ zT := zT_in 822 (by decide +kernel) (by decide +kernel)
theorem wd_823 : (Jvm.Cond.code ({ cls := "DusterRoundsModel", name := "wipes", desc := "(I)I" } : Jvm.MethodName) prog_7_method_26_code (5 : Nat) (Option.some Jvm.ClassFile.FieldType.int)) ∈ zT := zT_in 823 (by decide +kernel) (by decide +kernel)
theorem wd_824 : (Jvm.Cond.methodLink "DusterRoundsModel" (109 : Nat) ({ cls := "DusterRoundsModel", name := "takesUp", desc := "(I)I" } : Jvm.MethodName)) ∈ zT := zT_in 824 (by decide +kernel) (by decide +kernel)
theorem wd_826 : (Jvm.Cond.instanceMethod ({ cls := "DusterRoundsModel", name := "takesUp", desc := "(I)I" } : Jvm.MethodName)) ∈ zT := zT_in 826 (by decide +kernel) (by decide +kernel)
theorem wd_827 : (Jvm.Cond.code ({ cls := "DusterRoundsModel", name := "takesUp", desc := "(I)I" } : Jvm.MethodName) prog_7_method_27_code (2 : Nat) (Option.some Jvm.ClassFile.FieldType.int)) ∈ zT := zT_in 827 (by decide +kernel) (by decide +kernel)
theorem wd_828 : (Jvm.Cond.methodLink "DusterRoundsModel" (112 : Nat) ({ cls := "DusterRoundsModel", name := "leaves", desc := "(I)I" } : Jvm.MethodName)) ∈ zT := zT_in 828 (by decide +kernel) (by decide +kernel)
theorem wd_830 : (Jvm.Cond.instanceMethod ({ cls := "DusterRoundsModel", name := "leaves", desc := "(I)I" } : Jvm.MethodName)) ∈ zT := zT_in 830 (by decide +kernel) (by decide +kernel)
theorem wd_831 : (Jvm.Cond.code ({ cls := "DusterRoundsModel", name := "leaves", desc := "(I)I" } : Jvm.MethodName) prog_7_method_28_code (3 : Nat) (Option.some Jvm.ClassFile.FieldType.int)) ∈ zT := zT_in 831 (by decide +kernel) (by decide +kernel)
theorem wd_832 : (Jvm.Cond.methodLink "DusterRoundsModel" (115 : Nat) ({ cls := "DusterRoundsModel", name := "isKeeping", desc := "(I)Z" } : Jvm.MethodName)) ∈ zT := zT_in 832 (by decide +kernel) (by decide +kernel)
theorem wd_834 : (Jvm.Cond.instanceMethod ({ cls := "DusterRoundsModel", name := "isKeeping", desc := "(I)Z" } : Jvm.MethodName)) ∈ zT := zT_in 834 (by decide +kernel) (by decide +kernel)
theorem wd_835 : (Jvm.Cond.code ({ cls := "DusterRoundsModel", name := "isKeeping", desc := "(I)Z" } : Jvm.MethodName) prog_7_method_29_code (3 : Nat) (Option.some Jvm.ClassFile.FieldType.boolean)) ∈ zT := zT_in 835 (by decide +kernel) (by decide +kernel)
theorem wd_836 : (Jvm.Cond.methodLink "DusterRoundsModel" (77 : Nat) ({ cls := "DusterRoundsModel", name := "bits", desc := "(I)I" } : Jvm.MethodName)) ∈ zT := zT_in 836 (by decide +kernel) (by decide +kernel)
theorem wd_837 : (Jvm.Cond.static ({ cls := "DusterRoundsModel", name := "bits", desc := "(I)I" } : Jvm.MethodName)) ∈ zT := zT_in 837 (by decide +kernel) (by decide +kernel)
theorem wd_838 : (Jvm.Cond.code ({ cls := "DusterRoundsModel", name := "bits", desc := "(I)I" } : Jvm.MethodName) prog_7_method_14_code (3 : Nat) (Option.some Jvm.ClassFile.FieldType.int)) ∈ zT := zT_in 838 (by decide +kernel) (by decide +kernel)
theorem wd_839 : (Jvm.Cond.methodLink "DusterRoundsLaw" (43 : Nat) ({ cls := "DusterRoundsModel", name := "set", desc := "(III)I" } : Jvm.MethodName)) ∈ zT := zT_in 839 (by decide +kernel) (by decide +kernel)
theorem wd_840 : (Jvm.Cond.instanceMethod ({ cls := "DusterRoundsModel", name := "set", desc := "(III)I" } : Jvm.MethodName)) ∈ zT := zT_in 840 (by decide +kernel) (by decide +kernel)
theorem wd_841 : (Jvm.Cond.selects "DusterRoundsModel" ({ cls := "DusterRoundsModel", name := "set", desc := "(III)I" } : Jvm.MethodName) ({ cls := "DusterRoundsModel", name := "set", desc := "(III)I" } : Jvm.MethodName)) ∈ zT := zT_in 841 (by decide +kernel) (by decide +kernel)
theorem wd_842 : (Jvm.Cond.code ({ cls := "DusterRoundsModel", name := "set", desc := "(III)I" } : Jvm.MethodName) prog_7_method_34_code (4 : Nat) (Option.some Jvm.ClassFile.FieldType.int)) ∈ zT := zT_in 842 (by decide +kernel) (by decide +kernel)
theorem wd_843 : (Jvm.Cond.methodLink "DusterRoundsModel" (118 : Nat) ({ cls := "DusterRoundsModel", name := "isPart", desc := "(II)Z" } : Jvm.MethodName)) ∈ zT := zT_in 843 (by decide +kernel) (by decide +kernel)
theorem wd_844 : (Jvm.Cond.static ({ cls := "DusterRoundsModel", name := "isPart", desc := "(II)Z" } : Jvm.MethodName)) ∈ zT := zT_in 844 (by decide +kernel) (by decide +kernel)
theorem wd_845 : (Jvm.Cond.code ({ cls := "DusterRoundsModel", name := "isPart", desc := "(II)Z" } : Jvm.MethodName) prog_7_method_33_code (2 : Nat) (Option.some Jvm.ClassFile.FieldType.boolean)) ∈ zT := zT_in 845 (by decide +kernel) (by decide +kernel)
theorem wd_846 : (Jvm.Cond.methodLink "DusterRoundsLaw" (47 : Nat) ({ cls := "DusterRoundsModel", name := "turn", desc := "(II)I" } : Jvm.MethodName)) ∈ zT := zT_in 846 (by decide +kernel) (by decide +kernel)
theorem wd_847 : (Jvm.Cond.instanceMethod ({ cls := "DusterRoundsModel", name := "turn", desc := "(II)I" } : Jvm.MethodName)) ∈ zT := zT_in 847 (by decide +kernel) (by decide +kernel)
theorem wd_848 : (Jvm.Cond.selects "DusterRoundsModel" ({ cls := "DusterRoundsModel", name := "turn", desc := "(II)I" } : Jvm.MethodName) ({ cls := "DusterRoundsModel", name := "turn", desc := "(II)I" } : Jvm.MethodName)) ∈ zT := zT_in 848 (by decide +kernel) (by decide +kernel)
theorem wd_849 : (Jvm.Cond.code ({ cls := "DusterRoundsModel", name := "turn", desc := "(II)I" } : Jvm.MethodName) prog_7_method_35_code (3 : Nat) (Option.some Jvm.ClassFile.FieldType.int)) ∈ zT := zT_in 849 (by decide +kernel) (by decide +kernel)
theorem wd_850 : (Jvm.Cond.methodLink "DusterRoundsLaw" (51 : Nat) ({ cls := "DusterRoundsModel", name := "as", desc := "(II)I" } : Jvm.MethodName)) ∈ zT := zT_in 850 (by decide +kernel) (by decide +kernel)
theorem wd_851 : (Jvm.Cond.instanceMethod ({ cls := "DusterRoundsModel", name := "as", desc := "(II)I" } : Jvm.MethodName)) ∈ zT := zT_in 851 (by decide +kernel) (by decide +kernel)
theorem wd_852 : (Jvm.Cond.selects "DusterRoundsModel" ({ cls := "DusterRoundsModel", name := "as", desc := "(II)I" } : Jvm.MethodName) ({ cls := "DusterRoundsModel", name := "as", desc := "(II)I" } : Jvm.MethodName)) ∈ zT := zT_in 852 (by decide +kernel) (by decide +kernel)
theorem wd_853 : (Jvm.Cond.code ({ cls := "DusterRoundsModel", name := "as", desc := "(II)I" } : Jvm.MethodName) prog_7_method_36_code (5 : Nat) (Option.some Jvm.ClassFile.FieldType.int)) ∈ zT := zT_in 853 (by decide +kernel) (by decide +kernel)
theorem wd_854 : (Jvm.Cond.constant "DusterRoundsModel" (122 : Nat) (-1000000003 : Int32)) ∈ zT := zT_in 854 (by decide +kernel) (by decide +kernel)
theorem wd_855 : (Jvm.Cond.methodLink "DusterRoundsLaw" (55 : Nat) ({ cls := "DusterRoundsModel", name := "through", desc := "(II)I" } : Jvm.MethodName)) ∈ zT := zT_in 855 (by decide +kernel) (by decide +kernel)
theorem wd_856 : (Jvm.Cond.instanceMethod ({ cls := "DusterRoundsModel", name := "through", desc := "(II)I" } : Jvm.MethodName)) ∈ zT := zT_in 856 (by decide +kernel) (by decide +kernel)
theorem wd_857 : (Jvm.Cond.selects "DusterRoundsModel" ({ cls := "DusterRoundsModel", name := "through", desc := "(II)I" } : Jvm.MethodName) ({ cls := "DusterRoundsModel", name := "through", desc := "(II)I" } : Jvm.MethodName)) ∈ zT := zT_in 857 (by decide +kernel) (by decide +kernel)
theorem wd_858 : (Jvm.Cond.code ({ cls := "DusterRoundsModel", name := "through", desc := "(II)I" } : Jvm.MethodName) prog_7_method_39_code (3 : Nat) (Option.some Jvm.ClassFile.FieldType.int)) ∈ zT := zT_in 858 (by decide +kernel) (by decide +kernel)
theorem wd_859 : (Jvm.Cond.methodLink "DusterRoundsModel" (130 : Nat) ({ cls := "DusterRoundsModel", name := "goes", desc := "(II)I" } : Jvm.MethodName)) ∈ zT := zT_in 859 (by decide +kernel) (by decide +kernel)
theorem wd_861 : (Jvm.Cond.instanceMethod ({ cls := "DusterRoundsModel", name := "goes", desc := "(II)I" } : Jvm.MethodName)) ∈ zT := zT_in 861 (by decide +kernel) (by decide +kernel)
theorem wd_862 : (Jvm.Cond.code ({ cls := "DusterRoundsModel", name := "goes", desc := "(II)I" } : Jvm.MethodName) prog_7_method_38_code (9 : Nat) (Option.some Jvm.ClassFile.FieldType.int)) ∈ zT := zT_in 862 (by decide +kernel) (by decide +kernel)
theorem wd_863 : (Jvm.Cond.methodLink "DusterRoundsModel" (123 : Nat) ({ cls := "DusterRoundsModel", name := "least", desc := "(II)I" } : Jvm.MethodName)) ∈ zT := zT_in 863 (by decide +kernel) (by decide +kernel)
theorem wd_864 : (Jvm.Cond.static ({ cls := "DusterRoundsModel", name := "least", desc := "(II)I" } : Jvm.MethodName)) ∈ zT := zT_in 864 (by decide +kernel) (by decide +kernel)
theorem wd_865 : (Jvm.Cond.code ({ cls := "DusterRoundsModel", name := "least", desc := "(II)I" } : Jvm.MethodName) prog_7_method_37_code (4 : Nat) (Option.some Jvm.ClassFile.FieldType.int)) ∈ zT := zT_in 865 (by decide +kernel) (by decide +kernel)
theorem wd_866 : (Jvm.Cond.methodLink "DusterRoundsModel" (126 : Nat) ({ cls := "DusterRoundsModel", name := "held", desc := "(III)I" } : Jvm.MethodName)) ∈ zT := zT_in 866 (by decide +kernel) (by decide +kernel)
theorem wd_867 : (Jvm.Cond.static ({ cls := "DusterRoundsModel", name := "held", desc := "(III)I" } : Jvm.MethodName)) ∈ zT := zT_in 867 (by decide +kernel) (by decide +kernel)
theorem wd_868 : (Jvm.Cond.code ({ cls := "DusterRoundsModel", name := "held", desc := "(III)I" } : Jvm.MethodName) prog_7_method_4_code (3 : Nat) (Option.some Jvm.ClassFile.FieldType.int)) ∈ zT := zT_in 868 (by decide +kernel) (by decide +kernel)
theorem wd_869 : (Jvm.Cond.methodLink "DusterRoundsLaw" (59 : Nat) ({ cls := "DusterRoundsModel", name := "wash", desc := "(I)I" } : Jvm.MethodName)) ∈ zT := zT_in 869 (by decide +kernel) (by decide +kernel)
theorem wd_870 : (Jvm.Cond.instanceMethod ({ cls := "DusterRoundsModel", name := "wash", desc := "(I)I" } : Jvm.MethodName)) ∈ zT := zT_in 870 (by decide +kernel) (by decide +kernel)
theorem wd_871 : (Jvm.Cond.selects "DusterRoundsModel" ({ cls := "DusterRoundsModel", name := "wash", desc := "(I)I" } : Jvm.MethodName) ({ cls := "DusterRoundsModel", name := "wash", desc := "(I)I" } : Jvm.MethodName)) ∈ zT := zT_in 871 (by decide +kernel) (by decide +kernel)
theorem wd_872 : (Jvm.Cond.code ({ cls := "DusterRoundsModel", name := "wash", desc := "(I)I" } : Jvm.MethodName) prog_7_method_41_code (2 : Nat) (Option.some Jvm.ClassFile.FieldType.int)) ∈ zT := zT_in 872 (by decide +kernel) (by decide +kernel)
theorem wd_873 : (Jvm.Cond.methodLink "DusterRoundsModel" (133 : Nat) ({ cls := "DusterRoundsModel", name := "washes", desc := "(I)I" } : Jvm.MethodName)) ∈ zT := zT_in 873 (by decide +kernel) (by decide +kernel)
theorem wd_875 : (Jvm.Cond.instanceMethod ({ cls := "DusterRoundsModel", name := "washes", desc := "(I)I" } : Jvm.MethodName)) ∈ zT := zT_in 875 (by decide +kernel) (by decide +kernel)
theorem wd_876 : (Jvm.Cond.code ({ cls := "DusterRoundsModel", name := "washes", desc := "(I)I" } : Jvm.MethodName) prog_7_method_40_code (4 : Nat) (Option.some Jvm.ClassFile.FieldType.int)) ∈ zT := zT_in 876 (by decide +kernel) (by decide +kernel)
theorem wd_877 : (Jvm.Cond.methodLink "DusterRoundsLaw" (63 : Nat) ({ cls := "DusterRoundsModel", name := "shake", desc := "(I)I" } : Jvm.MethodName)) ∈ zT := zT_in 877 (by decide +kernel) (by decide +kernel)
theorem wd_878 : (Jvm.Cond.instanceMethod ({ cls := "DusterRoundsModel", name := "shake", desc := "(I)I" } : Jvm.MethodName)) ∈ zT := zT_in 878 (by decide +kernel) (by decide +kernel)
theorem wd_879 : (Jvm.Cond.selects "DusterRoundsModel" ({ cls := "DusterRoundsModel", name := "shake", desc := "(I)I" } : Jvm.MethodName) ({ cls := "DusterRoundsModel", name := "shake", desc := "(I)I" } : Jvm.MethodName)) ∈ zT := zT_in 879 (by decide +kernel) (by decide +kernel)
theorem wd_880 : (Jvm.Cond.code ({ cls := "DusterRoundsModel", name := "shake", desc := "(I)I" } : Jvm.MethodName) prog_7_method_43_code (2 : Nat) (Option.some Jvm.ClassFile.FieldType.int)) ∈ zT := zT_in 880 (by decide +kernel) (by decide +kernel)
theorem wd_881 : (Jvm.Cond.methodLink "DusterRoundsModel" (136 : Nat) ({ cls := "DusterRoundsModel", name := "shakes", desc := "(I)I" } : Jvm.MethodName)) ∈ zT := zT_in 881 (by decide +kernel) (by decide +kernel)
theorem wd_883 : (Jvm.Cond.instanceMethod ({ cls := "DusterRoundsModel", name := "shakes", desc := "(I)I" } : Jvm.MethodName)) ∈ zT := zT_in 883 (by decide +kernel) (by decide +kernel)
theorem wd_884 : (Jvm.Cond.code ({ cls := "DusterRoundsModel", name := "shakes", desc := "(I)I" } : Jvm.MethodName) prog_7_method_42_code (4 : Nat) (Option.some Jvm.ClassFile.FieldType.int)) ∈ zT := zT_in 884 (by decide +kernel) (by decide +kernel)
theorem wd_885 : (Jvm.Cond.methodLink "DusterRoundsLaw" (67 : Nat) ({ cls := "DusterRoundsModel", name := "days", desc := "(I)I" } : Jvm.MethodName)) ∈ zT := zT_in 885 (by decide +kernel) (by decide +kernel)
theorem wd_886 : (Jvm.Cond.instanceMethod ({ cls := "DusterRoundsModel", name := "days", desc := "(I)I" } : Jvm.MethodName)) ∈ zT := zT_in 886 (by decide +kernel) (by decide +kernel)
theorem wd_887 : (Jvm.Cond.selects "DusterRoundsModel" ({ cls := "DusterRoundsModel", name := "days", desc := "(I)I" } : Jvm.MethodName) ({ cls := "DusterRoundsModel", name := "days", desc := "(I)I" } : Jvm.MethodName)) ∈ zT := zT_in 887 (by decide +kernel) (by decide +kernel)
theorem wd_888 : (Jvm.Cond.code ({ cls := "DusterRoundsModel", name := "days", desc := "(I)I" } : Jvm.MethodName) prog_7_method_46_code (2 : Nat) (Option.some Jvm.ClassFile.FieldType.int)) ∈ zT := zT_in 888 (by decide +kernel) (by decide +kernel)
theorem wd_889 : (Jvm.Cond.constant "DusterRoundsModel" (142 : Nat) (-1000000005 : Int32)) ∈ zT := zT_in 889 (by decide +kernel) (by decide +kernel)
theorem wd_890 : (Jvm.Cond.methodLink "DusterRoundsModel" (143 : Nat) ({ cls := "DusterRoundsModel", name := "passes", desc := "(I)V" } : Jvm.MethodName)) ∈ zT := zT_in 890 (by decide +kernel) (by decide +kernel)
theorem wd_892 : (Jvm.Cond.instanceMethod ({ cls := "DusterRoundsModel", name := "passes", desc := "(I)V" } : Jvm.MethodName)) ∈ zT := zT_in 892 (by decide +kernel) (by decide +kernel)
theorem wd_893 : (Jvm.Cond.code ({ cls := "DusterRoundsModel", name := "passes", desc := "(I)V" } : Jvm.MethodName) prog_7_method_45_code (3 : Nat) (Option.none : Option Jvm.ClassFile.FieldType)) ∈ zT := zT_in 893 (by decide +kernel) (by decide +kernel)
theorem wd_894 : (Jvm.Cond.methodLink "DusterRoundsModel" (139 : Nat) ({ cls := "DusterRoundsModel", name := "oneDay", desc := "()V" } : Jvm.MethodName)) ∈ zT := zT_in 894 (by decide +kernel) (by decide +kernel)
theorem wd_896 : (Jvm.Cond.instanceMethod ({ cls := "DusterRoundsModel", name := "oneDay", desc := "()V" } : Jvm.MethodName)) ∈ zT := zT_in 896 (by decide +kernel) (by decide +kernel)
theorem wd_897 : (Jvm.Cond.code ({ cls := "DusterRoundsModel", name := "oneDay", desc := "()V" } : Jvm.MethodName) prog_7_method_44_code (2 : Nat) (Option.none : Option Jvm.ClassFile.FieldType)) ∈ zT := zT_in 897 (by decide +kernel) (by decide +kernel)
theorem wd_898 : (Jvm.Cond.methodLink "DusterRoundsLaw" (71 : Nat) ({ cls := "DusterRoundsModel", name := "on", desc := "(III)I" } : Jvm.MethodName)) ∈ zT := zT_in 898 (by decide +kernel) (by decide +kernel)
theorem wd_899 : (Jvm.Cond.instanceMethod ({ cls := "DusterRoundsModel", name := "on", desc := "(III)I" } : Jvm.MethodName)) ∈ zT := zT_in 899 (by decide +kernel) (by decide +kernel)
theorem wd_900 : (Jvm.Cond.selects "DusterRoundsModel" ({ cls := "DusterRoundsModel", name := "on", desc := "(III)I" } : Jvm.MethodName) ({ cls := "DusterRoundsModel", name := "on", desc := "(III)I" } : Jvm.MethodName)) ∈ zT := zT_in 900 (by decide +kernel) (by decide +kernel)
theorem wd_901 : (Jvm.Cond.code ({ cls := "DusterRoundsModel", name := "on", desc := "(III)I" } : Jvm.MethodName) prog_7_method_48_code (4 : Nat) (Option.some Jvm.ClassFile.FieldType.int)) ∈ zT := zT_in 901 (by decide +kernel) (by decide +kernel)
theorem wd_902 : (Jvm.Cond.methodLink "DusterRoundsModel" (151 : Nat) ({ cls := "DusterRoundsModel", name := "behind", desc := "(II)I" } : Jvm.MethodName)) ∈ zT := zT_in 902 (by decide +kernel) (by decide +kernel)
theorem wd_904 : (Jvm.Cond.instanceMethod ({ cls := "DusterRoundsModel", name := "behind", desc := "(II)I" } : Jvm.MethodName)) ∈ zT := zT_in 904 (by decide +kernel) (by decide +kernel)
theorem wd_905 : (Jvm.Cond.code ({ cls := "DusterRoundsModel", name := "behind", desc := "(II)I" } : Jvm.MethodName) prog_7_method_47_code (4 : Nat) (Option.some Jvm.ClassFile.FieldType.int)) ∈ zT := zT_in 905 (by decide +kernel) (by decide +kernel)
theorem wd_906 : (Jvm.Cond.methodLink "DusterRoundsModel" (147 : Nat) ({ cls := "DusterRoundsModel", name := "moveAll", desc := "(Z[I)V" } : Jvm.MethodName)) ∈ zT := zT_in 906 (by decide +kernel) (by decide +kernel)
theorem wd_908 : (Jvm.Cond.instanceMethod ({ cls := "DusterRoundsModel", name := "moveAll", desc := "(Z[I)V" } : Jvm.MethodName)) ∈ zT := zT_in 908 (by decide +kernel) (by decide +kernel)
theorem wd_909 : (Jvm.Cond.code ({ cls := "DusterRoundsModel", name := "moveAll", desc := "(Z[I)V" } : Jvm.MethodName) prog_7_method_90_code (4 : Nat) (Option.none : Option Jvm.ClassFile.FieldType)) ∈ zT := zT_in 909 (by decide +kernel) (by decide +kernel)
theorem wd_910 : (Jvm.Cond.methodLink "DusterRoundsLaw" (75 : Nat) ({ cls := "DusterRoundsModel", name := "then", desc := "(III)I" } : Jvm.MethodName)) ∈ zT := zT_in 910 (by decide +kernel) (by decide +kernel)
theorem wd_911 : (Jvm.Cond.instanceMethod ({ cls := "DusterRoundsModel", name := "then", desc := "(III)I" } : Jvm.MethodName)) ∈ zT := zT_in 911 (by decide +kernel) (by decide +kernel)
theorem wd_912 : (Jvm.Cond.selects "DusterRoundsModel" ({ cls := "DusterRoundsModel", name := "then", desc := "(III)I" } : Jvm.MethodName) ({ cls := "DusterRoundsModel", name := "then", desc := "(III)I" } : Jvm.MethodName)) ∈ zT := zT_in 912 (by decide +kernel) (by decide +kernel)
theorem wd_913 : (Jvm.Cond.code ({ cls := "DusterRoundsModel", name := "then", desc := "(III)I" } : Jvm.MethodName) prog_7_method_49_code (4 : Nat) (Option.some Jvm.ClassFile.FieldType.int)) ∈ zT := zT_in 913 (by decide +kernel) (by decide +kernel)
theorem wd_914 : (Jvm.Cond.methodLink "DusterRoundsLaw" (79 : Nat) ({ cls := "DusterRoundsModel", name := "clean", desc := "(I)I" } : Jvm.MethodName)) ∈ zT := zT_in 914 (by decide +kernel) (by decide +kernel)
theorem wd_915 : (Jvm.Cond.instanceMethod ({ cls := "DusterRoundsModel", name := "clean", desc := "(I)I" } : Jvm.MethodName)) ∈ zT := zT_in 915 (by decide +kernel) (by decide +kernel)
theorem wd_916 : (Jvm.Cond.selects "DusterRoundsModel" ({ cls := "DusterRoundsModel", name := "clean", desc := "(I)I" } : Jvm.MethodName) ({ cls := "DusterRoundsModel", name := "clean", desc := "(I)I" } : Jvm.MethodName)) ∈ zT := zT_in 916 (by decide +kernel) (by decide +kernel)
theorem wd_917 : (Jvm.Cond.code ({ cls := "DusterRoundsModel", name := "clean", desc := "(I)I" } : Jvm.MethodName) prog_7_method_50_code (3 : Nat) (Option.some Jvm.ClassFile.FieldType.int)) ∈ zT := zT_in 917 (by decide +kernel) (by decide +kernel)
theorem wd_918 : (Jvm.Cond.constant "DusterRoundsModel" (154 : Nat) (-1000000004 : Int32)) ∈ zT := zT_in 918 (by decide +kernel) (by decide +kernel)
theorem wd_919 : (Jvm.Cond.methodLink "DusterRoundsLaw" (83 : Nat) ({ cls := "DusterRoundsModel", name := "comes", desc := "(II)I" } : Jvm.MethodName)) ∈ zT := zT_in 919 (by decide +kernel) (by decide +kernel)
theorem wd_920 : (Jvm.Cond.instanceMethod ({ cls := "DusterRoundsModel", name := "comes", desc := "(II)I" } : Jvm.MethodName)) ∈ zT := zT_in 920 (by decide +kernel) (by decide +kernel)
theorem wd_921 : (Jvm.Cond.selects "DusterRoundsModel" ({ cls := "DusterRoundsModel", name := "comes", desc := "(II)I" } : Jvm.MethodName) ({ cls := "DusterRoundsModel", name := "comes", desc := "(II)I" } : Jvm.MethodName)) ∈ zT := zT_in 921 (by decide +kernel) (by decide +kernel)
theorem wd_922 : (Jvm.Cond.code ({ cls := "DusterRoundsModel", name := "comes", desc := "(II)I" } : Jvm.MethodName) prog_7_method_52_code (3 : Nat) (Option.some Jvm.ClassFile.FieldType.int)) ∈ zT := zT_in 922 (by decide +kernel) (by decide +kernel)
theorem wd_923 : (Jvm.Cond.methodLink "DusterRoundsModel" (155 : Nat) ({ cls := "DusterRoundsModel", name := "isMemory", desc := "(I)Z" } : Jvm.MethodName)) ∈ zT := zT_in 923 (by decide +kernel) (by decide +kernel)
theorem wd_924 : (Jvm.Cond.static ({ cls := "DusterRoundsModel", name := "isMemory", desc := "(I)Z" } : Jvm.MethodName)) ∈ zT := zT_in 924 (by decide +kernel) (by decide +kernel)
theorem wd_925 : (Jvm.Cond.code ({ cls := "DusterRoundsModel", name := "isMemory", desc := "(I)Z" } : Jvm.MethodName) prog_7_method_13_code (1 : Nat) (Option.some Jvm.ClassFile.FieldType.boolean)) ∈ zT := zT_in 925 (by decide +kernel) (by decide +kernel)
theorem wd_926 : (Jvm.Cond.methodLink "DusterRoundsModel" (158 : Nat) ({ cls := "DusterRoundsModel", name := "whenHas", desc := "(II)I" } : Jvm.MethodName)) ∈ zT := zT_in 926 (by decide +kernel) (by decide +kernel)
theorem wd_928 : (Jvm.Cond.instanceMethod ({ cls := "DusterRoundsModel", name := "whenHas", desc := "(II)I" } : Jvm.MethodName)) ∈ zT := zT_in 928 (by decide +kernel) (by decide +kernel)
theorem wd_929 : (Jvm.Cond.code ({ cls := "DusterRoundsModel", name := "whenHas", desc := "(II)I" } : Jvm.MethodName) prog_7_method_51_code (4 : Nat) (Option.some Jvm.ClassFile.FieldType.int)) ∈ zT := zT_in 929 (by decide +kernel) (by decide +kernel)
theorem wd_930 : (Jvm.Cond.methodLink "DusterRoundsLaw" (87 : Nat) ({ cls := "DusterRoundsModel", name := "holds", desc := "(II)I" } : Jvm.MethodName)) ∈ zT := zT_in 930 (by decide +kernel) (by decide +kernel)
theorem wd_931 : (Jvm.Cond.instanceMethod ({ cls := "DusterRoundsModel", name := "holds", desc := "(II)I" } : Jvm.MethodName)) ∈ zT := zT_in 931 (by decide +kernel) (by decide +kernel)
theorem wd_932 : (Jvm.Cond.selects "DusterRoundsModel" ({ cls := "DusterRoundsModel", name := "holds", desc := "(II)I" } : Jvm.MethodName) ({ cls := "DusterRoundsModel", name := "holds", desc := "(II)I" } : Jvm.MethodName)) ∈ zT := zT_in 932 (by decide +kernel) (by decide +kernel)
theorem wd_933 : (Jvm.Cond.code ({ cls := "DusterRoundsModel", name := "holds", desc := "(II)I" } : Jvm.MethodName) prog_7_method_53_code (3 : Nat) (Option.some Jvm.ClassFile.FieldType.int)) ∈ zT := zT_in 933 (by decide +kernel) (by decide +kernel)
theorem wd_934 : (Jvm.Cond.methodLink "DusterRoundsLaw" (91 : Nat) ({ cls := "DusterRoundsModel", name := "round", desc := "(II)I" } : Jvm.MethodName)) ∈ zT := zT_in 934 (by decide +kernel) (by decide +kernel)
theorem wd_935 : (Jvm.Cond.instanceMethod ({ cls := "DusterRoundsModel", name := "round", desc := "(II)I" } : Jvm.MethodName)) ∈ zT := zT_in 935 (by decide +kernel) (by decide +kernel)
theorem wd_936 : (Jvm.Cond.selects "DusterRoundsModel" ({ cls := "DusterRoundsModel", name := "round", desc := "(II)I" } : Jvm.MethodName) ({ cls := "DusterRoundsModel", name := "round", desc := "(II)I" } : Jvm.MethodName)) ∈ zT := zT_in 936 (by decide +kernel) (by decide +kernel)
theorem wd_937 : (Jvm.Cond.code ({ cls := "DusterRoundsModel", name := "round", desc := "(II)I" } : Jvm.MethodName) prog_7_method_56_code (7 : Nat) (Option.some Jvm.ClassFile.FieldType.int)) ∈ zT := zT_in 937 (by decide +kernel) (by decide +kernel)
theorem wd_938 : (Jvm.Cond.methodLink "DusterRoundsModel" (164 : Nat) ({ cls := "DusterRoundsModel", name := "dustBehind", desc := "(I)I" } : Jvm.MethodName)) ∈ zT := zT_in 938 (by decide +kernel) (by decide +kernel)
theorem wd_940 : (Jvm.Cond.instanceMethod ({ cls := "DusterRoundsModel", name := "dustBehind", desc := "(I)I" } : Jvm.MethodName)) ∈ zT := zT_in 940 (by decide +kernel) (by decide +kernel)
theorem wd_941 : (Jvm.Cond.code ({ cls := "DusterRoundsModel", name := "dustBehind", desc := "(I)I" } : Jvm.MethodName) prog_7_method_54_code (3 : Nat) (Option.some Jvm.ClassFile.FieldType.int)) ∈ zT := zT_in 941 (by decide +kernel) (by decide +kernel)
theorem wd_942 : (Jvm.Cond.methodLink "DusterRoundsLaw" (95 : Nat) ({ cls := "DusterRoundsModel", name := "kind", desc := "(II)I" } : Jvm.MethodName)) ∈ zT := zT_in 942 (by decide +kernel) (by decide +kernel)
theorem wd_943 : (Jvm.Cond.instanceMethod ({ cls := "DusterRoundsModel", name := "kind", desc := "(II)I" } : Jvm.MethodName)) ∈ zT := zT_in 943 (by decide +kernel) (by decide +kernel)
theorem wd_944 : (Jvm.Cond.selects "DusterRoundsModel" ({ cls := "DusterRoundsModel", name := "kind", desc := "(II)I" } : Jvm.MethodName) ({ cls := "DusterRoundsModel", name := "kind", desc := "(II)I" } : Jvm.MethodName)) ∈ zT := zT_in 944 (by decide +kernel) (by decide +kernel)
theorem wd_945 : (Jvm.Cond.code ({ cls := "DusterRoundsModel", name := "kind", desc := "(II)I" } : Jvm.MethodName) prog_7_method_58_code (3 : Nat) (Option.some Jvm.ClassFile.FieldType.int)) ∈ zT := zT_in 945 (by decide +kernel) (by decide +kernel)
theorem wd_946 : (Jvm.Cond.methodLink "DusterRoundsModel" (170 : Nat) ({ cls := "DusterRoundsModel", name := "mostBy", desc := "(IIII)I" } : Jvm.MethodName)) ∈ zT := zT_in 946 (by decide +kernel) (by decide +kernel)
theorem wd_948 : (Jvm.Cond.instanceMethod ({ cls := "DusterRoundsModel", name := "mostBy", desc := "(IIII)I" } : Jvm.MethodName)) ∈ zT := zT_in 948 (by decide +kernel) (by decide +kernel)
theorem wd_949 : (Jvm.Cond.code ({ cls := "DusterRoundsModel", name := "mostBy", desc := "(IIII)I" } : Jvm.MethodName) prog_7_method_57_code (9 : Nat) (Option.some Jvm.ClassFile.FieldType.int)) ∈ zT := zT_in 949 (by decide +kernel) (by decide +kernel)
theorem wd_950 : (Jvm.Cond.methodLink "DusterRoundsModel" (167 : Nat) ({ cls := "DusterRoundsModel", name := "memoriesBehind", desc := "(I)I" } : Jvm.MethodName)) ∈ zT := zT_in 950 (by decide +kernel) (by decide +kernel)
theorem wd_952 : (Jvm.Cond.instanceMethod ({ cls := "DusterRoundsModel", name := "memoriesBehind", desc := "(I)I" } : Jvm.MethodName)) ∈ zT := zT_in 952 (by decide +kernel) (by decide +kernel)
theorem wd_953 : (Jvm.Cond.code ({ cls := "DusterRoundsModel", name := "memoriesBehind", desc := "(I)I" } : Jvm.MethodName) prog_7_method_55_code (3 : Nat) (Option.some Jvm.ClassFile.FieldType.int)) ∈ zT := zT_in 953 (by decide +kernel) (by decide +kernel)
theorem wd_954 : (Jvm.Cond.methodLink "DusterRoundsModel" (161 : Nat) ({ cls := "DusterRoundsModel", name := "memoriesOfAll", desc := "()I" } : Jvm.MethodName)) ∈ zT := zT_in 954 (by decide +kernel) (by decide +kernel)
theorem wd_956 : (Jvm.Cond.instanceMethod ({ cls := "DusterRoundsModel", name := "memoriesOfAll", desc := "()I" } : Jvm.MethodName)) ∈ zT := zT_in 956 (by decide +kernel) (by decide +kernel)
theorem wd_957 : (Jvm.Cond.code ({ cls := "DusterRoundsModel", name := "memoriesOfAll", desc := "()I" } : Jvm.MethodName) prog_7_method_21_code (3 : Nat) (Option.some Jvm.ClassFile.FieldType.int)) ∈ zT := zT_in 957 (by decide +kernel) (by decide +kernel)
theorem wd_958 : (Jvm.Cond.methodLink "DusterRoundsLaw" (99 : Nat) ({ cls := "DusterRoundsModel", name := "grime", desc := "(II)I" } : Jvm.MethodName)) ∈ zT := zT_in 958 (by decide +kernel) (by decide +kernel)
theorem wd_959 : (Jvm.Cond.instanceMethod ({ cls := "DusterRoundsModel", name := "grime", desc := "(II)I" } : Jvm.MethodName)) ∈ zT := zT_in 959 (by decide +kernel) (by decide +kernel)
theorem wd_960 : (Jvm.Cond.selects "DusterRoundsModel" ({ cls := "DusterRoundsModel", name := "grime", desc := "(II)I" } : Jvm.MethodName) ({ cls := "DusterRoundsModel", name := "grime", desc := "(II)I" } : Jvm.MethodName)) ∈ zT := zT_in 960 (by decide +kernel) (by decide +kernel)
theorem wd_961 : (Jvm.Cond.code ({ cls := "DusterRoundsModel", name := "grime", desc := "(II)I" } : Jvm.MethodName) prog_7_method_59_code (3 : Nat) (Option.some Jvm.ClassFile.FieldType.int)) ∈ zT := zT_in 961 (by decide +kernel) (by decide +kernel)
theorem wd_962 : (Jvm.Cond.methodLink "DusterRoundsLaw" (103 : Nat) ({ cls := "DusterRoundsModel", name := "best", desc := "(I)I" } : Jvm.MethodName)) ∈ zT := zT_in 962 (by decide +kernel) (by decide +kernel)
theorem wd_963 : (Jvm.Cond.instanceMethod ({ cls := "DusterRoundsModel", name := "best", desc := "(I)I" } : Jvm.MethodName)) ∈ zT := zT_in 963 (by decide +kernel) (by decide +kernel)
theorem wd_964 : (Jvm.Cond.selects "DusterRoundsModel" ({ cls := "DusterRoundsModel", name := "best", desc := "(I)I" } : Jvm.MethodName) ({ cls := "DusterRoundsModel", name := "best", desc := "(I)I" } : Jvm.MethodName)) ∈ zT := zT_in 964 (by decide +kernel) (by decide +kernel)
theorem wd_965 : (Jvm.Cond.code ({ cls := "DusterRoundsModel", name := "best", desc := "(I)I" } : Jvm.MethodName) prog_7_method_60_code (6 : Nat) (Option.some Jvm.ClassFile.FieldType.int)) ∈ zT := zT_in 965 (by decide +kernel) (by decide +kernel)
theorem wd_966 : (Jvm.Cond.methodLink "DusterRoundsLaw" (107 : Nat) ({ cls := "DusterRoundsModel", name := "delay", desc := "(III)I" } : Jvm.MethodName)) ∈ zT := zT_in 966 (by decide +kernel) (by decide +kernel)
theorem wd_967 : (Jvm.Cond.instanceMethod ({ cls := "DusterRoundsModel", name := "delay", desc := "(III)I" } : Jvm.MethodName)) ∈ zT := zT_in 967 (by decide +kernel) (by decide +kernel)
theorem wd_968 : (Jvm.Cond.selects "DusterRoundsModel" ({ cls := "DusterRoundsModel", name := "delay", desc := "(III)I" } : Jvm.MethodName) ({ cls := "DusterRoundsModel", name := "delay", desc := "(III)I" } : Jvm.MethodName)) ∈ zT := zT_in 968 (by decide +kernel) (by decide +kernel)
theorem wd_969 : (Jvm.Cond.code ({ cls := "DusterRoundsModel", name := "delay", desc := "(III)I" } : Jvm.MethodName) prog_7_method_61_code (8 : Nat) (Option.some Jvm.ClassFile.FieldType.int)) ∈ zT := zT_in 969 (by decide +kernel) (by decide +kernel)
theorem wd_970 : (Jvm.Cond.methodLink "DusterRoundsLaw" (111 : Nat) ({ cls := "DusterRoundsModel", name := "bears", desc := "(I)I" } : Jvm.MethodName)) ∈ zT := zT_in 970 (by decide +kernel) (by decide +kernel)
theorem wd_971 : (Jvm.Cond.instanceMethod ({ cls := "DusterRoundsModel", name := "bears", desc := "(I)I" } : Jvm.MethodName)) ∈ zT := zT_in 971 (by decide +kernel) (by decide +kernel)
theorem wd_972 : (Jvm.Cond.selects "DusterRoundsModel" ({ cls := "DusterRoundsModel", name := "bears", desc := "(I)I" } : Jvm.MethodName) ({ cls := "DusterRoundsModel", name := "bears", desc := "(I)I" } : Jvm.MethodName)) ∈ zT := zT_in 972 (by decide +kernel) (by decide +kernel)
theorem wd_973 : (Jvm.Cond.code ({ cls := "DusterRoundsModel", name := "bears", desc := "(I)I" } : Jvm.MethodName) prog_7_method_62_code (5 : Nat) (Option.some Jvm.ClassFile.FieldType.int)) ∈ zT := zT_in 973 (by decide +kernel) (by decide +kernel)
theorem wd_974 : (Jvm.Cond.methodLink "DusterRoundsLaw" (115 : Nat) ({ cls := "DusterRoundsModel", name := "fullest", desc := "(I)I" } : Jvm.MethodName)) ∈ zT := zT_in 974 (by decide +kernel) (by decide +kernel)
theorem wd_975 : (Jvm.Cond.instanceMethod ({ cls := "DusterRoundsModel", name := "fullest", desc := "(I)I" } : Jvm.MethodName)) ∈ zT := zT_in 975 (by decide +kernel) (by decide +kernel)
theorem wd_976 : (Jvm.Cond.selects "DusterRoundsModel" ({ cls := "DusterRoundsModel", name := "fullest", desc := "(I)I" } : Jvm.MethodName) ({ cls := "DusterRoundsModel", name := "fullest", desc := "(I)I" } : Jvm.MethodName)) ∈ zT := zT_in 976 (by decide +kernel) (by decide +kernel)
theorem wd_977 : (Jvm.Cond.code ({ cls := "DusterRoundsModel", name := "fullest", desc := "(I)I" } : Jvm.MethodName) prog_7_method_63_code (4 : Nat) (Option.some Jvm.ClassFile.FieldType.int)) ∈ zT := zT_in 977 (by decide +kernel) (by decide +kernel)
theorem wd_978 : (Jvm.Cond.methodLink "DusterRoundsLaw" (119 : Nat) ({ cls := "DusterRoundsModel", name := "feed", desc := "(II)I" } : Jvm.MethodName)) ∈ zT := zT_in 978 (by decide +kernel) (by decide +kernel)
theorem wd_979 : (Jvm.Cond.instanceMethod ({ cls := "DusterRoundsModel", name := "feed", desc := "(II)I" } : Jvm.MethodName)) ∈ zT := zT_in 979 (by decide +kernel) (by decide +kernel)
theorem wd_980 : (Jvm.Cond.selects "DusterRoundsModel" ({ cls := "DusterRoundsModel", name := "feed", desc := "(II)I" } : Jvm.MethodName) ({ cls := "DusterRoundsModel", name := "feed", desc := "(II)I" } : Jvm.MethodName)) ∈ zT := zT_in 980 (by decide +kernel) (by decide +kernel)
theorem wd_981 : (Jvm.Cond.code ({ cls := "DusterRoundsModel", name := "feed", desc := "(II)I" } : Jvm.MethodName) prog_7_method_64_code (4 : Nat) (Option.some Jvm.ClassFile.FieldType.int)) ∈ zT := zT_in 981 (by decide +kernel) (by decide +kernel)
theorem wd_982 : (Jvm.Cond.methodLink "DusterRoundsLaw" (124 : Nat) ({ cls := "DusterRoundsModel", name := "wipe", desc := "()I" } : Jvm.MethodName)) ∈ zT := zT_in 982 (by decide +kernel) (by decide +kernel)
theorem wd_983 : (Jvm.Cond.instanceMethod ({ cls := "DusterRoundsModel", name := "wipe", desc := "()I" } : Jvm.MethodName)) ∈ zT := zT_in 983 (by decide +kernel) (by decide +kernel)
theorem wd_984 : (Jvm.Cond.selects "DusterRoundsModel" ({ cls := "DusterRoundsModel", name := "wipe", desc := "()I" } : Jvm.MethodName) ({ cls := "DusterRoundsModel", name := "wipe", desc := "()I" } : Jvm.MethodName)) ∈ zT := zT_in 984 (by decide +kernel) (by decide +kernel)
theorem wd_985 : (Jvm.Cond.code ({ cls := "DusterRoundsModel", name := "wipe", desc := "()I" } : Jvm.MethodName) prog_7_method_65_code (2 : Nat) (Option.some Jvm.ClassFile.FieldType.int)) ∈ zT := zT_in 985 (by decide +kernel) (by decide +kernel)
theorem wd_986 : (Jvm.Cond.methodLink "DusterRoundsLaw" (128 : Nat) ({ cls := "DusterRoundsModel", name := "house", desc := "()I" } : Jvm.MethodName)) ∈ zT := zT_in 986 (by decide +kernel) (by decide +kernel)
theorem wd_987 : (Jvm.Cond.instanceMethod ({ cls := "DusterRoundsModel", name := "house", desc := "()I" } : Jvm.MethodName)) ∈ zT := zT_in 987 (by decide +kernel) (by decide +kernel)
theorem wd_988 : (Jvm.Cond.selects "DusterRoundsModel" ({ cls := "DusterRoundsModel", name := "house", desc := "()I" } : Jvm.MethodName) ({ cls := "DusterRoundsModel", name := "house", desc := "()I" } : Jvm.MethodName)) ∈ zT := zT_in 988 (by decide +kernel) (by decide +kernel)
theorem wd_989 : (Jvm.Cond.code ({ cls := "DusterRoundsModel", name := "house", desc := "()I" } : Jvm.MethodName) prog_7_method_78_code (3 : Nat) (Option.some Jvm.ClassFile.FieldType.int)) ∈ zT := zT_in 989 (by decide +kernel) (by decide +kernel)
theorem wd_990 : (Jvm.Cond.methodLink "DusterRoundsModel" (229 : Nat) ({ cls := "DusterRoundsModel", name := "advance", desc := "()V" } : Jvm.MethodName)) ∈ zT := zT_in 990 (by decide +kernel) (by decide +kernel)
theorem wd_992 : (Jvm.Cond.instanceMethod ({ cls := "DusterRoundsModel", name := "advance", desc := "()V" } : Jvm.MethodName)) ∈ zT := zT_in 992 (by decide +kernel) (by decide +kernel)
theorem wd_993 : (Jvm.Cond.code ({ cls := "DusterRoundsModel", name := "advance", desc := "()V" } : Jvm.MethodName) prog_7_method_69_code (2 : Nat) (Option.none : Option Jvm.ClassFile.FieldType)) ∈ zT := zT_in 993 (by decide +kernel) (by decide +kernel)
theorem wd_994 : (Jvm.Cond.methodLink "DusterRoundsModel" (184 : Nat) ({ cls := "DusterRoundsModel", name := "byteAt", desc := "(I)I" } : Jvm.MethodName)) ∈ zT := zT_in 994 (by decide +kernel) (by decide +kernel)
theorem wd_996 : (Jvm.Cond.instanceMethod ({ cls := "DusterRoundsModel", name := "byteAt", desc := "(I)I" } : Jvm.MethodName)) ∈ zT := zT_in 996 (by decide +kernel) (by decide +kernel)
theorem wd_997 : (Jvm.Cond.code ({ cls := "DusterRoundsModel", name := "byteAt", desc := "(I)I" } : Jvm.MethodName) prog_7_method_66_code (2 : Nat) (Option.some Jvm.ClassFile.FieldType.int)) ∈ zT := zT_in 997 (by decide +kernel) (by decide +kernel)
theorem wd_998 : (Jvm.Cond.methodLink "DusterRoundsModel" (187 : Nat) ({ cls := "DusterRoundsModel", name := "isLetter", desc := "(I)Z" } : Jvm.MethodName)) ∈ zT := zT_in 998 (by decide +kernel) (by decide +kernel)
theorem wd_999 : (Jvm.Cond.static ({ cls := "DusterRoundsModel", name := "isLetter", desc := "(I)Z" } : Jvm.MethodName)) ∈ zT := zT_in 999 (by decide +kernel) (by decide +kernel)
theorem wd_1000 : (Jvm.Cond.code ({ cls := "DusterRoundsModel", name := "isLetter", desc := "(I)Z" } : Jvm.MethodName) prog_7_method_67_code (1 : Nat) (Option.some Jvm.ClassFile.FieldType.boolean)) ∈ zT := zT_in 1000 (by decide +kernel) (by decide +kernel)
theorem wd_1001 : (Jvm.Cond.methodLink "DusterRoundsModel" (190 : Nat) ({ cls := "DusterRoundsModel", name := "isDigit", desc := "(I)Z" } : Jvm.MethodName)) ∈ zT := zT_in 1001 (by decide +kernel) (by decide +kernel)
theorem wd_1002 : (Jvm.Cond.static ({ cls := "DusterRoundsModel", name := "isDigit", desc := "(I)Z" } : Jvm.MethodName)) ∈ zT := zT_in 1002 (by decide +kernel) (by decide +kernel)
theorem wd_1003 : (Jvm.Cond.code ({ cls := "DusterRoundsModel", name := "isDigit", desc := "(I)Z" } : Jvm.MethodName) prog_7_method_68_code (1 : Nat) (Option.some Jvm.ClassFile.FieldType.boolean)) ∈ zT := zT_in 1003 (by decide +kernel) (by decide +kernel)
theorem wd_1004 : (Jvm.Cond.constantLong "DusterRoundsModel" (203 : Nat) (27 : Int64)) ∈ zT := zT_in 1004 (by decide +kernel) (by decide +kernel)
theorem wd_1005 : (Jvm.Cond.constantLong "DusterRoundsModel" (205 : Nat) (96 : Int64)) ∈ zT := zT_in 1005 (by decide +kernel) (by decide +kernel)
theorem wd_1006 : (Jvm.Cond.constantLong "DusterRoundsModel" (207 : Nat) (-1 : Int64)) ∈ zT := zT_in 1006 (by decide +kernel) (by decide +kernel)
theorem wd_1007 : (Jvm.Cond.methodLink "DusterRoundsModel" (266 : Nat) ({ cls := "DusterRoundsModel", name := "wantItem", desc := "()V" } : Jvm.MethodName)) ∈ zT := zT_in 1007 (by decide +kernel) (by decide +kernel)
theorem wd_1009 : (Jvm.Cond.instanceMethod ({ cls := "DusterRoundsModel", name := "wantItem", desc := "()V" } : Jvm.MethodName)) ∈ zT := zT_in 1009 (by decide +kernel) (by decide +kernel)
theorem wd_1010 : (Jvm.Cond.code ({ cls := "DusterRoundsModel", name := "wantItem", desc := "()V" } : Jvm.MethodName) prog_7_method_77_code (2 : Nat) (Option.none : Option Jvm.ClassFile.FieldType)) ∈ zT := zT_in 1010 (by decide +kernel) (by decide +kernel)
theorem wd_1011 : (Jvm.Cond.methodLink "DusterRoundsModel" (251 : Nat) ({ cls := "DusterRoundsModel", name := "kindHere", desc := "()I" } : Jvm.MethodName)) ∈ zT := zT_in 1011 (by decide +kernel) (by decide +kernel)
theorem wd_1013 : (Jvm.Cond.instanceMethod ({ cls := "DusterRoundsModel", name := "kindHere", desc := "()I" } : Jvm.MethodName)) ∈ zT := zT_in 1013 (by decide +kernel) (by decide +kernel)
theorem wd_1014 : (Jvm.Cond.code ({ cls := "DusterRoundsModel", name := "kindHere", desc := "()I" } : Jvm.MethodName) prog_7_method_71_code (1 : Nat) (Option.some Jvm.ClassFile.FieldType.int)) ∈ zT := zT_in 1014 (by decide +kernel) (by decide +kernel)
theorem wd_1015 : (Jvm.Cond.constantLong "DusterRoundsModel" (209 : Nat) (68944599 : Int64)) ∈ zT := zT_in 1015 (by decide +kernel) (by decide +kernel)
theorem wd_1016 : (Jvm.Cond.methodLink "DusterRoundsModel" (211 : Nat) ({ cls := "DusterRoundsModel", name := "isWord", desc := "(J)Z" } : Jvm.MethodName)) ∈ zT := zT_in 1016 (by decide +kernel) (by decide +kernel)
theorem wd_1018 : (Jvm.Cond.instanceMethod ({ cls := "DusterRoundsModel", name := "isWord", desc := "(J)Z" } : Jvm.MethodName)) ∈ zT := zT_in 1018 (by decide +kernel) (by decide +kernel)
theorem wd_1019 : (Jvm.Cond.code ({ cls := "DusterRoundsModel", name := "isWord", desc := "(J)Z" } : Jvm.MethodName) prog_7_method_70_code (3 : Nat) (Option.some Jvm.ClassFile.FieldType.boolean)) ∈ zT := zT_in 1019 (by decide +kernel) (by decide +kernel)
theorem wd_1020 : (Jvm.Cond.constantLong "DusterRoundsModel" (215 : Nat) (117713956 : Int64)) ∈ zT := zT_in 1020 (by decide +kernel) (by decide +kernel)
theorem wd_1021 : (Jvm.Cond.constantLong "DusterRoundsModel" (217 : Nat) (3957544 : Int64)) ∈ zT := zT_in 1021 (by decide +kernel) (by decide +kernel)
theorem wd_1022 : (Jvm.Cond.constantLong "DusterRoundsModel" (219 : Nat) (464061 : Int64)) ∈ zT := zT_in 1022 (by decide +kernel) (by decide +kernel)
theorem wd_1023 : (Jvm.Cond.constantLong "DusterRoundsModel" (221 : Nat) (8984627224 : Int64)) ∈ zT := zT_in 1023 (by decide +kernel) (by decide +kernel)
theorem wd_1024 : (Jvm.Cond.constantLong "DusterRoundsModel" (223 : Nat) (380873 : Int64)) ∈ zT := zT_in 1024 (by decide +kernel) (by decide +kernel)
theorem wd_1025 : (Jvm.Cond.methodLink "DusterRoundsModel" (254 : Nat) ({ cls := "DusterRoundsModel", name := "wantOne", desc := "(I)V" } : Jvm.MethodName)) ∈ zT := zT_in 1025 (by decide +kernel) (by decide +kernel)
theorem wd_1027 : (Jvm.Cond.instanceMethod ({ cls := "DusterRoundsModel", name := "wantOne", desc := "(I)V" } : Jvm.MethodName)) ∈ zT := zT_in 1027 (by decide +kernel) (by decide +kernel)
theorem wd_1028 : (Jvm.Cond.code ({ cls := "DusterRoundsModel", name := "wantOne", desc := "(I)V" } : Jvm.MethodName) prog_7_method_75_code (4 : Nat) (Option.none : Option Jvm.ClassFile.FieldType)) ∈ zT := zT_in 1028 (by decide +kernel) (by decide +kernel)
theorem wd_1029 : (Jvm.Cond.constantLong "DusterRoundsModel" (235 : Nat) (4555648 : Int64)) ∈ zT := zT_in 1029 (by decide +kernel) (by decide +kernel)
theorem wd_1030 : (Jvm.Cond.methodLink "DusterRoundsModel" (237 : Nat) ({ cls := "DusterRoundsModel", name := "mayMemories", desc := "(J)I" } : Jvm.MethodName)) ∈ zT := zT_in 1030 (by decide +kernel) (by decide +kernel)
theorem wd_1032 : (Jvm.Cond.instanceMethod ({ cls := "DusterRoundsModel", name := "mayMemories", desc := "(J)I" } : Jvm.MethodName)) ∈ zT := zT_in 1032 (by decide +kernel) (by decide +kernel)
theorem wd_1033 : (Jvm.Cond.code ({ cls := "DusterRoundsModel", name := "mayMemories", desc := "(J)I" } : Jvm.MethodName) prog_7_method_74_code (6 : Nat) (Option.some Jvm.ClassFile.FieldType.int)) ∈ zT := zT_in 1033 (by decide +kernel) (by decide +kernel)
theorem wd_1034 : (Jvm.Cond.methodLink "DusterRoundsModel" (232 : Nat) ({ cls := "DusterRoundsModel", name := "wantNumber", desc := "(II)I" } : Jvm.MethodName)) ∈ zT := zT_in 1034 (by decide +kernel) (by decide +kernel)
theorem wd_1036 : (Jvm.Cond.instanceMethod ({ cls := "DusterRoundsModel", name := "wantNumber", desc := "(II)I" } : Jvm.MethodName)) ∈ zT := zT_in 1036 (by decide +kernel) (by decide +kernel)
theorem wd_1037 : (Jvm.Cond.code ({ cls := "DusterRoundsModel", name := "wantNumber", desc := "(II)I" } : Jvm.MethodName) prog_7_method_72_code (4 : Nat) (Option.some Jvm.ClassFile.FieldType.int)) ∈ zT := zT_in 1037 (by decide +kernel) (by decide +kernel)
theorem wd_1038 : (Jvm.Cond.constantLong "DusterRoundsModel" (241 : Nat) (4081298 : Int64)) ∈ zT := zT_in 1038 (by decide +kernel) (by decide +kernel)
theorem wd_1039 : (Jvm.Cond.methodLink "DusterRoundsModel" (243 : Nat) ({ cls := "DusterRoundsModel", name := "mayWant", desc := "(JIII)I" } : Jvm.MethodName)) ∈ zT := zT_in 1039 (by decide +kernel) (by decide +kernel)
theorem wd_1041 : (Jvm.Cond.instanceMethod ({ cls := "DusterRoundsModel", name := "mayWant", desc := "(JIII)I" } : Jvm.MethodName)) ∈ zT := zT_in 1041 (by decide +kernel) (by decide +kernel)
theorem wd_1042 : (Jvm.Cond.code ({ cls := "DusterRoundsModel", name := "mayWant", desc := "(JIII)I" } : Jvm.MethodName) prog_7_method_73_code (6 : Nat) (Option.some Jvm.ClassFile.FieldType.int)) ∈ zT := zT_in 1042 (by decide +kernel) (by decide +kernel)
theorem wd_1043 : (Jvm.Cond.constantLong "DusterRoundsModel" (257 : Nat) (365647 : Int64)) ∈ zT := zT_in 1043 (by decide +kernel) (by decide +kernel)
theorem wd_1044 : (Jvm.Cond.methodLink "DusterRoundsModel" (259 : Nat) ({ cls := "DusterRoundsModel", name := "wantRoom", desc := "()V" } : Jvm.MethodName)) ∈ zT := zT_in 1044 (by decide +kernel) (by decide +kernel)
theorem wd_1046 : (Jvm.Cond.instanceMethod ({ cls := "DusterRoundsModel", name := "wantRoom", desc := "()V" } : Jvm.MethodName)) ∈ zT := zT_in 1046 (by decide +kernel) (by decide +kernel)
theorem wd_1047 : (Jvm.Cond.code ({ cls := "DusterRoundsModel", name := "wantRoom", desc := "()V" } : Jvm.MethodName) prog_7_method_76_code (4 : Nat) (Option.none : Option Jvm.ClassFile.FieldType)) ∈ zT := zT_in 1047 (by decide +kernel) (by decide +kernel)
theorem wd_1048 : (Jvm.Cond.constantLong "DusterRoundsModel" (247 : Nat) (94574 : Int64)) ∈ zT := zT_in 1048 (by decide +kernel) (by decide +kernel)
theorem wd_1049 : (Jvm.Cond.constantLong "DusterRoundsModel" (249 : Nat) (5878 : Int64)) ∈ zT := zT_in 1049 (by decide +kernel) (by decide +kernel)
theorem wd_1050 : (Jvm.Cond.constantLong "DusterRoundsModel" (262 : Nat) (3217420 : Int64)) ∈ zT := zT_in 1050 (by decide +kernel) (by decide +kernel)
theorem wd_1051 : (Jvm.Cond.constantLong "DusterRoundsModel" (264 : Nat) (453959 : Int64)) ∈ zT := zT_in 1051 (by decide +kernel) (by decide +kernel)
theorem wd_1052 : (Jvm.Cond.methodLink "DusterRoundsLaw" (132 : Nat) ({ cls := "DusterRoundsModel", name := "sheet", desc := "(III)I" } : Jvm.MethodName)) ∈ zT := zT_in 1052 (by decide +kernel) (by decide +kernel)
theorem wd_1053 : (Jvm.Cond.instanceMethod ({ cls := "DusterRoundsModel", name := "sheet", desc := "(III)I" } : Jvm.MethodName)) ∈ zT := zT_in 1053 (by decide +kernel) (by decide +kernel)
theorem wd_1054 : (Jvm.Cond.selects "DusterRoundsModel" ({ cls := "DusterRoundsModel", name := "sheet", desc := "(III)I" } : Jvm.MethodName) ({ cls := "DusterRoundsModel", name := "sheet", desc := "(III)I" } : Jvm.MethodName)) ∈ zT := zT_in 1054 (by decide +kernel) (by decide +kernel)
theorem wd_1055 : (Jvm.Cond.code ({ cls := "DusterRoundsModel", name := "sheet", desc := "(III)I" } : Jvm.MethodName) prog_7_method_81_code (5 : Nat) (Option.some Jvm.ClassFile.FieldType.int)) ∈ zT := zT_in 1055 (by decide +kernel) (by decide +kernel)
theorem wd_1056 : (Jvm.Cond.methodLink "DusterRoundsModel" (269 : Nat) ({ cls := "DusterRoundsModel", name := "isSheet", desc := "(I)Z" } : Jvm.MethodName)) ∈ zT := zT_in 1056 (by decide +kernel) (by decide +kernel)
theorem wd_1057 : (Jvm.Cond.static ({ cls := "DusterRoundsModel", name := "isSheet", desc := "(I)Z" } : Jvm.MethodName)) ∈ zT := zT_in 1057 (by decide +kernel) (by decide +kernel)
theorem wd_1058 : (Jvm.Cond.code ({ cls := "DusterRoundsModel", name := "isSheet", desc := "(I)Z" } : Jvm.MethodName) prog_7_method_79_code (1 : Nat) (Option.some Jvm.ClassFile.FieldType.boolean)) ∈ zT := zT_in 1058 (by decide +kernel) (by decide +kernel)
theorem wd_1059 : (Jvm.Cond.constant "DusterRoundsModel" (272 : Nat) (-1000000007 : Int32)) ∈ zT := zT_in 1059 (by decide +kernel) (by decide +kernel)
theorem wd_1060 : (Jvm.Cond.methodLink "DusterRoundsLaw" (139 : Nat) ({ cls := "DusterRoundsModel", name := "write", desc := "(IIJ)J" } : Jvm.MethodName)) ∈ zT := zT_in 1060 (by decide +kernel) (by decide +kernel)
theorem wd_1061 : (Jvm.Cond.instanceMethod ({ cls := "DusterRoundsModel", name := "write", desc := "(IIJ)J" } : Jvm.MethodName)) ∈ zT := zT_in 1061 (by decide +kernel) (by decide +kernel)
theorem wd_1062 : (Jvm.Cond.selects "DusterRoundsModel" ({ cls := "DusterRoundsModel", name := "write", desc := "(IIJ)J" } : Jvm.MethodName) ({ cls := "DusterRoundsModel", name := "write", desc := "(IIJ)J" } : Jvm.MethodName)) ∈ zT := zT_in 1062 (by decide +kernel) (by decide +kernel)
theorem wd_1063 : (Jvm.Cond.code ({ cls := "DusterRoundsModel", name := "write", desc := "(IIJ)J" } : Jvm.MethodName) prog_7_method_82_code (7 : Nat) (Option.some Jvm.ClassFile.FieldType.long)) ∈ zT := zT_in 1063 (by decide +kernel) (by decide +kernel)
theorem wd_1064 : (Jvm.Cond.constant "DusterRoundsModel" (273 : Nat) (-1000000006 : Int32)) ∈ zT := zT_in 1064 (by decide +kernel) (by decide +kernel)
theorem wd_1065 : (Jvm.Cond.methodLink "DusterRoundsModel" (274 : Nat) ({ cls := "DusterRoundsModel", name := "narrow", desc := "(IJ)J" } : Jvm.MethodName)) ∈ zT := zT_in 1065 (by decide +kernel) (by decide +kernel)
theorem wd_1066 : (Jvm.Cond.static ({ cls := "DusterRoundsModel", name := "narrow", desc := "(IJ)J" } : Jvm.MethodName)) ∈ zT := zT_in 1066 (by decide +kernel) (by decide +kernel)
theorem wd_1067 : (Jvm.Cond.code ({ cls := "DusterRoundsModel", name := "narrow", desc := "(IJ)J" } : Jvm.MethodName) prog_7_method_80_code (3 : Nat) (Option.some Jvm.ClassFile.FieldType.long)) ∈ zT := zT_in 1067 (by decide +kernel) (by decide +kernel)
theorem wd_1068 : (Jvm.Cond.methodLink "DusterRoundsLaw" (144 : Nat) ({ cls := "DusterRoundsModel", name := "copy", desc := "(IIIII)I" } : Jvm.MethodName)) ∈ zT := zT_in 1068 (by decide +kernel) (by decide +kernel)
theorem wd_1069 : (Jvm.Cond.instanceMethod ({ cls := "DusterRoundsModel", name := "copy", desc := "(IIIII)I" } : Jvm.MethodName)) ∈ zT := zT_in 1069 (by decide +kernel) (by decide +kernel)
theorem wd_1070 : (Jvm.Cond.selects "DusterRoundsModel" ({ cls := "DusterRoundsModel", name := "copy", desc := "(IIIII)I" } : Jvm.MethodName) ({ cls := "DusterRoundsModel", name := "copy", desc := "(IIIII)I" } : Jvm.MethodName)) ∈ zT := zT_in 1070 (by decide +kernel) (by decide +kernel)
theorem wd_1071 : (Jvm.Cond.code ({ cls := "DusterRoundsModel", name := "copy", desc := "(IIIII)I" } : Jvm.MethodName) prog_7_method_84_code (7 : Nat) (Option.some Jvm.ClassFile.FieldType.int)) ∈ zT := zT_in 1071 (by decide +kernel) (by decide +kernel)
theorem wd_1072 : (Jvm.Cond.methodLink "DusterRoundsModel" (278 : Nat) ({ cls := "DusterRoundsModel", name := "isPart", desc := "(III)Z" } : Jvm.MethodName)) ∈ zT := zT_in 1072 (by decide +kernel) (by decide +kernel)
theorem wd_1074 : (Jvm.Cond.instanceMethod ({ cls := "DusterRoundsModel", name := "isPart", desc := "(III)Z" } : Jvm.MethodName)) ∈ zT := zT_in 1074 (by decide +kernel) (by decide +kernel)
theorem wd_1075 : (Jvm.Cond.code ({ cls := "DusterRoundsModel", name := "isPart", desc := "(III)Z" } : Jvm.MethodName) prog_7_method_83_code (4 : Nat) (Option.some Jvm.ClassFile.FieldType.boolean)) ∈ zT := zT_in 1075 (by decide +kernel) (by decide +kernel)
theorem wd_1076 : (Jvm.Cond.methodLink "DusterRoundsLaw" (148 : Nat) ({ cls := "DusterRoundsModel", name := "lays", desc := "(I)I" } : Jvm.MethodName)) ∈ zT := zT_in 1076 (by decide +kernel) (by decide +kernel)
theorem wd_1077 : (Jvm.Cond.instanceMethod ({ cls := "DusterRoundsModel", name := "lays", desc := "(I)I" } : Jvm.MethodName)) ∈ zT := zT_in 1077 (by decide +kernel) (by decide +kernel)
theorem wd_1078 : (Jvm.Cond.selects "DusterRoundsModel" ({ cls := "DusterRoundsModel", name := "lays", desc := "(I)I" } : Jvm.MethodName) ({ cls := "DusterRoundsModel", name := "lays", desc := "(I)I" } : Jvm.MethodName)) ∈ zT := zT_in 1078 (by decide +kernel) (by decide +kernel)
theorem wd_1079 : (Jvm.Cond.code ({ cls := "DusterRoundsModel", name := "lays", desc := "(I)I" } : Jvm.MethodName) prog_7_method_86_code (7 : Nat) (Option.some Jvm.ClassFile.FieldType.int)) ∈ zT := zT_in 1079 (by decide +kernel) (by decide +kernel)
theorem wd_1080 : (Jvm.Cond.methodLink "DusterRoundsModel" (280 : Nat) ({ cls := "DusterRoundsModel", name := "badSheet", desc := "(I)I" } : Jvm.MethodName)) ∈ zT := zT_in 1080 (by decide +kernel) (by decide +kernel)
theorem wd_1082 : (Jvm.Cond.instanceMethod ({ cls := "DusterRoundsModel", name := "badSheet", desc := "(I)I" } : Jvm.MethodName)) ∈ zT := zT_in 1082 (by decide +kernel) (by decide +kernel)
theorem wd_1083 : (Jvm.Cond.code ({ cls := "DusterRoundsModel", name := "badSheet", desc := "(I)I" } : Jvm.MethodName) prog_7_method_85_code (2 : Nat) (Option.some Jvm.ClassFile.FieldType.int)) ∈ zT := zT_in 1083 (by decide +kernel) (by decide +kernel)
theorem wd_1084 : (Jvm.Cond.constantLong "DusterRoundsModel" (283 : Nat) (1023 : Int64)) ∈ zT := zT_in 1084 (by decide +kernel) (by decide +kernel)
theorem wd_1085 : (Jvm.Cond.methodLink "DusterRoundsLaw" (152 : Nat) ({ cls := "DusterRoundsModel", name := "book", desc := "(II)I" } : Jvm.MethodName)) ∈ zT := zT_in 1085 (by decide +kernel) (by decide +kernel)
theorem wd_1086 : (Jvm.Cond.instanceMethod ({ cls := "DusterRoundsModel", name := "book", desc := "(II)I" } : Jvm.MethodName)) ∈ zT := zT_in 1086 (by decide +kernel) (by decide +kernel)
theorem wd_1087 : (Jvm.Cond.selects "DusterRoundsModel" ({ cls := "DusterRoundsModel", name := "book", desc := "(II)I" } : Jvm.MethodName) ({ cls := "DusterRoundsModel", name := "book", desc := "(II)I" } : Jvm.MethodName)) ∈ zT := zT_in 1087 (by decide +kernel) (by decide +kernel)
theorem wd_1088 : (Jvm.Cond.code ({ cls := "DusterRoundsModel", name := "book", desc := "(II)I" } : Jvm.MethodName) prog_7_method_87_code (5 : Nat) (Option.some Jvm.ClassFile.FieldType.int)) ∈ zT := zT_in 1088 (by decide +kernel) (by decide +kernel)
theorem wd_1089 : (Jvm.Cond.methodLink "DusterRoundsLaw" (156 : Nat) ({ cls := "DusterRoundsModel", name := "read", desc := "(III)I" } : Jvm.MethodName)) ∈ zT := zT_in 1089 (by decide +kernel) (by decide +kernel)
theorem wd_1090 : (Jvm.Cond.instanceMethod ({ cls := "DusterRoundsModel", name := "read", desc := "(III)I" } : Jvm.MethodName)) ∈ zT := zT_in 1090 (by decide +kernel) (by decide +kernel)
theorem wd_1091 : (Jvm.Cond.selects "DusterRoundsModel" ({ cls := "DusterRoundsModel", name := "read", desc := "(III)I" } : Jvm.MethodName) ({ cls := "DusterRoundsModel", name := "read", desc := "(III)I" } : Jvm.MethodName)) ∈ zT := zT_in 1091 (by decide +kernel) (by decide +kernel)
theorem wd_1092 : (Jvm.Cond.code ({ cls := "DusterRoundsModel", name := "read", desc := "(III)I" } : Jvm.MethodName) prog_7_method_89_code (7 : Nat) (Option.some Jvm.ClassFile.FieldType.int)) ∈ zT := zT_in 1092 (by decide +kernel) (by decide +kernel)
theorem wd_1093 : (Jvm.Cond.methodLink "DusterRoundsModel" (285 : Nat) ({ cls := "DusterRoundsModel", name := "isSo", desc := "(II)Z" } : Jvm.MethodName)) ∈ zT := zT_in 1093 (by decide +kernel) (by decide +kernel)
theorem wd_1095 : (Jvm.Cond.instanceMethod ({ cls := "DusterRoundsModel", name := "isSo", desc := "(II)Z" } : Jvm.MethodName)) ∈ zT := zT_in 1095 (by decide +kernel) (by decide +kernel)
theorem wd_1096 : (Jvm.Cond.code ({ cls := "DusterRoundsModel", name := "isSo", desc := "(II)Z" } : Jvm.MethodName) prog_7_method_88_code (5 : Nat) (Option.some Jvm.ClassFile.FieldType.boolean)) ∈ zT := zT_in 1096 (by decide +kernel) (by decide +kernel)
theorem wd_1097 : (Jvm.Cond.methodLink "DusterRoundsLaw" (160 : Nat) ({ cls := "DusterRoundsModel", name := "image", desc := "()I" } : Jvm.MethodName)) ∈ zT := zT_in 1097 (by decide +kernel) (by decide +kernel)
theorem wd_1098 : (Jvm.Cond.instanceMethod ({ cls := "DusterRoundsModel", name := "image", desc := "()I" } : Jvm.MethodName)) ∈ zT := zT_in 1098 (by decide +kernel) (by decide +kernel)
theorem wd_1099 : (Jvm.Cond.selects "DusterRoundsModel" ({ cls := "DusterRoundsModel", name := "image", desc := "()I" } : Jvm.MethodName) ({ cls := "DusterRoundsModel", name := "image", desc := "()I" } : Jvm.MethodName)) ∈ zT := zT_in 1099 (by decide +kernel) (by decide +kernel)
theorem wd_1100 : (Jvm.Cond.code ({ cls := "DusterRoundsModel", name := "image", desc := "()I" } : Jvm.MethodName) prog_7_method_91_code (1 : Nat) (Option.some Jvm.ClassFile.FieldType.int)) ∈ zT := zT_in 1100 (by decide +kernel) (by decide +kernel)
theorem wd_1101 : (Jvm.Cond.methodLink "DusterRoundsLaw" (164 : Nat) ({ cls := "DusterRoundsModel", name := "undo", desc := "()I" } : Jvm.MethodName)) ∈ zT := zT_in 1101 (by decide +kernel) (by decide +kernel)
theorem wd_1102 : (Jvm.Cond.instanceMethod ({ cls := "DusterRoundsModel", name := "undo", desc := "()I" } : Jvm.MethodName)) ∈ zT := zT_in 1102 (by decide +kernel) (by decide +kernel)
theorem wd_1103 : (Jvm.Cond.selects "DusterRoundsModel" ({ cls := "DusterRoundsModel", name := "undo", desc := "()I" } : Jvm.MethodName) ({ cls := "DusterRoundsModel", name := "undo", desc := "()I" } : Jvm.MethodName)) ∈ zT := zT_in 1103 (by decide +kernel) (by decide +kernel)
theorem wd_1104 : (Jvm.Cond.code ({ cls := "DusterRoundsModel", name := "undo", desc := "()I" } : Jvm.MethodName) prog_7_method_92_code (1 : Nat) (Option.some Jvm.ClassFile.FieldType.int)) ∈ zT := zT_in 1104 (by decide +kernel) (by decide +kernel)
theorem wd_1105 : (Jvm.Cond.methodLink "DusterRoundsLaw" (168 : Nat) ({ cls := "DusterRoundsModel", name := "tear", desc := "()I" } : Jvm.MethodName)) ∈ zT := zT_in 1105 (by decide +kernel) (by decide +kernel)
theorem wd_1106 : (Jvm.Cond.instanceMethod ({ cls := "DusterRoundsModel", name := "tear", desc := "()I" } : Jvm.MethodName)) ∈ zT := zT_in 1106 (by decide +kernel) (by decide +kernel)
theorem wd_1107 : (Jvm.Cond.selects "DusterRoundsModel" ({ cls := "DusterRoundsModel", name := "tear", desc := "()I" } : Jvm.MethodName) ({ cls := "DusterRoundsModel", name := "tear", desc := "()I" } : Jvm.MethodName)) ∈ zT := zT_in 1107 (by decide +kernel) (by decide +kernel)
theorem wd_1108 : (Jvm.Cond.code ({ cls := "DusterRoundsModel", name := "tear", desc := "()I" } : Jvm.MethodName) prog_7_method_93_code (2 : Nat) (Option.some Jvm.ClassFile.FieldType.int)) ∈ zT := zT_in 1108 (by decide +kernel) (by decide +kernel)
theorem wd_1109 : (Jvm.Cond.methodLink "DusterRoundsLaw" (172 : Nat) ({ cls := "DusterRoundsModel", name := "count", desc := "(I)I" } : Jvm.MethodName)) ∈ zT := zT_in 1109 (by decide +kernel) (by decide +kernel)
theorem wd_1110 : (Jvm.Cond.instanceMethod ({ cls := "DusterRoundsModel", name := "count", desc := "(I)I" } : Jvm.MethodName)) ∈ zT := zT_in 1110 (by decide +kernel) (by decide +kernel)
theorem wd_1111 : (Jvm.Cond.selects "DusterRoundsModel" ({ cls := "DusterRoundsModel", name := "count", desc := "(I)I" } : Jvm.MethodName) ({ cls := "DusterRoundsModel", name := "count", desc := "(I)I" } : Jvm.MethodName)) ∈ zT := zT_in 1111 (by decide +kernel) (by decide +kernel)
theorem wd_1112 : (Jvm.Cond.code ({ cls := "DusterRoundsModel", name := "count", desc := "(I)I" } : Jvm.MethodName) prog_7_method_95_code (2 : Nat) (Option.some Jvm.ClassFile.FieldType.int)) ∈ zT := zT_in 1112 (by decide +kernel) (by decide +kernel)
theorem wd_1113 : (Jvm.Cond.methodLink "DusterRoundsModel" (291 : Nat) ({ cls := "DusterRoundsModel", name := "grimeOfAll", desc := "()I" } : Jvm.MethodName)) ∈ zT := zT_in 1113 (by decide +kernel) (by decide +kernel)
theorem wd_1115 : (Jvm.Cond.instanceMethod ({ cls := "DusterRoundsModel", name := "grimeOfAll", desc := "()I" } : Jvm.MethodName)) ∈ zT := zT_in 1115 (by decide +kernel) (by decide +kernel)
theorem wd_1116 : (Jvm.Cond.code ({ cls := "DusterRoundsModel", name := "grimeOfAll", desc := "()I" } : Jvm.MethodName) prog_7_method_94_code (3 : Nat) (Option.some Jvm.ClassFile.FieldType.int)) ∈ zT := zT_in 1116 (by decide +kernel) (by decide +kernel)
theorem wd_1117 : (Jvm.Cond.methodLink "DusterRoundsLaw" (176 : Nat) ({ cls := "DusterRoundsModel", name := "status", desc := "(I)I" } : Jvm.MethodName)) ∈ zT := zT_in 1117 (by decide +kernel) (by decide +kernel)
theorem wd_1118 : (Jvm.Cond.instanceMethod ({ cls := "DusterRoundsModel", name := "status", desc := "(I)I" } : Jvm.MethodName)) ∈ zT := zT_in 1118 (by decide +kernel) (by decide +kernel)
theorem wd_1119 : (Jvm.Cond.selects "DusterRoundsModel" ({ cls := "DusterRoundsModel", name := "status", desc := "(I)I" } : Jvm.MethodName) ({ cls := "DusterRoundsModel", name := "status", desc := "(I)I" } : Jvm.MethodName)) ∈ zT := zT_in 1119 (by decide +kernel) (by decide +kernel)
theorem wd_1120 : (Jvm.Cond.code ({ cls := "DusterRoundsModel", name := "status", desc := "(I)I" } : Jvm.MethodName) prog_7_method_96_code (4 : Nat) (Option.some Jvm.ClassFile.FieldType.int)) ∈ zT := zT_in 1120 (by decide +kernel) (by decide +kernel)
theorem wd_1121 : (Jvm.Cond.constantLong "DusterRoundsLaw" (133 : Nat) (4294967295 : Int64)) ∈ zT := zT_in 1121 (by decide +kernel) (by decide +kernel)
theorem wd_1122 : (Jvm.Cond.fieldLink "java/lang/String" (9 : Nat) "java/lang/String" "value" "[B") ∈ zT := zT_in 1122 (by decide +kernel) (by decide +kernel)
theorem wd_1123 : (Jvm.Cond.fieldLink "java/lang/String" (15 : Nat) "java/lang/String" "coder" "B") ∈ zT := zT_in 1123 (by decide +kernel) (by decide +kernel)
end
section
theorem dX0_init_0 : decode cX0_init 0 = .ok (.aload_n 0, 1) := by decide +kernel
theorem dX0_init_1 : decode cX0_init 1 = .ok (.invokespecial 3, 3) := by decide +kernel
theorem dX0_init_4 : decode cX0_init 4 = .ok (.aload_n 0, 1) := by decide +kernel
theorem dX0_init_5 : decode cX0_init 5 = .ok (.bipush 8, 2) := by decide +kernel
theorem dX0_init_7 : decode cX0_init 7 = .ok (.newarray .int, 2) := by decide +kernel
theorem dX0_init_9 : decode cX0_init 9 = .ok (.putfield 9, 3) := by decide +kernel
theorem dX0_init_12 : decode cX0_init 12 = .ok (.aload_n 0, 1) := by decide +kernel
theorem dX0_init_13 : decode cX0_init 13 = .ok (.bipush 8, 2) := by decide +kernel
theorem dX0_init_15 : decode cX0_init 15 = .ok (.newarray .int, 2) := by decide +kernel
theorem dX0_init_17 : decode cX0_init 17 = .ok (.putfield 15, 3) := by decide +kernel
theorem dX0_init_20 : decode cX0_init 20 = .ok (.aload_n 0, 1) := by decide +kernel
theorem dX0_init_21 : decode cX0_init 21 = .ok (.bipush 8, 2) := by decide +kernel
theorem dX0_init_23 : decode cX0_init 23 = .ok (.newarray .int, 2) := by decide +kernel
theorem dX0_init_25 : decode cX0_init 25 = .ok (.putfield 18, 3) := by decide +kernel
theorem dX0_init_28 : decode cX0_init 28 = .ok (.aload_n 0, 1) := by decide +kernel
theorem dX0_init_29 : decode cX0_init 29 = .ok (.bipush 8, 2) := by decide +kernel
theorem dX0_init_31 : decode cX0_init 31 = .ok (.newarray .int, 2) := by decide +kernel
theorem dX0_init_33 : decode cX0_init 33 = .ok (.putfield 21, 3) := by decide +kernel
theorem dX0_init_36 : decode cX0_init 36 = .ok (.aload_n 0, 1) := by decide +kernel
theorem dX0_init_37 : decode cX0_init 37 = .ok (.bipush 8, 2) := by decide +kernel
theorem dX0_init_39 : decode cX0_init 39 = .ok (.newarray .int, 2) := by decide +kernel
theorem dX0_init_41 : decode cX0_init 41 = .ok (.putfield 24, 3) := by decide +kernel
theorem dX0_init_44 : decode cX0_init 44 = .ok (.aload_n 0, 1) := by decide +kernel
theorem dX0_init_45 : decode cX0_init 45 = .ok (.bipush 8, 2) := by decide +kernel
theorem dX0_init_47 : decode cX0_init 47 = .ok (.newarray .int, 2) := by decide +kernel
theorem dX0_init_49 : decode cX0_init 49 = .ok (.putfield 27, 3) := by decide +kernel
theorem dX0_init_52 : decode cX0_init 52 = .ok (.aload_n 0, 1) := by decide +kernel
theorem dX0_init_53 : decode cX0_init 53 = .ok (.iconst 0, 1) := by decide +kernel
theorem dX0_init_54 : decode cX0_init 54 = .ok (.putfield 30, 3) := by decide +kernel
theorem dX0_init_57 : decode cX0_init 57 = .ok (.aload_n 0, 1) := by decide +kernel
theorem dX0_init_58 : decode cX0_init 58 = .ok (.iconst 3, 1) := by decide +kernel
theorem dX0_init_59 : decode cX0_init 59 = .ok (.putfield 34, 3) := by decide +kernel
theorem dX0_init_62 : decode cX0_init 62 = .ok (.aload_n 0, 1) := by decide +kernel
theorem dX0_init_63 : decode cX0_init 63 = .ok (.iconst 0, 1) := by decide +kernel
theorem dX0_init_64 : decode cX0_init 64 = .ok (.putfield 37, 3) := by decide +kernel
theorem dX0_init_67 : decode cX0_init 67 = .ok (.iconst 0, 1) := by decide +kernel
theorem dX0_init_68 : decode cX0_init 68 = .ok (.istore_n 1, 1) := by decide +kernel
theorem dX0_init_69 : decode cX0_init 69 = .ok (.iload_n 1, 1) := by decide +kernel
theorem dX0_init_70 : decode cX0_init 70 = .ok (.bipush 8, 2) := by decide +kernel
theorem dX0_init_72 : decode cX0_init 72 = .ok (.if_icmp .ge 17, 3) := by decide +kernel
theorem dX0_init_75 : decode cX0_init 75 = .ok (.aload_n 0, 1) := by decide +kernel
theorem dX0_init_76 : decode cX0_init 76 = .ok (.getfield 9, 3) := by decide +kernel
theorem dX0_init_79 : decode cX0_init 79 = .ok (.iload_n 1, 1) := by decide +kernel
theorem dX0_init_80 : decode cX0_init 80 = .ok (.bipush 20, 2) := by decide +kernel
theorem dX0_init_82 : decode cX0_init 82 = .ok (.iastore, 1) := by decide +kernel
theorem dX0_init_83 : decode cX0_init 83 = .ok (.iinc 1 1, 3) := by decide +kernel
theorem dX0_init_86 : decode cX0_init 86 = .ok (.goto (-17), 3) := by decide +kernel
theorem dX0_init_89 : decode cX0_init 89 = .ok (.return_, 1) := by decide +kernel
theorem dX0_becomeAs_0 : decode cX0_becomeAs 0 = .ok (.aload_n 0, 1) := by decide +kernel
theorem dX0_becomeAs_1 : decode cX0_becomeAs 1 = .ok (.aload_n 1, 1) := by decide +kernel
theorem dX0_becomeAs_2 : decode cX0_becomeAs 2 = .ok (.getfield 30, 3) := by decide +kernel
theorem dX0_becomeAs_5 : decode cX0_becomeAs 5 = .ok (.putfield 30, 3) := by decide +kernel
theorem dX0_becomeAs_8 : decode cX0_becomeAs 8 = .ok (.aload_n 0, 1) := by decide +kernel
theorem dX0_becomeAs_9 : decode cX0_becomeAs 9 = .ok (.aload_n 1, 1) := by decide +kernel
theorem dX0_becomeAs_10 : decode cX0_becomeAs 10 = .ok (.getfield 34, 3) := by decide +kernel
theorem dX0_becomeAs_13 : decode cX0_becomeAs 13 = .ok (.putfield 34, 3) := by decide +kernel
theorem dX0_becomeAs_16 : decode cX0_becomeAs 16 = .ok (.aload_n 0, 1) := by decide +kernel
theorem dX0_becomeAs_17 : decode cX0_becomeAs 17 = .ok (.aload_n 1, 1) := by decide +kernel
theorem dX0_becomeAs_18 : decode cX0_becomeAs 18 = .ok (.getfield 37, 3) := by decide +kernel
theorem dX0_becomeAs_21 : decode cX0_becomeAs 21 = .ok (.putfield 37, 3) := by decide +kernel
theorem dX0_becomeAs_24 : decode cX0_becomeAs 24 = .ok (.aload_n 1, 1) := by decide +kernel
theorem dX0_becomeAs_25 : decode cX0_becomeAs 25 = .ok (.getfield 9, 3) := by decide +kernel
theorem dX0_becomeAs_28 : decode cX0_becomeAs 28 = .ok (.iconst 0, 1) := by decide +kernel
theorem dX0_becomeAs_29 : decode cX0_becomeAs 29 = .ok (.aload_n 0, 1) := by decide +kernel
theorem dX0_becomeAs_30 : decode cX0_becomeAs 30 = .ok (.getfield 9, 3) := by decide +kernel
theorem dX0_becomeAs_33 : decode cX0_becomeAs 33 = .ok (.iconst 0, 1) := by decide +kernel
theorem dX0_becomeAs_34 : decode cX0_becomeAs 34 = .ok (.bipush 8, 2) := by decide +kernel
theorem dX0_becomeAs_36 : decode cX0_becomeAs 36 = .ok (.invokestatic 40, 3) := by decide +kernel
theorem dX0_becomeAs_39 : decode cX0_becomeAs 39 = .ok (.aload_n 1, 1) := by decide +kernel
theorem dX0_becomeAs_40 : decode cX0_becomeAs 40 = .ok (.getfield 15, 3) := by decide +kernel
theorem dX0_becomeAs_43 : decode cX0_becomeAs 43 = .ok (.iconst 0, 1) := by decide +kernel
theorem dX0_becomeAs_44 : decode cX0_becomeAs 44 = .ok (.aload_n 0, 1) := by decide +kernel
theorem dX0_becomeAs_45 : decode cX0_becomeAs 45 = .ok (.getfield 15, 3) := by decide +kernel
theorem dX0_becomeAs_48 : decode cX0_becomeAs 48 = .ok (.iconst 0, 1) := by decide +kernel
theorem dX0_becomeAs_49 : decode cX0_becomeAs 49 = .ok (.bipush 8, 2) := by decide +kernel
theorem dX0_becomeAs_51 : decode cX0_becomeAs 51 = .ok (.invokestatic 40, 3) := by decide +kernel
theorem dX0_becomeAs_54 : decode cX0_becomeAs 54 = .ok (.aload_n 1, 1) := by decide +kernel
theorem dX0_becomeAs_55 : decode cX0_becomeAs 55 = .ok (.getfield 18, 3) := by decide +kernel
theorem dX0_becomeAs_58 : decode cX0_becomeAs 58 = .ok (.iconst 0, 1) := by decide +kernel
theorem dX0_becomeAs_59 : decode cX0_becomeAs 59 = .ok (.aload_n 0, 1) := by decide +kernel
theorem dX0_becomeAs_60 : decode cX0_becomeAs 60 = .ok (.getfield 18, 3) := by decide +kernel
theorem dX0_becomeAs_63 : decode cX0_becomeAs 63 = .ok (.iconst 0, 1) := by decide +kernel
theorem dX0_becomeAs_64 : decode cX0_becomeAs 64 = .ok (.bipush 8, 2) := by decide +kernel
theorem dX0_becomeAs_66 : decode cX0_becomeAs 66 = .ok (.invokestatic 40, 3) := by decide +kernel
theorem dX0_becomeAs_69 : decode cX0_becomeAs 69 = .ok (.aload_n 1, 1) := by decide +kernel
theorem dX0_becomeAs_70 : decode cX0_becomeAs 70 = .ok (.getfield 21, 3) := by decide +kernel
theorem dX0_becomeAs_73 : decode cX0_becomeAs 73 = .ok (.iconst 0, 1) := by decide +kernel
theorem dX0_becomeAs_74 : decode cX0_becomeAs 74 = .ok (.aload_n 0, 1) := by decide +kernel
theorem dX0_becomeAs_75 : decode cX0_becomeAs 75 = .ok (.getfield 21, 3) := by decide +kernel
theorem dX0_becomeAs_78 : decode cX0_becomeAs 78 = .ok (.iconst 0, 1) := by decide +kernel
theorem dX0_becomeAs_79 : decode cX0_becomeAs 79 = .ok (.bipush 8, 2) := by decide +kernel
theorem dX0_becomeAs_81 : decode cX0_becomeAs 81 = .ok (.invokestatic 40, 3) := by decide +kernel
theorem dX0_becomeAs_84 : decode cX0_becomeAs 84 = .ok (.aload_n 1, 1) := by decide +kernel
theorem dX0_becomeAs_85 : decode cX0_becomeAs 85 = .ok (.getfield 24, 3) := by decide +kernel
theorem dX0_becomeAs_88 : decode cX0_becomeAs 88 = .ok (.iconst 0, 1) := by decide +kernel
theorem dX0_becomeAs_89 : decode cX0_becomeAs 89 = .ok (.aload_n 0, 1) := by decide +kernel
theorem dX0_becomeAs_90 : decode cX0_becomeAs 90 = .ok (.getfield 24, 3) := by decide +kernel
theorem dX0_becomeAs_93 : decode cX0_becomeAs 93 = .ok (.iconst 0, 1) := by decide +kernel
theorem dX0_becomeAs_94 : decode cX0_becomeAs 94 = .ok (.bipush 8, 2) := by decide +kernel
theorem dX0_becomeAs_96 : decode cX0_becomeAs 96 = .ok (.invokestatic 40, 3) := by decide +kernel
theorem dX0_becomeAs_99 : decode cX0_becomeAs 99 = .ok (.aload_n 1, 1) := by decide +kernel
theorem dX0_becomeAs_100 : decode cX0_becomeAs 100 = .ok (.getfield 27, 3) := by decide +kernel
theorem dX0_becomeAs_103 : decode cX0_becomeAs 103 = .ok (.iconst 0, 1) := by decide +kernel
theorem dX0_becomeAs_104 : decode cX0_becomeAs 104 = .ok (.aload_n 0, 1) := by decide +kernel
theorem dX0_becomeAs_105 : decode cX0_becomeAs 105 = .ok (.getfield 27, 3) := by decide +kernel
theorem dX0_becomeAs_108 : decode cX0_becomeAs 108 = .ok (.iconst 0, 1) := by decide +kernel
theorem dX0_becomeAs_109 : decode cX0_becomeAs 109 = .ok (.bipush 8, 2) := by decide +kernel
theorem dX0_becomeAs_111 : decode cX0_becomeAs 111 = .ok (.invokestatic 40, 3) := by decide +kernel
theorem dX0_becomeAs_114 : decode cX0_becomeAs 114 = .ok (.return_, 1) := by decide +kernel
theorem dX0_addDuster_0 : decode cX0_addDuster 0 = .ok (.aload_n 0, 1) := by decide +kernel
theorem dX0_addDuster_1 : decode cX0_addDuster 1 = .ok (.getfield 37, 3) := by decide +kernel
theorem dX0_addDuster_4 : decode cX0_addDuster 4 = .ok (.bipush 8, 2) := by decide +kernel
theorem dX0_addDuster_6 : decode cX0_addDuster 6 = .ok (.if_icmp .lt 5, 3) := by decide +kernel
theorem dX0_addDuster_9 : decode cX0_addDuster 9 = .ok (.iconst (-1), 1) := by decide +kernel
theorem dX0_addDuster_10 : decode cX0_addDuster 10 = .ok (.ireturn, 1) := by decide +kernel
theorem dX0_addDuster_11 : decode cX0_addDuster 11 = .ok (.aload_n 0, 1) := by decide +kernel
theorem dX0_addDuster_12 : decode cX0_addDuster 12 = .ok (.getfield 37, 3) := by decide +kernel
theorem dX0_addDuster_15 : decode cX0_addDuster 15 = .ok (.istore_n 2, 1) := by decide +kernel
theorem dX0_addDuster_16 : decode cX0_addDuster 16 = .ok (.aload_n 0, 1) := by decide +kernel
theorem dX0_addDuster_17 : decode cX0_addDuster 17 = .ok (.getfield 18, 3) := by decide +kernel
theorem dX0_addDuster_20 : decode cX0_addDuster 20 = .ok (.iload_n 2, 1) := by decide +kernel
theorem dX0_addDuster_21 : decode cX0_addDuster 21 = .ok (.iload_n 1, 1) := by decide +kernel
theorem dX0_addDuster_22 : decode cX0_addDuster 22 = .ok (.iastore, 1) := by decide +kernel
theorem dX0_addDuster_23 : decode cX0_addDuster 23 = .ok (.aload_n 0, 1) := by decide +kernel
theorem dX0_addDuster_24 : decode cX0_addDuster 24 = .ok (.getfield 21, 3) := by decide +kernel
theorem dX0_addDuster_27 : decode cX0_addDuster 27 = .ok (.iload_n 2, 1) := by decide +kernel
theorem dX0_addDuster_28 : decode cX0_addDuster 28 = .ok (.iconst 0, 1) := by decide +kernel
theorem dX0_addDuster_29 : decode cX0_addDuster 29 = .ok (.iastore, 1) := by decide +kernel
theorem dX0_addDuster_30 : decode cX0_addDuster 30 = .ok (.aload_n 0, 1) := by decide +kernel
theorem dX0_addDuster_31 : decode cX0_addDuster 31 = .ok (.getfield 24, 3) := by decide +kernel
theorem dX0_addDuster_34 : decode cX0_addDuster 34 = .ok (.iload_n 2, 1) := by decide +kernel
theorem dX0_addDuster_35 : decode cX0_addDuster 35 = .ok (.iconst 0, 1) := by decide +kernel
theorem dX0_addDuster_36 : decode cX0_addDuster 36 = .ok (.iastore, 1) := by decide +kernel
theorem dX0_addDuster_37 : decode cX0_addDuster 37 = .ok (.aload_n 0, 1) := by decide +kernel
theorem dX0_addDuster_38 : decode cX0_addDuster 38 = .ok (.getfield 27, 3) := by decide +kernel
theorem dX0_addDuster_41 : decode cX0_addDuster 41 = .ok (.iload_n 2, 1) := by decide +kernel
theorem dX0_addDuster_42 : decode cX0_addDuster 42 = .ok (.iload_n 2, 1) := by decide +kernel
theorem dX0_addDuster_43 : decode cX0_addDuster 43 = .ok (.iastore, 1) := by decide +kernel
theorem dX0_addDuster_44 : decode cX0_addDuster 44 = .ok (.aload_n 0, 1) := by decide +kernel
theorem dX0_addDuster_45 : decode cX0_addDuster 45 = .ok (.dup, 1) := by decide +kernel
theorem dX0_addDuster_46 : decode cX0_addDuster 46 = .ok (.getfield 37, 3) := by decide +kernel
theorem dX0_addDuster_49 : decode cX0_addDuster 49 = .ok (.iconst 1, 1) := by decide +kernel
theorem dX0_addDuster_50 : decode cX0_addDuster 50 = .ok (.iadd, 1) := by decide +kernel
theorem dX0_addDuster_51 : decode cX0_addDuster 51 = .ok (.putfield 37, 3) := by decide +kernel
theorem dX0_addDuster_54 : decode cX0_addDuster 54 = .ok (.iload_n 2, 1) := by decide +kernel
theorem dX0_addDuster_55 : decode cX0_addDuster 55 = .ok (.ireturn, 1) := by decide +kernel
theorem dX0_whereIs_0 : decode cX0_whereIs 0 = .ok (.aload_n 0, 1) := by decide +kernel
theorem dX0_whereIs_1 : decode cX0_whereIs 1 = .ok (.getfield 30, 3) := by decide +kernel
theorem dX0_whereIs_4 : decode cX0_whereIs 4 = .ok (.aload_n 0, 1) := by decide +kernel
theorem dX0_whereIs_5 : decode cX0_whereIs 5 = .ok (.getfield 27, 3) := by decide +kernel
theorem dX0_whereIs_8 : decode cX0_whereIs 8 = .ok (.iload_n 1, 1) := by decide +kernel
theorem dX0_whereIs_9 : decode cX0_whereIs 9 = .ok (.iaload, 1) := by decide +kernel
theorem dX0_whereIs_10 : decode cX0_whereIs 10 = .ok (.iadd, 1) := by decide +kernel
theorem dX0_whereIs_11 : decode cX0_whereIs 11 = .ok (.bipush 7, 2) := by decide +kernel
theorem dX0_whereIs_13 : decode cX0_whereIs 13 = .ok (.iand, 1) := by decide +kernel
theorem dX0_whereIs_14 : decode cX0_whereIs 14 = .ok (.ireturn, 1) := by decide +kernel
theorem dX0_whoIsIn_0 : decode cX0_whoIsIn 0 = .ok (.iconst 0, 1) := by decide +kernel
theorem dX0_whoIsIn_1 : decode cX0_whoIsIn 1 = .ok (.istore_n 2, 1) := by decide +kernel
theorem dX0_whoIsIn_2 : decode cX0_whoIsIn 2 = .ok (.iconst 0, 1) := by decide +kernel
theorem dX0_whoIsIn_3 : decode cX0_whoIsIn 3 = .ok (.istore_n 3, 1) := by decide +kernel
theorem dX0_whoIsIn_4 : decode cX0_whoIsIn 4 = .ok (.iload_n 3, 1) := by decide +kernel
theorem dX0_whoIsIn_5 : decode cX0_whoIsIn 5 = .ok (.aload_n 0, 1) := by decide +kernel
theorem dX0_whoIsIn_6 : decode cX0_whoIsIn 6 = .ok (.getfield 37, 3) := by decide +kernel
theorem dX0_whoIsIn_9 : decode cX0_whoIsIn 9 = .ok (.if_icmp .ge 24, 3) := by decide +kernel
theorem dX0_whoIsIn_12 : decode cX0_whoIsIn 12 = .ok (.aload_n 0, 1) := by decide +kernel
theorem dX0_whoIsIn_13 : decode cX0_whoIsIn 13 = .ok (.iload_n 3, 1) := by decide +kernel
theorem dX0_whoIsIn_14 : decode cX0_whoIsIn 14 = .ok (.invokevirtual 46, 3) := by decide +kernel
theorem dX0_whoIsIn_17 : decode cX0_whoIsIn 17 = .ok (.iload_n 1, 1) := by decide +kernel
theorem dX0_whoIsIn_18 : decode cX0_whoIsIn 18 = .ok (.if_icmp .ne 9, 3) := by decide +kernel
theorem dX0_whoIsIn_21 : decode cX0_whoIsIn 21 = .ok (.iload_n 2, 1) := by decide +kernel
theorem dX0_whoIsIn_22 : decode cX0_whoIsIn 22 = .ok (.iconst 1, 1) := by decide +kernel
theorem dX0_whoIsIn_23 : decode cX0_whoIsIn 23 = .ok (.iload_n 3, 1) := by decide +kernel
theorem dX0_whoIsIn_24 : decode cX0_whoIsIn 24 = .ok (.ishl, 1) := by decide +kernel
theorem dX0_whoIsIn_25 : decode cX0_whoIsIn 25 = .ok (.ior, 1) := by decide +kernel
theorem dX0_whoIsIn_26 : decode cX0_whoIsIn 26 = .ok (.istore_n 2, 1) := by decide +kernel
theorem dX0_whoIsIn_27 : decode cX0_whoIsIn 27 = .ok (.iinc 3 1, 3) := by decide +kernel
theorem dX0_whoIsIn_30 : decode cX0_whoIsIn 30 = .ok (.goto (-26), 3) := by decide +kernel
theorem dX0_whoIsIn_33 : decode cX0_whoIsIn 33 = .ok (.iload_n 2, 1) := by decide +kernel
theorem dX0_whoIsIn_34 : decode cX0_whoIsIn 34 = .ok (.ireturn, 1) := by decide +kernel
theorem dX0_goDays_0 : decode cX0_goDays 0 = .ok (.iconst 0, 1) := by decide +kernel
theorem dX0_goDays_1 : decode cX0_goDays 1 = .ok (.istore_n 2, 1) := by decide +kernel
theorem dX0_goDays_2 : decode cX0_goDays 2 = .ok (.iload_n 2, 1) := by decide +kernel
theorem dX0_goDays_3 : decode cX0_goDays 3 = .ok (.iload_n 1, 1) := by decide +kernel
theorem dX0_goDays_4 : decode cX0_goDays 4 = .ok (.if_icmp .ge 13, 3) := by decide +kernel
theorem dX0_goDays_7 : decode cX0_goDays 7 = .ok (.aload_n 0, 1) := by decide +kernel
theorem dX0_goDays_8 : decode cX0_goDays 8 = .ok (.invokevirtual 50, 3) := by decide +kernel
theorem dX0_goDays_11 : decode cX0_goDays 11 = .ok (.iinc 2 1, 3) := by decide +kernel
theorem dX0_goDays_14 : decode cX0_goDays 14 = .ok (.goto (-12), 3) := by decide +kernel
theorem dX0_goDays_17 : decode cX0_goDays 17 = .ok (.return_, 1) := by decide +kernel
theorem dX0_goDay_0 : decode cX0_goDay 0 = .ok (.iconst 0, 1) := by decide +kernel
theorem dX0_goDay_1 : decode cX0_goDay 1 = .ok (.istore_n 1, 1) := by decide +kernel
theorem dX0_goDay_2 : decode cX0_goDay 2 = .ok (.iload_n 1, 1) := by decide +kernel
theorem dX0_goDay_3 : decode cX0_goDay 3 = .ok (.aload_n 0, 1) := by decide +kernel
theorem dX0_goDay_4 : decode cX0_goDay 4 = .ok (.getfield 37, 3) := by decide +kernel
theorem dX0_goDay_7 : decode cX0_goDay 7 = .ok (.if_icmp .ge 20, 3) := by decide +kernel
theorem dX0_goDay_10 : decode cX0_goDay 10 = .ok (.aload_n 0, 1) := by decide +kernel
theorem dX0_goDay_11 : decode cX0_goDay 11 = .ok (.iload_n 1, 1) := by decide +kernel
theorem dX0_goDay_12 : decode cX0_goDay 12 = .ok (.aload_n 0, 1) := by decide +kernel
theorem dX0_goDay_13 : decode cX0_goDay 13 = .ok (.iload_n 1, 1) := by decide +kernel
theorem dX0_goDay_14 : decode cX0_goDay 14 = .ok (.invokevirtual 46, 3) := by decide +kernel
theorem dX0_goDay_17 : decode cX0_goDay 17 = .ok (.invokevirtual 53, 3) := by decide +kernel
theorem dX0_goDay_20 : decode cX0_goDay 20 = .ok (.pop, 1) := by decide +kernel
theorem dX0_goDay_21 : decode cX0_goDay 21 = .ok (.iinc 1 1, 3) := by decide +kernel
theorem dX0_goDay_24 : decode cX0_goDay 24 = .ok (.goto (-22), 3) := by decide +kernel
theorem dX0_goDay_27 : decode cX0_goDay 27 = .ok (.iconst 0, 1) := by decide +kernel
theorem dX0_goDay_28 : decode cX0_goDay 28 = .ok (.istore_n 1, 1) := by decide +kernel
theorem dX0_goDay_29 : decode cX0_goDay 29 = .ok (.iload_n 1, 1) := by decide +kernel
theorem dX0_goDay_30 : decode cX0_goDay 30 = .ok (.bipush 8, 2) := by decide +kernel
theorem dX0_goDay_32 : decode cX0_goDay 32 = .ok (.if_icmp .ge 31, 3) := by decide +kernel
theorem dX0_goDay_35 : decode cX0_goDay 35 = .ok (.aload_n 0, 1) := by decide +kernel
theorem dX0_goDay_36 : decode cX0_goDay 36 = .ok (.getfield 9, 3) := by decide +kernel
theorem dX0_goDay_39 : decode cX0_goDay 39 = .ok (.iload_n 1, 1) := by decide +kernel
theorem dX0_goDay_40 : decode cX0_goDay 40 = .ok (.bipush 99, 2) := by decide +kernel
theorem dX0_goDay_42 : decode cX0_goDay 42 = .ok (.aload_n 0, 1) := by decide +kernel
theorem dX0_goDay_43 : decode cX0_goDay 43 = .ok (.getfield 9, 3) := by decide +kernel
theorem dX0_goDay_46 : decode cX0_goDay 46 = .ok (.iload_n 1, 1) := by decide +kernel
theorem dX0_goDay_47 : decode cX0_goDay 47 = .ok (.iaload, 1) := by decide +kernel
theorem dX0_goDay_48 : decode cX0_goDay 48 = .ok (.aload_n 0, 1) := by decide +kernel
theorem dX0_goDay_49 : decode cX0_goDay 49 = .ok (.getfield 34, 3) := by decide +kernel
theorem dX0_goDay_52 : decode cX0_goDay 52 = .ok (.iadd, 1) := by decide +kernel
theorem dX0_goDay_53 : decode cX0_goDay 53 = .ok (.invokestatic 57, 3) := by decide +kernel
theorem dX0_goDay_56 : decode cX0_goDay 56 = .ok (.iastore, 1) := by decide +kernel
theorem dX0_goDay_57 : decode cX0_goDay 57 = .ok (.iinc 1 1, 3) := by decide +kernel
theorem dX0_goDay_60 : decode cX0_goDay 60 = .ok (.goto (-31), 3) := by decide +kernel
theorem dX0_goDay_63 : decode cX0_goDay 63 = .ok (.aload_n 0, 1) := by decide +kernel
theorem dX0_goDay_64 : decode cX0_goDay 64 = .ok (.dup, 1) := by decide +kernel
theorem dX0_goDay_65 : decode cX0_goDay 65 = .ok (.getfield 30, 3) := by decide +kernel
theorem dX0_goDay_68 : decode cX0_goDay 68 = .ok (.iconst 1, 1) := by decide +kernel
theorem dX0_goDay_69 : decode cX0_goDay 69 = .ok (.iadd, 1) := by decide +kernel
theorem dX0_goDay_70 : decode cX0_goDay 70 = .ok (.putfield 30, 3) := by decide +kernel
theorem dX0_goDay_73 : decode cX0_goDay 73 = .ok (.return_, 1) := by decide +kernel
theorem dX0_goThrough_0 : decode cX0_goThrough 0 = .ok (.aload_n 0, 1) := by decide +kernel
theorem dX0_goThrough_1 : decode cX0_goThrough 1 = .ok (.getfield 18, 3) := by decide +kernel
theorem dX0_goThrough_4 : decode cX0_goThrough 4 = .ok (.iload_n 1, 1) := by decide +kernel
theorem dX0_goThrough_5 : decode cX0_goThrough 5 = .ok (.iaload, 1) := by decide +kernel
theorem dX0_goThrough_6 : decode cX0_goThrough 6 = .ok (.istore_n 3, 1) := by decide +kernel
theorem dX0_goThrough_7 : decode cX0_goThrough 7 = .ok (.aload_n 0, 1) := by decide +kernel
theorem dX0_goThrough_8 : decode cX0_goThrough 8 = .ok (.getfield 24, 3) := by decide +kernel
theorem dX0_goThrough_11 : decode cX0_goThrough 11 = .ok (.iload_n 1, 1) := by decide +kernel
theorem dX0_goThrough_12 : decode cX0_goThrough 12 = .ok (.iaload, 1) := by decide +kernel
theorem dX0_goThrough_13 : decode cX0_goThrough 13 = .ok (.istore 4, 2) := by decide +kernel
theorem dX0_goThrough_15 : decode cX0_goThrough 15 = .ok (.aload_n 0, 1) := by decide +kernel
theorem dX0_goThrough_16 : decode cX0_goThrough 16 = .ok (.getfield 21, 3) := by decide +kernel
theorem dX0_goThrough_19 : decode cX0_goThrough 19 = .ok (.iload_n 1, 1) := by decide +kernel
theorem dX0_goThrough_20 : decode cX0_goThrough 20 = .ok (.iaload, 1) := by decide +kernel
theorem dX0_goThrough_21 : decode cX0_goThrough 21 = .ok (.istore 5, 2) := by decide +kernel
theorem dX0_goThrough_23 : decode cX0_goThrough 23 = .ok (.aload_n 0, 1) := by decide +kernel
theorem dX0_goThrough_24 : decode cX0_goThrough 24 = .ok (.getfield 15, 3) := by decide +kernel
theorem dX0_goThrough_27 : decode cX0_goThrough 27 = .ok (.iload_n 2, 1) := by decide +kernel
theorem dX0_goThrough_28 : decode cX0_goThrough 28 = .ok (.iaload, 1) := by decide +kernel
theorem dX0_goThrough_29 : decode cX0_goThrough 29 = .ok (.istore 6, 2) := by decide +kernel
theorem dX0_goThrough_31 : decode cX0_goThrough 31 = .ok (.iload 6, 2) := by decide +kernel
theorem dX0_goThrough_33 : decode cX0_goThrough 33 = .ok (.iload 5, 2) := by decide +kernel
theorem dX0_goThrough_35 : decode cX0_goThrough 35 = .ok (.iconst (-1), 1) := by decide +kernel
theorem dX0_goThrough_36 : decode cX0_goThrough 36 = .ok (.ixor, 1) := by decide +kernel
theorem dX0_goThrough_37 : decode cX0_goThrough 37 = .ok (.iand, 1) := by decide +kernel
theorem dX0_goThrough_38 : decode cX0_goThrough 38 = .ok (.iload_n 3, 1) := by decide +kernel
theorem dX0_goThrough_39 : decode cX0_goThrough 39 = .ok (.iload 4, 2) := by decide +kernel
theorem dX0_goThrough_41 : decode cX0_goThrough 41 = .ok (.invokestatic 62, 3) := by decide +kernel
theorem dX0_goThrough_44 : decode cX0_goThrough 44 = .ok (.invokestatic 67, 3) := by decide +kernel
theorem dX0_goThrough_47 : decode cX0_goThrough 47 = .ok (.istore 7, 2) := by decide +kernel
theorem dX0_goThrough_49 : decode cX0_goThrough 49 = .ok (.iload 5, 2) := by decide +kernel
theorem dX0_goThrough_51 : decode cX0_goThrough 51 = .ok (.iload 6, 2) := by decide +kernel
theorem dX0_goThrough_53 : decode cX0_goThrough 53 = .ok (.iconst (-1), 1) := by decide +kernel
theorem dX0_goThrough_54 : decode cX0_goThrough 54 = .ok (.ixor, 1) := by decide +kernel
theorem dX0_goThrough_55 : decode cX0_goThrough 55 = .ok (.iand, 1) := by decide +kernel
theorem dX0_goThrough_56 : decode cX0_goThrough 56 = .ok (.iload_n 3, 1) := by decide +kernel
theorem dX0_goThrough_57 : decode cX0_goThrough 57 = .ok (.iload 4, 2) := by decide +kernel
theorem dX0_goThrough_59 : decode cX0_goThrough 59 = .ok (.invokestatic 70, 3) := by decide +kernel
theorem dX0_goThrough_62 : decode cX0_goThrough 62 = .ok (.invokestatic 67, 3) := by decide +kernel
theorem dX0_goThrough_65 : decode cX0_goThrough 65 = .ok (.istore 8, 2) := by decide +kernel
theorem dX0_goThrough_67 : decode cX0_goThrough 67 = .ok (.aload_n 0, 1) := by decide +kernel
theorem dX0_goThrough_68 : decode cX0_goThrough 68 = .ok (.getfield 9, 3) := by decide +kernel
theorem dX0_goThrough_71 : decode cX0_goThrough 71 = .ok (.iload_n 2, 1) := by decide +kernel
theorem dX0_goThrough_72 : decode cX0_goThrough 72 = .ok (.iaload, 1) := by decide +kernel
theorem dX0_goThrough_73 : decode cX0_goThrough 73 = .ok (.iload_n 3, 1) := by decide +kernel
theorem dX0_goThrough_74 : decode cX0_goThrough 74 = .ok (.iload 4, 2) := by decide +kernel
theorem dX0_goThrough_76 : decode cX0_goThrough 76 = .ok (.invokestatic 73, 3) := by decide +kernel
theorem dX0_goThrough_79 : decode cX0_goThrough 79 = .ok (.invokestatic 57, 3) := by decide +kernel
theorem dX0_goThrough_82 : decode cX0_goThrough 82 = .ok (.istore 9, 2) := by decide +kernel
theorem dX0_goThrough_84 : decode cX0_goThrough 84 = .ok (.iload_n 3, 1) := by decide +kernel
theorem dX0_goThrough_85 : decode cX0_goThrough 85 = .ok (.iload 5, 2) := by decide +kernel
theorem dX0_goThrough_87 : decode cX0_goThrough 87 = .ok (.invokestatic 76, 3) := by decide +kernel
theorem dX0_goThrough_90 : decode cX0_goThrough 90 = .ok (.ifCond .eq 7, 3) := by decide +kernel
theorem dX0_goThrough_93 : decode cX0_goThrough 93 = .ok (.iconst 0, 1) := by decide +kernel
theorem dX0_goThrough_94 : decode cX0_goThrough 94 = .ok (.goto 5, 3) := by decide +kernel
theorem dX0_goThrough_97 : decode cX0_goThrough 97 = .ok (.iload 8, 2) := by decide +kernel
theorem dX0_goThrough_99 : decode cX0_goThrough 99 = .ok (.istore 10, 2) := by decide +kernel
theorem dX0_goThrough_101 : decode cX0_goThrough 101 = .ok (.aload_n 0, 1) := by decide +kernel
theorem dX0_goThrough_102 : decode cX0_goThrough 102 = .ok (.getfield 21, 3) := by decide +kernel
theorem dX0_goThrough_105 : decode cX0_goThrough 105 = .ok (.iload_n 1, 1) := by decide +kernel
theorem dX0_goThrough_106 : decode cX0_goThrough 106 = .ok (.iload 5, 2) := by decide +kernel
theorem dX0_goThrough_108 : decode cX0_goThrough 108 = .ok (.iload 7, 2) := by decide +kernel
theorem dX0_goThrough_110 : decode cX0_goThrough 110 = .ok (.ior, 1) := by decide +kernel
theorem dX0_goThrough_111 : decode cX0_goThrough 111 = .ok (.iload 10, 2) := by decide +kernel
theorem dX0_goThrough_113 : decode cX0_goThrough 113 = .ok (.iconst (-1), 1) := by decide +kernel
theorem dX0_goThrough_114 : decode cX0_goThrough 114 = .ok (.ixor, 1) := by decide +kernel
theorem dX0_goThrough_115 : decode cX0_goThrough 115 = .ok (.iand, 1) := by decide +kernel
theorem dX0_goThrough_116 : decode cX0_goThrough 116 = .ok (.iastore, 1) := by decide +kernel
theorem dX0_goThrough_117 : decode cX0_goThrough 117 = .ok (.aload_n 0, 1) := by decide +kernel
theorem dX0_goThrough_118 : decode cX0_goThrough 118 = .ok (.getfield 15, 3) := by decide +kernel
theorem dX0_goThrough_121 : decode cX0_goThrough 121 = .ok (.iload_n 2, 1) := by decide +kernel
theorem dX0_goThrough_122 : decode cX0_goThrough 122 = .ok (.iload 6, 2) := by decide +kernel
theorem dX0_goThrough_124 : decode cX0_goThrough 124 = .ok (.iload 7, 2) := by decide +kernel
theorem dX0_goThrough_126 : decode cX0_goThrough 126 = .ok (.iconst (-1), 1) := by decide +kernel
theorem dX0_goThrough_127 : decode cX0_goThrough 127 = .ok (.ixor, 1) := by decide +kernel
theorem dX0_goThrough_128 : decode cX0_goThrough 128 = .ok (.iand, 1) := by decide +kernel
theorem dX0_goThrough_129 : decode cX0_goThrough 129 = .ok (.iload 8, 2) := by decide +kernel
theorem dX0_goThrough_131 : decode cX0_goThrough 131 = .ok (.ior, 1) := by decide +kernel
theorem dX0_goThrough_132 : decode cX0_goThrough 132 = .ok (.iastore, 1) := by decide +kernel
theorem dX0_goThrough_133 : decode cX0_goThrough 133 = .ok (.aload_n 0, 1) := by decide +kernel
theorem dX0_goThrough_134 : decode cX0_goThrough 134 = .ok (.getfield 9, 3) := by decide +kernel
theorem dX0_goThrough_137 : decode cX0_goThrough 137 = .ok (.iload_n 2, 1) := by decide +kernel
theorem dX0_goThrough_138 : decode cX0_goThrough 138 = .ok (.dup2, 1) := by decide +kernel
theorem dX0_goThrough_139 : decode cX0_goThrough 139 = .ok (.iaload, 1) := by decide +kernel
theorem dX0_goThrough_140 : decode cX0_goThrough 140 = .ok (.iload 9, 2) := by decide +kernel
theorem dX0_goThrough_142 : decode cX0_goThrough 142 = .ok (.isub, 1) := by decide +kernel
theorem dX0_goThrough_143 : decode cX0_goThrough 143 = .ok (.iastore, 1) := by decide +kernel
theorem dX0_goThrough_144 : decode cX0_goThrough 144 = .ok (.aload_n 0, 1) := by decide +kernel
theorem dX0_goThrough_145 : decode cX0_goThrough 145 = .ok (.getfield 24, 3) := by decide +kernel
theorem dX0_goThrough_148 : decode cX0_goThrough 148 = .ok (.iload_n 1, 1) := by decide +kernel
theorem dX0_goThrough_149 : decode cX0_goThrough 149 = .ok (.bipush 99, 2) := by decide +kernel
theorem dX0_goThrough_151 : decode cX0_goThrough 151 = .ok (.iload 4, 2) := by decide +kernel
theorem dX0_goThrough_153 : decode cX0_goThrough 153 = .ok (.iload 9, 2) := by decide +kernel
theorem dX0_goThrough_155 : decode cX0_goThrough 155 = .ok (.iconst 2, 1) := by decide +kernel
theorem dX0_goThrough_156 : decode cX0_goThrough 156 = .ok (.idiv, 1) := by decide +kernel
theorem dX0_goThrough_157 : decode cX0_goThrough 157 = .ok (.iadd, 1) := by decide +kernel
theorem dX0_goThrough_158 : decode cX0_goThrough 158 = .ok (.invokestatic 57, 3) := by decide +kernel
theorem dX0_goThrough_161 : decode cX0_goThrough 161 = .ok (.iastore, 1) := by decide +kernel
theorem dX0_goThrough_162 : decode cX0_goThrough 162 = .ok (.iload 9, 2) := by decide +kernel
theorem dX0_goThrough_164 : decode cX0_goThrough 164 = .ok (.ireturn, 1) := by decide +kernel
theorem dX0_washOne_0 : decode cX0_washOne 0 = .ok (.aload_n 0, 1) := by decide +kernel
theorem dX0_washOne_1 : decode cX0_washOne 1 = .ok (.getfield 21, 3) := by decide +kernel
theorem dX0_washOne_4 : decode cX0_washOne 4 = .ok (.iload_n 1, 1) := by decide +kernel
theorem dX0_washOne_5 : decode cX0_washOne 5 = .ok (.iaload, 1) := by decide +kernel
theorem dX0_washOne_6 : decode cX0_washOne 6 = .ok (.istore_n 2, 1) := by decide +kernel
theorem dX0_washOne_7 : decode cX0_washOne 7 = .ok (.iconst 0, 1) := by decide +kernel
theorem dX0_washOne_8 : decode cX0_washOne 8 = .ok (.istore_n 3, 1) := by decide +kernel
theorem dX0_washOne_9 : decode cX0_washOne 9 = .ok (.iload_n 3, 1) := by decide +kernel
theorem dX0_washOne_10 : decode cX0_washOne 10 = .ok (.bipush 8, 2) := by decide +kernel
theorem dX0_washOne_12 : decode cX0_washOne 12 = .ok (.if_icmp .ge 19, 3) := by decide +kernel
theorem dX0_washOne_15 : decode cX0_washOne 15 = .ok (.aload_n 0, 1) := by decide +kernel
theorem dX0_washOne_16 : decode cX0_washOne 16 = .ok (.getfield 15, 3) := by decide +kernel
theorem dX0_washOne_19 : decode cX0_washOne 19 = .ok (.iload_n 3, 1) := by decide +kernel
theorem dX0_washOne_20 : decode cX0_washOne 20 = .ok (.dup2, 1) := by decide +kernel
theorem dX0_washOne_21 : decode cX0_washOne 21 = .ok (.iaload, 1) := by decide +kernel
theorem dX0_washOne_22 : decode cX0_washOne 22 = .ok (.iload_n 2, 1) := by decide +kernel
theorem dX0_washOne_23 : decode cX0_washOne 23 = .ok (.ior, 1) := by decide +kernel
theorem dX0_washOne_24 : decode cX0_washOne 24 = .ok (.iastore, 1) := by decide +kernel
theorem dX0_washOne_25 : decode cX0_washOne 25 = .ok (.iinc 3 1, 3) := by decide +kernel
theorem dX0_washOne_28 : decode cX0_washOne 28 = .ok (.goto (-19), 3) := by decide +kernel
theorem dX0_washOne_31 : decode cX0_washOne 31 = .ok (.aload_n 0, 1) := by decide +kernel
theorem dX0_washOne_32 : decode cX0_washOne 32 = .ok (.getfield 21, 3) := by decide +kernel
theorem dX0_washOne_35 : decode cX0_washOne 35 = .ok (.iload_n 1, 1) := by decide +kernel
theorem dX0_washOne_36 : decode cX0_washOne 36 = .ok (.iconst 0, 1) := by decide +kernel
theorem dX0_washOne_37 : decode cX0_washOne 37 = .ok (.iastore, 1) := by decide +kernel
theorem dX0_washOne_38 : decode cX0_washOne 38 = .ok (.aload_n 0, 1) := by decide +kernel
theorem dX0_washOne_39 : decode cX0_washOne 39 = .ok (.getfield 24, 3) := by decide +kernel
theorem dX0_washOne_42 : decode cX0_washOne 42 = .ok (.iload_n 1, 1) := by decide +kernel
theorem dX0_washOne_43 : decode cX0_washOne 43 = .ok (.iconst 0, 1) := by decide +kernel
theorem dX0_washOne_44 : decode cX0_washOne 44 = .ok (.iastore, 1) := by decide +kernel
theorem dX0_washOne_45 : decode cX0_washOne 45 = .ok (.iload_n 2, 1) := by decide +kernel
theorem dX0_washOne_46 : decode cX0_washOne 46 = .ok (.ireturn, 1) := by decide +kernel
theorem dX0_shakeOne_0 : decode cX0_shakeOne 0 = .ok (.aload_n 0, 1) := by decide +kernel
theorem dX0_shakeOne_1 : decode cX0_shakeOne 1 = .ok (.getfield 21, 3) := by decide +kernel
theorem dX0_shakeOne_4 : decode cX0_shakeOne 4 = .ok (.iload_n 1, 1) := by decide +kernel
theorem dX0_shakeOne_5 : decode cX0_shakeOne 5 = .ok (.iaload, 1) := by decide +kernel
theorem dX0_shakeOne_6 : decode cX0_shakeOne 6 = .ok (.istore_n 2, 1) := by decide +kernel
theorem dX0_shakeOne_7 : decode cX0_shakeOne 7 = .ok (.aload_n 0, 1) := by decide +kernel
theorem dX0_shakeOne_8 : decode cX0_shakeOne 8 = .ok (.getfield 15, 3) := by decide +kernel
theorem dX0_shakeOne_11 : decode cX0_shakeOne 11 = .ok (.aload_n 0, 1) := by decide +kernel
theorem dX0_shakeOne_12 : decode cX0_shakeOne 12 = .ok (.iload_n 1, 1) := by decide +kernel
theorem dX0_shakeOne_13 : decode cX0_shakeOne 13 = .ok (.invokevirtual 46, 3) := by decide +kernel
theorem dX0_shakeOne_16 : decode cX0_shakeOne 16 = .ok (.iconst 1, 1) := by decide +kernel
theorem dX0_shakeOne_17 : decode cX0_shakeOne 17 = .ok (.iadd, 1) := by decide +kernel
theorem dX0_shakeOne_18 : decode cX0_shakeOne 18 = .ok (.bipush 7, 2) := by decide +kernel
theorem dX0_shakeOne_20 : decode cX0_shakeOne 20 = .ok (.iand, 1) := by decide +kernel
theorem dX0_shakeOne_21 : decode cX0_shakeOne 21 = .ok (.dup2, 1) := by decide +kernel
theorem dX0_shakeOne_22 : decode cX0_shakeOne 22 = .ok (.iaload, 1) := by decide +kernel
theorem dX0_shakeOne_23 : decode cX0_shakeOne 23 = .ok (.iload_n 2, 1) := by decide +kernel
theorem dX0_shakeOne_24 : decode cX0_shakeOne 24 = .ok (.ior, 1) := by decide +kernel
theorem dX0_shakeOne_25 : decode cX0_shakeOne 25 = .ok (.iastore, 1) := by decide +kernel
theorem dX0_shakeOne_26 : decode cX0_shakeOne 26 = .ok (.aload_n 0, 1) := by decide +kernel
theorem dX0_shakeOne_27 : decode cX0_shakeOne 27 = .ok (.getfield 21, 3) := by decide +kernel
theorem dX0_shakeOne_30 : decode cX0_shakeOne 30 = .ok (.iload_n 1, 1) := by decide +kernel
theorem dX0_shakeOne_31 : decode cX0_shakeOne 31 = .ok (.iconst 0, 1) := by decide +kernel
theorem dX0_shakeOne_32 : decode cX0_shakeOne 32 = .ok (.iastore, 1) := by decide +kernel
theorem dX0_shakeOne_33 : decode cX0_shakeOne 33 = .ok (.aload_n 0, 1) := by decide +kernel
theorem dX0_shakeOne_34 : decode cX0_shakeOne 34 = .ok (.getfield 24, 3) := by decide +kernel
theorem dX0_shakeOne_37 : decode cX0_shakeOne 37 = .ok (.iload_n 1, 1) := by decide +kernel
theorem dX0_shakeOne_38 : decode cX0_shakeOne 38 = .ok (.dup2, 1) := by decide +kernel
theorem dX0_shakeOne_39 : decode cX0_shakeOne 39 = .ok (.iaload, 1) := by decide +kernel
theorem dX0_shakeOne_40 : decode cX0_shakeOne 40 = .ok (.iconst 2, 1) := by decide +kernel
theorem dX0_shakeOne_41 : decode cX0_shakeOne 41 = .ok (.idiv, 1) := by decide +kernel
theorem dX0_shakeOne_42 : decode cX0_shakeOne 42 = .ok (.iastore, 1) := by decide +kernel
theorem dX0_shakeOne_43 : decode cX0_shakeOne 43 = .ok (.iload_n 2, 1) := by decide +kernel
theorem dX0_shakeOne_44 : decode cX0_shakeOne 44 = .ok (.ireturn, 1) := by decide +kernel
theorem dX0_dustOfAll_0 : decode cX0_dustOfAll 0 = .ok (.iconst 0, 1) := by decide +kernel
theorem dX0_dustOfAll_1 : decode cX0_dustOfAll 1 = .ok (.istore_n 1, 1) := by decide +kernel
theorem dX0_dustOfAll_2 : decode cX0_dustOfAll 2 = .ok (.iconst 0, 1) := by decide +kernel
theorem dX0_dustOfAll_3 : decode cX0_dustOfAll 3 = .ok (.istore_n 2, 1) := by decide +kernel
theorem dX0_dustOfAll_4 : decode cX0_dustOfAll 4 = .ok (.iload_n 2, 1) := by decide +kernel
theorem dX0_dustOfAll_5 : decode cX0_dustOfAll 5 = .ok (.bipush 8, 2) := by decide +kernel
theorem dX0_dustOfAll_7 : decode cX0_dustOfAll 7 = .ok (.if_icmp .ge 18, 3) := by decide +kernel
theorem dX0_dustOfAll_10 : decode cX0_dustOfAll 10 = .ok (.iload_n 1, 1) := by decide +kernel
theorem dX0_dustOfAll_11 : decode cX0_dustOfAll 11 = .ok (.aload_n 0, 1) := by decide +kernel
theorem dX0_dustOfAll_12 : decode cX0_dustOfAll 12 = .ok (.getfield 9, 3) := by decide +kernel
theorem dX0_dustOfAll_15 : decode cX0_dustOfAll 15 = .ok (.iload_n 2, 1) := by decide +kernel
theorem dX0_dustOfAll_16 : decode cX0_dustOfAll 16 = .ok (.iaload, 1) := by decide +kernel
theorem dX0_dustOfAll_17 : decode cX0_dustOfAll 17 = .ok (.iadd, 1) := by decide +kernel
theorem dX0_dustOfAll_18 : decode cX0_dustOfAll 18 = .ok (.istore_n 1, 1) := by decide +kernel
theorem dX0_dustOfAll_19 : decode cX0_dustOfAll 19 = .ok (.iinc 2 1, 3) := by decide +kernel
theorem dX0_dustOfAll_22 : decode cX0_dustOfAll 22 = .ok (.goto (-18), 3) := by decide +kernel
theorem dX0_dustOfAll_25 : decode cX0_dustOfAll 25 = .ok (.iload_n 1, 1) := by decide +kernel
theorem dX0_dustOfAll_26 : decode cX0_dustOfAll 26 = .ok (.ireturn, 1) := by decide +kernel
theorem dX0_memoriesCounted_0 : decode cX0_memoriesCounted 0 = .ok (.iconst 0, 1) := by decide +kernel
theorem dX0_memoriesCounted_1 : decode cX0_memoriesCounted 1 = .ok (.istore_n 1, 1) := by decide +kernel
theorem dX0_memoriesCounted_2 : decode cX0_memoriesCounted 2 = .ok (.iconst 0, 1) := by decide +kernel
theorem dX0_memoriesCounted_3 : decode cX0_memoriesCounted 3 = .ok (.istore_n 2, 1) := by decide +kernel
theorem dX0_memoriesCounted_4 : decode cX0_memoriesCounted 4 = .ok (.iload_n 2, 1) := by decide +kernel
theorem dX0_memoriesCounted_5 : decode cX0_memoriesCounted 5 = .ok (.bipush 8, 2) := by decide +kernel
theorem dX0_memoriesCounted_7 : decode cX0_memoriesCounted 7 = .ok (.if_icmp .ge 21, 3) := by decide +kernel
theorem dX0_memoriesCounted_10 : decode cX0_memoriesCounted 10 = .ok (.iload_n 1, 1) := by decide +kernel
theorem dX0_memoriesCounted_11 : decode cX0_memoriesCounted 11 = .ok (.aload_n 0, 1) := by decide +kernel
theorem dX0_memoriesCounted_12 : decode cX0_memoriesCounted 12 = .ok (.getfield 15, 3) := by decide +kernel
theorem dX0_memoriesCounted_15 : decode cX0_memoriesCounted 15 = .ok (.iload_n 2, 1) := by decide +kernel
theorem dX0_memoriesCounted_16 : decode cX0_memoriesCounted 16 = .ok (.iaload, 1) := by decide +kernel
theorem dX0_memoriesCounted_17 : decode cX0_memoriesCounted 17 = .ok (.invokestatic 80, 3) := by decide +kernel
theorem dX0_memoriesCounted_20 : decode cX0_memoriesCounted 20 = .ok (.iadd, 1) := by decide +kernel
theorem dX0_memoriesCounted_21 : decode cX0_memoriesCounted 21 = .ok (.istore_n 1, 1) := by decide +kernel
theorem dX0_memoriesCounted_22 : decode cX0_memoriesCounted 22 = .ok (.iinc 2 1, 3) := by decide +kernel
theorem dX0_memoriesCounted_25 : decode cX0_memoriesCounted 25 = .ok (.goto (-21), 3) := by decide +kernel
theorem dX0_memoriesCounted_28 : decode cX0_memoriesCounted 28 = .ok (.iload_n 1, 1) := by decide +kernel
theorem dX0_memoriesCounted_29 : decode cX0_memoriesCounted 29 = .ok (.ireturn, 1) := by decide +kernel
theorem dX0_memoriesEverywhere_0 : decode cX0_memoriesEverywhere 0 = .ok (.sipush 1023, 3) := by decide +kernel
theorem dX0_memoriesEverywhere_3 : decode cX0_memoriesEverywhere 3 = .ok (.istore_n 1, 1) := by decide +kernel
theorem dX0_memoriesEverywhere_4 : decode cX0_memoriesEverywhere 4 = .ok (.iconst 0, 1) := by decide +kernel
theorem dX0_memoriesEverywhere_5 : decode cX0_memoriesEverywhere 5 = .ok (.istore_n 2, 1) := by decide +kernel
theorem dX0_memoriesEverywhere_6 : decode cX0_memoriesEverywhere 6 = .ok (.iload_n 2, 1) := by decide +kernel
theorem dX0_memoriesEverywhere_7 : decode cX0_memoriesEverywhere 7 = .ok (.bipush 8, 2) := by decide +kernel
theorem dX0_memoriesEverywhere_9 : decode cX0_memoriesEverywhere 9 = .ok (.if_icmp .ge 18, 3) := by decide +kernel
theorem dX0_memoriesEverywhere_12 : decode cX0_memoriesEverywhere 12 = .ok (.iload_n 1, 1) := by decide +kernel
theorem dX0_memoriesEverywhere_13 : decode cX0_memoriesEverywhere 13 = .ok (.aload_n 0, 1) := by decide +kernel
theorem dX0_memoriesEverywhere_14 : decode cX0_memoriesEverywhere 14 = .ok (.getfield 15, 3) := by decide +kernel
theorem dX0_memoriesEverywhere_17 : decode cX0_memoriesEverywhere 17 = .ok (.iload_n 2, 1) := by decide +kernel
theorem dX0_memoriesEverywhere_18 : decode cX0_memoriesEverywhere 18 = .ok (.iaload, 1) := by decide +kernel
theorem dX0_memoriesEverywhere_19 : decode cX0_memoriesEverywhere 19 = .ok (.iand, 1) := by decide +kernel
theorem dX0_memoriesEverywhere_20 : decode cX0_memoriesEverywhere 20 = .ok (.istore_n 1, 1) := by decide +kernel
theorem dX0_memoriesEverywhere_21 : decode cX0_memoriesEverywhere 21 = .ok (.iinc 2 1, 3) := by decide +kernel
theorem dX0_memoriesEverywhere_24 : decode cX0_memoriesEverywhere 24 = .ok (.goto (-18), 3) := by decide +kernel
theorem dX0_memoriesEverywhere_27 : decode cX0_memoriesEverywhere 27 = .ok (.iload_n 1, 1) := by decide +kernel
theorem dX0_memoriesEverywhere_28 : decode cX0_memoriesEverywhere 28 = .ok (.ireturn, 1) := by decide +kernel
theorem dX0_memoriesAnywhere_0 : decode cX0_memoriesAnywhere 0 = .ok (.iconst 0, 1) := by decide +kernel
theorem dX0_memoriesAnywhere_1 : decode cX0_memoriesAnywhere 1 = .ok (.istore_n 1, 1) := by decide +kernel
theorem dX0_memoriesAnywhere_2 : decode cX0_memoriesAnywhere 2 = .ok (.iconst 0, 1) := by decide +kernel
theorem dX0_memoriesAnywhere_3 : decode cX0_memoriesAnywhere 3 = .ok (.istore_n 2, 1) := by decide +kernel
theorem dX0_memoriesAnywhere_4 : decode cX0_memoriesAnywhere 4 = .ok (.iload_n 2, 1) := by decide +kernel
theorem dX0_memoriesAnywhere_5 : decode cX0_memoriesAnywhere 5 = .ok (.bipush 8, 2) := by decide +kernel
theorem dX0_memoriesAnywhere_7 : decode cX0_memoriesAnywhere 7 = .ok (.if_icmp .ge 18, 3) := by decide +kernel
theorem dX0_memoriesAnywhere_10 : decode cX0_memoriesAnywhere 10 = .ok (.iload_n 1, 1) := by decide +kernel
theorem dX0_memoriesAnywhere_11 : decode cX0_memoriesAnywhere 11 = .ok (.aload_n 0, 1) := by decide +kernel
theorem dX0_memoriesAnywhere_12 : decode cX0_memoriesAnywhere 12 = .ok (.getfield 15, 3) := by decide +kernel
theorem dX0_memoriesAnywhere_15 : decode cX0_memoriesAnywhere 15 = .ok (.iload_n 2, 1) := by decide +kernel
theorem dX0_memoriesAnywhere_16 : decode cX0_memoriesAnywhere 16 = .ok (.iaload, 1) := by decide +kernel
theorem dX0_memoriesAnywhere_17 : decode cX0_memoriesAnywhere 17 = .ok (.ior, 1) := by decide +kernel
theorem dX0_memoriesAnywhere_18 : decode cX0_memoriesAnywhere 18 = .ok (.istore_n 1, 1) := by decide +kernel
theorem dX0_memoriesAnywhere_19 : decode cX0_memoriesAnywhere 19 = .ok (.iinc 2 1, 3) := by decide +kernel
theorem dX0_memoriesAnywhere_22 : decode cX0_memoriesAnywhere 22 = .ok (.goto (-18), 3) := by decide +kernel
theorem dX0_memoriesAnywhere_25 : decode cX0_memoriesAnywhere 25 = .ok (.iload_n 1, 1) := by decide +kernel
theorem dX0_memoriesAnywhere_26 : decode cX0_memoriesAnywhere 26 = .ok (.ireturn, 1) := by decide +kernel
theorem dX0_memoriesHeld_0 : decode cX0_memoriesHeld 0 = .ok (.iconst 0, 1) := by decide +kernel
theorem dX0_memoriesHeld_1 : decode cX0_memoriesHeld 1 = .ok (.istore_n 1, 1) := by decide +kernel
theorem dX0_memoriesHeld_2 : decode cX0_memoriesHeld 2 = .ok (.iconst 0, 1) := by decide +kernel
theorem dX0_memoriesHeld_3 : decode cX0_memoriesHeld 3 = .ok (.istore_n 2, 1) := by decide +kernel
theorem dX0_memoriesHeld_4 : decode cX0_memoriesHeld 4 = .ok (.iload_n 2, 1) := by decide +kernel
theorem dX0_memoriesHeld_5 : decode cX0_memoriesHeld 5 = .ok (.aload_n 0, 1) := by decide +kernel
theorem dX0_memoriesHeld_6 : decode cX0_memoriesHeld 6 = .ok (.getfield 37, 3) := by decide +kernel
theorem dX0_memoriesHeld_9 : decode cX0_memoriesHeld 9 = .ok (.if_icmp .ge 18, 3) := by decide +kernel
theorem dX0_memoriesHeld_12 : decode cX0_memoriesHeld 12 = .ok (.iload_n 1, 1) := by decide +kernel
theorem dX0_memoriesHeld_13 : decode cX0_memoriesHeld 13 = .ok (.aload_n 0, 1) := by decide +kernel
theorem dX0_memoriesHeld_14 : decode cX0_memoriesHeld 14 = .ok (.getfield 21, 3) := by decide +kernel
theorem dX0_memoriesHeld_17 : decode cX0_memoriesHeld 17 = .ok (.iload_n 2, 1) := by decide +kernel
theorem dX0_memoriesHeld_18 : decode cX0_memoriesHeld 18 = .ok (.iaload, 1) := by decide +kernel
theorem dX0_memoriesHeld_19 : decode cX0_memoriesHeld 19 = .ok (.ior, 1) := by decide +kernel
theorem dX0_memoriesHeld_20 : decode cX0_memoriesHeld 20 = .ok (.istore_n 1, 1) := by decide +kernel
theorem dX0_memoriesHeld_21 : decode cX0_memoriesHeld 21 = .ok (.iinc 2 1, 3) := by decide +kernel
theorem dX0_memoriesHeld_24 : decode cX0_memoriesHeld 24 = .ok (.goto (-20), 3) := by decide +kernel
theorem dX0_memoriesHeld_27 : decode cX0_memoriesHeld 27 = .ok (.iload_n 1, 1) := by decide +kernel
theorem dX0_memoriesHeld_28 : decode cX0_memoriesHeld 28 = .ok (.ireturn, 1) := by decide +kernel
theorem dX0_grimeOfAll_0 : decode cX0_grimeOfAll 0 = .ok (.iconst 0, 1) := by decide +kernel
theorem dX0_grimeOfAll_1 : decode cX0_grimeOfAll 1 = .ok (.istore_n 1, 1) := by decide +kernel
theorem dX0_grimeOfAll_2 : decode cX0_grimeOfAll 2 = .ok (.iconst 0, 1) := by decide +kernel
theorem dX0_grimeOfAll_3 : decode cX0_grimeOfAll 3 = .ok (.istore_n 2, 1) := by decide +kernel
theorem dX0_grimeOfAll_4 : decode cX0_grimeOfAll 4 = .ok (.iload_n 2, 1) := by decide +kernel
theorem dX0_grimeOfAll_5 : decode cX0_grimeOfAll 5 = .ok (.aload_n 0, 1) := by decide +kernel
theorem dX0_grimeOfAll_6 : decode cX0_grimeOfAll 6 = .ok (.getfield 37, 3) := by decide +kernel
theorem dX0_grimeOfAll_9 : decode cX0_grimeOfAll 9 = .ok (.if_icmp .ge 18, 3) := by decide +kernel
theorem dX0_grimeOfAll_12 : decode cX0_grimeOfAll 12 = .ok (.iload_n 1, 1) := by decide +kernel
theorem dX0_grimeOfAll_13 : decode cX0_grimeOfAll 13 = .ok (.aload_n 0, 1) := by decide +kernel
theorem dX0_grimeOfAll_14 : decode cX0_grimeOfAll 14 = .ok (.getfield 24, 3) := by decide +kernel
theorem dX0_grimeOfAll_17 : decode cX0_grimeOfAll 17 = .ok (.iload_n 2, 1) := by decide +kernel
theorem dX0_grimeOfAll_18 : decode cX0_grimeOfAll 18 = .ok (.iaload, 1) := by decide +kernel
theorem dX0_grimeOfAll_19 : decode cX0_grimeOfAll 19 = .ok (.iadd, 1) := by decide +kernel
theorem dX0_grimeOfAll_20 : decode cX0_grimeOfAll 20 = .ok (.istore_n 1, 1) := by decide +kernel
theorem dX0_grimeOfAll_21 : decode cX0_grimeOfAll 21 = .ok (.iinc 2 1, 3) := by decide +kernel
theorem dX0_grimeOfAll_24 : decode cX0_grimeOfAll 24 = .ok (.goto (-20), 3) := by decide +kernel
theorem dX0_grimeOfAll_27 : decode cX0_grimeOfAll 27 = .ok (.iload_n 1, 1) := by decide +kernel
theorem dX0_grimeOfAll_28 : decode cX0_grimeOfAll 28 = .ok (.ireturn, 1) := by decide +kernel
theorem dX0_leastOf_0 : decode cX0_leastOf 0 = .ok (.iload_n 0, 1) := by decide +kernel
theorem dX0_leastOf_1 : decode cX0_leastOf 1 = .ok (.istore_n 2, 1) := by decide +kernel
theorem dX0_leastOf_2 : decode cX0_leastOf 2 = .ok (.iconst 0, 1) := by decide +kernel
theorem dX0_leastOf_3 : decode cX0_leastOf 3 = .ok (.istore_n 3, 1) := by decide +kernel
theorem dX0_leastOf_4 : decode cX0_leastOf 4 = .ok (.iload_n 3, 1) := by decide +kernel
theorem dX0_leastOf_5 : decode cX0_leastOf 5 = .ok (.iload_n 1, 1) := by decide +kernel
theorem dX0_leastOf_6 : decode cX0_leastOf 6 = .ok (.if_icmp .ge 19, 3) := by decide +kernel
theorem dX0_leastOf_9 : decode cX0_leastOf 9 = .ok (.iload_n 2, 1) := by decide +kernel
theorem dX0_leastOf_10 : decode cX0_leastOf 10 = .ok (.ifCond .eq 15, 3) := by decide +kernel
theorem dX0_leastOf_13 : decode cX0_leastOf 13 = .ok (.iload_n 2, 1) := by decide +kernel
theorem dX0_leastOf_14 : decode cX0_leastOf 14 = .ok (.iload_n 2, 1) := by decide +kernel
theorem dX0_leastOf_15 : decode cX0_leastOf 15 = .ok (.iconst 1, 1) := by decide +kernel
theorem dX0_leastOf_16 : decode cX0_leastOf 16 = .ok (.isub, 1) := by decide +kernel
theorem dX0_leastOf_17 : decode cX0_leastOf 17 = .ok (.iand, 1) := by decide +kernel
theorem dX0_leastOf_18 : decode cX0_leastOf 18 = .ok (.istore_n 2, 1) := by decide +kernel
theorem dX0_leastOf_19 : decode cX0_leastOf 19 = .ok (.iinc 3 1, 3) := by decide +kernel
theorem dX0_leastOf_22 : decode cX0_leastOf 22 = .ok (.goto (-18), 3) := by decide +kernel
theorem dX0_leastOf_25 : decode cX0_leastOf 25 = .ok (.iload_n 0, 1) := by decide +kernel
theorem dX0_leastOf_26 : decode cX0_leastOf 26 = .ok (.iload_n 2, 1) := by decide +kernel
theorem dX0_leastOf_27 : decode cX0_leastOf 27 = .ok (.iconst (-1), 1) := by decide +kernel
theorem dX0_leastOf_28 : decode cX0_leastOf 28 = .ok (.ixor, 1) := by decide +kernel
theorem dX0_leastOf_29 : decode cX0_leastOf 29 = .ok (.iand, 1) := by decide +kernel
theorem dX0_leastOf_30 : decode cX0_leastOf 30 = .ok (.ireturn, 1) := by decide +kernel
theorem dX1_isUnder_0 : decode cX1_isUnder 0 = .ok (.iload_n 0, 1) := by decide +kernel
theorem dX1_isUnder_1 : decode cX1_isUnder 1 = .ok (.iload_n 1, 1) := by decide +kernel
theorem dX1_isUnder_2 : decode cX1_isUnder 2 = .ok (.if_icmp .eq 7, 3) := by decide +kernel
theorem dX1_isUnder_5 : decode cX1_isUnder 5 = .ok (.iload_n 1, 1) := by decide +kernel
theorem dX1_isUnder_6 : decode cX1_isUnder 6 = .ok (.ifCond .ne 5, 3) := by decide +kernel
theorem dX1_isUnder_9 : decode cX1_isUnder 9 = .ok (.iconst 1, 1) := by decide +kernel
theorem dX1_isUnder_10 : decode cX1_isUnder 10 = .ok (.ireturn, 1) := by decide +kernel
theorem dX1_isUnder_11 : decode cX1_isUnder 11 = .ok (.iload_n 0, 1) := by decide +kernel
theorem dX1_isUnder_12 : decode cX1_isUnder 12 = .ok (.iconst 4, 1) := by decide +kernel
theorem dX1_isUnder_13 : decode cX1_isUnder 13 = .ok (.if_icmp .ne 8, 3) := by decide +kernel
theorem dX1_isUnder_16 : decode cX1_isUnder 16 = .ok (.iload_n 1, 1) := by decide +kernel
theorem dX1_isUnder_17 : decode cX1_isUnder 17 = .ok (.iconst 1, 1) := by decide +kernel
theorem dX1_isUnder_18 : decode cX1_isUnder 18 = .ok (.if_icmp .eq 13, 3) := by decide +kernel
theorem dX1_isUnder_21 : decode cX1_isUnder 21 = .ok (.iload_n 0, 1) := by decide +kernel
theorem dX1_isUnder_22 : decode cX1_isUnder 22 = .ok (.iconst 5, 1) := by decide +kernel
theorem dX1_isUnder_23 : decode cX1_isUnder 23 = .ok (.if_icmp .ne 12, 3) := by decide +kernel
theorem dX1_isUnder_26 : decode cX1_isUnder 26 = .ok (.iload_n 1, 1) := by decide +kernel
theorem dX1_isUnder_27 : decode cX1_isUnder 27 = .ok (.iconst 2, 1) := by decide +kernel
theorem dX1_isUnder_28 : decode cX1_isUnder 28 = .ok (.if_icmp .ne 7, 3) := by decide +kernel
theorem dX1_isUnder_31 : decode cX1_isUnder 31 = .ok (.iconst 1, 1) := by decide +kernel
theorem dX1_isUnder_32 : decode cX1_isUnder 32 = .ok (.goto 4, 3) := by decide +kernel
theorem dX1_isUnder_35 : decode cX1_isUnder 35 = .ok (.iconst 0, 1) := by decide +kernel
theorem dX1_isUnder_36 : decode cX1_isUnder 36 = .ok (.ireturn, 1) := by decide +kernel
theorem dX1_wipes_0 : decode cX1_wipes 0 = .ok (.bipush 12, 2) := by decide +kernel
theorem dX1_wipes_2 : decode cX1_wipes 2 = .ok (.iload_n 1, 1) := by decide +kernel
theorem dX1_wipes_3 : decode cX1_wipes 3 = .ok (.bipush 10, 2) := by decide +kernel
theorem dX1_wipes_5 : decode cX1_wipes 5 = .ok (.idiv, 1) := by decide +kernel
theorem dX1_wipes_6 : decode cX1_wipes 6 = .ok (.isub, 1) := by decide +kernel
theorem dX1_wipes_7 : decode cX1_wipes 7 = .ok (.istore_n 2, 1) := by decide +kernel
theorem dX1_wipes_8 : decode cX1_wipes 8 = .ok (.iload_n 2, 1) := by decide +kernel
theorem dX1_wipes_9 : decode cX1_wipes 9 = .ok (.iconst 3, 1) := by decide +kernel
theorem dX1_wipes_10 : decode cX1_wipes 10 = .ok (.iadd, 1) := by decide +kernel
theorem dX1_wipes_11 : decode cX1_wipes 11 = .ok (.istore_n 3, 1) := by decide +kernel
theorem dX1_wipes_12 : decode cX1_wipes 12 = .ok (.iload_n 1, 1) := by decide +kernel
theorem dX1_wipes_13 : decode cX1_wipes 13 = .ok (.bipush 20, 2) := by decide +kernel
theorem dX1_wipes_15 : decode cX1_wipes 15 = .ok (.if_icmp .ge 9, 3) := by decide +kernel
theorem dX1_wipes_18 : decode cX1_wipes 18 = .ok (.iload_n 2, 1) := by decide +kernel
theorem dX1_wipes_19 : decode cX1_wipes 19 = .ok (.iconst 2, 1) := by decide +kernel
theorem dX1_wipes_20 : decode cX1_wipes 20 = .ok (.imul, 1) := by decide +kernel
theorem dX1_wipes_21 : decode cX1_wipes 21 = .ok (.goto 4, 3) := by decide +kernel
theorem dX1_wipes_24 : decode cX1_wipes 24 = .ok (.iload_n 2, 1) := by decide +kernel
theorem dX1_wipes_25 : decode cX1_wipes 25 = .ok (.istore 4, 2) := by decide +kernel
theorem dX1_wipes_27 : decode cX1_wipes 27 = .ok (.iload_n 0, 1) := by decide +kernel
theorem dX1_wipes_28 : decode cX1_wipes 28 = .ok (.tableswitch 53 1 5 #[36, 38, 41, 44, 48], 36) := by decide +kernel
theorem dX1_wipes_64 : decode cX1_wipes 64 = .ok (.iload_n 3, 1) := by decide +kernel
theorem dX1_wipes_65 : decode cX1_wipes 65 = .ok (.ireturn, 1) := by decide +kernel
theorem dX1_wipes_66 : decode cX1_wipes 66 = .ok (.iload 4, 2) := by decide +kernel
theorem dX1_wipes_68 : decode cX1_wipes 68 = .ok (.ireturn, 1) := by decide +kernel
theorem dX1_wipes_69 : decode cX1_wipes 69 = .ok (.bipush 9, 2) := by decide +kernel
theorem dX1_wipes_71 : decode cX1_wipes 71 = .ok (.ireturn, 1) := by decide +kernel
theorem dX1_wipes_72 : decode cX1_wipes 72 = .ok (.iload_n 3, 1) := by decide +kernel
theorem dX1_wipes_73 : decode cX1_wipes 73 = .ok (.iconst 5, 1) := by decide +kernel
theorem dX1_wipes_74 : decode cX1_wipes 74 = .ok (.isub, 1) := by decide +kernel
theorem dX1_wipes_75 : decode cX1_wipes 75 = .ok (.ireturn, 1) := by decide +kernel
theorem dX1_wipes_76 : decode cX1_wipes 76 = .ok (.iload 4, 2) := by decide +kernel
theorem dX1_wipes_78 : decode cX1_wipes 78 = .ok (.iconst 1, 1) := by decide +kernel
theorem dX1_wipes_79 : decode cX1_wipes 79 = .ok (.isub, 1) := by decide +kernel
theorem dX1_wipes_80 : decode cX1_wipes 80 = .ok (.ireturn, 1) := by decide +kernel
theorem dX1_wipes_81 : decode cX1_wipes 81 = .ok (.iload_n 2, 1) := by decide +kernel
theorem dX1_wipes_82 : decode cX1_wipes 82 = .ok (.ireturn, 1) := by decide +kernel
theorem dX1_takesUp_0 : decode cX1_takesUp 0 = .ok (.iload_n 0, 1) := by decide +kernel
theorem dX1_takesUp_1 : decode cX1_takesUp 1 = .ok (.tableswitch 54 1 5 #[35, 37, 49, 35, 52], 35) := by decide +kernel
theorem dX1_takesUp_36 : decode cX1_takesUp 36 = .ok (.iconst 2, 1) := by decide +kernel
theorem dX1_takesUp_37 : decode cX1_takesUp 37 = .ok (.ireturn, 1) := by decide +kernel
theorem dX1_takesUp_38 : decode cX1_takesUp 38 = .ok (.iload_n 1, 1) := by decide +kernel
theorem dX1_takesUp_39 : decode cX1_takesUp 39 = .ok (.bipush 60, 2) := by decide +kernel
theorem dX1_takesUp_41 : decode cX1_takesUp 41 = .ok (.if_icmp .le 7, 3) := by decide +kernel
theorem dX1_takesUp_44 : decode cX1_takesUp 44 = .ok (.iconst 0, 1) := by decide +kernel
theorem dX1_takesUp_45 : decode cX1_takesUp 45 = .ok (.goto 4, 3) := by decide +kernel
theorem dX1_takesUp_48 : decode cX1_takesUp 48 = .ok (.iconst 1, 1) := by decide +kernel
theorem dX1_takesUp_49 : decode cX1_takesUp 49 = .ok (.ireturn, 1) := by decide +kernel
theorem dX1_takesUp_50 : decode cX1_takesUp 50 = .ok (.bipush 9, 2) := by decide +kernel
theorem dX1_takesUp_52 : decode cX1_takesUp 52 = .ok (.ireturn, 1) := by decide +kernel
theorem dX1_takesUp_53 : decode cX1_takesUp 53 = .ok (.iconst 0, 1) := by decide +kernel
theorem dX1_takesUp_54 : decode cX1_takesUp 54 = .ok (.ireturn, 1) := by decide +kernel
theorem dX1_takesUp_55 : decode cX1_takesUp 55 = .ok (.iconst 1, 1) := by decide +kernel
theorem dX1_takesUp_56 : decode cX1_takesUp 56 = .ok (.ireturn, 1) := by decide +kernel
theorem dX1_leaves_0 : decode cX1_leaves 0 = .ok (.iload_n 1, 1) := by decide +kernel
theorem dX1_leaves_1 : decode cX1_leaves 1 = .ok (.bipush 25, 2) := by decide +kernel
theorem dX1_leaves_3 : decode cX1_leaves 3 = .ok (.idiv, 1) := by decide +kernel
theorem dX1_leaves_4 : decode cX1_leaves 4 = .ok (.istore_n 2, 1) := by decide +kernel
theorem dX1_leaves_5 : decode cX1_leaves 5 = .ok (.iload_n 0, 1) := by decide +kernel
theorem dX1_leaves_6 : decode cX1_leaves 6 = .ok (.tableswitch 64 1 5 #[34, 64, 38, 46, 52], 34) := by decide +kernel
theorem dX1_leaves_40 : decode cX1_leaves 40 = .ok (.iload_n 2, 1) := by decide +kernel
theorem dX1_leaves_41 : decode cX1_leaves 41 = .ok (.iconst 1, 1) := by decide +kernel
theorem dX1_leaves_42 : decode cX1_leaves 42 = .ok (.iadd, 1) := by decide +kernel
theorem dX1_leaves_43 : decode cX1_leaves 43 = .ok (.ireturn, 1) := by decide +kernel
theorem dX1_leaves_44 : decode cX1_leaves 44 = .ok (.iconst 0, 1) := by decide +kernel
theorem dX1_leaves_45 : decode cX1_leaves 45 = .ok (.iload_n 2, 1) := by decide +kernel
theorem dX1_leaves_46 : decode cX1_leaves 46 = .ok (.iconst 1, 1) := by decide +kernel
theorem dX1_leaves_47 : decode cX1_leaves 47 = .ok (.isub, 1) := by decide +kernel
theorem dX1_leaves_48 : decode cX1_leaves 48 = .ok (.invokestatic 9, 3) := by decide +kernel
theorem dX1_leaves_51 : decode cX1_leaves 51 = .ok (.ireturn, 1) := by decide +kernel
theorem dX1_leaves_52 : decode cX1_leaves 52 = .ok (.iload_n 2, 1) := by decide +kernel
theorem dX1_leaves_53 : decode cX1_leaves 53 = .ok (.iconst 1, 1) := by decide +kernel
theorem dX1_leaves_54 : decode cX1_leaves 54 = .ok (.iadd, 1) := by decide +kernel
theorem dX1_leaves_55 : decode cX1_leaves 55 = .ok (.iconst 2, 1) := by decide +kernel
theorem dX1_leaves_56 : decode cX1_leaves 56 = .ok (.imul, 1) := by decide +kernel
theorem dX1_leaves_57 : decode cX1_leaves 57 = .ok (.ireturn, 1) := by decide +kernel
theorem dX1_leaves_58 : decode cX1_leaves 58 = .ok (.iload_n 1, 1) := by decide +kernel
theorem dX1_leaves_59 : decode cX1_leaves 59 = .ok (.ifCond .ne 9, 3) := by decide +kernel
theorem dX1_leaves_62 : decode cX1_leaves 62 = .ok (.iload_n 2, 1) := by decide +kernel
theorem dX1_leaves_63 : decode cX1_leaves 63 = .ok (.iconst 1, 1) := by decide +kernel
theorem dX1_leaves_64 : decode cX1_leaves 64 = .ok (.iadd, 1) := by decide +kernel
theorem dX1_leaves_65 : decode cX1_leaves 65 = .ok (.goto 4, 3) := by decide +kernel
theorem dX1_leaves_68 : decode cX1_leaves 68 = .ok (.iload_n 2, 1) := by decide +kernel
theorem dX1_leaves_69 : decode cX1_leaves 69 = .ok (.ireturn, 1) := by decide +kernel
theorem dX1_leaves_70 : decode cX1_leaves 70 = .ok (.iload_n 2, 1) := by decide +kernel
theorem dX1_leaves_71 : decode cX1_leaves 71 = .ok (.ireturn, 1) := by decide +kernel
theorem dX1_keeps_0 : decode cX1_keeps 0 = .ok (.iload_n 0, 1) := by decide +kernel
theorem dX1_keeps_1 : decode cX1_keeps 1 = .ok (.lookupswitch 43 #[(2, 27), (5, 29)], 27) := by decide +kernel
theorem dX1_keeps_28 : decode cX1_keeps 28 = .ok (.iconst 0, 1) := by decide +kernel
theorem dX1_keeps_29 : decode cX1_keeps 29 = .ok (.ireturn, 1) := by decide +kernel
theorem dX1_keeps_30 : decode cX1_keeps 30 = .ok (.iload_n 1, 1) := by decide +kernel
theorem dX1_keeps_31 : decode cX1_keeps 31 = .ok (.invokestatic 15, 3) := by decide +kernel
theorem dX1_keeps_34 : decode cX1_keeps 34 = .ok (.iconst 5, 1) := by decide +kernel
theorem dX1_keeps_35 : decode cX1_keeps 35 = .ok (.if_icmp .lt 7, 3) := by decide +kernel
theorem dX1_keeps_38 : decode cX1_keeps 38 = .ok (.iconst 1, 1) := by decide +kernel
theorem dX1_keeps_39 : decode cX1_keeps 39 = .ok (.goto 4, 3) := by decide +kernel
theorem dX1_keeps_42 : decode cX1_keeps 42 = .ok (.iconst 0, 1) := by decide +kernel
theorem dX1_keeps_43 : decode cX1_keeps 43 = .ok (.ireturn, 1) := by decide +kernel
theorem dX1_keeps_44 : decode cX1_keeps 44 = .ok (.iconst 1, 1) := by decide +kernel
theorem dX1_keeps_45 : decode cX1_keeps 45 = .ok (.ireturn, 1) := by decide +kernel
theorem dX2_init_0 : decode cX2_init 0 = .ok (.aload_n 0, 1) := by decide +kernel
theorem dX2_init_1 : decode cX2_init 1 = .ok (.invokespecial 3, 3) := by decide +kernel
theorem dX2_init_4 : decode cX2_init 4 = .ok (.aload_n 0, 1) := by decide +kernel
theorem dX2_init_5 : decode cX2_init 5 = .ok (.bipush 40, 2) := by decide +kernel
theorem dX2_init_7 : decode cX2_init 7 = .ok (.newarray .long, 2) := by decide +kernel
theorem dX2_init_9 : decode cX2_init 9 = .ok (.putfield 9, 3) := by decide +kernel
theorem dX2_init_12 : decode cX2_init 12 = .ok (.aload_n 0, 1) := by decide +kernel
theorem dX2_init_13 : decode cX2_init 13 = .ok (.iconst 0, 1) := by decide +kernel
theorem dX2_init_14 : decode cX2_init 14 = .ok (.putfield 15, 3) := by decide +kernel
theorem dX2_init_17 : decode cX2_init 17 = .ok (.aload_n 0, 1) := by decide +kernel
theorem dX2_init_18 : decode cX2_init 18 = .ok (.iconst 0, 1) := by decide +kernel
theorem dX2_init_19 : decode cX2_init 19 = .ok (.putfield 19, 3) := by decide +kernel
theorem dX2_init_22 : decode cX2_init 22 = .ok (.return_, 1) := by decide +kernel
theorem dX2_isMissing_0 : decode cX2_isMissing 0 = .ok (.aload_n 0, 1) := by decide +kernel
theorem dX2_isMissing_1 : decode cX2_isMissing 1 = .ok (.getfield 15, 3) := by decide +kernel
theorem dX2_isMissing_4 : decode cX2_isMissing 4 = .ok (.ifCond .ne 7, 3) := by decide +kernel
theorem dX2_isMissing_7 : decode cX2_isMissing 7 = .ok (.iconst 1, 1) := by decide +kernel
theorem dX2_isMissing_8 : decode cX2_isMissing 8 = .ok (.goto 4, 3) := by decide +kernel
theorem dX2_isMissing_11 : decode cX2_isMissing 11 = .ok (.iconst 0, 1) := by decide +kernel
theorem dX2_isMissing_12 : decode cX2_isMissing 12 = .ok (.ireturn, 1) := by decide +kernel
theorem dX2_begin_0 : decode cX2_begin 0 = .ok (.aload_n 0, 1) := by decide +kernel
theorem dX2_begin_1 : decode cX2_begin 1 = .ok (.iload_n 1, 1) := by decide +kernel
theorem dX2_begin_2 : decode cX2_begin 2 = .ok (.putfield 15, 3) := by decide +kernel
theorem dX2_begin_5 : decode cX2_begin 5 = .ok (.aload_n 0, 1) := by decide +kernel
theorem dX2_begin_6 : decode cX2_begin 6 = .ok (.iload_n 1, 1) := by decide +kernel
theorem dX2_begin_7 : decode cX2_begin 7 = .ok (.ifCond .ne 7, 3) := by decide +kernel
theorem dX2_begin_10 : decode cX2_begin 10 = .ok (.iconst 0, 1) := by decide +kernel
theorem dX2_begin_11 : decode cX2_begin 11 = .ok (.goto 4, 3) := by decide +kernel
theorem dX2_begin_14 : decode cX2_begin 14 = .ok (.iload_n 2, 1) := by decide +kernel
theorem dX2_begin_15 : decode cX2_begin 15 = .ok (.putfield 19, 3) := by decide +kernel
theorem dX2_begin_18 : decode cX2_begin 18 = .ok (.iconst 0, 1) := by decide +kernel
theorem dX2_begin_19 : decode cX2_begin 19 = .ok (.istore_n 3, 1) := by decide +kernel
theorem dX2_begin_20 : decode cX2_begin 20 = .ok (.iload_n 3, 1) := by decide +kernel
theorem dX2_begin_21 : decode cX2_begin 21 = .ok (.bipush 40, 2) := by decide +kernel
theorem dX2_begin_23 : decode cX2_begin 23 = .ok (.if_icmp .ge 16, 3) := by decide +kernel
theorem dX2_begin_26 : decode cX2_begin 26 = .ok (.aload_n 0, 1) := by decide +kernel
theorem dX2_begin_27 : decode cX2_begin 27 = .ok (.getfield 9, 3) := by decide +kernel
theorem dX2_begin_30 : decode cX2_begin 30 = .ok (.iload_n 3, 1) := by decide +kernel
theorem dX2_begin_31 : decode cX2_begin 31 = .ok (.lconst 0, 1) := by decide +kernel
theorem dX2_begin_32 : decode cX2_begin 32 = .ok (.lastore, 1) := by decide +kernel
theorem dX2_begin_33 : decode cX2_begin 33 = .ok (.iinc 3 1, 3) := by decide +kernel
theorem dX2_begin_36 : decode cX2_begin 36 = .ok (.goto (-16), 3) := by decide +kernel
theorem dX2_begin_39 : decode cX2_begin 39 = .ok (.aload_n 0, 1) := by decide +kernel
theorem dX2_begin_40 : decode cX2_begin 40 = .ok (.getfield 19, 3) := by decide +kernel
theorem dX2_begin_43 : decode cX2_begin 43 = .ok (.ireturn, 1) := by decide +kernel
theorem dX2_put_0 : decode cX2_put 0 = .ok (.aload_n 0, 1) := by decide +kernel
theorem dX2_put_1 : decode cX2_put 1 = .ok (.getfield 9, 3) := by decide +kernel
theorem dX2_put_4 : decode cX2_put 4 = .ok (.iload_n 1, 1) := by decide +kernel
theorem dX2_put_5 : decode cX2_put 5 = .ok (.aload_n 0, 1) := by decide +kernel
theorem dX2_put_6 : decode cX2_put 6 = .ok (.getfield 15, 3) := by decide +kernel
theorem dX2_put_9 : decode cX2_put 9 = .ok (.bipush 8, 2) := by decide +kernel
theorem dX2_put_11 : decode cX2_put 11 = .ok (.if_icmp .ne 10, 3) := by decide +kernel
theorem dX2_put_14 : decode cX2_put 14 = .ok (.lload_n 2, 1) := by decide +kernel
theorem dX2_put_15 : decode cX2_put 15 = .ok (.l2i, 1) := by decide +kernel
theorem dX2_put_16 : decode cX2_put 16 = .ok (.i2b, 1) := by decide +kernel
theorem dX2_put_17 : decode cX2_put 17 = .ok (.i2l, 1) := by decide +kernel
theorem dX2_put_18 : decode cX2_put 18 = .ok (.goto 20, 3) := by decide +kernel
theorem dX2_put_21 : decode cX2_put 21 = .ok (.aload_n 0, 1) := by decide +kernel
theorem dX2_put_22 : decode cX2_put 22 = .ok (.getfield 15, 3) := by decide +kernel
theorem dX2_put_25 : decode cX2_put 25 = .ok (.bipush 16, 2) := by decide +kernel
theorem dX2_put_27 : decode cX2_put 27 = .ok (.if_icmp .ne 10, 3) := by decide +kernel
theorem dX2_put_30 : decode cX2_put 30 = .ok (.lload_n 2, 1) := by decide +kernel
theorem dX2_put_31 : decode cX2_put 31 = .ok (.l2i, 1) := by decide +kernel
theorem dX2_put_32 : decode cX2_put 32 = .ok (.i2s, 1) := by decide +kernel
theorem dX2_put_33 : decode cX2_put 33 = .ok (.i2l, 1) := by decide +kernel
theorem dX2_put_34 : decode cX2_put 34 = .ok (.goto 4, 3) := by decide +kernel
theorem dX2_put_37 : decode cX2_put 37 = .ok (.lload_n 2, 1) := by decide +kernel
theorem dX2_put_38 : decode cX2_put 38 = .ok (.lastore, 1) := by decide +kernel
theorem dX2_put_39 : decode cX2_put 39 = .ok (.return_, 1) := by decide +kernel
theorem dX2_hasRun_0 : decode cX2_hasRun 0 = .ok (.iload_n 1, 1) := by decide +kernel
theorem dX2_hasRun_1 : decode cX2_hasRun 1 = .ok (.ifCond .lt 29, 3) := by decide +kernel
theorem dX2_hasRun_4 : decode cX2_hasRun 4 = .ok (.iload_n 2, 1) := by decide +kernel
theorem dX2_hasRun_5 : decode cX2_hasRun 5 = .ok (.ifCond .lt 25, 3) := by decide +kernel
theorem dX2_hasRun_8 : decode cX2_hasRun 8 = .ok (.iload_n 2, 1) := by decide +kernel
theorem dX2_hasRun_9 : decode cX2_hasRun 9 = .ok (.aload_n 0, 1) := by decide +kernel
theorem dX2_hasRun_10 : decode cX2_hasRun 10 = .ok (.getfield 19, 3) := by decide +kernel
theorem dX2_hasRun_13 : decode cX2_hasRun 13 = .ok (.if_icmp .gt 17, 3) := by decide +kernel
theorem dX2_hasRun_16 : decode cX2_hasRun 16 = .ok (.iload_n 1, 1) := by decide +kernel
theorem dX2_hasRun_17 : decode cX2_hasRun 17 = .ok (.aload_n 0, 1) := by decide +kernel
theorem dX2_hasRun_18 : decode cX2_hasRun 18 = .ok (.getfield 19, 3) := by decide +kernel
theorem dX2_hasRun_21 : decode cX2_hasRun 21 = .ok (.iload_n 2, 1) := by decide +kernel
theorem dX2_hasRun_22 : decode cX2_hasRun 22 = .ok (.isub, 1) := by decide +kernel
theorem dX2_hasRun_23 : decode cX2_hasRun 23 = .ok (.if_icmp .gt 7, 3) := by decide +kernel
theorem dX2_hasRun_26 : decode cX2_hasRun 26 = .ok (.iconst 1, 1) := by decide +kernel
theorem dX2_hasRun_27 : decode cX2_hasRun 27 = .ok (.goto 4, 3) := by decide +kernel
theorem dX2_hasRun_30 : decode cX2_hasRun 30 = .ok (.iconst 0, 1) := by decide +kernel
theorem dX2_hasRun_31 : decode cX2_hasRun 31 = .ok (.ireturn, 1) := by decide +kernel
theorem dX3_init_0 : decode cX3_init 0 = .ok (.aload_n 0, 1) := by decide +kernel
theorem dX3_init_1 : decode cX3_init 1 = .ok (.invokespecial 3, 3) := by decide +kernel
theorem dX3_init_4 : decode cX3_init 4 = .ok (.aload_n 0, 1) := by decide +kernel
theorem dX3_init_5 : decode cX3_init 5 = .ok (.bipush 120, 2) := by decide +kernel
theorem dX3_init_7 : decode cX3_init 7 = .ok (.newarray .int, 2) := by decide +kernel
theorem dX3_init_9 : decode cX3_init 9 = .ok (.putfield 9, 3) := by decide +kernel
theorem dX3_init_12 : decode cX3_init 12 = .ok (.aload_n 0, 1) := by decide +kernel
theorem dX3_init_13 : decode cX3_init 13 = .ok (.iconst 0, 1) := by decide +kernel
theorem dX3_init_14 : decode cX3_init 14 = .ok (.putfield 15, 3) := by decide +kernel
theorem dX3_init_17 : decode cX3_init 17 = .ok (.aload_n 0, 1) := by decide +kernel
theorem dX3_init_18 : decode cX3_init 18 = .ok (.iconst 0, 1) := by decide +kernel
theorem dX3_init_19 : decode cX3_init 19 = .ok (.putfield 19, 3) := by decide +kernel
theorem dX3_init_22 : decode cX3_init 22 = .ok (.aload_n 0, 1) := by decide +kernel
theorem dX3_init_23 : decode cX3_init 23 = .ok (.iconst 0, 1) := by decide +kernel
theorem dX3_init_24 : decode cX3_init 24 = .ok (.putfield 22, 3) := by decide +kernel
theorem dX3_init_27 : decode cX3_init 27 = .ok (.aload_n 0, 1) := by decide +kernel
theorem dX3_init_28 : decode cX3_init 28 = .ok (.iconst 0, 1) := by decide +kernel
theorem dX3_init_29 : decode cX3_init 29 = .ok (.putfield 25, 3) := by decide +kernel
theorem dX3_init_32 : decode cX3_init 32 = .ok (.aload_n 0, 1) := by decide +kernel
theorem dX3_init_33 : decode cX3_init 33 = .ok (.iconst 0, 1) := by decide +kernel
theorem dX3_init_34 : decode cX3_init 34 = .ok (.putfield 28, 3) := by decide +kernel
theorem dX3_init_37 : decode cX3_init 37 = .ok (.aload_n 0, 1) := by decide +kernel
theorem dX3_init_38 : decode cX3_init 38 = .ok (.iconst 0, 1) := by decide +kernel
theorem dX3_init_39 : decode cX3_init 39 = .ok (.putfield 31, 3) := by decide +kernel
theorem dX3_init_42 : decode cX3_init 42 = .ok (.return_, 1) := by decide +kernel
theorem dX3_put_0 : decode cX3_put 0 = .ok (.aload_n 0, 1) := by decide +kernel
theorem dX3_put_1 : decode cX3_put 1 = .ok (.getfield 15, 3) := by decide +kernel
theorem dX3_put_4 : decode cX3_put 4 = .ok (.bipush 120, 2) := by decide +kernel
theorem dX3_put_6 : decode cX3_put 6 = .ok (.if_icmp .ge 23, 3) := by decide +kernel
theorem dX3_put_9 : decode cX3_put 9 = .ok (.aload_n 0, 1) := by decide +kernel
theorem dX3_put_10 : decode cX3_put 10 = .ok (.getfield 9, 3) := by decide +kernel
theorem dX3_put_13 : decode cX3_put 13 = .ok (.aload_n 0, 1) := by decide +kernel
theorem dX3_put_14 : decode cX3_put 14 = .ok (.getfield 15, 3) := by decide +kernel
theorem dX3_put_17 : decode cX3_put 17 = .ok (.iload_n 1, 1) := by decide +kernel
theorem dX3_put_18 : decode cX3_put 18 = .ok (.iastore, 1) := by decide +kernel
theorem dX3_put_19 : decode cX3_put 19 = .ok (.aload_n 0, 1) := by decide +kernel
theorem dX3_put_20 : decode cX3_put 20 = .ok (.dup, 1) := by decide +kernel
theorem dX3_put_21 : decode cX3_put 21 = .ok (.getfield 15, 3) := by decide +kernel
theorem dX3_put_24 : decode cX3_put 24 = .ok (.iconst 1, 1) := by decide +kernel
theorem dX3_put_25 : decode cX3_put 25 = .ok (.iadd, 1) := by decide +kernel
theorem dX3_put_26 : decode cX3_put 26 = .ok (.putfield 15, 3) := by decide +kernel
theorem dX3_put_29 : decode cX3_put 29 = .ok (.return_, 1) := by decide +kernel
theorem dX3_tellHouse_0 : decode cX3_tellHouse 0 = .ok (.aload_n 0, 1) := by decide +kernel
theorem dX3_tellHouse_1 : decode cX3_tellHouse 1 = .ok (.iconst 0, 1) := by decide +kernel
theorem dX3_tellHouse_2 : decode cX3_tellHouse 2 = .ok (.putfield 28, 3) := by decide +kernel
theorem dX3_tellHouse_5 : decode cX3_tellHouse 5 = .ok (.aload_n 0, 1) := by decide +kernel
theorem dX3_tellHouse_6 : decode cX3_tellHouse 6 = .ok (.invokevirtual 34, 3) := by decide +kernel
theorem dX3_tellHouse_9 : decode cX3_tellHouse 9 = .ok (.iconst 0, 1) := by decide +kernel
theorem dX3_tellHouse_10 : decode cX3_tellHouse 10 = .ok (.istore_n 2, 1) := by decide +kernel
theorem dX3_tellHouse_11 : decode cX3_tellHouse 11 = .ok (.iload_n 2, 1) := by decide +kernel
theorem dX3_tellHouse_12 : decode cX3_tellHouse 12 = .ok (.bipush 120, 2) := by decide +kernel
theorem dX3_tellHouse_14 : decode cX3_tellHouse 14 = .ok (.if_icmp .gt 45, 3) := by decide +kernel
theorem dX3_tellHouse_17 : decode cX3_tellHouse 17 = .ok (.aload_n 0, 1) := by decide +kernel
theorem dX3_tellHouse_18 : decode cX3_tellHouse 18 = .ok (.aload_n 1, 1) := by decide +kernel
theorem dX3_tellHouse_19 : decode cX3_tellHouse 19 = .ok (.invokevirtual 37, 3) := by decide +kernel
theorem dX3_tellHouse_22 : decode cX3_tellHouse 22 = .ok (.ifCond .eq 37, 3) := by decide +kernel
theorem dX3_tellHouse_25 : decode cX3_tellHouse 25 = .ok (.iinc 2 1, 3) := by decide +kernel
theorem dX3_tellHouse_28 : decode cX3_tellHouse 28 = .ok (.aload_n 0, 1) := by decide +kernel
theorem dX3_tellHouse_29 : decode cX3_tellHouse 29 = .ok (.getfield 19, 3) := by decide +kernel
theorem dX3_tellHouse_32 : decode cX3_tellHouse 32 = .ok (.ifCond .ne 5, 3) := by decide +kernel
theorem dX3_tellHouse_35 : decode cX3_tellHouse 35 = .ok (.iload_n 2, 1) := by decide +kernel
theorem dX3_tellHouse_36 : decode cX3_tellHouse 36 = .ok (.ireturn, 1) := by decide +kernel
theorem dX3_tellHouse_37 : decode cX3_tellHouse 37 = .ok (.aload_n 0, 1) := by decide +kernel
theorem dX3_tellHouse_38 : decode cX3_tellHouse 38 = .ok (.getfield 19, 3) := by decide +kernel
theorem dX3_tellHouse_41 : decode cX3_tellHouse 41 = .ok (.iconst 3, 1) := by decide +kernel
theorem dX3_tellHouse_42 : decode cX3_tellHouse 42 = .ok (.if_icmp .eq 10, 3) := by decide +kernel
theorem dX3_tellHouse_45 : decode cX3_tellHouse 45 = .ok (.iconst (-1), 1) := by decide +kernel
theorem dX3_tellHouse_46 : decode cX3_tellHouse 46 = .ok (.aload_n 0, 1) := by decide +kernel
theorem dX3_tellHouse_47 : decode cX3_tellHouse 47 = .ok (.getfield 25, 3) := by decide +kernel
theorem dX3_tellHouse_50 : decode cX3_tellHouse 50 = .ok (.isub, 1) := by decide +kernel
theorem dX3_tellHouse_51 : decode cX3_tellHouse 51 = .ok (.ireturn, 1) := by decide +kernel
theorem dX3_tellHouse_52 : decode cX3_tellHouse 52 = .ok (.aload_n 0, 1) := by decide +kernel
theorem dX3_tellHouse_53 : decode cX3_tellHouse 53 = .ok (.invokevirtual 34, 3) := by decide +kernel
theorem dX3_tellHouse_56 : decode cX3_tellHouse 56 = .ok (.goto (-45), 3) := by decide +kernel
theorem dX3_tellHouse_59 : decode cX3_tellHouse 59 = .ok (.iconst (-1), 1) := by decide +kernel
theorem dX3_tellHouse_60 : decode cX3_tellHouse 60 = .ok (.aload_n 0, 1) := by decide +kernel
theorem dX3_tellHouse_61 : decode cX3_tellHouse 61 = .ok (.getfield 25, 3) := by decide +kernel
theorem dX3_tellHouse_64 : decode cX3_tellHouse 64 = .ok (.isub, 1) := by decide +kernel
theorem dX3_tellHouse_65 : decode cX3_tellHouse 65 = .ok (.ireturn, 1) := by decide +kernel
theorem dX3_tellItem_0 : decode cX3_tellItem 0 = .ok (.aload_n 0, 1) := by decide +kernel
theorem dX3_tellItem_1 : decode cX3_tellItem 1 = .ok (.getfield 19, 3) := by decide +kernel
theorem dX3_tellItem_4 : decode cX3_tellItem 4 = .ok (.iconst 1, 1) := by decide +kernel
theorem dX3_tellItem_5 : decode cX3_tellItem 5 = .ok (.if_icmp .eq 5, 3) := by decide +kernel
theorem dX3_tellItem_8 : decode cX3_tellItem 8 = .ok (.iconst 0, 1) := by decide +kernel
theorem dX3_tellItem_9 : decode cX3_tellItem 9 = .ok (.ireturn, 1) := by decide +kernel
theorem dX3_tellItem_10 : decode cX3_tellItem 10 = .ok (.aload_n 0, 1) := by decide +kernel
theorem dX3_tellItem_11 : decode cX3_tellItem 11 = .ok (.getfield 22, 3) := by decide +kernel
theorem dX3_tellItem_14 : decode cX3_tellItem 14 = .ok (.tableswitch 64 8 12 #[34, 64, 64, 44, 54], 34) := by decide +kernel
theorem dX3_tellItem_48 : decode cX3_tellItem 48 = .ok (.aload_n 0, 1) := by decide +kernel
theorem dX3_tellItem_49 : decode cX3_tellItem 49 = .ok (.invokevirtual 34, 3) := by decide +kernel
theorem dX3_tellItem_52 : decode cX3_tellItem 52 = .ok (.aload_n 0, 1) := by decide +kernel
theorem dX3_tellItem_53 : decode cX3_tellItem 53 = .ok (.aload_n 1, 1) := by decide +kernel
theorem dX3_tellItem_54 : decode cX3_tellItem 54 = .ok (.invokevirtual 41, 3) := by decide +kernel
theorem dX3_tellItem_57 : decode cX3_tellItem 57 = .ok (.ireturn, 1) := by decide +kernel
theorem dX3_tellItem_58 : decode cX3_tellItem 58 = .ok (.aload_n 0, 1) := by decide +kernel
theorem dX3_tellItem_59 : decode cX3_tellItem 59 = .ok (.invokevirtual 34, 3) := by decide +kernel
theorem dX3_tellItem_62 : decode cX3_tellItem 62 = .ok (.aload_n 0, 1) := by decide +kernel
theorem dX3_tellItem_63 : decode cX3_tellItem 63 = .ok (.aload_n 1, 1) := by decide +kernel
theorem dX3_tellItem_64 : decode cX3_tellItem 64 = .ok (.invokevirtual 44, 3) := by decide +kernel
theorem dX3_tellItem_67 : decode cX3_tellItem 67 = .ok (.ireturn, 1) := by decide +kernel
theorem dX3_tellItem_68 : decode cX3_tellItem 68 = .ok (.aload_n 0, 1) := by decide +kernel
theorem dX3_tellItem_69 : decode cX3_tellItem 69 = .ok (.invokevirtual 34, 3) := by decide +kernel
theorem dX3_tellItem_72 : decode cX3_tellItem 72 = .ok (.aload_n 0, 1) := by decide +kernel
theorem dX3_tellItem_73 : decode cX3_tellItem 73 = .ok (.aload_n 1, 1) := by decide +kernel
theorem dX3_tellItem_74 : decode cX3_tellItem 74 = .ok (.invokevirtual 47, 3) := by decide +kernel
theorem dX3_tellItem_77 : decode cX3_tellItem 77 = .ok (.ireturn, 1) := by decide +kernel
theorem dX3_tellItem_78 : decode cX3_tellItem 78 = .ok (.aload_n 0, 1) := by decide +kernel
theorem dX3_tellItem_79 : decode cX3_tellItem 79 = .ok (.getfield 22, 3) := by decide +kernel
theorem dX3_tellItem_82 : decode cX3_tellItem 82 = .ok (.iconst 5, 1) := by decide +kernel
theorem dX3_tellItem_83 : decode cX3_tellItem 83 = .ok (.if_icmp .gt 15, 3) := by decide +kernel
theorem dX3_tellItem_86 : decode cX3_tellItem 86 = .ok (.aload_n 0, 1) := by decide +kernel
theorem dX3_tellItem_87 : decode cX3_tellItem 87 = .ok (.aload_n 1, 1) := by decide +kernel
theorem dX3_tellItem_88 : decode cX3_tellItem 88 = .ok (.invokevirtual 52, 3) := by decide +kernel
theorem dX3_tellItem_91 : decode cX3_tellItem 91 = .ok (.ifCond .eq 7, 3) := by decide +kernel
theorem dX3_tellItem_94 : decode cX3_tellItem 94 = .ok (.iconst 1, 1) := by decide +kernel
theorem dX3_tellItem_95 : decode cX3_tellItem 95 = .ok (.goto 4, 3) := by decide +kernel
theorem dX3_tellItem_98 : decode cX3_tellItem 98 = .ok (.iconst 0, 1) := by decide +kernel
theorem dX3_tellItem_99 : decode cX3_tellItem 99 = .ok (.ireturn, 1) := by decide +kernel
theorem dX3_tellDuster_0 : decode cX3_tellDuster 0 = .ok (.aload_n 1, 1) := by decide +kernel
theorem dX3_tellDuster_1 : decode cX3_tellDuster 1 = .ok (.aload_n 0, 1) := by decide +kernel
theorem dX3_tellDuster_2 : decode cX3_tellDuster 2 = .ok (.getfield 22, 3) := by decide +kernel
theorem dX3_tellDuster_5 : decode cX3_tellDuster 5 = .ok (.invokevirtual 55, 3) := by decide +kernel
theorem dX3_tellDuster_8 : decode cX3_tellDuster 8 = .ok (.istore_n 2, 1) := by decide +kernel
theorem dX3_tellDuster_9 : decode cX3_tellDuster 9 = .ok (.iload_n 2, 1) := by decide +kernel
theorem dX3_tellDuster_10 : decode cX3_tellDuster 10 = .ok (.ifCond .ge 5, 3) := by decide +kernel
theorem dX3_tellDuster_13 : decode cX3_tellDuster 13 = .ok (.iconst 0, 1) := by decide +kernel
theorem dX3_tellDuster_14 : decode cX3_tellDuster 14 = .ok (.ireturn, 1) := by decide +kernel
theorem dX3_tellDuster_15 : decode cX3_tellDuster 15 = .ok (.aload_n 0, 1) := by decide +kernel
theorem dX3_tellDuster_16 : decode cX3_tellDuster 16 = .ok (.invokevirtual 34, 3) := by decide +kernel
theorem dX3_tellDuster_19 : decode cX3_tellDuster 19 = .ok (.aload_n 0, 1) := by decide +kernel
theorem dX3_tellDuster_20 : decode cX3_tellDuster 20 = .ok (.bipush 6, 2) := by decide +kernel
theorem dX3_tellDuster_22 : decode cX3_tellDuster 22 = .ok (.invokevirtual 61, 3) := by decide +kernel
theorem dX3_tellDuster_25 : decode cX3_tellDuster 25 = .ok (.ifCond .eq 26, 3) := by decide +kernel
theorem dX3_tellDuster_28 : decode cX3_tellDuster 28 = .ok (.aload_n 0, 1) := by decide +kernel
theorem dX3_tellDuster_29 : decode cX3_tellDuster 29 = .ok (.invokevirtual 34, 3) := by decide +kernel
theorem dX3_tellDuster_32 : decode cX3_tellDuster 32 = .ok (.aload_n 0, 1) := by decide +kernel
theorem dX3_tellDuster_33 : decode cX3_tellDuster 33 = .ok (.invokevirtual 65, 3) := by decide +kernel
theorem dX3_tellDuster_36 : decode cX3_tellDuster 36 = .ok (.ifCond .ne 5, 3) := by decide +kernel
theorem dX3_tellDuster_39 : decode cX3_tellDuster 39 = .ok (.iconst 0, 1) := by decide +kernel
theorem dX3_tellDuster_40 : decode cX3_tellDuster 40 = .ok (.ireturn, 1) := by decide +kernel
theorem dX3_tellDuster_41 : decode cX3_tellDuster 41 = .ok (.aload_n 1, 1) := by decide +kernel
theorem dX3_tellDuster_42 : decode cX3_tellDuster 42 = .ok (.getfield 69, 3) := by decide +kernel
theorem dX3_tellDuster_45 : decode cX3_tellDuster 45 = .ok (.iload_n 2, 1) := by decide +kernel
theorem dX3_tellDuster_46 : decode cX3_tellDuster 46 = .ok (.aload_n 0, 1) := by decide +kernel
theorem dX3_tellDuster_47 : decode cX3_tellDuster 47 = .ok (.getfield 31, 3) := by decide +kernel
theorem dX3_tellDuster_50 : decode cX3_tellDuster 50 = .ok (.iastore, 1) := by decide +kernel
theorem dX3_tellDuster_51 : decode cX3_tellDuster 51 = .ok (.aload_n 0, 1) := by decide +kernel
theorem dX3_tellDuster_52 : decode cX3_tellDuster 52 = .ok (.bipush 7, 2) := by decide +kernel
theorem dX3_tellDuster_54 : decode cX3_tellDuster 54 = .ok (.invokevirtual 61, 3) := by decide +kernel
theorem dX3_tellDuster_57 : decode cX3_tellDuster 57 = .ok (.ifCond .eq 32, 3) := by decide +kernel
theorem dX3_tellDuster_60 : decode cX3_tellDuster 60 = .ok (.aload_n 0, 1) := by decide +kernel
theorem dX3_tellDuster_61 : decode cX3_tellDuster 61 = .ok (.invokevirtual 34, 3) := by decide +kernel
theorem dX3_tellDuster_64 : decode cX3_tellDuster 64 = .ok (.aload_n 0, 1) := by decide +kernel
theorem dX3_tellDuster_65 : decode cX3_tellDuster 65 = .ok (.bipush 99, 2) := by decide +kernel
theorem dX3_tellDuster_67 : decode cX3_tellDuster 67 = .ok (.invokevirtual 72, 3) := by decide +kernel
theorem dX3_tellDuster_70 : decode cX3_tellDuster 70 = .ok (.ifCond .ne 5, 3) := by decide +kernel
theorem dX3_tellDuster_73 : decode cX3_tellDuster 73 = .ok (.iconst 0, 1) := by decide +kernel
theorem dX3_tellDuster_74 : decode cX3_tellDuster 74 = .ok (.ireturn, 1) := by decide +kernel
theorem dX3_tellDuster_75 : decode cX3_tellDuster 75 = .ok (.aload_n 1, 1) := by decide +kernel
theorem dX3_tellDuster_76 : decode cX3_tellDuster 76 = .ok (.getfield 75, 3) := by decide +kernel
theorem dX3_tellDuster_79 : decode cX3_tellDuster 79 = .ok (.iload_n 2, 1) := by decide +kernel
theorem dX3_tellDuster_80 : decode cX3_tellDuster 80 = .ok (.aload_n 0, 1) := by decide +kernel
theorem dX3_tellDuster_81 : decode cX3_tellDuster 81 = .ok (.getfield 22, 3) := by decide +kernel
theorem dX3_tellDuster_84 : decode cX3_tellDuster 84 = .ok (.iastore, 1) := by decide +kernel
theorem dX3_tellDuster_85 : decode cX3_tellDuster 85 = .ok (.aload_n 0, 1) := by decide +kernel
theorem dX3_tellDuster_86 : decode cX3_tellDuster 86 = .ok (.invokevirtual 34, 3) := by decide +kernel
theorem dX3_tellDuster_89 : decode cX3_tellDuster 89 = .ok (.iconst 1, 1) := by decide +kernel
theorem dX3_tellDuster_90 : decode cX3_tellDuster 90 = .ok (.ireturn, 1) := by decide +kernel
theorem dX3_tellRoom_0 : decode cX3_tellRoom 0 = .ok (.aload_n 0, 1) := by decide +kernel
theorem dX3_tellRoom_1 : decode cX3_tellRoom 1 = .ok (.bipush 7, 2) := by decide +kernel
theorem dX3_tellRoom_3 : decode cX3_tellRoom 3 = .ok (.invokevirtual 72, 3) := by decide +kernel
theorem dX3_tellRoom_6 : decode cX3_tellRoom 6 = .ok (.ifCond .ne 5, 3) := by decide +kernel
theorem dX3_tellRoom_9 : decode cX3_tellRoom 9 = .ok (.iconst 0, 1) := by decide +kernel
theorem dX3_tellRoom_10 : decode cX3_tellRoom 10 = .ok (.ireturn, 1) := by decide +kernel
theorem dX3_tellRoom_11 : decode cX3_tellRoom 11 = .ok (.aload_n 0, 1) := by decide +kernel
theorem dX3_tellRoom_12 : decode cX3_tellRoom 12 = .ok (.getfield 22, 3) := by decide +kernel
theorem dX3_tellRoom_15 : decode cX3_tellRoom 15 = .ok (.istore_n 2, 1) := by decide +kernel
theorem dX3_tellRoom_16 : decode cX3_tellRoom 16 = .ok (.aload_n 0, 1) := by decide +kernel
theorem dX3_tellRoom_17 : decode cX3_tellRoom 17 = .ok (.invokevirtual 34, 3) := by decide +kernel
theorem dX3_tellRoom_20 : decode cX3_tellRoom 20 = .ok (.aload_n 0, 1) := by decide +kernel
theorem dX3_tellRoom_21 : decode cX3_tellRoom 21 = .ok (.bipush 9, 2) := by decide +kernel
theorem dX3_tellRoom_23 : decode cX3_tellRoom 23 = .ok (.invokevirtual 61, 3) := by decide +kernel
theorem dX3_tellRoom_26 : decode cX3_tellRoom 26 = .ok (.ifCond .eq 32, 3) := by decide +kernel
theorem dX3_tellRoom_29 : decode cX3_tellRoom 29 = .ok (.aload_n 0, 1) := by decide +kernel
theorem dX3_tellRoom_30 : decode cX3_tellRoom 30 = .ok (.invokevirtual 34, 3) := by decide +kernel
theorem dX3_tellRoom_33 : decode cX3_tellRoom 33 = .ok (.aload_n 0, 1) := by decide +kernel
theorem dX3_tellRoom_34 : decode cX3_tellRoom 34 = .ok (.bipush 99, 2) := by decide +kernel
theorem dX3_tellRoom_36 : decode cX3_tellRoom 36 = .ok (.invokevirtual 72, 3) := by decide +kernel
theorem dX3_tellRoom_39 : decode cX3_tellRoom 39 = .ok (.ifCond .ne 5, 3) := by decide +kernel
theorem dX3_tellRoom_42 : decode cX3_tellRoom 42 = .ok (.iconst 0, 1) := by decide +kernel
theorem dX3_tellRoom_43 : decode cX3_tellRoom 43 = .ok (.ireturn, 1) := by decide +kernel
theorem dX3_tellRoom_44 : decode cX3_tellRoom 44 = .ok (.aload_n 1, 1) := by decide +kernel
theorem dX3_tellRoom_45 : decode cX3_tellRoom 45 = .ok (.getfield 78, 3) := by decide +kernel
theorem dX3_tellRoom_48 : decode cX3_tellRoom 48 = .ok (.iload_n 2, 1) := by decide +kernel
theorem dX3_tellRoom_49 : decode cX3_tellRoom 49 = .ok (.aload_n 0, 1) := by decide +kernel
theorem dX3_tellRoom_50 : decode cX3_tellRoom 50 = .ok (.getfield 22, 3) := by decide +kernel
theorem dX3_tellRoom_53 : decode cX3_tellRoom 53 = .ok (.iastore, 1) := by decide +kernel
theorem dX3_tellRoom_54 : decode cX3_tellRoom 54 = .ok (.aload_n 0, 1) := by decide +kernel
theorem dX3_tellRoom_55 : decode cX3_tellRoom 55 = .ok (.invokevirtual 34, 3) := by decide +kernel
theorem dX3_tellRoom_58 : decode cX3_tellRoom 58 = .ok (.aload_n 0, 1) := by decide +kernel
theorem dX3_tellRoom_59 : decode cX3_tellRoom 59 = .ok (.bipush 10, 2) := by decide +kernel
theorem dX3_tellRoom_61 : decode cX3_tellRoom 61 = .ok (.invokevirtual 61, 3) := by decide +kernel
theorem dX3_tellRoom_64 : decode cX3_tellRoom 64 = .ok (.ifCond .eq 26, 3) := by decide +kernel
theorem dX3_tellRoom_67 : decode cX3_tellRoom 67 = .ok (.aload_n 0, 1) := by decide +kernel
theorem dX3_tellRoom_68 : decode cX3_tellRoom 68 = .ok (.invokevirtual 34, 3) := by decide +kernel
theorem dX3_tellRoom_71 : decode cX3_tellRoom 71 = .ok (.aload_n 0, 1) := by decide +kernel
theorem dX3_tellRoom_72 : decode cX3_tellRoom 72 = .ok (.invokevirtual 65, 3) := by decide +kernel
theorem dX3_tellRoom_75 : decode cX3_tellRoom 75 = .ok (.ifCond .ne 5, 3) := by decide +kernel
theorem dX3_tellRoom_78 : decode cX3_tellRoom 78 = .ok (.iconst 0, 1) := by decide +kernel
theorem dX3_tellRoom_79 : decode cX3_tellRoom 79 = .ok (.ireturn, 1) := by decide +kernel
theorem dX3_tellRoom_80 : decode cX3_tellRoom 80 = .ok (.aload_n 1, 1) := by decide +kernel
theorem dX3_tellRoom_81 : decode cX3_tellRoom 81 = .ok (.getfield 81, 3) := by decide +kernel
theorem dX3_tellRoom_84 : decode cX3_tellRoom 84 = .ok (.iload_n 2, 1) := by decide +kernel
theorem dX3_tellRoom_85 : decode cX3_tellRoom 85 = .ok (.aload_n 0, 1) := by decide +kernel
theorem dX3_tellRoom_86 : decode cX3_tellRoom 86 = .ok (.getfield 31, 3) := by decide +kernel
theorem dX3_tellRoom_89 : decode cX3_tellRoom 89 = .ok (.iastore, 1) := by decide +kernel
theorem dX3_tellRoom_90 : decode cX3_tellRoom 90 = .ok (.iconst 1, 1) := by decide +kernel
theorem dX3_tellRoom_91 : decode cX3_tellRoom 91 = .ok (.ireturn, 1) := by decide +kernel
theorem dX3_tellFalls_0 : decode cX3_tellFalls 0 = .ok (.aload_n 0, 1) := by decide +kernel
theorem dX3_tellFalls_1 : decode cX3_tellFalls 1 = .ok (.bipush 20, 2) := by decide +kernel
theorem dX3_tellFalls_3 : decode cX3_tellFalls 3 = .ok (.invokevirtual 72, 3) := by decide +kernel
theorem dX3_tellFalls_6 : decode cX3_tellFalls 6 = .ok (.ifCond .ne 5, 3) := by decide +kernel
theorem dX3_tellFalls_9 : decode cX3_tellFalls 9 = .ok (.iconst 0, 1) := by decide +kernel
theorem dX3_tellFalls_10 : decode cX3_tellFalls 10 = .ok (.ireturn, 1) := by decide +kernel
theorem dX3_tellFalls_11 : decode cX3_tellFalls 11 = .ok (.aload_n 1, 1) := by decide +kernel
theorem dX3_tellFalls_12 : decode cX3_tellFalls 12 = .ok (.aload_n 0, 1) := by decide +kernel
theorem dX3_tellFalls_13 : decode cX3_tellFalls 13 = .ok (.getfield 22, 3) := by decide +kernel
theorem dX3_tellFalls_16 : decode cX3_tellFalls 16 = .ok (.putfield 83, 3) := by decide +kernel
theorem dX3_tellFalls_19 : decode cX3_tellFalls 19 = .ok (.aload_n 0, 1) := by decide +kernel
theorem dX3_tellFalls_20 : decode cX3_tellFalls 20 = .ok (.invokevirtual 34, 3) := by decide +kernel
theorem dX3_tellFalls_23 : decode cX3_tellFalls 23 = .ok (.iconst 1, 1) := by decide +kernel
theorem dX3_tellFalls_24 : decode cX3_tellFalls 24 = .ok (.ireturn, 1) := by decide +kernel
theorem dX3_tellWash_0 : decode cX3_tellWash 0 = .ok (.aload_n 0, 1) := by decide +kernel
theorem dX3_tellWash_1 : decode cX3_tellWash 1 = .ok (.aload_n 1, 1) := by decide +kernel
theorem dX3_tellWash_2 : decode cX3_tellWash 2 = .ok (.getfield 86, 3) := by decide +kernel
theorem dX3_tellWash_5 : decode cX3_tellWash 5 = .ok (.iconst 1, 1) := by decide +kernel
theorem dX3_tellWash_6 : decode cX3_tellWash 6 = .ok (.isub, 1) := by decide +kernel
theorem dX3_tellWash_7 : decode cX3_tellWash 7 = .ok (.invokevirtual 72, 3) := by decide +kernel
theorem dX3_tellWash_10 : decode cX3_tellWash 10 = .ok (.ifCond .ne 5, 3) := by decide +kernel
theorem dX3_tellWash_13 : decode cX3_tellWash 13 = .ok (.iconst 0, 1) := by decide +kernel
theorem dX3_tellWash_14 : decode cX3_tellWash 14 = .ok (.ireturn, 1) := by decide +kernel
theorem dX3_tellWash_15 : decode cX3_tellWash 15 = .ok (.aload_n 1, 1) := by decide +kernel
theorem dX3_tellWash_16 : decode cX3_tellWash 16 = .ok (.aload_n 0, 1) := by decide +kernel
theorem dX3_tellWash_17 : decode cX3_tellWash 17 = .ok (.getfield 22, 3) := by decide +kernel
theorem dX3_tellWash_20 : decode cX3_tellWash 20 = .ok (.invokevirtual 89, 3) := by decide +kernel
theorem dX3_tellWash_23 : decode cX3_tellWash 23 = .ok (.pop, 1) := by decide +kernel
theorem dX3_tellWash_24 : decode cX3_tellWash 24 = .ok (.aload_n 0, 1) := by decide +kernel
theorem dX3_tellWash_25 : decode cX3_tellWash 25 = .ok (.invokevirtual 34, 3) := by decide +kernel
theorem dX3_tellWash_28 : decode cX3_tellWash 28 = .ok (.iconst 1, 1) := by decide +kernel
theorem dX3_tellWash_29 : decode cX3_tellWash 29 = .ok (.ireturn, 1) := by decide +kernel
theorem dX3_tellMemories_0 : decode cX3_tellMemories 0 = .ok (.aload_n 0, 1) := by decide +kernel
theorem dX3_tellMemories_1 : decode cX3_tellMemories 1 = .ok (.iconst 0, 1) := by decide +kernel
theorem dX3_tellMemories_2 : decode cX3_tellMemories 2 = .ok (.putfield 31, 3) := by decide +kernel
theorem dX3_tellMemories_5 : decode cX3_tellMemories 5 = .ok (.aload_n 0, 1) := by decide +kernel
theorem dX3_tellMemories_6 : decode cX3_tellMemories 6 = .ok (.bipush 9, 2) := by decide +kernel
theorem dX3_tellMemories_8 : decode cX3_tellMemories 8 = .ok (.invokevirtual 72, 3) := by decide +kernel
theorem dX3_tellMemories_11 : decode cX3_tellMemories 11 = .ok (.ifCond .ne 5, 3) := by decide +kernel
theorem dX3_tellMemories_14 : decode cX3_tellMemories 14 = .ok (.iconst 0, 1) := by decide +kernel
theorem dX3_tellMemories_15 : decode cX3_tellMemories 15 = .ok (.ireturn, 1) := by decide +kernel
theorem dX3_tellMemories_16 : decode cX3_tellMemories 16 = .ok (.iconst 0, 1) := by decide +kernel
theorem dX3_tellMemories_17 : decode cX3_tellMemories 17 = .ok (.istore_n 1, 1) := by decide +kernel
theorem dX3_tellMemories_18 : decode cX3_tellMemories 18 = .ok (.iload_n 1, 1) := by decide +kernel
theorem dX3_tellMemories_19 : decode cX3_tellMemories 19 = .ok (.iconst 4, 1) := by decide +kernel
theorem dX3_tellMemories_20 : decode cX3_tellMemories 20 = .ok (.if_icmp .ge 37, 3) := by decide +kernel
theorem dX3_tellMemories_23 : decode cX3_tellMemories 23 = .ok (.aload_n 0, 1) := by decide +kernel
theorem dX3_tellMemories_24 : decode cX3_tellMemories 24 = .ok (.bipush 9, 2) := by decide +kernel
theorem dX3_tellMemories_26 : decode cX3_tellMemories 26 = .ok (.invokevirtual 72, 3) := by decide +kernel
theorem dX3_tellMemories_29 : decode cX3_tellMemories 29 = .ok (.ifCond .eq 28, 3) := by decide +kernel
theorem dX3_tellMemories_32 : decode cX3_tellMemories 32 = .ok (.aload_n 0, 1) := by decide +kernel
theorem dX3_tellMemories_33 : decode cX3_tellMemories 33 = .ok (.dup, 1) := by decide +kernel
theorem dX3_tellMemories_34 : decode cX3_tellMemories 34 = .ok (.getfield 31, 3) := by decide +kernel
theorem dX3_tellMemories_37 : decode cX3_tellMemories 37 = .ok (.iconst 1, 1) := by decide +kernel
theorem dX3_tellMemories_38 : decode cX3_tellMemories 38 = .ok (.aload_n 0, 1) := by decide +kernel
theorem dX3_tellMemories_39 : decode cX3_tellMemories 39 = .ok (.getfield 22, 3) := by decide +kernel
theorem dX3_tellMemories_42 : decode cX3_tellMemories 42 = .ok (.ishl, 1) := by decide +kernel
theorem dX3_tellMemories_43 : decode cX3_tellMemories 43 = .ok (.ior, 1) := by decide +kernel
theorem dX3_tellMemories_44 : decode cX3_tellMemories 44 = .ok (.putfield 31, 3) := by decide +kernel
theorem dX3_tellMemories_47 : decode cX3_tellMemories 47 = .ok (.aload_n 0, 1) := by decide +kernel
theorem dX3_tellMemories_48 : decode cX3_tellMemories 48 = .ok (.invokevirtual 34, 3) := by decide +kernel
theorem dX3_tellMemories_51 : decode cX3_tellMemories 51 = .ok (.iinc 1 1, 3) := by decide +kernel
theorem dX3_tellMemories_54 : decode cX3_tellMemories 54 = .ok (.goto (-36), 3) := by decide +kernel
theorem dX3_tellMemories_57 : decode cX3_tellMemories 57 = .ok (.aload_n 0, 1) := by decide +kernel
theorem dX3_tellMemories_58 : decode cX3_tellMemories 58 = .ok (.getfield 19, 3) := by decide +kernel
theorem dX3_tellMemories_61 : decode cX3_tellMemories 61 = .ok (.iconst 2, 1) := by decide +kernel
theorem dX3_tellMemories_62 : decode cX3_tellMemories 62 = .ok (.if_icmp .eq 7, 3) := by decide +kernel
theorem dX3_tellMemories_65 : decode cX3_tellMemories 65 = .ok (.iconst 1, 1) := by decide +kernel
theorem dX3_tellMemories_66 : decode cX3_tellMemories 66 = .ok (.goto 4, 3) := by decide +kernel
theorem dX3_tellMemories_69 : decode cX3_tellMemories 69 = .ok (.iconst 0, 1) := by decide +kernel
theorem dX3_tellMemories_70 : decode cX3_tellMemories 70 = .ok (.ireturn, 1) := by decide +kernel
theorem dX3_isWord_0 : decode cX3_isWord 0 = .ok (.aload_n 0, 1) := by decide +kernel
theorem dX3_isWord_1 : decode cX3_isWord 1 = .ok (.getfield 19, 3) := by decide +kernel
theorem dX3_isWord_4 : decode cX3_isWord 4 = .ok (.iconst 1, 1) := by decide +kernel
theorem dX3_isWord_5 : decode cX3_isWord 5 = .ok (.if_icmp .ne 15, 3) := by decide +kernel
theorem dX3_isWord_8 : decode cX3_isWord 8 = .ok (.aload_n 0, 1) := by decide +kernel
theorem dX3_isWord_9 : decode cX3_isWord 9 = .ok (.getfield 22, 3) := by decide +kernel
theorem dX3_isWord_12 : decode cX3_isWord 12 = .ok (.iload_n 1, 1) := by decide +kernel
theorem dX3_isWord_13 : decode cX3_isWord 13 = .ok (.if_icmp .ne 7, 3) := by decide +kernel
theorem dX3_isWord_16 : decode cX3_isWord 16 = .ok (.iconst 1, 1) := by decide +kernel
theorem dX3_isWord_17 : decode cX3_isWord 17 = .ok (.goto 4, 3) := by decide +kernel
theorem dX3_isWord_20 : decode cX3_isWord 20 = .ok (.iconst 0, 1) := by decide +kernel
theorem dX3_isWord_21 : decode cX3_isWord 21 = .ok (.ireturn, 1) := by decide +kernel
theorem dX3_isNumberTo_0 : decode cX3_isNumberTo 0 = .ok (.aload_n 0, 1) := by decide +kernel
theorem dX3_isNumberTo_1 : decode cX3_isNumberTo 1 = .ok (.getfield 19, 3) := by decide +kernel
theorem dX3_isNumberTo_4 : decode cX3_isNumberTo 4 = .ok (.iconst 2, 1) := by decide +kernel
theorem dX3_isNumberTo_5 : decode cX3_isNumberTo 5 = .ok (.if_icmp .ne 15, 3) := by decide +kernel
theorem dX3_isNumberTo_8 : decode cX3_isNumberTo 8 = .ok (.aload_n 0, 1) := by decide +kernel
theorem dX3_isNumberTo_9 : decode cX3_isNumberTo 9 = .ok (.getfield 22, 3) := by decide +kernel
theorem dX3_isNumberTo_12 : decode cX3_isNumberTo 12 = .ok (.iload_n 1, 1) := by decide +kernel
theorem dX3_isNumberTo_13 : decode cX3_isNumberTo 13 = .ok (.if_icmp .gt 7, 3) := by decide +kernel
theorem dX3_isNumberTo_16 : decode cX3_isNumberTo 16 = .ok (.iconst 1, 1) := by decide +kernel
theorem dX3_isNumberTo_17 : decode cX3_isNumberTo 17 = .ok (.goto 4, 3) := by decide +kernel
theorem dX3_isNumberTo_20 : decode cX3_isNumberTo 20 = .ok (.iconst 0, 1) := by decide +kernel
theorem dX3_isNumberTo_21 : decode cX3_isNumberTo 21 = .ok (.ireturn, 1) := by decide +kernel
theorem dX3_step_0 : decode cX3_step 0 = .ok (.aload_n 0, 1) := by decide +kernel
theorem dX3_step_1 : decode cX3_step 1 = .ok (.aload_n 0, 1) := by decide +kernel
theorem dX3_step_2 : decode cX3_step 2 = .ok (.getfield 28, 3) := by decide +kernel
theorem dX3_step_5 : decode cX3_step 5 = .ok (.putfield 25, 3) := by decide +kernel
theorem dX3_step_8 : decode cX3_step 8 = .ok (.aload_n 0, 1) := by decide +kernel
theorem dX3_step_9 : decode cX3_step 9 = .ok (.getfield 25, 3) := by decide +kernel
theorem dX3_step_12 : decode cX3_step 12 = .ok (.aload_n 0, 1) := by decide +kernel
theorem dX3_step_13 : decode cX3_step 13 = .ok (.getfield 15, 3) := by decide +kernel
theorem dX3_step_16 : decode cX3_step 16 = .ok (.if_icmp .ge 30, 3) := by decide +kernel
theorem dX3_step_19 : decode cX3_step 19 = .ok (.aload_n 0, 1) := by decide +kernel
theorem dX3_step_20 : decode cX3_step 20 = .ok (.getfield 9, 3) := by decide +kernel
theorem dX3_step_23 : decode cX3_step 23 = .ok (.aload_n 0, 1) := by decide +kernel
theorem dX3_step_24 : decode cX3_step 24 = .ok (.getfield 25, 3) := by decide +kernel
theorem dX3_step_27 : decode cX3_step 27 = .ok (.iaload, 1) := by decide +kernel
theorem dX3_step_28 : decode cX3_step 28 = .ok (.bipush 32, 2) := by decide +kernel
theorem dX3_step_30 : decode cX3_step 30 = .ok (.if_icmp .ne 16, 3) := by decide +kernel
theorem dX3_step_33 : decode cX3_step 33 = .ok (.aload_n 0, 1) := by decide +kernel
theorem dX3_step_34 : decode cX3_step 34 = .ok (.dup, 1) := by decide +kernel
theorem dX3_step_35 : decode cX3_step 35 = .ok (.getfield 25, 3) := by decide +kernel
theorem dX3_step_38 : decode cX3_step 38 = .ok (.iconst 1, 1) := by decide +kernel
theorem dX3_step_39 : decode cX3_step 39 = .ok (.iadd, 1) := by decide +kernel
theorem dX3_step_40 : decode cX3_step 40 = .ok (.putfield 25, 3) := by decide +kernel
theorem dX3_step_43 : decode cX3_step 43 = .ok (.goto (-35), 3) := by decide +kernel
theorem dX3_step_46 : decode cX3_step 46 = .ok (.aload_n 0, 1) := by decide +kernel
theorem dX3_step_47 : decode cX3_step 47 = .ok (.aload_n 0, 1) := by decide +kernel
theorem dX3_step_48 : decode cX3_step 48 = .ok (.getfield 25, 3) := by decide +kernel
theorem dX3_step_51 : decode cX3_step 51 = .ok (.putfield 28, 3) := by decide +kernel
theorem dX3_step_54 : decode cX3_step 54 = .ok (.aload_n 0, 1) := by decide +kernel
theorem dX3_step_55 : decode cX3_step 55 = .ok (.getfield 25, 3) := by decide +kernel
theorem dX3_step_58 : decode cX3_step 58 = .ok (.aload_n 0, 1) := by decide +kernel
theorem dX3_step_59 : decode cX3_step 59 = .ok (.getfield 15, 3) := by decide +kernel
theorem dX3_step_62 : decode cX3_step 62 = .ok (.if_icmp .lt 11, 3) := by decide +kernel
theorem dX3_step_65 : decode cX3_step 65 = .ok (.aload_n 0, 1) := by decide +kernel
theorem dX3_step_66 : decode cX3_step 66 = .ok (.iconst 0, 1) := by decide +kernel
theorem dX3_step_67 : decode cX3_step 67 = .ok (.putfield 19, 3) := by decide +kernel
theorem dX3_step_70 : decode cX3_step 70 = .ok (.goto 80, 3) := by decide +kernel
theorem dX3_step_73 : decode cX3_step 73 = .ok (.aload_n 0, 1) := by decide +kernel
theorem dX3_step_74 : decode cX3_step 74 = .ok (.getfield 9, 3) := by decide +kernel
theorem dX3_step_77 : decode cX3_step 77 = .ok (.aload_n 0, 1) := by decide +kernel
theorem dX3_step_78 : decode cX3_step 78 = .ok (.getfield 25, 3) := by decide +kernel
theorem dX3_step_81 : decode cX3_step 81 = .ok (.iaload, 1) := by decide +kernel
theorem dX3_step_82 : decode cX3_step 82 = .ok (.invokestatic 92, 3) := by decide +kernel
theorem dX3_step_85 : decode cX3_step 85 = .ok (.ifCond .eq 10, 3) := by decide +kernel
theorem dX3_step_88 : decode cX3_step 88 = .ok (.aload_n 0, 1) := by decide +kernel
theorem dX3_step_89 : decode cX3_step 89 = .ok (.invokevirtual 95, 3) := by decide +kernel
theorem dX3_step_92 : decode cX3_step 92 = .ok (.goto 58, 3) := by decide +kernel
theorem dX3_step_95 : decode cX3_step 95 = .ok (.aload_n 0, 1) := by decide +kernel
theorem dX3_step_96 : decode cX3_step 96 = .ok (.getfield 9, 3) := by decide +kernel
theorem dX3_step_99 : decode cX3_step 99 = .ok (.aload_n 0, 1) := by decide +kernel
theorem dX3_step_100 : decode cX3_step 100 = .ok (.getfield 25, 3) := by decide +kernel
theorem dX3_step_103 : decode cX3_step 103 = .ok (.iaload, 1) := by decide +kernel
theorem dX3_step_104 : decode cX3_step 104 = .ok (.invokestatic 98, 3) := by decide +kernel
theorem dX3_step_107 : decode cX3_step 107 = .ok (.ifCond .eq 10, 3) := by decide +kernel
theorem dX3_step_110 : decode cX3_step 110 = .ok (.aload_n 0, 1) := by decide +kernel
theorem dX3_step_111 : decode cX3_step 111 = .ok (.invokevirtual 101, 3) := by decide +kernel
theorem dX3_step_114 : decode cX3_step 114 = .ok (.goto 36, 3) := by decide +kernel
theorem dX3_step_117 : decode cX3_step 117 = .ok (.aload_n 0, 1) := by decide +kernel
theorem dX3_step_118 : decode cX3_step 118 = .ok (.aload_n 0, 1) := by decide +kernel
theorem dX3_step_119 : decode cX3_step 119 = .ok (.getfield 9, 3) := by decide +kernel
theorem dX3_step_122 : decode cX3_step 122 = .ok (.aload_n 0, 1) := by decide +kernel
theorem dX3_step_123 : decode cX3_step 123 = .ok (.getfield 25, 3) := by decide +kernel
theorem dX3_step_126 : decode cX3_step 126 = .ok (.iaload, 1) := by decide +kernel
theorem dX3_step_127 : decode cX3_step 127 = .ok (.bipush 59, 2) := by decide +kernel
theorem dX3_step_129 : decode cX3_step 129 = .ok (.if_icmp .ne 7, 3) := by decide +kernel
theorem dX3_step_132 : decode cX3_step 132 = .ok (.iconst 3, 1) := by decide +kernel
theorem dX3_step_133 : decode cX3_step 133 = .ok (.goto 4, 3) := by decide +kernel
theorem dX3_step_136 : decode cX3_step 136 = .ok (.iconst 4, 1) := by decide +kernel
theorem dX3_step_137 : decode cX3_step 137 = .ok (.putfield 19, 3) := by decide +kernel
theorem dX3_step_140 : decode cX3_step 140 = .ok (.aload_n 0, 1) := by decide +kernel
theorem dX3_step_141 : decode cX3_step 141 = .ok (.aload_n 0, 1) := by decide +kernel
theorem dX3_step_142 : decode cX3_step 142 = .ok (.getfield 25, 3) := by decide +kernel
theorem dX3_step_145 : decode cX3_step 145 = .ok (.iconst 1, 1) := by decide +kernel
theorem dX3_step_146 : decode cX3_step 146 = .ok (.iadd, 1) := by decide +kernel
theorem dX3_step_147 : decode cX3_step 147 = .ok (.putfield 28, 3) := by decide +kernel
theorem dX3_step_150 : decode cX3_step 150 = .ok (.return_, 1) := by decide +kernel
theorem dX3_stepOverWord_0 : decode cX3_stepOverWord 0 = .ok (.aload_n 0, 1) := by decide +kernel
theorem dX3_stepOverWord_1 : decode cX3_stepOverWord 1 = .ok (.getfield 28, 3) := by decide +kernel
theorem dX3_stepOverWord_4 : decode cX3_stepOverWord 4 = .ok (.aload_n 0, 1) := by decide +kernel
theorem dX3_stepOverWord_5 : decode cX3_stepOverWord 5 = .ok (.getfield 15, 3) := by decide +kernel
theorem dX3_stepOverWord_8 : decode cX3_stepOverWord 8 = .ok (.if_icmp .ge 31, 3) := by decide +kernel
theorem dX3_stepOverWord_11 : decode cX3_stepOverWord 11 = .ok (.aload_n 0, 1) := by decide +kernel
theorem dX3_stepOverWord_12 : decode cX3_stepOverWord 12 = .ok (.getfield 9, 3) := by decide +kernel
theorem dX3_stepOverWord_15 : decode cX3_stepOverWord 15 = .ok (.aload_n 0, 1) := by decide +kernel
theorem dX3_stepOverWord_16 : decode cX3_stepOverWord 16 = .ok (.getfield 28, 3) := by decide +kernel
theorem dX3_stepOverWord_19 : decode cX3_stepOverWord 19 = .ok (.iaload, 1) := by decide +kernel
theorem dX3_stepOverWord_20 : decode cX3_stepOverWord 20 = .ok (.invokestatic 92, 3) := by decide +kernel
theorem dX3_stepOverWord_23 : decode cX3_stepOverWord 23 = .ok (.ifCond .eq 16, 3) := by decide +kernel
theorem dX3_stepOverWord_26 : decode cX3_stepOverWord 26 = .ok (.aload_n 0, 1) := by decide +kernel
theorem dX3_stepOverWord_27 : decode cX3_stepOverWord 27 = .ok (.dup, 1) := by decide +kernel
theorem dX3_stepOverWord_28 : decode cX3_stepOverWord 28 = .ok (.getfield 28, 3) := by decide +kernel
theorem dX3_stepOverWord_31 : decode cX3_stepOverWord 31 = .ok (.iconst 1, 1) := by decide +kernel
theorem dX3_stepOverWord_32 : decode cX3_stepOverWord 32 = .ok (.iadd, 1) := by decide +kernel
theorem dX3_stepOverWord_33 : decode cX3_stepOverWord 33 = .ok (.putfield 28, 3) := by decide +kernel
theorem dX3_stepOverWord_36 : decode cX3_stepOverWord 36 = .ok (.goto (-36), 3) := by decide +kernel
theorem dX3_stepOverWord_39 : decode cX3_stepOverWord 39 = .ok (.aload_n 0, 1) := by decide +kernel
theorem dX3_stepOverWord_40 : decode cX3_stepOverWord 40 = .ok (.iconst 1, 1) := by decide +kernel
theorem dX3_stepOverWord_41 : decode cX3_stepOverWord 41 = .ok (.putfield 19, 3) := by decide +kernel
theorem dX3_stepOverWord_44 : decode cX3_stepOverWord 44 = .ok (.aload_n 0, 1) := by decide +kernel
theorem dX3_stepOverWord_45 : decode cX3_stepOverWord 45 = .ok (.iconst 0, 1) := by decide +kernel
theorem dX3_stepOverWord_46 : decode cX3_stepOverWord 46 = .ok (.putfield 22, 3) := by decide +kernel
theorem dX3_stepOverWord_49 : decode cX3_stepOverWord 49 = .ok (.aload_n 0, 1) := by decide +kernel
theorem dX3_stepOverWord_50 : decode cX3_stepOverWord 50 = .ok (.getfield 22, 3) := by decide +kernel
theorem dX3_stepOverWord_53 : decode cX3_stepOverWord 53 = .ok (.bipush 13, 2) := by decide +kernel
theorem dX3_stepOverWord_55 : decode cX3_stepOverWord 55 = .ok (.if_icmp .ge 94, 3) := by decide +kernel
theorem dX3_stepOverWord_58 : decode cX3_stepOverWord 58 = .ok (.aload_n 0, 1) := by decide +kernel
theorem dX3_stepOverWord_59 : decode cX3_stepOverWord 59 = .ok (.getfield 22, 3) := by decide +kernel
theorem dX3_stepOverWord_62 : decode cX3_stepOverWord 62 = .ok (.invokestatic 104, 3) := by decide +kernel
theorem dX3_stepOverWord_65 : decode cX3_stepOverWord 65 = .ok (.astore_n 1, 1) := by decide +kernel
theorem dX3_stepOverWord_66 : decode cX3_stepOverWord 66 = .ok (.iconst 0, 1) := by decide +kernel
theorem dX3_stepOverWord_67 : decode cX3_stepOverWord 67 = .ok (.istore_n 2, 1) := by decide +kernel
theorem dX3_stepOverWord_68 : decode cX3_stepOverWord 68 = .ok (.iload_n 2, 1) := by decide +kernel
theorem dX3_stepOverWord_69 : decode cX3_stepOverWord 69 = .ok (.aload_n 1, 1) := by decide +kernel
theorem dX3_stepOverWord_70 : decode cX3_stepOverWord 70 = .ok (.invokevirtual 108, 3) := by decide +kernel
theorem dX3_stepOverWord_73 : decode cX3_stepOverWord 73 = .ok (.if_icmp .ge 41, 3) := by decide +kernel
theorem dX3_stepOverWord_76 : decode cX3_stepOverWord 76 = .ok (.aload_n 0, 1) := by decide +kernel
theorem dX3_stepOverWord_77 : decode cX3_stepOverWord 77 = .ok (.getfield 25, 3) := by decide +kernel
theorem dX3_stepOverWord_80 : decode cX3_stepOverWord 80 = .ok (.iload_n 2, 1) := by decide +kernel
theorem dX3_stepOverWord_81 : decode cX3_stepOverWord 81 = .ok (.iadd, 1) := by decide +kernel
theorem dX3_stepOverWord_82 : decode cX3_stepOverWord 82 = .ok (.aload_n 0, 1) := by decide +kernel
theorem dX3_stepOverWord_83 : decode cX3_stepOverWord 83 = .ok (.getfield 28, 3) := by decide +kernel
theorem dX3_stepOverWord_86 : decode cX3_stepOverWord 86 = .ok (.if_icmp .ge 28, 3) := by decide +kernel
theorem dX3_stepOverWord_89 : decode cX3_stepOverWord 89 = .ok (.aload_n 0, 1) := by decide +kernel
theorem dX3_stepOverWord_90 : decode cX3_stepOverWord 90 = .ok (.getfield 9, 3) := by decide +kernel
theorem dX3_stepOverWord_93 : decode cX3_stepOverWord 93 = .ok (.aload_n 0, 1) := by decide +kernel
theorem dX3_stepOverWord_94 : decode cX3_stepOverWord 94 = .ok (.getfield 25, 3) := by decide +kernel
theorem dX3_stepOverWord_97 : decode cX3_stepOverWord 97 = .ok (.iload_n 2, 1) := by decide +kernel
theorem dX3_stepOverWord_98 : decode cX3_stepOverWord 98 = .ok (.iadd, 1) := by decide +kernel
theorem dX3_stepOverWord_99 : decode cX3_stepOverWord 99 = .ok (.iaload, 1) := by decide +kernel
theorem dX3_stepOverWord_100 : decode cX3_stepOverWord 100 = .ok (.aload_n 1, 1) := by decide +kernel
theorem dX3_stepOverWord_101 : decode cX3_stepOverWord 101 = .ok (.iload_n 2, 1) := by decide +kernel
theorem dX3_stepOverWord_102 : decode cX3_stepOverWord 102 = .ok (.invokevirtual 113, 3) := by decide +kernel
theorem dX3_stepOverWord_105 : decode cX3_stepOverWord 105 = .ok (.if_icmp .ne 9, 3) := by decide +kernel
theorem dX3_stepOverWord_108 : decode cX3_stepOverWord 108 = .ok (.iinc 2 1, 3) := by decide +kernel
theorem dX3_stepOverWord_111 : decode cX3_stepOverWord 111 = .ok (.goto (-43), 3) := by decide +kernel
theorem dX3_stepOverWord_114 : decode cX3_stepOverWord 114 = .ok (.iload_n 2, 1) := by decide +kernel
theorem dX3_stepOverWord_115 : decode cX3_stepOverWord 115 = .ok (.aload_n 1, 1) := by decide +kernel
theorem dX3_stepOverWord_116 : decode cX3_stepOverWord 116 = .ok (.invokevirtual 108, 3) := by decide +kernel
theorem dX3_stepOverWord_119 : decode cX3_stepOverWord 119 = .ok (.if_icmp .ne 17, 3) := by decide +kernel
theorem dX3_stepOverWord_122 : decode cX3_stepOverWord 122 = .ok (.aload_n 0, 1) := by decide +kernel
theorem dX3_stepOverWord_123 : decode cX3_stepOverWord 123 = .ok (.getfield 25, 3) := by decide +kernel
theorem dX3_stepOverWord_126 : decode cX3_stepOverWord 126 = .ok (.iload_n 2, 1) := by decide +kernel
theorem dX3_stepOverWord_127 : decode cX3_stepOverWord 127 = .ok (.iadd, 1) := by decide +kernel
theorem dX3_stepOverWord_128 : decode cX3_stepOverWord 128 = .ok (.aload_n 0, 1) := by decide +kernel
theorem dX3_stepOverWord_129 : decode cX3_stepOverWord 129 = .ok (.getfield 28, 3) := by decide +kernel
theorem dX3_stepOverWord_132 : decode cX3_stepOverWord 132 = .ok (.if_icmp .ne 4, 3) := by decide +kernel
theorem dX3_stepOverWord_135 : decode cX3_stepOverWord 135 = .ok (.return_, 1) := by decide +kernel
theorem dX3_stepOverWord_136 : decode cX3_stepOverWord 136 = .ok (.aload_n 0, 1) := by decide +kernel
theorem dX3_stepOverWord_137 : decode cX3_stepOverWord 137 = .ok (.dup, 1) := by decide +kernel
theorem dX3_stepOverWord_138 : decode cX3_stepOverWord 138 = .ok (.getfield 22, 3) := by decide +kernel
theorem dX3_stepOverWord_141 : decode cX3_stepOverWord 141 = .ok (.iconst 1, 1) := by decide +kernel
theorem dX3_stepOverWord_142 : decode cX3_stepOverWord 142 = .ok (.iadd, 1) := by decide +kernel
theorem dX3_stepOverWord_143 : decode cX3_stepOverWord 143 = .ok (.putfield 22, 3) := by decide +kernel
theorem dX3_stepOverWord_146 : decode cX3_stepOverWord 146 = .ok (.goto (-97), 3) := by decide +kernel
theorem dX3_stepOverWord_149 : decode cX3_stepOverWord 149 = .ok (.return_, 1) := by decide +kernel
theorem dX3_stepOverNumber_0 : decode cX3_stepOverNumber 0 = .ok (.aload_n 0, 1) := by decide +kernel
theorem dX3_stepOverNumber_1 : decode cX3_stepOverNumber 1 = .ok (.iconst 2, 1) := by decide +kernel
theorem dX3_stepOverNumber_2 : decode cX3_stepOverNumber 2 = .ok (.putfield 19, 3) := by decide +kernel
theorem dX3_stepOverNumber_5 : decode cX3_stepOverNumber 5 = .ok (.aload_n 0, 1) := by decide +kernel
theorem dX3_stepOverNumber_6 : decode cX3_stepOverNumber 6 = .ok (.iconst 0, 1) := by decide +kernel
theorem dX3_stepOverNumber_7 : decode cX3_stepOverNumber 7 = .ok (.putfield 22, 3) := by decide +kernel
theorem dX3_stepOverNumber_10 : decode cX3_stepOverNumber 10 = .ok (.aload_n 0, 1) := by decide +kernel
theorem dX3_stepOverNumber_11 : decode cX3_stepOverNumber 11 = .ok (.getfield 28, 3) := by decide +kernel
theorem dX3_stepOverNumber_14 : decode cX3_stepOverNumber 14 = .ok (.aload_n 0, 1) := by decide +kernel
theorem dX3_stepOverNumber_15 : decode cX3_stepOverNumber 15 = .ok (.getfield 15, 3) := by decide +kernel
theorem dX3_stepOverNumber_18 : decode cX3_stepOverNumber 18 = .ok (.if_icmp .ge 61, 3) := by decide +kernel
theorem dX3_stepOverNumber_21 : decode cX3_stepOverNumber 21 = .ok (.aload_n 0, 1) := by decide +kernel
theorem dX3_stepOverNumber_22 : decode cX3_stepOverNumber 22 = .ok (.getfield 9, 3) := by decide +kernel
theorem dX3_stepOverNumber_25 : decode cX3_stepOverNumber 25 = .ok (.aload_n 0, 1) := by decide +kernel
theorem dX3_stepOverNumber_26 : decode cX3_stepOverNumber 26 = .ok (.getfield 28, 3) := by decide +kernel
theorem dX3_stepOverNumber_29 : decode cX3_stepOverNumber 29 = .ok (.iaload, 1) := by decide +kernel
theorem dX3_stepOverNumber_30 : decode cX3_stepOverNumber 30 = .ok (.invokestatic 98, 3) := by decide +kernel
theorem dX3_stepOverNumber_33 : decode cX3_stepOverNumber 33 = .ok (.ifCond .eq 46, 3) := by decide +kernel
theorem dX3_stepOverNumber_36 : decode cX3_stepOverNumber 36 = .ok (.aload_n 0, 1) := by decide +kernel
theorem dX3_stepOverNumber_37 : decode cX3_stepOverNumber 37 = .ok (.sipush 1000, 3) := by decide +kernel
theorem dX3_stepOverNumber_40 : decode cX3_stepOverNumber 40 = .ok (.aload_n 0, 1) := by decide +kernel
theorem dX3_stepOverNumber_41 : decode cX3_stepOverNumber 41 = .ok (.getfield 22, 3) := by decide +kernel
theorem dX3_stepOverNumber_44 : decode cX3_stepOverNumber 44 = .ok (.bipush 10, 2) := by decide +kernel
theorem dX3_stepOverNumber_46 : decode cX3_stepOverNumber 46 = .ok (.imul, 1) := by decide +kernel
theorem dX3_stepOverNumber_47 : decode cX3_stepOverNumber 47 = .ok (.aload_n 0, 1) := by decide +kernel
theorem dX3_stepOverNumber_48 : decode cX3_stepOverNumber 48 = .ok (.getfield 9, 3) := by decide +kernel
theorem dX3_stepOverNumber_51 : decode cX3_stepOverNumber 51 = .ok (.aload_n 0, 1) := by decide +kernel
theorem dX3_stepOverNumber_52 : decode cX3_stepOverNumber 52 = .ok (.getfield 28, 3) := by decide +kernel
theorem dX3_stepOverNumber_55 : decode cX3_stepOverNumber 55 = .ok (.iaload, 1) := by decide +kernel
theorem dX3_stepOverNumber_56 : decode cX3_stepOverNumber 56 = .ok (.iadd, 1) := by decide +kernel
theorem dX3_stepOverNumber_57 : decode cX3_stepOverNumber 57 = .ok (.bipush 48, 2) := by decide +kernel
theorem dX3_stepOverNumber_59 : decode cX3_stepOverNumber 59 = .ok (.isub, 1) := by decide +kernel
theorem dX3_stepOverNumber_60 : decode cX3_stepOverNumber 60 = .ok (.invokestatic 117, 3) := by decide +kernel
theorem dX3_stepOverNumber_63 : decode cX3_stepOverNumber 63 = .ok (.putfield 22, 3) := by decide +kernel
theorem dX3_stepOverNumber_66 : decode cX3_stepOverNumber 66 = .ok (.aload_n 0, 1) := by decide +kernel
theorem dX3_stepOverNumber_67 : decode cX3_stepOverNumber 67 = .ok (.dup, 1) := by decide +kernel
theorem dX3_stepOverNumber_68 : decode cX3_stepOverNumber 68 = .ok (.getfield 28, 3) := by decide +kernel
theorem dX3_stepOverNumber_71 : decode cX3_stepOverNumber 71 = .ok (.iconst 1, 1) := by decide +kernel
theorem dX3_stepOverNumber_72 : decode cX3_stepOverNumber 72 = .ok (.iadd, 1) := by decide +kernel
theorem dX3_stepOverNumber_73 : decode cX3_stepOverNumber 73 = .ok (.putfield 28, 3) := by decide +kernel
theorem dX3_stepOverNumber_76 : decode cX3_stepOverNumber 76 = .ok (.goto (-66), 3) := by decide +kernel
theorem dX3_stepOverNumber_79 : decode cX3_stepOverNumber 79 = .ok (.return_, 1) := by decide +kernel
theorem dX3_isLetter_0 : decode cX3_isLetter 0 = .ok (.iload_n 0, 1) := by decide +kernel
theorem dX3_isLetter_1 : decode cX3_isLetter 1 = .ok (.bipush 97, 2) := by decide +kernel
theorem dX3_isLetter_3 : decode cX3_isLetter 3 = .ok (.if_icmp .lt 13, 3) := by decide +kernel
theorem dX3_isLetter_6 : decode cX3_isLetter 6 = .ok (.iload_n 0, 1) := by decide +kernel
theorem dX3_isLetter_7 : decode cX3_isLetter 7 = .ok (.bipush 122, 2) := by decide +kernel
theorem dX3_isLetter_9 : decode cX3_isLetter 9 = .ok (.if_icmp .gt 7, 3) := by decide +kernel
theorem dX3_isLetter_12 : decode cX3_isLetter 12 = .ok (.iconst 1, 1) := by decide +kernel
theorem dX3_isLetter_13 : decode cX3_isLetter 13 = .ok (.goto 4, 3) := by decide +kernel
theorem dX3_isLetter_16 : decode cX3_isLetter 16 = .ok (.iconst 0, 1) := by decide +kernel
theorem dX3_isLetter_17 : decode cX3_isLetter 17 = .ok (.ireturn, 1) := by decide +kernel
theorem dX3_isDigit_0 : decode cX3_isDigit 0 = .ok (.iload_n 0, 1) := by decide +kernel
theorem dX3_isDigit_1 : decode cX3_isDigit 1 = .ok (.bipush 48, 2) := by decide +kernel
theorem dX3_isDigit_3 : decode cX3_isDigit 3 = .ok (.if_icmp .lt 13, 3) := by decide +kernel
theorem dX3_isDigit_6 : decode cX3_isDigit 6 = .ok (.iload_n 0, 1) := by decide +kernel
theorem dX3_isDigit_7 : decode cX3_isDigit 7 = .ok (.bipush 57, 2) := by decide +kernel
theorem dX3_isDigit_9 : decode cX3_isDigit 9 = .ok (.if_icmp .gt 7, 3) := by decide +kernel
theorem dX3_isDigit_12 : decode cX3_isDigit 12 = .ok (.iconst 1, 1) := by decide +kernel
theorem dX3_isDigit_13 : decode cX3_isDigit 13 = .ok (.goto 4, 3) := by decide +kernel
theorem dX3_isDigit_16 : decode cX3_isDigit 16 = .ok (.iconst 0, 1) := by decide +kernel
theorem dX3_isDigit_17 : decode cX3_isDigit 17 = .ok (.ireturn, 1) := by decide +kernel
theorem dX3_nameOf_0 : decode cX3_nameOf 0 = .ok (.iload_n 0, 1) := by decide +kernel
theorem dX3_nameOf_1 : decode cX3_nameOf 1 = .ok (.tableswitch 106 0 12 #[67, 70, 73, 76, 79, 82, 85, 88, 91, 94, 97, 100, 103], 67) := by decide +kernel
theorem dX3_nameOf_68 : decode cX3_nameOf 68 = .ok (.ldc 123, 2) := by decide +kernel
theorem dX3_nameOf_70 : decode cX3_nameOf 70 = .ok (.areturn, 1) := by decide +kernel
theorem dX3_nameOf_71 : decode cX3_nameOf 71 = .ok (.ldc 125, 2) := by decide +kernel
theorem dX3_nameOf_73 : decode cX3_nameOf 73 = .ok (.areturn, 1) := by decide +kernel
theorem dX3_nameOf_74 : decode cX3_nameOf 74 = .ok (.ldc 127, 2) := by decide +kernel
theorem dX3_nameOf_76 : decode cX3_nameOf 76 = .ok (.areturn, 1) := by decide +kernel
theorem dX3_nameOf_77 : decode cX3_nameOf 77 = .ok (.ldc 129, 2) := by decide +kernel
theorem dX3_nameOf_79 : decode cX3_nameOf 79 = .ok (.areturn, 1) := by decide +kernel
theorem dX3_nameOf_80 : decode cX3_nameOf 80 = .ok (.ldc 131, 2) := by decide +kernel
theorem dX3_nameOf_82 : decode cX3_nameOf 82 = .ok (.areturn, 1) := by decide +kernel
theorem dX3_nameOf_83 : decode cX3_nameOf 83 = .ok (.ldc 133, 2) := by decide +kernel
theorem dX3_nameOf_85 : decode cX3_nameOf 85 = .ok (.areturn, 1) := by decide +kernel
theorem dX3_nameOf_86 : decode cX3_nameOf 86 = .ok (.ldc 135, 2) := by decide +kernel
theorem dX3_nameOf_88 : decode cX3_nameOf 88 = .ok (.areturn, 1) := by decide +kernel
theorem dX3_nameOf_89 : decode cX3_nameOf 89 = .ok (.ldc 137, 2) := by decide +kernel
theorem dX3_nameOf_91 : decode cX3_nameOf 91 = .ok (.areturn, 1) := by decide +kernel
theorem dX3_nameOf_92 : decode cX3_nameOf 92 = .ok (.ldc 139, 2) := by decide +kernel
theorem dX3_nameOf_94 : decode cX3_nameOf 94 = .ok (.areturn, 1) := by decide +kernel
theorem dX3_nameOf_95 : decode cX3_nameOf 95 = .ok (.ldc 141, 2) := by decide +kernel
theorem dX3_nameOf_97 : decode cX3_nameOf 97 = .ok (.areturn, 1) := by decide +kernel
theorem dX3_nameOf_98 : decode cX3_nameOf 98 = .ok (.ldc 142, 2) := by decide +kernel
theorem dX3_nameOf_100 : decode cX3_nameOf 100 = .ok (.areturn, 1) := by decide +kernel
theorem dX3_nameOf_101 : decode cX3_nameOf 101 = .ok (.ldc 144, 2) := by decide +kernel
theorem dX3_nameOf_103 : decode cX3_nameOf 103 = .ok (.areturn, 1) := by decide +kernel
theorem dX3_nameOf_104 : decode cX3_nameOf 104 = .ok (.ldc 146, 2) := by decide +kernel
theorem dX3_nameOf_106 : decode cX3_nameOf 106 = .ok (.areturn, 1) := by decide +kernel
theorem dX3_nameOf_107 : decode cX3_nameOf 107 = .ok (.ldc 148, 2) := by decide +kernel
theorem dX3_nameOf_109 : decode cX3_nameOf 109 = .ok (.areturn, 1) := by decide +kernel
theorem dJ6_bitCount_0f7a4_0 : decode cJ6_bitCount_0f7a4 0 = .ok (.iload_n 0, 1) := by decide +kernel
theorem dJ6_bitCount_0f7a4_1 : decode cJ6_bitCount_0f7a4 1 = .ok (.iload_n 0, 1) := by decide +kernel
theorem dJ6_bitCount_0f7a4_2 : decode cJ6_bitCount_0f7a4 2 = .ok (.iconst 1, 1) := by decide +kernel
theorem dJ6_bitCount_0f7a4_3 : decode cJ6_bitCount_0f7a4 3 = .ok (.iushr, 1) := by decide +kernel
theorem dJ6_bitCount_0f7a4_4 : decode cJ6_bitCount_0f7a4 4 = .ok (.ldc_w 265, 3) := by decide +kernel
theorem dJ6_bitCount_0f7a4_7 : decode cJ6_bitCount_0f7a4 7 = .ok (.iand, 1) := by decide +kernel
theorem dJ6_bitCount_0f7a4_8 : decode cJ6_bitCount_0f7a4 8 = .ok (.isub, 1) := by decide +kernel
theorem dJ6_bitCount_0f7a4_9 : decode cJ6_bitCount_0f7a4 9 = .ok (.istore_n 0, 1) := by decide +kernel
theorem dJ6_bitCount_0f7a4_10 : decode cJ6_bitCount_0f7a4 10 = .ok (.iload_n 0, 1) := by decide +kernel
theorem dJ6_bitCount_0f7a4_11 : decode cJ6_bitCount_0f7a4 11 = .ok (.ldc_w 266, 3) := by decide +kernel
theorem dJ6_bitCount_0f7a4_14 : decode cJ6_bitCount_0f7a4 14 = .ok (.iand, 1) := by decide +kernel
theorem dJ6_bitCount_0f7a4_15 : decode cJ6_bitCount_0f7a4 15 = .ok (.iload_n 0, 1) := by decide +kernel
theorem dJ6_bitCount_0f7a4_16 : decode cJ6_bitCount_0f7a4 16 = .ok (.iconst 2, 1) := by decide +kernel
theorem dJ6_bitCount_0f7a4_17 : decode cJ6_bitCount_0f7a4 17 = .ok (.iushr, 1) := by decide +kernel
theorem dJ6_bitCount_0f7a4_18 : decode cJ6_bitCount_0f7a4 18 = .ok (.ldc_w 266, 3) := by decide +kernel
theorem dJ6_bitCount_0f7a4_21 : decode cJ6_bitCount_0f7a4 21 = .ok (.iand, 1) := by decide +kernel
theorem dJ6_bitCount_0f7a4_22 : decode cJ6_bitCount_0f7a4 22 = .ok (.iadd, 1) := by decide +kernel
theorem dJ6_bitCount_0f7a4_23 : decode cJ6_bitCount_0f7a4 23 = .ok (.istore_n 0, 1) := by decide +kernel
theorem dJ6_bitCount_0f7a4_24 : decode cJ6_bitCount_0f7a4 24 = .ok (.iload_n 0, 1) := by decide +kernel
theorem dJ6_bitCount_0f7a4_25 : decode cJ6_bitCount_0f7a4 25 = .ok (.iload_n 0, 1) := by decide +kernel
theorem dJ6_bitCount_0f7a4_26 : decode cJ6_bitCount_0f7a4 26 = .ok (.iconst 4, 1) := by decide +kernel
theorem dJ6_bitCount_0f7a4_27 : decode cJ6_bitCount_0f7a4 27 = .ok (.iushr, 1) := by decide +kernel
theorem dJ6_bitCount_0f7a4_28 : decode cJ6_bitCount_0f7a4 28 = .ok (.iadd, 1) := by decide +kernel
theorem dJ6_bitCount_0f7a4_29 : decode cJ6_bitCount_0f7a4 29 = .ok (.ldc_w 267, 3) := by decide +kernel
theorem dJ6_bitCount_0f7a4_32 : decode cJ6_bitCount_0f7a4 32 = .ok (.iand, 1) := by decide +kernel
theorem dJ6_bitCount_0f7a4_33 : decode cJ6_bitCount_0f7a4 33 = .ok (.istore_n 0, 1) := by decide +kernel
theorem dJ6_bitCount_0f7a4_34 : decode cJ6_bitCount_0f7a4 34 = .ok (.iload_n 0, 1) := by decide +kernel
theorem dJ6_bitCount_0f7a4_35 : decode cJ6_bitCount_0f7a4 35 = .ok (.iload_n 0, 1) := by decide +kernel
theorem dJ6_bitCount_0f7a4_36 : decode cJ6_bitCount_0f7a4 36 = .ok (.bipush 8, 2) := by decide +kernel
theorem dJ6_bitCount_0f7a4_38 : decode cJ6_bitCount_0f7a4 38 = .ok (.iushr, 1) := by decide +kernel
theorem dJ6_bitCount_0f7a4_39 : decode cJ6_bitCount_0f7a4 39 = .ok (.iadd, 1) := by decide +kernel
theorem dJ6_bitCount_0f7a4_40 : decode cJ6_bitCount_0f7a4 40 = .ok (.istore_n 0, 1) := by decide +kernel
theorem dJ6_bitCount_0f7a4_41 : decode cJ6_bitCount_0f7a4 41 = .ok (.iload_n 0, 1) := by decide +kernel
theorem dJ6_bitCount_0f7a4_42 : decode cJ6_bitCount_0f7a4 42 = .ok (.iload_n 0, 1) := by decide +kernel
theorem dJ6_bitCount_0f7a4_43 : decode cJ6_bitCount_0f7a4 43 = .ok (.bipush 16, 2) := by decide +kernel
theorem dJ6_bitCount_0f7a4_45 : decode cJ6_bitCount_0f7a4 45 = .ok (.iushr, 1) := by decide +kernel
theorem dJ6_bitCount_0f7a4_46 : decode cJ6_bitCount_0f7a4 46 = .ok (.iadd, 1) := by decide +kernel
theorem dJ6_bitCount_0f7a4_47 : decode cJ6_bitCount_0f7a4 47 = .ok (.istore_n 0, 1) := by decide +kernel
theorem dJ6_bitCount_0f7a4_48 : decode cJ6_bitCount_0f7a4 48 = .ok (.iload_n 0, 1) := by decide +kernel
theorem dJ6_bitCount_0f7a4_49 : decode cJ6_bitCount_0f7a4 49 = .ok (.bipush 63, 2) := by decide +kernel
theorem dJ6_bitCount_0f7a4_51 : decode cJ6_bitCount_0f7a4 51 = .ok (.iand, 1) := by decide +kernel
theorem dJ6_bitCount_0f7a4_52 : decode cJ6_bitCount_0f7a4 52 = .ok (.ireturn, 1) := by decide +kernel
theorem dJ9_max_7cf53_0 : decode cJ9_max_7cf53 0 = .ok (.iload_n 0, 1) := by decide +kernel
theorem dJ9_max_7cf53_1 : decode cJ9_max_7cf53 1 = .ok (.iload_n 1, 1) := by decide +kernel
theorem dJ9_max_7cf53_2 : decode cJ9_max_7cf53 2 = .ok (.if_icmp .lt 7, 3) := by decide +kernel
theorem dJ9_max_7cf53_5 : decode cJ9_max_7cf53 5 = .ok (.iload_n 0, 1) := by decide +kernel
theorem dJ9_max_7cf53_6 : decode cJ9_max_7cf53 6 = .ok (.goto 4, 3) := by decide +kernel
theorem dJ9_max_7cf53_9 : decode cJ9_max_7cf53 9 = .ok (.iload_n 1, 1) := by decide +kernel
theorem dJ9_max_7cf53_10 : decode cJ9_max_7cf53 10 = .ok (.ireturn, 1) := by decide +kernel
theorem dJ9_min_7cf53_0 : decode cJ9_min_7cf53 0 = .ok (.iload_n 0, 1) := by decide +kernel
theorem dJ9_min_7cf53_1 : decode cJ9_min_7cf53 1 = .ok (.iload_n 1, 1) := by decide +kernel
theorem dJ9_min_7cf53_2 : decode cJ9_min_7cf53 2 = .ok (.if_icmp .gt 7, 3) := by decide +kernel
theorem dJ9_min_7cf53_5 : decode cJ9_min_7cf53 5 = .ok (.iload_n 0, 1) := by decide +kernel
theorem dJ9_min_7cf53_6 : decode cJ9_min_7cf53 6 = .ok (.goto 4, 3) := by decide +kernel
theorem dJ9_min_7cf53_9 : decode cJ9_min_7cf53 9 = .ok (.iload_n 1, 1) := by decide +kernel
theorem dJ9_min_7cf53_10 : decode cJ9_min_7cf53 10 = .ok (.ireturn, 1) := by decide +kernel
theorem dJ0_length_8abf5_0 : decode cJ0_length_8abf5 0 = .ok (.aload_n 0, 1) := by decide +kernel
theorem dJ0_length_8abf5_1 : decode cJ0_length_8abf5 1 = .ok (.getfield 9, 3) := by decide +kernel
theorem dJ0_length_8abf5_4 : decode cJ0_length_8abf5 4 = .ok (.arraylength, 1) := by decide +kernel
theorem dJ0_length_8abf5_5 : decode cJ0_length_8abf5 5 = .ok (.aload_n 0, 1) := by decide +kernel
theorem dJ0_length_8abf5_6 : decode cJ0_length_8abf5 6 = .ok (.invokevirtual 335, 3) := by decide +kernel
theorem dJ0_length_8abf5_9 : decode cJ0_length_8abf5 9 = .ok (.ishr, 1) := by decide +kernel
theorem dJ0_length_8abf5_10 : decode cJ0_length_8abf5 10 = .ok (.ireturn, 1) := by decide +kernel
theorem dJ0_charAt_5068e_0 : decode cJ0_charAt_5068e 0 = .ok (.aload_n 0, 1) := by decide +kernel
theorem dJ0_charAt_5068e_1 : decode cJ0_charAt_5068e 1 = .ok (.invokevirtual 492, 3) := by decide +kernel
theorem dJ0_charAt_5068e_4 : decode cJ0_charAt_5068e 4 = .ok (.ifCond .eq 12, 3) := by decide +kernel
theorem dJ0_charAt_5068e_7 : decode cJ0_charAt_5068e 7 = .ok (.aload_n 0, 1) := by decide +kernel
theorem dJ0_charAt_5068e_8 : decode cJ0_charAt_5068e 8 = .ok (.getfield 9, 3) := by decide +kernel
theorem dJ0_charAt_5068e_11 : decode cJ0_charAt_5068e 11 = .ok (.iload_n 1, 1) := by decide +kernel
theorem dJ0_charAt_5068e_12 : decode cJ0_charAt_5068e 12 = .ok (.invokestatic 495, 3) := by decide +kernel
theorem dJ0_charAt_5068e_15 : decode cJ0_charAt_5068e 15 = .ok (.ireturn, 1) := by decide +kernel
theorem dJ0_charAt_5068e_16 : decode cJ0_charAt_5068e 16 = .ok (.aload_n 0, 1) := by decide +kernel
theorem dJ0_charAt_5068e_17 : decode cJ0_charAt_5068e 17 = .ok (.getfield 9, 3) := by decide +kernel
theorem dJ0_charAt_5068e_20 : decode cJ0_charAt_5068e 20 = .ok (.iload_n 1, 1) := by decide +kernel
theorem dJ0_charAt_5068e_21 : decode cJ0_charAt_5068e 21 = .ok (.invokestatic 498, 3) := by decide +kernel
theorem dJ0_charAt_5068e_24 : decode cJ0_charAt_5068e 24 = .ok (.ireturn, 1) := by decide +kernel
theorem dJ0_coder_7d493_0 : decode cJ0_coder_7d493 0 = .ok (.getstatic 38, 3) := by decide +kernel
theorem dJ0_coder_7d493_3 : decode cJ0_coder_7d493 3 = .ok (.ifCond .eq 10, 3) := by decide +kernel
theorem dJ0_coder_7d493_6 : decode cJ0_coder_7d493 6 = .ok (.aload_n 0, 1) := by decide +kernel
theorem dJ0_coder_7d493_7 : decode cJ0_coder_7d493 7 = .ok (.getfield 15, 3) := by decide +kernel
theorem dJ0_coder_7d493_10 : decode cJ0_coder_7d493 10 = .ok (.goto 4, 3) := by decide +kernel
theorem dJ0_coder_7d493_13 : decode cJ0_coder_7d493 13 = .ok (.iconst 1, 1) := by decide +kernel
theorem dJ0_coder_7d493_14 : decode cJ0_coder_7d493 14 = .ok (.ireturn, 1) := by decide +kernel
theorem dJ0_isLatin1_aae02_0 : decode cJ0_isLatin1_aae02 0 = .ok (.getstatic 38, 3) := by decide +kernel
theorem dJ0_isLatin1_aae02_3 : decode cJ0_isLatin1_aae02 3 = .ok (.ifCond .eq 14, 3) := by decide +kernel
theorem dJ0_isLatin1_aae02_6 : decode cJ0_isLatin1_aae02 6 = .ok (.aload_n 0, 1) := by decide +kernel
theorem dJ0_isLatin1_aae02_7 : decode cJ0_isLatin1_aae02 7 = .ok (.getfield 15, 3) := by decide +kernel
theorem dJ0_isLatin1_aae02_10 : decode cJ0_isLatin1_aae02 10 = .ok (.ifCond .ne 7, 3) := by decide +kernel
theorem dJ0_isLatin1_aae02_13 : decode cJ0_isLatin1_aae02 13 = .ok (.iconst 1, 1) := by decide +kernel
theorem dJ0_isLatin1_aae02_14 : decode cJ0_isLatin1_aae02 14 = .ok (.goto 4, 3) := by decide +kernel
theorem dJ0_isLatin1_aae02_17 : decode cJ0_isLatin1_aae02 17 = .ok (.iconst 0, 1) := by decide +kernel
theorem dJ0_isLatin1_aae02_18 : decode cJ0_isLatin1_aae02 18 = .ok (.ireturn, 1) := by decide +kernel
theorem dJ0_checkIndex_df160_0 : decode cJ0_checkIndex_df160 0 = .ok (.iload_n 0, 1) := by decide +kernel
theorem dJ0_checkIndex_df160_1 : decode cJ0_checkIndex_df160 1 = .ok (.iload_n 1, 1) := by decide +kernel
theorem dJ0_checkIndex_df160_2 : decode cJ0_checkIndex_df160 2 = .ok (.getstatic 1053, 3) := by decide +kernel
theorem dJ0_checkIndex_df160_5 : decode cJ0_checkIndex_df160 5 = .ok (.invokestatic 1059, 3) := by decide +kernel
theorem dJ0_checkIndex_df160_8 : decode cJ0_checkIndex_df160 8 = .ok (.pop, 1) := by decide +kernel
theorem dJ0_checkIndex_df160_9 : decode cJ0_checkIndex_df160 9 = .ok (.return_, 1) := by decide +kernel
theorem dJ1_charAt_3b067_0 : decode cJ1_charAt_3b067 0 = .ok (.iload_n 1, 1) := by decide +kernel
theorem dJ1_charAt_3b067_1 : decode cJ1_charAt_3b067 1 = .ok (.aload_n 0, 1) := by decide +kernel
theorem dJ1_charAt_3b067_2 : decode cJ1_charAt_3b067 2 = .ok (.arraylength, 1) := by decide +kernel
theorem dJ1_charAt_3b067_3 : decode cJ1_charAt_3b067 3 = .ok (.invokestatic 9, 3) := by decide +kernel
theorem dJ1_charAt_3b067_6 : decode cJ1_charAt_3b067 6 = .ok (.aload_n 0, 1) := by decide +kernel
theorem dJ1_charAt_3b067_7 : decode cJ1_charAt_3b067 7 = .ok (.iload_n 1, 1) := by decide +kernel
theorem dJ1_charAt_3b067_8 : decode cJ1_charAt_3b067 8 = .ok (.baload, 1) := by decide +kernel
theorem dJ1_charAt_3b067_9 : decode cJ1_charAt_3b067 9 = .ok (.sipush 255, 3) := by decide +kernel
theorem dJ1_charAt_3b067_12 : decode cJ1_charAt_3b067 12 = .ok (.iand, 1) := by decide +kernel
theorem dJ1_charAt_3b067_13 : decode cJ1_charAt_3b067 13 = .ok (.i2c, 1) := by decide +kernel
theorem dJ1_charAt_3b067_14 : decode cJ1_charAt_3b067 14 = .ok (.ireturn, 1) := by decide +kernel
theorem dJ2_getChar_3b067_0 : decode cJ2_getChar_3b067 0 = .ok (.getstatic 44, 3) := by decide +kernel
theorem dJ2_getChar_3b067_3 : decode cJ2_getChar_3b067 3 = .ok (.ifCond .ne 25, 3) := by decide +kernel
theorem dJ2_getChar_3b067_6 : decode cJ2_getChar_3b067 6 = .ok (.iload_n 1, 1) := by decide +kernel
theorem dJ2_getChar_3b067_7 : decode cJ2_getChar_3b067 7 = .ok (.ifCond .lt 11, 3) := by decide +kernel
theorem dJ2_getChar_3b067_10 : decode cJ2_getChar_3b067 10 = .ok (.iload_n 1, 1) := by decide +kernel
theorem dJ2_getChar_3b067_11 : decode cJ2_getChar_3b067 11 = .ok (.aload_n 0, 1) := by decide +kernel
theorem dJ2_getChar_3b067_12 : decode cJ2_getChar_3b067 12 = .ok (.invokestatic 48, 3) := by decide +kernel
theorem dJ2_getChar_3b067_15 : decode cJ2_getChar_3b067 15 = .ok (.if_icmp .lt 13, 3) := by decide +kernel
theorem dJ2_getChar_3b067_18 : decode cJ2_getChar_3b067 18 = .ok (.new 52, 3) := by decide +kernel
theorem dJ2_getChar_3b067_21 : decode cJ2_getChar_3b067 21 = .ok (.dup, 1) := by decide +kernel
theorem dJ2_getChar_3b067_22 : decode cJ2_getChar_3b067 22 = .ok (.ldc 54, 2) := by decide +kernel
theorem dJ2_getChar_3b067_24 : decode cJ2_getChar_3b067 24 = .ok (.invokespecial 56, 3) := by decide +kernel
theorem dJ2_getChar_3b067_27 : decode cJ2_getChar_3b067 27 = .ok (.athrow, 1) := by decide +kernel
theorem dJ2_getChar_3b067_28 : decode cJ2_getChar_3b067 28 = .ok (.iload_n 1, 1) := by decide +kernel
theorem dJ2_getChar_3b067_29 : decode cJ2_getChar_3b067 29 = .ok (.iconst 1, 1) := by decide +kernel
theorem dJ2_getChar_3b067_30 : decode cJ2_getChar_3b067 30 = .ok (.ishl, 1) := by decide +kernel
theorem dJ2_getChar_3b067_31 : decode cJ2_getChar_3b067 31 = .ok (.istore_n 1, 1) := by decide +kernel
theorem dJ2_getChar_3b067_32 : decode cJ2_getChar_3b067 32 = .ok (.aload_n 0, 1) := by decide +kernel
theorem dJ2_getChar_3b067_33 : decode cJ2_getChar_3b067 33 = .ok (.iload_n 1, 1) := by decide +kernel
theorem dJ2_getChar_3b067_34 : decode cJ2_getChar_3b067 34 = .ok (.iinc 1 1, 3) := by decide +kernel
theorem dJ2_getChar_3b067_37 : decode cJ2_getChar_3b067 37 = .ok (.baload, 1) := by decide +kernel
theorem dJ2_getChar_3b067_38 : decode cJ2_getChar_3b067 38 = .ok (.sipush 255, 3) := by decide +kernel
theorem dJ2_getChar_3b067_41 : decode cJ2_getChar_3b067 41 = .ok (.iand, 1) := by decide +kernel
theorem dJ2_getChar_3b067_42 : decode cJ2_getChar_3b067 42 = .ok (.getstatic 59, 3) := by decide +kernel
theorem dJ2_getChar_3b067_45 : decode cJ2_getChar_3b067 45 = .ok (.ishl, 1) := by decide +kernel
theorem dJ2_getChar_3b067_46 : decode cJ2_getChar_3b067 46 = .ok (.aload_n 0, 1) := by decide +kernel
theorem dJ2_getChar_3b067_47 : decode cJ2_getChar_3b067 47 = .ok (.iload_n 1, 1) := by decide +kernel
theorem dJ2_getChar_3b067_48 : decode cJ2_getChar_3b067 48 = .ok (.baload, 1) := by decide +kernel
theorem dJ2_getChar_3b067_49 : decode cJ2_getChar_3b067 49 = .ok (.sipush 255, 3) := by decide +kernel
theorem dJ2_getChar_3b067_52 : decode cJ2_getChar_3b067 52 = .ok (.iand, 1) := by decide +kernel
theorem dJ2_getChar_3b067_53 : decode cJ2_getChar_3b067 53 = .ok (.getstatic 63, 3) := by decide +kernel
theorem dJ2_getChar_3b067_56 : decode cJ2_getChar_3b067 56 = .ok (.ishl, 1) := by decide +kernel
theorem dJ2_getChar_3b067_57 : decode cJ2_getChar_3b067 57 = .ok (.ior, 1) := by decide +kernel
theorem dJ2_getChar_3b067_58 : decode cJ2_getChar_3b067 58 = .ok (.i2c, 1) := by decide +kernel
theorem dJ2_getChar_3b067_59 : decode cJ2_getChar_3b067 59 = .ok (.ireturn, 1) := by decide +kernel
theorem dJ2_length_9d52b_0 : decode cJ2_length_9d52b 0 = .ok (.aload_n 0, 1) := by decide +kernel
theorem dJ2_length_9d52b_1 : decode cJ2_length_9d52b 1 = .ok (.arraylength, 1) := by decide +kernel
theorem dJ2_length_9d52b_2 : decode cJ2_length_9d52b 2 = .ok (.iconst 1, 1) := by decide +kernel
theorem dJ2_length_9d52b_3 : decode cJ2_length_9d52b 3 = .ok (.ishr, 1) := by decide +kernel
theorem dJ2_length_9d52b_4 : decode cJ2_length_9d52b 4 = .ok (.ireturn, 1) := by decide +kernel
theorem dJ2_charAt_3b067_0 : decode cJ2_charAt_3b067 0 = .ok (.iload_n 1, 1) := by decide +kernel
theorem dJ2_charAt_3b067_1 : decode cJ2_charAt_3b067 1 = .ok (.aload_n 0, 1) := by decide +kernel
theorem dJ2_charAt_3b067_2 : decode cJ2_charAt_3b067 2 = .ok (.invokestatic 67, 3) := by decide +kernel
theorem dJ2_charAt_3b067_5 : decode cJ2_charAt_3b067 5 = .ok (.aload_n 0, 1) := by decide +kernel
theorem dJ2_charAt_3b067_6 : decode cJ2_charAt_3b067 6 = .ok (.iload_n 1, 1) := by decide +kernel
theorem dJ2_charAt_3b067_7 : decode cJ2_charAt_3b067 7 = .ok (.invokestatic 71, 3) := by decide +kernel
theorem dJ2_charAt_3b067_10 : decode cJ2_charAt_3b067 10 = .ok (.ireturn, 1) := by decide +kernel
theorem dJ2_checkIndex_2214a_0 : decode cJ2_checkIndex_2214a 0 = .ok (.iload_n 0, 1) := by decide +kernel
theorem dJ2_checkIndex_2214a_1 : decode cJ2_checkIndex_2214a 1 = .ok (.aload_n 1, 1) := by decide +kernel
theorem dJ2_checkIndex_2214a_2 : decode cJ2_checkIndex_2214a 2 = .ok (.invokestatic 48, 3) := by decide +kernel
theorem dJ2_checkIndex_2214a_5 : decode cJ2_checkIndex_2214a 5 = .ok (.invokestatic 414, 3) := by decide +kernel
theorem dJ2_checkIndex_2214a_8 : decode cJ2_checkIndex_2214a 8 = .ok (.return_, 1) := by decide +kernel
theorem dJ3_checkIndex_8e157_0 : decode cJ3_checkIndex_8e157 0 = .ok (.iload_n 0, 1) := by decide +kernel
theorem dJ3_checkIndex_8e157_1 : decode cJ3_checkIndex_8e157 1 = .ok (.ifCond .lt 8, 3) := by decide +kernel
theorem dJ3_checkIndex_8e157_4 : decode cJ3_checkIndex_8e157 4 = .ok (.iload_n 0, 1) := by decide +kernel
theorem dJ3_checkIndex_8e157_5 : decode cJ3_checkIndex_8e157 5 = .ok (.iload_n 1, 1) := by decide +kernel
theorem dJ3_checkIndex_8e157_6 : decode cJ3_checkIndex_8e157 6 = .ok (.if_icmp .lt 10, 3) := by decide +kernel
theorem dJ3_checkIndex_8e157_9 : decode cJ3_checkIndex_8e157 9 = .ok (.aload_n 2, 1) := by decide +kernel
theorem dJ3_checkIndex_8e157_10 : decode cJ3_checkIndex_8e157 10 = .ok (.iload_n 0, 1) := by decide +kernel
theorem dJ3_checkIndex_8e157_11 : decode cJ3_checkIndex_8e157 11 = .ok (.iload_n 1, 1) := by decide +kernel
theorem dJ3_checkIndex_8e157_12 : decode cJ3_checkIndex_8e157 12 = .ok (.invokestatic 95, 3) := by decide +kernel
theorem dJ3_checkIndex_8e157_15 : decode cJ3_checkIndex_8e157 15 = .ok (.athrow, 1) := by decide +kernel
theorem dJ3_checkIndex_8e157_16 : decode cJ3_checkIndex_8e157 16 = .ok (.iload_n 0, 1) := by decide +kernel
theorem dJ3_checkIndex_8e157_17 : decode cJ3_checkIndex_8e157 17 = .ok (.ireturn, 1) := by decide +kernel
end
section
theorem dX4_init_0 : decode cX4_init 0 = .ok (.aload_n 0, 1) := by decide +kernel
theorem dX4_init_1 : decode cX4_init 1 = .ok (.invokespecial 3, 3) := by decide +kernel
theorem dX4_init_4 : decode cX4_init 4 = .ok (.aload_n 0, 1) := by decide +kernel
theorem dX4_init_5 : decode cX4_init 5 = .ok (.new 9, 3) := by decide +kernel
theorem dX4_init_8 : decode cX4_init 8 = .ok (.dup, 1) := by decide +kernel
theorem dX4_init_9 : decode cX4_init 9 = .ok (.invokespecial 11, 3) := by decide +kernel
theorem dX4_init_12 : decode cX4_init 12 = .ok (.putfield 12, 3) := by decide +kernel
theorem dX4_init_15 : decode cX4_init 15 = .ok (.aload_n 0, 1) := by decide +kernel
theorem dX4_init_16 : decode cX4_init 16 = .ok (.new 9, 3) := by decide +kernel
theorem dX4_init_19 : decode cX4_init 19 = .ok (.dup, 1) := by decide +kernel
theorem dX4_init_20 : decode cX4_init 20 = .ok (.invokespecial 11, 3) := by decide +kernel
theorem dX4_init_23 : decode cX4_init 23 = .ok (.putfield 16, 3) := by decide +kernel
theorem dX4_init_26 : decode cX4_init 26 = .ok (.aload_n 0, 1) := by decide +kernel
theorem dX4_init_27 : decode cX4_init 27 = .ok (.new 9, 3) := by decide +kernel
theorem dX4_init_30 : decode cX4_init 30 = .ok (.dup, 1) := by decide +kernel
theorem dX4_init_31 : decode cX4_init 31 = .ok (.invokespecial 11, 3) := by decide +kernel
theorem dX4_init_34 : decode cX4_init 34 = .ok (.putfield 19, 3) := by decide +kernel
theorem dX4_init_37 : decode cX4_init 37 = .ok (.aload_n 0, 1) := by decide +kernel
theorem dX4_init_38 : decode cX4_init 38 = .ok (.new 9, 3) := by decide +kernel
theorem dX4_init_41 : decode cX4_init 41 = .ok (.dup, 1) := by decide +kernel
theorem dX4_init_42 : decode cX4_init 42 = .ok (.invokespecial 11, 3) := by decide +kernel
theorem dX4_init_45 : decode cX4_init 45 = .ok (.putfield 22, 3) := by decide +kernel
theorem dX4_init_48 : decode cX4_init 48 = .ok (.aload_n 0, 1) := by decide +kernel
theorem dX4_init_49 : decode cX4_init 49 = .ok (.new 25, 3) := by decide +kernel
theorem dX4_init_52 : decode cX4_init 52 = .ok (.dup, 1) := by decide +kernel
theorem dX4_init_53 : decode cX4_init 53 = .ok (.invokespecial 27, 3) := by decide +kernel
theorem dX4_init_56 : decode cX4_init 56 = .ok (.putfield 28, 3) := by decide +kernel
theorem dX4_init_59 : decode cX4_init 59 = .ok (.aload_n 0, 1) := by decide +kernel
theorem dX4_init_60 : decode cX4_init 60 = .ok (.iconst 4, 1) := by decide +kernel
theorem dX4_init_61 : decode cX4_init 61 = .ok (.anewarray 32, 3) := by decide +kernel
theorem dX4_init_64 : decode cX4_init 64 = .ok (.putfield 34, 3) := by decide +kernel
theorem dX4_init_67 : decode cX4_init 67 = .ok (.aload_n 0, 1) := by decide +kernel
theorem dX4_init_68 : decode cX4_init 68 = .ok (.bipush 7, 2) := by decide +kernel
theorem dX4_init_70 : decode cX4_init 70 = .ok (.newarray .int, 2) := by decide +kernel
theorem dX4_init_72 : decode cX4_init 72 = .ok (.putfield 38, 3) := by decide +kernel
theorem dX4_init_75 : decode cX4_init 75 = .ok (.aload_n 0, 1) := by decide +kernel
theorem dX4_init_76 : decode cX4_init 76 = .ok (.iconst 0, 1) := by decide +kernel
theorem dX4_init_77 : decode cX4_init 77 = .ok (.putfield 42, 3) := by decide +kernel
theorem dX4_init_80 : decode cX4_init 80 = .ok (.iconst 0, 1) := by decide +kernel
theorem dX4_init_81 : decode cX4_init 81 = .ok (.istore_n 1, 1) := by decide +kernel
theorem dX4_init_82 : decode cX4_init 82 = .ok (.iload_n 1, 1) := by decide +kernel
theorem dX4_init_83 : decode cX4_init 83 = .ok (.iconst 4, 1) := by decide +kernel
theorem dX4_init_84 : decode cX4_init 84 = .ok (.if_icmp .ge 22, 3) := by decide +kernel
theorem dX4_init_87 : decode cX4_init 87 = .ok (.aload_n 0, 1) := by decide +kernel
theorem dX4_init_88 : decode cX4_init 88 = .ok (.getfield 34, 3) := by decide +kernel
theorem dX4_init_91 : decode cX4_init 91 = .ok (.iload_n 1, 1) := by decide +kernel
theorem dX4_init_92 : decode cX4_init 92 = .ok (.new 32, 3) := by decide +kernel
theorem dX4_init_95 : decode cX4_init 95 = .ok (.dup, 1) := by decide +kernel
theorem dX4_init_96 : decode cX4_init 96 = .ok (.invokespecial 46, 3) := by decide +kernel
theorem dX4_init_99 : decode cX4_init 99 = .ok (.aastore, 1) := by decide +kernel
theorem dX4_init_100 : decode cX4_init 100 = .ok (.iinc 1 1, 3) := by decide +kernel
theorem dX4_init_103 : decode cX4_init 103 = .ok (.goto (-21), 3) := by decide +kernel
theorem dX4_init_106 : decode cX4_init 106 = .ok (.return_, 1) := by decide +kernel
theorem dX4_falls_0 : decode cX4_falls 0 = .ok (.iload_n 1, 1) := by decide +kernel
theorem dX4_falls_1 : decode cX4_falls 1 = .ok (.iconst 0, 1) := by decide +kernel
theorem dX4_falls_2 : decode cX4_falls 2 = .ok (.bipush 20, 2) := by decide +kernel
theorem dX4_falls_4 : decode cX4_falls 4 = .ok (.invokestatic 47, 3) := by decide +kernel
theorem dX4_falls_7 : decode cX4_falls 7 = .ok (.ifCond .ne 10, 3) := by decide +kernel
theorem dX4_falls_10 : decode cX4_falls 10 = .ok (.aload_n 0, 1) := by decide +kernel
theorem dX4_falls_11 : decode cX4_falls 11 = .ok (.ldc 51, 2) := by decide +kernel
theorem dX4_falls_13 : decode cX4_falls 13 = .ok (.invokevirtual 52, 3) := by decide +kernel
theorem dX4_falls_16 : decode cX4_falls 16 = .ok (.ireturn, 1) := by decide +kernel
theorem dX4_falls_17 : decode cX4_falls 17 = .ok (.aload_n 0, 1) := by decide +kernel
theorem dX4_falls_18 : decode cX4_falls 18 = .ok (.getfield 12, 3) := by decide +kernel
theorem dX4_falls_21 : decode cX4_falls 21 = .ok (.getfield 56, 3) := by decide +kernel
theorem dX4_falls_24 : decode cX4_falls 24 = .ok (.istore_n 2, 1) := by decide +kernel
theorem dX4_falls_25 : decode cX4_falls 25 = .ok (.aload_n 0, 1) := by decide +kernel
theorem dX4_falls_26 : decode cX4_falls 26 = .ok (.getfield 12, 3) := by decide +kernel
theorem dX4_falls_29 : decode cX4_falls 29 = .ok (.iload_n 1, 1) := by decide +kernel
theorem dX4_falls_30 : decode cX4_falls 30 = .ok (.putfield 56, 3) := by decide +kernel
theorem dX4_falls_33 : decode cX4_falls 33 = .ok (.iload_n 2, 1) := by decide +kernel
theorem dX4_falls_34 : decode cX4_falls 34 = .ok (.ireturn, 1) := by decide +kernel
theorem dX4_room_0 : decode cX4_room 0 = .ok (.iload_n 1, 1) := by decide +kernel
theorem dX4_room_1 : decode cX4_room 1 = .ok (.invokestatic 60, 3) := by decide +kernel
theorem dX4_room_4 : decode cX4_room 4 = .ok (.ifCond .eq 12, 3) := by decide +kernel
theorem dX4_room_7 : decode cX4_room 7 = .ok (.iload_n 2, 1) := by decide +kernel
theorem dX4_room_8 : decode cX4_room 8 = .ok (.iconst 0, 1) := by decide +kernel
theorem dX4_room_9 : decode cX4_room 9 = .ok (.iconst 1, 1) := by decide +kernel
theorem dX4_room_10 : decode cX4_room 10 = .ok (.invokestatic 47, 3) := by decide +kernel
theorem dX4_room_13 : decode cX4_room 13 = .ok (.ifCond .ne 10, 3) := by decide +kernel
theorem dX4_room_16 : decode cX4_room 16 = .ok (.aload_n 0, 1) := by decide +kernel
theorem dX4_room_17 : decode cX4_room 17 = .ok (.ldc 51, 2) := by decide +kernel
theorem dX4_room_19 : decode cX4_room 19 = .ok (.invokevirtual 52, 3) := by decide +kernel
theorem dX4_room_22 : decode cX4_room 22 = .ok (.ireturn, 1) := by decide +kernel
theorem dX4_room_23 : decode cX4_room 23 = .ok (.iload_n 3, 1) := by decide +kernel
theorem dX4_room_24 : decode cX4_room 24 = .ok (.iconst 0, 1) := by decide +kernel
theorem dX4_room_25 : decode cX4_room 25 = .ok (.iload_n 2, 1) := by decide +kernel
theorem dX4_room_26 : decode cX4_room 26 = .ok (.ifCond .ne 8, 3) := by decide +kernel
theorem dX4_room_29 : decode cX4_room 29 = .ok (.bipush 99, 2) := by decide +kernel
theorem dX4_room_31 : decode cX4_room 31 = .ok (.goto 6, 3) := by decide +kernel
theorem dX4_room_34 : decode cX4_room 34 = .ok (.sipush 1023, 3) := by decide +kernel
theorem dX4_room_37 : decode cX4_room 37 = .ok (.invokestatic 47, 3) := by decide +kernel
theorem dX4_room_40 : decode cX4_room 40 = .ok (.ifCond .ne 10, 3) := by decide +kernel
theorem dX4_room_43 : decode cX4_room 43 = .ok (.aload_n 0, 1) := by decide +kernel
theorem dX4_room_44 : decode cX4_room 44 = .ok (.ldc 51, 2) := by decide +kernel
theorem dX4_room_46 : decode cX4_room 46 = .ok (.invokevirtual 52, 3) := by decide +kernel
theorem dX4_room_49 : decode cX4_room 49 = .ok (.ireturn, 1) := by decide +kernel
theorem dX4_room_50 : decode cX4_room 50 = .ok (.iload_n 2, 1) := by decide +kernel
theorem dX4_room_51 : decode cX4_room 51 = .ok (.ifCond .ne 13, 3) := by decide +kernel
theorem dX4_room_54 : decode cX4_room 54 = .ok (.aload_n 0, 1) := by decide +kernel
theorem dX4_room_55 : decode cX4_room 55 = .ok (.getfield 12, 3) := by decide +kernel
theorem dX4_room_58 : decode cX4_room 58 = .ok (.getfield 64, 3) := by decide +kernel
theorem dX4_room_61 : decode cX4_room 61 = .ok (.goto 10, 3) := by decide +kernel
theorem dX4_room_64 : decode cX4_room 64 = .ok (.aload_n 0, 1) := by decide +kernel
theorem dX4_room_65 : decode cX4_room 65 = .ok (.getfield 12, 3) := by decide +kernel
theorem dX4_room_68 : decode cX4_room 68 = .ok (.getfield 67, 3) := by decide +kernel
theorem dX4_room_71 : decode cX4_room 71 = .ok (.astore 4, 2) := by decide +kernel
theorem dX4_room_73 : decode cX4_room 73 = .ok (.aload 4, 2) := by decide +kernel
theorem dX4_room_75 : decode cX4_room 75 = .ok (.iload_n 1, 1) := by decide +kernel
theorem dX4_room_76 : decode cX4_room 76 = .ok (.iaload, 1) := by decide +kernel
theorem dX4_room_77 : decode cX4_room 77 = .ok (.istore 5, 2) := by decide +kernel
theorem dX4_room_79 : decode cX4_room 79 = .ok (.aload 4, 2) := by decide +kernel
theorem dX4_room_81 : decode cX4_room 81 = .ok (.iload_n 1, 1) := by decide +kernel
theorem dX4_room_82 : decode cX4_room 82 = .ok (.iload_n 3, 1) := by decide +kernel
theorem dX4_room_83 : decode cX4_room 83 = .ok (.iastore, 1) := by decide +kernel
theorem dX4_room_84 : decode cX4_room 84 = .ok (.iload 5, 2) := by decide +kernel
theorem dX4_room_86 : decode cX4_room 86 = .ok (.ireturn, 1) := by decide +kernel
theorem dX4_roomOf_0 : decode cX4_roomOf 0 = .ok (.iload_n 1, 1) := by decide +kernel
theorem dX4_roomOf_1 : decode cX4_roomOf 1 = .ok (.invokestatic 60, 3) := by decide +kernel
theorem dX4_roomOf_4 : decode cX4_roomOf 4 = .ok (.ifCond .ne 10, 3) := by decide +kernel
theorem dX4_roomOf_7 : decode cX4_roomOf 7 = .ok (.aload_n 0, 1) := by decide +kernel
theorem dX4_roomOf_8 : decode cX4_roomOf 8 = .ok (.ldc 51, 2) := by decide +kernel
theorem dX4_roomOf_10 : decode cX4_roomOf 10 = .ok (.invokevirtual 52, 3) := by decide +kernel
theorem dX4_roomOf_13 : decode cX4_roomOf 13 = .ok (.ireturn, 1) := by decide +kernel
theorem dX4_roomOf_14 : decode cX4_roomOf 14 = .ok (.iload_n 2, 1) := by decide +kernel
theorem dX4_roomOf_15 : decode cX4_roomOf 15 = .ok (.tableswitch 54 0 2 #[25, 35, 45], 25) := by decide +kernel
theorem dX4_roomOf_40 : decode cX4_roomOf 40 = .ok (.aload_n 0, 1) := by decide +kernel
theorem dX4_roomOf_41 : decode cX4_roomOf 41 = .ok (.getfield 12, 3) := by decide +kernel
theorem dX4_roomOf_44 : decode cX4_roomOf 44 = .ok (.getfield 64, 3) := by decide +kernel
theorem dX4_roomOf_47 : decode cX4_roomOf 47 = .ok (.iload_n 1, 1) := by decide +kernel
theorem dX4_roomOf_48 : decode cX4_roomOf 48 = .ok (.iaload, 1) := by decide +kernel
theorem dX4_roomOf_49 : decode cX4_roomOf 49 = .ok (.ireturn, 1) := by decide +kernel
theorem dX4_roomOf_50 : decode cX4_roomOf 50 = .ok (.aload_n 0, 1) := by decide +kernel
theorem dX4_roomOf_51 : decode cX4_roomOf 51 = .ok (.getfield 12, 3) := by decide +kernel
theorem dX4_roomOf_54 : decode cX4_roomOf 54 = .ok (.getfield 67, 3) := by decide +kernel
theorem dX4_roomOf_57 : decode cX4_roomOf 57 = .ok (.iload_n 1, 1) := by decide +kernel
theorem dX4_roomOf_58 : decode cX4_roomOf 58 = .ok (.iaload, 1) := by decide +kernel
theorem dX4_roomOf_59 : decode cX4_roomOf 59 = .ok (.ireturn, 1) := by decide +kernel
theorem dX4_roomOf_60 : decode cX4_roomOf 60 = .ok (.aload_n 0, 1) := by decide +kernel
theorem dX4_roomOf_61 : decode cX4_roomOf 61 = .ok (.getfield 12, 3) := by decide +kernel
theorem dX4_roomOf_64 : decode cX4_roomOf 64 = .ok (.iload_n 1, 1) := by decide +kernel
theorem dX4_roomOf_65 : decode cX4_roomOf 65 = .ok (.invokevirtual 70, 3) := by decide +kernel
theorem dX4_roomOf_68 : decode cX4_roomOf 68 = .ok (.ireturn, 1) := by decide +kernel
theorem dX4_roomOf_69 : decode cX4_roomOf 69 = .ok (.aload_n 0, 1) := by decide +kernel
theorem dX4_roomOf_70 : decode cX4_roomOf 70 = .ok (.ldc 51, 2) := by decide +kernel
theorem dX4_roomOf_72 : decode cX4_roomOf 72 = .ok (.invokevirtual 52, 3) := by decide +kernel
theorem dX4_roomOf_75 : decode cX4_roomOf 75 = .ok (.ireturn, 1) := by decide +kernel
theorem dX4_now_0 : decode cX4_now 0 = .ok (.iload_n 1, 1) := by decide +kernel
theorem dX4_now_1 : decode cX4_now 1 = .ok (.tableswitch 87 0 5 #[39, 47, 55, 63, 71, 79], 39) := by decide +kernel
theorem dX4_now_40 : decode cX4_now 40 = .ok (.aload_n 0, 1) := by decide +kernel
theorem dX4_now_41 : decode cX4_now 41 = .ok (.getfield 12, 3) := by decide +kernel
theorem dX4_now_44 : decode cX4_now 44 = .ok (.getfield 73, 3) := by decide +kernel
theorem dX4_now_47 : decode cX4_now 47 = .ok (.ireturn, 1) := by decide +kernel
theorem dX4_now_48 : decode cX4_now 48 = .ok (.aload_n 0, 1) := by decide +kernel
theorem dX4_now_49 : decode cX4_now 49 = .ok (.getfield 12, 3) := by decide +kernel
theorem dX4_now_52 : decode cX4_now 52 = .ok (.getfield 56, 3) := by decide +kernel
theorem dX4_now_55 : decode cX4_now 55 = .ok (.ireturn, 1) := by decide +kernel
theorem dX4_now_56 : decode cX4_now 56 = .ok (.aload_n 0, 1) := by decide +kernel
theorem dX4_now_57 : decode cX4_now 57 = .ok (.getfield 12, 3) := by decide +kernel
theorem dX4_now_60 : decode cX4_now 60 = .ok (.invokevirtual 76, 3) := by decide +kernel
theorem dX4_now_63 : decode cX4_now 63 = .ok (.ireturn, 1) := by decide +kernel
theorem dX4_now_64 : decode cX4_now 64 = .ok (.aload_n 0, 1) := by decide +kernel
theorem dX4_now_65 : decode cX4_now 65 = .ok (.getfield 12, 3) := by decide +kernel
theorem dX4_now_68 : decode cX4_now 68 = .ok (.invokevirtual 80, 3) := by decide +kernel
theorem dX4_now_71 : decode cX4_now 71 = .ok (.ireturn, 1) := by decide +kernel
theorem dX4_now_72 : decode cX4_now 72 = .ok (.aload_n 0, 1) := by decide +kernel
theorem dX4_now_73 : decode cX4_now 73 = .ok (.getfield 12, 3) := by decide +kernel
theorem dX4_now_76 : decode cX4_now 76 = .ok (.invokevirtual 83, 3) := by decide +kernel
theorem dX4_now_79 : decode cX4_now 79 = .ok (.ireturn, 1) := by decide +kernel
theorem dX4_now_80 : decode cX4_now 80 = .ok (.aload_n 0, 1) := by decide +kernel
theorem dX4_now_81 : decode cX4_now 81 = .ok (.getfield 12, 3) := by decide +kernel
theorem dX4_now_84 : decode cX4_now 84 = .ok (.invokevirtual 86, 3) := by decide +kernel
theorem dX4_now_87 : decode cX4_now 87 = .ok (.ireturn, 1) := by decide +kernel
theorem dX4_now_88 : decode cX4_now 88 = .ok (.aload_n 0, 1) := by decide +kernel
theorem dX4_now_89 : decode cX4_now 89 = .ok (.ldc 51, 2) := by decide +kernel
theorem dX4_now_91 : decode cX4_now 91 = .ok (.invokevirtual 52, 3) := by decide +kernel
theorem dX4_now_94 : decode cX4_now 94 = .ok (.ireturn, 1) := by decide +kernel
theorem dX4_duster_0 : decode cX4_duster 0 = .ok (.iload_n 1, 1) := by decide +kernel
theorem dX4_duster_1 : decode cX4_duster 1 = .ok (.invokestatic 89, 3) := by decide +kernel
theorem dX4_duster_4 : decode cX4_duster 4 = .ok (.ifCond .ne 10, 3) := by decide +kernel
theorem dX4_duster_7 : decode cX4_duster 7 = .ok (.aload_n 0, 1) := by decide +kernel
theorem dX4_duster_8 : decode cX4_duster 8 = .ok (.ldc 51, 2) := by decide +kernel
theorem dX4_duster_10 : decode cX4_duster 10 = .ok (.invokevirtual 52, 3) := by decide +kernel
theorem dX4_duster_13 : decode cX4_duster 13 = .ok (.ireturn, 1) := by decide +kernel
theorem dX4_duster_14 : decode cX4_duster 14 = .ok (.aload_n 0, 1) := by decide +kernel
theorem dX4_duster_15 : decode cX4_duster 15 = .ok (.getfield 12, 3) := by decide +kernel
theorem dX4_duster_18 : decode cX4_duster 18 = .ok (.getfield 92, 3) := by decide +kernel
theorem dX4_duster_21 : decode cX4_duster 21 = .ok (.bipush 8, 2) := by decide +kernel
theorem dX4_duster_23 : decode cX4_duster 23 = .ok (.if_icmp .lt 10, 3) := by decide +kernel
theorem dX4_duster_26 : decode cX4_duster 26 = .ok (.aload_n 0, 1) := by decide +kernel
theorem dX4_duster_27 : decode cX4_duster 27 = .ok (.ldc 95, 2) := by decide +kernel
theorem dX4_duster_29 : decode cX4_duster 29 = .ok (.invokevirtual 52, 3) := by decide +kernel
theorem dX4_duster_32 : decode cX4_duster 32 = .ok (.ireturn, 1) := by decide +kernel
theorem dX4_duster_33 : decode cX4_duster 33 = .ok (.aload_n 0, 1) := by decide +kernel
theorem dX4_duster_34 : decode cX4_duster 34 = .ok (.getfield 12, 3) := by decide +kernel
theorem dX4_duster_37 : decode cX4_duster 37 = .ok (.iload_n 1, 1) := by decide +kernel
theorem dX4_duster_38 : decode cX4_duster 38 = .ok (.invokevirtual 96, 3) := by decide +kernel
theorem dX4_duster_41 : decode cX4_duster 41 = .ok (.ireturn, 1) := by decide +kernel
theorem dX4_of_0 : decode cX4_of 0 = .ok (.aload_n 0, 1) := by decide +kernel
theorem dX4_of_1 : decode cX4_of 1 = .ok (.iload_n 1, 1) := by decide +kernel
theorem dX4_of_2 : decode cX4_of 2 = .ok (.invokevirtual 99, 3) := by decide +kernel
theorem dX4_of_5 : decode cX4_of 5 = .ok (.ifCond .ne 10, 3) := by decide +kernel
theorem dX4_of_8 : decode cX4_of 8 = .ok (.aload_n 0, 1) := by decide +kernel
theorem dX4_of_9 : decode cX4_of 9 = .ok (.ldc 51, 2) := by decide +kernel
theorem dX4_of_11 : decode cX4_of 11 = .ok (.invokevirtual 52, 3) := by decide +kernel
theorem dX4_of_14 : decode cX4_of 14 = .ok (.ireturn, 1) := by decide +kernel
theorem dX4_of_15 : decode cX4_of 15 = .ok (.aload_n 0, 1) := by decide +kernel
theorem dX4_of_16 : decode cX4_of 16 = .ok (.getfield 12, 3) := by decide +kernel
theorem dX4_of_19 : decode cX4_of 19 = .ok (.getfield 102, 3) := by decide +kernel
theorem dX4_of_22 : decode cX4_of 22 = .ok (.iload_n 1, 1) := by decide +kernel
theorem dX4_of_23 : decode cX4_of 23 = .ok (.iaload, 1) := by decide +kernel
theorem dX4_of_24 : decode cX4_of 24 = .ok (.istore_n 3, 1) := by decide +kernel
theorem dX4_of_25 : decode cX4_of 25 = .ok (.aload_n 0, 1) := by decide +kernel
theorem dX4_of_26 : decode cX4_of 26 = .ok (.getfield 12, 3) := by decide +kernel
theorem dX4_of_29 : decode cX4_of 29 = .ok (.getfield 105, 3) := by decide +kernel
theorem dX4_of_32 : decode cX4_of 32 = .ok (.iload_n 1, 1) := by decide +kernel
theorem dX4_of_33 : decode cX4_of 33 = .ok (.iaload, 1) := by decide +kernel
theorem dX4_of_34 : decode cX4_of 34 = .ok (.istore 4, 2) := by decide +kernel
theorem dX4_of_36 : decode cX4_of 36 = .ok (.iload_n 2, 1) := by decide +kernel
theorem dX4_of_37 : decode cX4_of 37 = .ok (.tableswitch 128 0 8 #[51, 53, 63, 66, 76, 85, 92, 99, 106], 51) := by decide +kernel
theorem dX4_of_88 : decode cX4_of 88 = .ok (.iload_n 3, 1) := by decide +kernel
theorem dX4_of_89 : decode cX4_of 89 = .ok (.ireturn, 1) := by decide +kernel
theorem dX4_of_90 : decode cX4_of 90 = .ok (.aload_n 0, 1) := by decide +kernel
theorem dX4_of_91 : decode cX4_of 91 = .ok (.getfield 12, 3) := by decide +kernel
theorem dX4_of_94 : decode cX4_of 94 = .ok (.getfield 108, 3) := by decide +kernel
theorem dX4_of_97 : decode cX4_of 97 = .ok (.iload_n 1, 1) := by decide +kernel
theorem dX4_of_98 : decode cX4_of 98 = .ok (.iaload, 1) := by decide +kernel
theorem dX4_of_99 : decode cX4_of 99 = .ok (.ireturn, 1) := by decide +kernel
theorem dX4_of_100 : decode cX4_of 100 = .ok (.iload 4, 2) := by decide +kernel
theorem dX4_of_102 : decode cX4_of 102 = .ok (.ireturn, 1) := by decide +kernel
theorem dX4_of_103 : decode cX4_of 103 = .ok (.aload_n 0, 1) := by decide +kernel
theorem dX4_of_104 : decode cX4_of 104 = .ok (.getfield 12, 3) := by decide +kernel
theorem dX4_of_107 : decode cX4_of 107 = .ok (.getfield 111, 3) := by decide +kernel
theorem dX4_of_110 : decode cX4_of 110 = .ok (.iload_n 1, 1) := by decide +kernel
theorem dX4_of_111 : decode cX4_of 111 = .ok (.iaload, 1) := by decide +kernel
theorem dX4_of_112 : decode cX4_of 112 = .ok (.ireturn, 1) := by decide +kernel
theorem dX4_of_113 : decode cX4_of 113 = .ok (.aload_n 0, 1) := by decide +kernel
theorem dX4_of_114 : decode cX4_of 114 = .ok (.getfield 12, 3) := by decide +kernel
theorem dX4_of_117 : decode cX4_of 117 = .ok (.iload_n 1, 1) := by decide +kernel
theorem dX4_of_118 : decode cX4_of 118 = .ok (.invokevirtual 114, 3) := by decide +kernel
theorem dX4_of_121 : decode cX4_of 121 = .ok (.ireturn, 1) := by decide +kernel
theorem dX4_of_122 : decode cX4_of 122 = .ok (.iload_n 3, 1) := by decide +kernel
theorem dX4_of_123 : decode cX4_of 123 = .ok (.iload 4, 2) := by decide +kernel
theorem dX4_of_125 : decode cX4_of 125 = .ok (.invokestatic 117, 3) := by decide +kernel
theorem dX4_of_128 : decode cX4_of 128 = .ok (.ireturn, 1) := by decide +kernel
theorem dX4_of_129 : decode cX4_of 129 = .ok (.iload_n 3, 1) := by decide +kernel
theorem dX4_of_130 : decode cX4_of 130 = .ok (.iload 4, 2) := by decide +kernel
theorem dX4_of_132 : decode cX4_of 132 = .ok (.invokestatic 123, 3) := by decide +kernel
theorem dX4_of_135 : decode cX4_of 135 = .ok (.ireturn, 1) := by decide +kernel
theorem dX4_of_136 : decode cX4_of 136 = .ok (.iload_n 3, 1) := by decide +kernel
theorem dX4_of_137 : decode cX4_of 137 = .ok (.iload 4, 2) := by decide +kernel
theorem dX4_of_139 : decode cX4_of 139 = .ok (.invokestatic 126, 3) := by decide +kernel
theorem dX4_of_142 : decode cX4_of 142 = .ok (.ireturn, 1) := by decide +kernel
theorem dX4_of_143 : decode cX4_of 143 = .ok (.iload_n 3, 1) := by decide +kernel
theorem dX4_of_144 : decode cX4_of 144 = .ok (.aload_n 0, 1) := by decide +kernel
theorem dX4_of_145 : decode cX4_of 145 = .ok (.getfield 12, 3) := by decide +kernel
theorem dX4_of_148 : decode cX4_of 148 = .ok (.getfield 108, 3) := by decide +kernel
theorem dX4_of_151 : decode cX4_of 151 = .ok (.iload_n 1, 1) := by decide +kernel
theorem dX4_of_152 : decode cX4_of 152 = .ok (.iaload, 1) := by decide +kernel
theorem dX4_of_153 : decode cX4_of 153 = .ok (.invokestatic 129, 3) := by decide +kernel
theorem dX4_of_156 : decode cX4_of 156 = .ok (.ifCond .eq 7, 3) := by decide +kernel
theorem dX4_of_159 : decode cX4_of 159 = .ok (.iconst 1, 1) := by decide +kernel
theorem dX4_of_160 : decode cX4_of 160 = .ok (.goto 4, 3) := by decide +kernel
theorem dX4_of_163 : decode cX4_of 163 = .ok (.iconst 0, 1) := by decide +kernel
theorem dX4_of_164 : decode cX4_of 164 = .ok (.ireturn, 1) := by decide +kernel
theorem dX4_of_165 : decode cX4_of 165 = .ok (.aload_n 0, 1) := by decide +kernel
theorem dX4_of_166 : decode cX4_of 166 = .ok (.ldc 51, 2) := by decide +kernel
theorem dX4_of_168 : decode cX4_of 168 = .ok (.invokevirtual 52, 3) := by decide +kernel
theorem dX4_of_171 : decode cX4_of 171 = .ok (.ireturn, 1) := by decide +kernel
theorem dX4_set_0 : decode cX4_set 0 = .ok (.aload_n 0, 1) := by decide +kernel
theorem dX4_set_1 : decode cX4_set 1 = .ok (.iload_n 1, 1) := by decide +kernel
theorem dX4_set_2 : decode cX4_set 2 = .ok (.invokevirtual 99, 3) := by decide +kernel
theorem dX4_set_5 : decode cX4_set 5 = .ok (.ifCond .eq 12, 3) := by decide +kernel
theorem dX4_set_8 : decode cX4_set 8 = .ok (.iload_n 2, 1) := by decide +kernel
theorem dX4_set_9 : decode cX4_set 9 = .ok (.iconst 1, 1) := by decide +kernel
theorem dX4_set_10 : decode cX4_set 10 = .ok (.iconst 3, 1) := by decide +kernel
theorem dX4_set_11 : decode cX4_set 11 = .ok (.invokestatic 47, 3) := by decide +kernel
theorem dX4_set_14 : decode cX4_set 14 = .ok (.ifCond .ne 10, 3) := by decide +kernel
theorem dX4_set_17 : decode cX4_set 17 = .ok (.aload_n 0, 1) := by decide +kernel
theorem dX4_set_18 : decode cX4_set 18 = .ok (.ldc 51, 2) := by decide +kernel
theorem dX4_set_20 : decode cX4_set 20 = .ok (.invokevirtual 52, 3) := by decide +kernel
theorem dX4_set_23 : decode cX4_set 23 = .ok (.ireturn, 1) := by decide +kernel
theorem dX4_set_24 : decode cX4_set 24 = .ok (.iload_n 2, 1) := by decide +kernel
theorem dX4_set_25 : decode cX4_set 25 = .ok (.iconst 1, 1) := by decide +kernel
theorem dX4_set_26 : decode cX4_set 26 = .ok (.if_icmp .ne 9, 3) := by decide +kernel
theorem dX4_set_29 : decode cX4_set 29 = .ok (.sipush 1023, 3) := by decide +kernel
theorem dX4_set_32 : decode cX4_set 32 = .ok (.goto 15, 3) := by decide +kernel
theorem dX4_set_35 : decode cX4_set 35 = .ok (.iload_n 2, 1) := by decide +kernel
theorem dX4_set_36 : decode cX4_set 36 = .ok (.iconst 2, 1) := by decide +kernel
theorem dX4_set_37 : decode cX4_set 37 = .ok (.if_icmp .ne 8, 3) := by decide +kernel
theorem dX4_set_40 : decode cX4_set 40 = .ok (.bipush 99, 2) := by decide +kernel
theorem dX4_set_42 : decode cX4_set 42 = .ok (.goto 5, 3) := by decide +kernel
theorem dX4_set_45 : decode cX4_set 45 = .ok (.bipush 7, 2) := by decide +kernel
theorem dX4_set_47 : decode cX4_set 47 = .ok (.istore 4, 2) := by decide +kernel
theorem dX4_set_49 : decode cX4_set 49 = .ok (.iload_n 3, 1) := by decide +kernel
theorem dX4_set_50 : decode cX4_set 50 = .ok (.iconst 0, 1) := by decide +kernel
theorem dX4_set_51 : decode cX4_set 51 = .ok (.iload 4, 2) := by decide +kernel
theorem dX4_set_53 : decode cX4_set 53 = .ok (.invokestatic 47, 3) := by decide +kernel
theorem dX4_set_56 : decode cX4_set 56 = .ok (.ifCond .ne 10, 3) := by decide +kernel
theorem dX4_set_59 : decode cX4_set 59 = .ok (.aload_n 0, 1) := by decide +kernel
theorem dX4_set_60 : decode cX4_set 60 = .ok (.ldc 51, 2) := by decide +kernel
theorem dX4_set_62 : decode cX4_set 62 = .ok (.invokevirtual 52, 3) := by decide +kernel
theorem dX4_set_65 : decode cX4_set 65 = .ok (.ireturn, 1) := by decide +kernel
theorem dX4_set_66 : decode cX4_set 66 = .ok (.iload_n 2, 1) := by decide +kernel
theorem dX4_set_67 : decode cX4_set 67 = .ok (.iconst 1, 1) := by decide +kernel
theorem dX4_set_68 : decode cX4_set 68 = .ok (.if_icmp .ne 13, 3) := by decide +kernel
theorem dX4_set_71 : decode cX4_set 71 = .ok (.aload_n 0, 1) := by decide +kernel
theorem dX4_set_72 : decode cX4_set 72 = .ok (.getfield 12, 3) := by decide +kernel
theorem dX4_set_75 : decode cX4_set 75 = .ok (.getfield 108, 3) := by decide +kernel
theorem dX4_set_78 : decode cX4_set 78 = .ok (.goto 25, 3) := by decide +kernel
theorem dX4_set_81 : decode cX4_set 81 = .ok (.iload_n 2, 1) := by decide +kernel
theorem dX4_set_82 : decode cX4_set 82 = .ok (.iconst 2, 1) := by decide +kernel
theorem dX4_set_83 : decode cX4_set 83 = .ok (.if_icmp .ne 13, 3) := by decide +kernel
theorem dX4_set_86 : decode cX4_set 86 = .ok (.aload_n 0, 1) := by decide +kernel
theorem dX4_set_87 : decode cX4_set 87 = .ok (.getfield 12, 3) := by decide +kernel
theorem dX4_set_90 : decode cX4_set 90 = .ok (.getfield 105, 3) := by decide +kernel
theorem dX4_set_93 : decode cX4_set 93 = .ok (.goto 10, 3) := by decide +kernel
theorem dX4_set_96 : decode cX4_set 96 = .ok (.aload_n 0, 1) := by decide +kernel
theorem dX4_set_97 : decode cX4_set 97 = .ok (.getfield 12, 3) := by decide +kernel
theorem dX4_set_100 : decode cX4_set 100 = .ok (.getfield 111, 3) := by decide +kernel
theorem dX4_set_103 : decode cX4_set 103 = .ok (.astore 5, 2) := by decide +kernel
theorem dX4_set_105 : decode cX4_set 105 = .ok (.aload 5, 2) := by decide +kernel
theorem dX4_set_107 : decode cX4_set 107 = .ok (.iload_n 1, 1) := by decide +kernel
theorem dX4_set_108 : decode cX4_set 108 = .ok (.iaload, 1) := by decide +kernel
theorem dX4_set_109 : decode cX4_set 109 = .ok (.istore 6, 2) := by decide +kernel
theorem dX4_set_111 : decode cX4_set 111 = .ok (.aload 5, 2) := by decide +kernel
theorem dX4_set_113 : decode cX4_set 113 = .ok (.iload_n 1, 1) := by decide +kernel
theorem dX4_set_114 : decode cX4_set 114 = .ok (.iload_n 3, 1) := by decide +kernel
theorem dX4_set_115 : decode cX4_set 115 = .ok (.iastore, 1) := by decide +kernel
theorem dX4_set_116 : decode cX4_set 116 = .ok (.iload 6, 2) := by decide +kernel
theorem dX4_set_118 : decode cX4_set 118 = .ok (.ireturn, 1) := by decide +kernel
theorem dX4_turn_0 : decode cX4_turn 0 = .ok (.aload_n 0, 1) := by decide +kernel
theorem dX4_turn_1 : decode cX4_turn 1 = .ok (.iload_n 1, 1) := by decide +kernel
theorem dX4_turn_2 : decode cX4_turn 2 = .ok (.invokevirtual 99, 3) := by decide +kernel
theorem dX4_turn_5 : decode cX4_turn 5 = .ok (.ifCond .eq 10, 3) := by decide +kernel
theorem dX4_turn_8 : decode cX4_turn 8 = .ok (.iload_n 2, 1) := by decide +kernel
theorem dX4_turn_9 : decode cX4_turn 9 = .ok (.invokestatic 89, 3) := by decide +kernel
theorem dX4_turn_12 : decode cX4_turn 12 = .ok (.ifCond .ne 10, 3) := by decide +kernel
theorem dX4_turn_15 : decode cX4_turn 15 = .ok (.aload_n 0, 1) := by decide +kernel
theorem dX4_turn_16 : decode cX4_turn 16 = .ok (.ldc 51, 2) := by decide +kernel
theorem dX4_turn_18 : decode cX4_turn 18 = .ok (.invokevirtual 52, 3) := by decide +kernel
theorem dX4_turn_21 : decode cX4_turn 21 = .ok (.ireturn, 1) := by decide +kernel
theorem dX4_turn_22 : decode cX4_turn 22 = .ok (.aload_n 0, 1) := by decide +kernel
theorem dX4_turn_23 : decode cX4_turn 23 = .ok (.getfield 12, 3) := by decide +kernel
theorem dX4_turn_26 : decode cX4_turn 26 = .ok (.getfield 102, 3) := by decide +kernel
theorem dX4_turn_29 : decode cX4_turn 29 = .ok (.iload_n 1, 1) := by decide +kernel
theorem dX4_turn_30 : decode cX4_turn 30 = .ok (.iaload, 1) := by decide +kernel
theorem dX4_turn_31 : decode cX4_turn 31 = .ok (.istore_n 3, 1) := by decide +kernel
theorem dX4_turn_32 : decode cX4_turn 32 = .ok (.aload_n 0, 1) := by decide +kernel
theorem dX4_turn_33 : decode cX4_turn 33 = .ok (.getfield 12, 3) := by decide +kernel
theorem dX4_turn_36 : decode cX4_turn 36 = .ok (.getfield 102, 3) := by decide +kernel
theorem dX4_turn_39 : decode cX4_turn 39 = .ok (.iload_n 1, 1) := by decide +kernel
theorem dX4_turn_40 : decode cX4_turn 40 = .ok (.iload_n 2, 1) := by decide +kernel
theorem dX4_turn_41 : decode cX4_turn 41 = .ok (.iastore, 1) := by decide +kernel
theorem dX4_turn_42 : decode cX4_turn 42 = .ok (.iload_n 3, 1) := by decide +kernel
theorem dX4_turn_43 : decode cX4_turn 43 = .ok (.ireturn, 1) := by decide +kernel
theorem dX4_as_0 : decode cX4_as 0 = .ok (.aload_n 0, 1) := by decide +kernel
theorem dX4_as_1 : decode cX4_as 1 = .ok (.iload_n 1, 1) := by decide +kernel
theorem dX4_as_2 : decode cX4_as 2 = .ok (.invokevirtual 99, 3) := by decide +kernel
theorem dX4_as_5 : decode cX4_as 5 = .ok (.ifCond .eq 10, 3) := by decide +kernel
theorem dX4_as_8 : decode cX4_as 8 = .ok (.iload_n 2, 1) := by decide +kernel
theorem dX4_as_9 : decode cX4_as 9 = .ok (.invokestatic 89, 3) := by decide +kernel
theorem dX4_as_12 : decode cX4_as 12 = .ok (.ifCond .ne 10, 3) := by decide +kernel
theorem dX4_as_15 : decode cX4_as 15 = .ok (.aload_n 0, 1) := by decide +kernel
theorem dX4_as_16 : decode cX4_as 16 = .ok (.ldc 51, 2) := by decide +kernel
theorem dX4_as_18 : decode cX4_as 18 = .ok (.invokevirtual 52, 3) := by decide +kernel
theorem dX4_as_21 : decode cX4_as 21 = .ok (.ireturn, 1) := by decide +kernel
theorem dX4_as_22 : decode cX4_as 22 = .ok (.aload_n 0, 1) := by decide +kernel
theorem dX4_as_23 : decode cX4_as 23 = .ok (.getfield 12, 3) := by decide +kernel
theorem dX4_as_26 : decode cX4_as 26 = .ok (.getfield 102, 3) := by decide +kernel
theorem dX4_as_29 : decode cX4_as 29 = .ok (.iload_n 1, 1) := by decide +kernel
theorem dX4_as_30 : decode cX4_as 30 = .ok (.iaload, 1) := by decide +kernel
theorem dX4_as_31 : decode cX4_as 31 = .ok (.iload_n 2, 1) := by decide +kernel
theorem dX4_as_32 : decode cX4_as 32 = .ok (.invokestatic 133, 3) := by decide +kernel
theorem dX4_as_35 : decode cX4_as 35 = .ok (.ifCond .ne 10, 3) := by decide +kernel
theorem dX4_as_38 : decode cX4_as 38 = .ok (.aload_n 0, 1) := by decide +kernel
theorem dX4_as_39 : decode cX4_as 39 = .ok (.ldc 136, 2) := by decide +kernel
theorem dX4_as_41 : decode cX4_as 41 = .ok (.invokevirtual 52, 3) := by decide +kernel
theorem dX4_as_44 : decode cX4_as 44 = .ok (.ireturn, 1) := by decide +kernel
theorem dX4_as_45 : decode cX4_as 45 = .ok (.aload_n 0, 1) := by decide +kernel
theorem dX4_as_46 : decode cX4_as 46 = .ok (.getfield 12, 3) := by decide +kernel
theorem dX4_as_49 : decode cX4_as 49 = .ok (.getfield 105, 3) := by decide +kernel
theorem dX4_as_52 : decode cX4_as 52 = .ok (.iload_n 1, 1) := by decide +kernel
theorem dX4_as_53 : decode cX4_as 53 = .ok (.iaload, 1) := by decide +kernel
theorem dX4_as_54 : decode cX4_as 54 = .ok (.ireturn, 1) := by decide +kernel
theorem dX4_through_0 : decode cX4_through 0 = .ok (.aload_n 0, 1) := by decide +kernel
theorem dX4_through_1 : decode cX4_through 1 = .ok (.iload_n 1, 1) := by decide +kernel
theorem dX4_through_2 : decode cX4_through 2 = .ok (.invokevirtual 99, 3) := by decide +kernel
theorem dX4_through_5 : decode cX4_through 5 = .ok (.ifCond .eq 10, 3) := by decide +kernel
theorem dX4_through_8 : decode cX4_through 8 = .ok (.iload_n 2, 1) := by decide +kernel
theorem dX4_through_9 : decode cX4_through 9 = .ok (.invokestatic 60, 3) := by decide +kernel
theorem dX4_through_12 : decode cX4_through 12 = .ok (.ifCond .ne 10, 3) := by decide +kernel
theorem dX4_through_15 : decode cX4_through 15 = .ok (.aload_n 0, 1) := by decide +kernel
theorem dX4_through_16 : decode cX4_through 16 = .ok (.ldc 51, 2) := by decide +kernel
theorem dX4_through_18 : decode cX4_through 18 = .ok (.invokevirtual 52, 3) := by decide +kernel
theorem dX4_through_21 : decode cX4_through 21 = .ok (.ireturn, 1) := by decide +kernel
theorem dX4_through_22 : decode cX4_through 22 = .ok (.aload_n 0, 1) := by decide +kernel
theorem dX4_through_23 : decode cX4_through 23 = .ok (.getfield 12, 3) := by decide +kernel
theorem dX4_through_26 : decode cX4_through 26 = .ok (.iload_n 1, 1) := by decide +kernel
theorem dX4_through_27 : decode cX4_through 27 = .ok (.iload_n 2, 1) := by decide +kernel
theorem dX4_through_28 : decode cX4_through 28 = .ok (.invokevirtual 137, 3) := by decide +kernel
theorem dX4_through_31 : decode cX4_through 31 = .ok (.ireturn, 1) := by decide +kernel
theorem dX4_wash_0 : decode cX4_wash 0 = .ok (.aload_n 0, 1) := by decide +kernel
theorem dX4_wash_1 : decode cX4_wash 1 = .ok (.iload_n 1, 1) := by decide +kernel
theorem dX4_wash_2 : decode cX4_wash 2 = .ok (.invokevirtual 99, 3) := by decide +kernel
theorem dX4_wash_5 : decode cX4_wash 5 = .ok (.ifCond .ne 10, 3) := by decide +kernel
theorem dX4_wash_8 : decode cX4_wash 8 = .ok (.aload_n 0, 1) := by decide +kernel
theorem dX4_wash_9 : decode cX4_wash 9 = .ok (.ldc 51, 2) := by decide +kernel
theorem dX4_wash_11 : decode cX4_wash 11 = .ok (.invokevirtual 52, 3) := by decide +kernel
theorem dX4_wash_14 : decode cX4_wash 14 = .ok (.ireturn, 1) := by decide +kernel
theorem dX4_wash_15 : decode cX4_wash 15 = .ok (.aload_n 0, 1) := by decide +kernel
theorem dX4_wash_16 : decode cX4_wash 16 = .ok (.getfield 12, 3) := by decide +kernel
theorem dX4_wash_19 : decode cX4_wash 19 = .ok (.iload_n 1, 1) := by decide +kernel
theorem dX4_wash_20 : decode cX4_wash 20 = .ok (.invokevirtual 140, 3) := by decide +kernel
theorem dX4_wash_23 : decode cX4_wash 23 = .ok (.ireturn, 1) := by decide +kernel
theorem dX4_shake_0 : decode cX4_shake 0 = .ok (.aload_n 0, 1) := by decide +kernel
theorem dX4_shake_1 : decode cX4_shake 1 = .ok (.iload_n 1, 1) := by decide +kernel
theorem dX4_shake_2 : decode cX4_shake 2 = .ok (.invokevirtual 99, 3) := by decide +kernel
theorem dX4_shake_5 : decode cX4_shake 5 = .ok (.ifCond .ne 10, 3) := by decide +kernel
theorem dX4_shake_8 : decode cX4_shake 8 = .ok (.aload_n 0, 1) := by decide +kernel
theorem dX4_shake_9 : decode cX4_shake 9 = .ok (.ldc 51, 2) := by decide +kernel
theorem dX4_shake_11 : decode cX4_shake 11 = .ok (.invokevirtual 52, 3) := by decide +kernel
theorem dX4_shake_14 : decode cX4_shake 14 = .ok (.ireturn, 1) := by decide +kernel
theorem dX4_shake_15 : decode cX4_shake 15 = .ok (.aload_n 0, 1) := by decide +kernel
theorem dX4_shake_16 : decode cX4_shake 16 = .ok (.getfield 12, 3) := by decide +kernel
theorem dX4_shake_19 : decode cX4_shake 19 = .ok (.iload_n 1, 1) := by decide +kernel
theorem dX4_shake_20 : decode cX4_shake 20 = .ok (.invokevirtual 143, 3) := by decide +kernel
theorem dX4_shake_23 : decode cX4_shake 23 = .ok (.ireturn, 1) := by decide +kernel
theorem dX4_days_0 : decode cX4_days 0 = .ok (.iload_n 1, 1) := by decide +kernel
theorem dX4_days_1 : decode cX4_days 1 = .ok (.iconst 1, 1) := by decide +kernel
theorem dX4_days_2 : decode cX4_days 2 = .ok (.bipush 60, 2) := by decide +kernel
theorem dX4_days_4 : decode cX4_days 4 = .ok (.invokestatic 47, 3) := by decide +kernel
theorem dX4_days_7 : decode cX4_days 7 = .ok (.ifCond .ne 10, 3) := by decide +kernel
theorem dX4_days_10 : decode cX4_days 10 = .ok (.aload_n 0, 1) := by decide +kernel
theorem dX4_days_11 : decode cX4_days 11 = .ok (.ldc 51, 2) := by decide +kernel
theorem dX4_days_13 : decode cX4_days 13 = .ok (.invokevirtual 52, 3) := by decide +kernel
theorem dX4_days_16 : decode cX4_days 16 = .ok (.ireturn, 1) := by decide +kernel
theorem dX4_days_17 : decode cX4_days 17 = .ok (.aload_n 0, 1) := by decide +kernel
theorem dX4_days_18 : decode cX4_days 18 = .ok (.getfield 12, 3) := by decide +kernel
theorem dX4_days_21 : decode cX4_days 21 = .ok (.getfield 73, 3) := by decide +kernel
theorem dX4_days_24 : decode cX4_days 24 = .ok (.sipush 9999, 3) := by decide +kernel
theorem dX4_days_27 : decode cX4_days 27 = .ok (.iload_n 1, 1) := by decide +kernel
theorem dX4_days_28 : decode cX4_days 28 = .ok (.isub, 1) := by decide +kernel
theorem dX4_days_29 : decode cX4_days 29 = .ok (.if_icmp .le 10, 3) := by decide +kernel
theorem dX4_days_32 : decode cX4_days 32 = .ok (.aload_n 0, 1) := by decide +kernel
theorem dX4_days_33 : decode cX4_days 33 = .ok (.ldc 146, 2) := by decide +kernel
theorem dX4_days_35 : decode cX4_days 35 = .ok (.invokevirtual 52, 3) := by decide +kernel
theorem dX4_days_38 : decode cX4_days 38 = .ok (.ireturn, 1) := by decide +kernel
theorem dX4_days_39 : decode cX4_days 39 = .ok (.aload_n 0, 1) := by decide +kernel
theorem dX4_days_40 : decode cX4_days 40 = .ok (.getfield 12, 3) := by decide +kernel
theorem dX4_days_43 : decode cX4_days 43 = .ok (.iload_n 1, 1) := by decide +kernel
theorem dX4_days_44 : decode cX4_days 44 = .ok (.invokevirtual 147, 3) := by decide +kernel
theorem dX4_days_47 : decode cX4_days 47 = .ok (.aload_n 0, 1) := by decide +kernel
theorem dX4_days_48 : decode cX4_days 48 = .ok (.getfield 12, 3) := by decide +kernel
theorem dX4_days_51 : decode cX4_days 51 = .ok (.invokevirtual 76, 3) := by decide +kernel
theorem dX4_days_54 : decode cX4_days 54 = .ok (.ireturn, 1) := by decide +kernel
theorem dX4_on_0 : decode cX4_on 0 = .ok (.iload_n 1, 1) := by decide +kernel
theorem dX4_on_1 : decode cX4_on 1 = .ok (.invokestatic 60, 3) := by decide +kernel
theorem dX4_on_4 : decode cX4_on 4 = .ok (.ifCond .eq 22, 3) := by decide +kernel
theorem dX4_on_7 : decode cX4_on 7 = .ok (.iload_n 2, 1) := by decide +kernel
theorem dX4_on_8 : decode cX4_on 8 = .ok (.iconst 0, 1) := by decide +kernel
theorem dX4_on_9 : decode cX4_on 9 = .ok (.bipush 100, 2) := by decide +kernel
theorem dX4_on_11 : decode cX4_on 11 = .ok (.invokestatic 47, 3) := by decide +kernel
theorem dX4_on_14 : decode cX4_on 14 = .ok (.ifCond .eq 12, 3) := by decide +kernel
theorem dX4_on_17 : decode cX4_on 17 = .ok (.iload_n 3, 1) := by decide +kernel
theorem dX4_on_18 : decode cX4_on 18 = .ok (.iconst 0, 1) := by decide +kernel
theorem dX4_on_19 : decode cX4_on 19 = .ok (.iconst 1, 1) := by decide +kernel
theorem dX4_on_20 : decode cX4_on 20 = .ok (.invokestatic 47, 3) := by decide +kernel
theorem dX4_on_23 : decode cX4_on 23 = .ok (.ifCond .ne 10, 3) := by decide +kernel
theorem dX4_on_26 : decode cX4_on 26 = .ok (.aload_n 0, 1) := by decide +kernel
theorem dX4_on_27 : decode cX4_on 27 = .ok (.ldc 51, 2) := by decide +kernel
theorem dX4_on_29 : decode cX4_on 29 = .ok (.invokevirtual 52, 3) := by decide +kernel
theorem dX4_on_32 : decode cX4_on 32 = .ok (.ireturn, 1) := by decide +kernel
theorem dX4_on_33 : decode cX4_on 33 = .ok (.aload_n 0, 1) := by decide +kernel
theorem dX4_on_34 : decode cX4_on 34 = .ok (.iload_n 2, 1) := by decide +kernel
theorem dX4_on_35 : decode cX4_on 35 = .ok (.invokevirtual 151, 3) := by decide +kernel
theorem dX4_on_38 : decode cX4_on 38 = .ok (.iload_n 3, 1) := by decide +kernel
theorem dX4_on_39 : decode cX4_on 39 = .ok (.ifCond .ne 15, 3) := by decide +kernel
theorem dX4_on_42 : decode cX4_on 42 = .ok (.aload_n 0, 1) := by decide +kernel
theorem dX4_on_43 : decode cX4_on 43 = .ok (.getfield 19, 3) := by decide +kernel
theorem dX4_on_46 : decode cX4_on 46 = .ok (.getfield 64, 3) := by decide +kernel
theorem dX4_on_49 : decode cX4_on 49 = .ok (.iload_n 1, 1) := by decide +kernel
theorem dX4_on_50 : decode cX4_on 50 = .ok (.iaload, 1) := by decide +kernel
theorem dX4_on_51 : decode cX4_on 51 = .ok (.goto 12, 3) := by decide +kernel
theorem dX4_on_54 : decode cX4_on 54 = .ok (.aload_n 0, 1) := by decide +kernel
theorem dX4_on_55 : decode cX4_on 55 = .ok (.getfield 19, 3) := by decide +kernel
theorem dX4_on_58 : decode cX4_on 58 = .ok (.getfield 67, 3) := by decide +kernel
theorem dX4_on_61 : decode cX4_on 61 = .ok (.iload_n 1, 1) := by decide +kernel
theorem dX4_on_62 : decode cX4_on 62 = .ok (.iaload, 1) := by decide +kernel
theorem dX4_on_63 : decode cX4_on 63 = .ok (.ireturn, 1) := by decide +kernel
theorem dX4_then_0 : decode cX4_then 0 = .ok (.aload_n 0, 1) := by decide +kernel
theorem dX4_then_1 : decode cX4_then 1 = .ok (.iload_n 1, 1) := by decide +kernel
theorem dX4_then_2 : decode cX4_then 2 = .ok (.invokevirtual 99, 3) := by decide +kernel
theorem dX4_then_5 : decode cX4_then 5 = .ok (.ifCond .eq 22, 3) := by decide +kernel
theorem dX4_then_8 : decode cX4_then 8 = .ok (.iload_n 2, 1) := by decide +kernel
theorem dX4_then_9 : decode cX4_then 9 = .ok (.iconst 0, 1) := by decide +kernel
theorem dX4_then_10 : decode cX4_then 10 = .ok (.bipush 100, 2) := by decide +kernel
theorem dX4_then_12 : decode cX4_then 12 = .ok (.invokestatic 47, 3) := by decide +kernel
theorem dX4_then_15 : decode cX4_then 15 = .ok (.ifCond .eq 12, 3) := by decide +kernel
theorem dX4_then_18 : decode cX4_then 18 = .ok (.iload_n 3, 1) := by decide +kernel
theorem dX4_then_19 : decode cX4_then 19 = .ok (.iconst 0, 1) := by decide +kernel
theorem dX4_then_20 : decode cX4_then 20 = .ok (.iconst 1, 1) := by decide +kernel
theorem dX4_then_21 : decode cX4_then 21 = .ok (.invokestatic 47, 3) := by decide +kernel
theorem dX4_then_24 : decode cX4_then 24 = .ok (.ifCond .ne 10, 3) := by decide +kernel
theorem dX4_then_27 : decode cX4_then 27 = .ok (.aload_n 0, 1) := by decide +kernel
theorem dX4_then_28 : decode cX4_then 28 = .ok (.ldc 51, 2) := by decide +kernel
theorem dX4_then_30 : decode cX4_then 30 = .ok (.invokevirtual 52, 3) := by decide +kernel
theorem dX4_then_33 : decode cX4_then 33 = .ok (.ireturn, 1) := by decide +kernel
theorem dX4_then_34 : decode cX4_then 34 = .ok (.aload_n 0, 1) := by decide +kernel
theorem dX4_then_35 : decode cX4_then 35 = .ok (.iload_n 2, 1) := by decide +kernel
theorem dX4_then_36 : decode cX4_then 36 = .ok (.invokevirtual 151, 3) := by decide +kernel
theorem dX4_then_39 : decode cX4_then 39 = .ok (.iload_n 3, 1) := by decide +kernel
theorem dX4_then_40 : decode cX4_then 40 = .ok (.ifCond .ne 15, 3) := by decide +kernel
theorem dX4_then_43 : decode cX4_then 43 = .ok (.aload_n 0, 1) := by decide +kernel
theorem dX4_then_44 : decode cX4_then 44 = .ok (.getfield 19, 3) := by decide +kernel
theorem dX4_then_47 : decode cX4_then 47 = .ok (.getfield 108, 3) := by decide +kernel
theorem dX4_then_50 : decode cX4_then 50 = .ok (.iload_n 1, 1) := by decide +kernel
theorem dX4_then_51 : decode cX4_then 51 = .ok (.iaload, 1) := by decide +kernel
theorem dX4_then_52 : decode cX4_then 52 = .ok (.goto 12, 3) := by decide +kernel
theorem dX4_then_55 : decode cX4_then 55 = .ok (.aload_n 0, 1) := by decide +kernel
theorem dX4_then_56 : decode cX4_then 56 = .ok (.getfield 19, 3) := by decide +kernel
theorem dX4_then_59 : decode cX4_then 59 = .ok (.getfield 105, 3) := by decide +kernel
theorem dX4_then_62 : decode cX4_then 62 = .ok (.iload_n 1, 1) := by decide +kernel
theorem dX4_then_63 : decode cX4_then 63 = .ok (.iaload, 1) := by decide +kernel
theorem dX4_then_64 : decode cX4_then 64 = .ok (.ireturn, 1) := by decide +kernel
theorem dX4_clean_0 : decode cX4_clean 0 = .ok (.iload_n 1, 1) := by decide +kernel
theorem dX4_clean_1 : decode cX4_clean 1 = .ok (.invokestatic 60, 3) := by decide +kernel
theorem dX4_clean_4 : decode cX4_clean 4 = .ok (.ifCond .ne 10, 3) := by decide +kernel
theorem dX4_clean_7 : decode cX4_clean 7 = .ok (.aload_n 0, 1) := by decide +kernel
theorem dX4_clean_8 : decode cX4_clean 8 = .ok (.ldc 51, 2) := by decide +kernel
theorem dX4_clean_10 : decode cX4_clean 10 = .ok (.invokevirtual 52, 3) := by decide +kernel
theorem dX4_clean_13 : decode cX4_clean 13 = .ok (.ireturn, 1) := by decide +kernel
theorem dX4_clean_14 : decode cX4_clean 14 = .ok (.aload_n 0, 1) := by decide +kernel
theorem dX4_clean_15 : decode cX4_clean 15 = .ok (.getfield 19, 3) := by decide +kernel
theorem dX4_clean_18 : decode cX4_clean 18 = .ok (.aload_n 0, 1) := by decide +kernel
theorem dX4_clean_19 : decode cX4_clean 19 = .ok (.getfield 12, 3) := by decide +kernel
theorem dX4_clean_22 : decode cX4_clean 22 = .ok (.invokevirtual 154, 3) := by decide +kernel
theorem dX4_clean_25 : decode cX4_clean 25 = .ok (.iconst 0, 1) := by decide +kernel
theorem dX4_clean_26 : decode cX4_clean 26 = .ok (.istore_n 2, 1) := by decide +kernel
theorem dX4_clean_27 : decode cX4_clean 27 = .ok (.iload_n 2, 1) := by decide +kernel
theorem dX4_clean_28 : decode cX4_clean 28 = .ok (.bipush 100, 2) := by decide +kernel
theorem dX4_clean_30 : decode cX4_clean 30 = .ok (.if_icmp .gt 30, 3) := by decide +kernel
theorem dX4_clean_33 : decode cX4_clean 33 = .ok (.aload_n 0, 1) := by decide +kernel
theorem dX4_clean_34 : decode cX4_clean 34 = .ok (.getfield 19, 3) := by decide +kernel
theorem dX4_clean_37 : decode cX4_clean 37 = .ok (.getfield 64, 3) := by decide +kernel
theorem dX4_clean_40 : decode cX4_clean 40 = .ok (.iload_n 1, 1) := by decide +kernel
theorem dX4_clean_41 : decode cX4_clean 41 = .ok (.iaload, 1) := by decide +kernel
theorem dX4_clean_42 : decode cX4_clean 42 = .ok (.ifCond .ne 5, 3) := by decide +kernel
theorem dX4_clean_45 : decode cX4_clean 45 = .ok (.iload_n 2, 1) := by decide +kernel
theorem dX4_clean_46 : decode cX4_clean 46 = .ok (.ireturn, 1) := by decide +kernel
theorem dX4_clean_47 : decode cX4_clean 47 = .ok (.aload_n 0, 1) := by decide +kernel
theorem dX4_clean_48 : decode cX4_clean 48 = .ok (.getfield 19, 3) := by decide +kernel
theorem dX4_clean_51 : decode cX4_clean 51 = .ok (.invokevirtual 158, 3) := by decide +kernel
theorem dX4_clean_54 : decode cX4_clean 54 = .ok (.iinc 2 1, 3) := by decide +kernel
theorem dX4_clean_57 : decode cX4_clean 57 = .ok (.goto (-30), 3) := by decide +kernel
theorem dX4_clean_60 : decode cX4_clean 60 = .ok (.aload_n 0, 1) := by decide +kernel
theorem dX4_clean_61 : decode cX4_clean 61 = .ok (.ldc 161, 2) := by decide +kernel
theorem dX4_clean_63 : decode cX4_clean 63 = .ok (.invokevirtual 52, 3) := by decide +kernel
theorem dX4_clean_66 : decode cX4_clean 66 = .ok (.ireturn, 1) := by decide +kernel
theorem dX4_comes_0 : decode cX4_comes 0 = .ok (.iload_n 1, 1) := by decide +kernel
theorem dX4_comes_1 : decode cX4_comes 1 = .ok (.invokestatic 60, 3) := by decide +kernel
theorem dX4_comes_4 : decode cX4_comes 4 = .ok (.ifCond .eq 10, 3) := by decide +kernel
theorem dX4_comes_7 : decode cX4_comes 7 = .ok (.iload_n 2, 1) := by decide +kernel
theorem dX4_comes_8 : decode cX4_comes 8 = .ok (.invokestatic 162, 3) := by decide +kernel
theorem dX4_comes_11 : decode cX4_comes 11 = .ok (.ifCond .ne 10, 3) := by decide +kernel
theorem dX4_comes_14 : decode cX4_comes 14 = .ok (.aload_n 0, 1) := by decide +kernel
theorem dX4_comes_15 : decode cX4_comes 15 = .ok (.ldc 51, 2) := by decide +kernel
theorem dX4_comes_17 : decode cX4_comes 17 = .ok (.invokevirtual 52, 3) := by decide +kernel
theorem dX4_comes_20 : decode cX4_comes 20 = .ok (.ireturn, 1) := by decide +kernel
theorem dX4_comes_21 : decode cX4_comes 21 = .ok (.aload_n 0, 1) := by decide +kernel
theorem dX4_comes_22 : decode cX4_comes 22 = .ok (.aload_n 0, 1) := by decide +kernel
theorem dX4_comes_23 : decode cX4_comes 23 = .ok (.getfield 19, 3) := by decide +kernel
theorem dX4_comes_26 : decode cX4_comes 26 = .ok (.getfield 67, 3) := by decide +kernel
theorem dX4_comes_29 : decode cX4_comes 29 = .ok (.iload_n 1, 1) := by decide +kernel
theorem dX4_comes_30 : decode cX4_comes 30 = .ok (.iload_n 2, 1) := by decide +kernel
theorem dX4_comes_31 : decode cX4_comes 31 = .ok (.invokevirtual 165, 3) := by decide +kernel
theorem dX4_comes_34 : decode cX4_comes 34 = .ok (.ireturn, 1) := by decide +kernel
theorem dX4_holds_0 : decode cX4_holds 0 = .ok (.aload_n 0, 1) := by decide +kernel
theorem dX4_holds_1 : decode cX4_holds 1 = .ok (.iload_n 1, 1) := by decide +kernel
theorem dX4_holds_2 : decode cX4_holds 2 = .ok (.invokevirtual 99, 3) := by decide +kernel
theorem dX4_holds_5 : decode cX4_holds 5 = .ok (.ifCond .eq 10, 3) := by decide +kernel
theorem dX4_holds_8 : decode cX4_holds 8 = .ok (.iload_n 2, 1) := by decide +kernel
theorem dX4_holds_9 : decode cX4_holds 9 = .ok (.invokestatic 162, 3) := by decide +kernel
theorem dX4_holds_12 : decode cX4_holds 12 = .ok (.ifCond .ne 10, 3) := by decide +kernel
theorem dX4_holds_15 : decode cX4_holds 15 = .ok (.aload_n 0, 1) := by decide +kernel
theorem dX4_holds_16 : decode cX4_holds 16 = .ok (.ldc 51, 2) := by decide +kernel
theorem dX4_holds_18 : decode cX4_holds 18 = .ok (.invokevirtual 52, 3) := by decide +kernel
theorem dX4_holds_21 : decode cX4_holds 21 = .ok (.ireturn, 1) := by decide +kernel
theorem dX4_holds_22 : decode cX4_holds 22 = .ok (.aload_n 0, 1) := by decide +kernel
theorem dX4_holds_23 : decode cX4_holds 23 = .ok (.aload_n 0, 1) := by decide +kernel
theorem dX4_holds_24 : decode cX4_holds 24 = .ok (.getfield 19, 3) := by decide +kernel
theorem dX4_holds_27 : decode cX4_holds 27 = .ok (.getfield 108, 3) := by decide +kernel
theorem dX4_holds_30 : decode cX4_holds 30 = .ok (.iload_n 1, 1) := by decide +kernel
theorem dX4_holds_31 : decode cX4_holds 31 = .ok (.iload_n 2, 1) := by decide +kernel
theorem dX4_holds_32 : decode cX4_holds 32 = .ok (.invokevirtual 165, 3) := by decide +kernel
theorem dX4_holds_35 : decode cX4_holds 35 = .ok (.ireturn, 1) := by decide +kernel
theorem dX4_round_0 : decode cX4_round 0 = .ok (.aload_n 0, 1) := by decide +kernel
theorem dX4_round_1 : decode cX4_round 1 = .ok (.iload_n 1, 1) := by decide +kernel
theorem dX4_round_2 : decode cX4_round 2 = .ok (.invokevirtual 99, 3) := by decide +kernel
theorem dX4_round_5 : decode cX4_round 5 = .ok (.ifCond .eq 13, 3) := by decide +kernel
theorem dX4_round_8 : decode cX4_round 8 = .ok (.iload_n 2, 1) := by decide +kernel
theorem dX4_round_9 : decode cX4_round 9 = .ok (.iconst 1, 1) := by decide +kernel
theorem dX4_round_10 : decode cX4_round 10 = .ok (.bipush 40, 2) := by decide +kernel
theorem dX4_round_12 : decode cX4_round 12 = .ok (.invokestatic 47, 3) := by decide +kernel
theorem dX4_round_15 : decode cX4_round 15 = .ok (.ifCond .ne 10, 3) := by decide +kernel
theorem dX4_round_18 : decode cX4_round 18 = .ok (.aload_n 0, 1) := by decide +kernel
theorem dX4_round_19 : decode cX4_round 19 = .ok (.ldc 51, 2) := by decide +kernel
theorem dX4_round_21 : decode cX4_round 21 = .ok (.invokevirtual 52, 3) := by decide +kernel
theorem dX4_round_24 : decode cX4_round 24 = .ok (.ireturn, 1) := by decide +kernel
theorem dX4_round_25 : decode cX4_round 25 = .ok (.iconst 0, 1) := by decide +kernel
theorem dX4_round_26 : decode cX4_round 26 = .ok (.istore_n 3, 1) := by decide +kernel
theorem dX4_round_27 : decode cX4_round 27 = .ok (.ldc 171, 2) := by decide +kernel
theorem dX4_round_29 : decode cX4_round 29 = .ok (.istore 4, 2) := by decide +kernel
theorem dX4_round_31 : decode cX4_round 31 = .ok (.iconst 0, 1) := by decide +kernel
theorem dX4_round_32 : decode cX4_round 32 = .ok (.istore 5, 2) := by decide +kernel
theorem dX4_round_34 : decode cX4_round 34 = .ok (.iload 5, 2) := by decide +kernel
theorem dX4_round_36 : decode cX4_round 36 = .ok (.bipush 8, 2) := by decide +kernel
theorem dX4_round_38 : decode cX4_round 38 = .ok (.if_icmp .ge 52, 3) := by decide +kernel
theorem dX4_round_41 : decode cX4_round 41 = .ok (.aload_n 0, 1) := by decide +kernel
theorem dX4_round_42 : decode cX4_round 42 = .ok (.getfield 19, 3) := by decide +kernel
theorem dX4_round_45 : decode cX4_round 45 = .ok (.aload_n 0, 1) := by decide +kernel
theorem dX4_round_46 : decode cX4_round 46 = .ok (.getfield 12, 3) := by decide +kernel
theorem dX4_round_49 : decode cX4_round 49 = .ok (.invokevirtual 154, 3) := by decide +kernel
theorem dX4_round_52 : decode cX4_round 52 = .ok (.aload_n 0, 1) := by decide +kernel
theorem dX4_round_53 : decode cX4_round 53 = .ok (.getfield 19, 3) := by decide +kernel
theorem dX4_round_56 : decode cX4_round 56 = .ok (.getfield 111, 3) := by decide +kernel
theorem dX4_round_59 : decode cX4_round 59 = .ok (.iload_n 1, 1) := by decide +kernel
theorem dX4_round_60 : decode cX4_round 60 = .ok (.iload 5, 2) := by decide +kernel
theorem dX4_round_62 : decode cX4_round 62 = .ok (.iastore, 1) := by decide +kernel
theorem dX4_round_63 : decode cX4_round 63 = .ok (.aload_n 0, 1) := by decide +kernel
theorem dX4_round_64 : decode cX4_round 64 = .ok (.iload_n 2, 1) := by decide +kernel
theorem dX4_round_65 : decode cX4_round 65 = .ok (.invokevirtual 172, 3) := by decide +kernel
theorem dX4_round_68 : decode cX4_round 68 = .ok (.istore 6, 2) := by decide +kernel
theorem dX4_round_70 : decode cX4_round 70 = .ok (.iload 6, 2) := by decide +kernel
theorem dX4_round_72 : decode cX4_round 72 = .ok (.iload 4, 2) := by decide +kernel
theorem dX4_round_74 : decode cX4_round 74 = .ok (.if_icmp .ge 10, 3) := by decide +kernel
theorem dX4_round_77 : decode cX4_round 77 = .ok (.iload 6, 2) := by decide +kernel
theorem dX4_round_79 : decode cX4_round 79 = .ok (.istore 4, 2) := by decide +kernel
theorem dX4_round_81 : decode cX4_round 81 = .ok (.iload 5, 2) := by decide +kernel
theorem dX4_round_83 : decode cX4_round 83 = .ok (.istore_n 3, 1) := by decide +kernel
theorem dX4_round_84 : decode cX4_round 84 = .ok (.iinc 5 1, 3) := by decide +kernel
theorem dX4_round_87 : decode cX4_round 87 = .ok (.goto (-53), 3) := by decide +kernel
theorem dX4_round_90 : decode cX4_round 90 = .ok (.iload_n 3, 1) := by decide +kernel
theorem dX4_round_91 : decode cX4_round 91 = .ok (.ireturn, 1) := by decide +kernel
theorem dX4_kind_0 : decode cX4_kind 0 = .ok (.aload_n 0, 1) := by decide +kernel
theorem dX4_kind_1 : decode cX4_kind 1 = .ok (.iload_n 1, 1) := by decide +kernel
theorem dX4_kind_2 : decode cX4_kind 2 = .ok (.invokevirtual 99, 3) := by decide +kernel
theorem dX4_kind_5 : decode cX4_kind 5 = .ok (.ifCond .eq 13, 3) := by decide +kernel
theorem dX4_kind_8 : decode cX4_kind 8 = .ok (.iload_n 2, 1) := by decide +kernel
theorem dX4_kind_9 : decode cX4_kind 9 = .ok (.iconst 1, 1) := by decide +kernel
theorem dX4_kind_10 : decode cX4_kind 10 = .ok (.bipush 40, 2) := by decide +kernel
theorem dX4_kind_12 : decode cX4_kind 12 = .ok (.invokestatic 47, 3) := by decide +kernel
theorem dX4_kind_15 : decode cX4_kind 15 = .ok (.ifCond .ne 10, 3) := by decide +kernel
theorem dX4_kind_18 : decode cX4_kind 18 = .ok (.aload_n 0, 1) := by decide +kernel
theorem dX4_kind_19 : decode cX4_kind 19 = .ok (.ldc 51, 2) := by decide +kernel
theorem dX4_kind_21 : decode cX4_kind 21 = .ok (.invokevirtual 52, 3) := by decide +kernel
theorem dX4_kind_24 : decode cX4_kind 24 = .ok (.ireturn, 1) := by decide +kernel
theorem dX4_kind_25 : decode cX4_kind 25 = .ok (.aload_n 0, 1) := by decide +kernel
theorem dX4_kind_26 : decode cX4_kind 26 = .ok (.aload_n 0, 1) := by decide +kernel
theorem dX4_kind_27 : decode cX4_kind 27 = .ok (.getfield 19, 3) := by decide +kernel
theorem dX4_kind_30 : decode cX4_kind 30 = .ok (.getfield 102, 3) := by decide +kernel
theorem dX4_kind_33 : decode cX4_kind 33 = .ok (.iload_n 1, 1) := by decide +kernel
theorem dX4_kind_34 : decode cX4_kind 34 = .ok (.iconst 5, 1) := by decide +kernel
theorem dX4_kind_35 : decode cX4_kind 35 = .ok (.iload_n 2, 1) := by decide +kernel
theorem dX4_kind_36 : decode cX4_kind 36 = .ok (.invokevirtual 175, 3) := by decide +kernel
theorem dX4_kind_39 : decode cX4_kind 39 = .ok (.ireturn, 1) := by decide +kernel
theorem dX4_grime_0 : decode cX4_grime 0 = .ok (.aload_n 0, 1) := by decide +kernel
theorem dX4_grime_1 : decode cX4_grime 1 = .ok (.iload_n 1, 1) := by decide +kernel
theorem dX4_grime_2 : decode cX4_grime 2 = .ok (.invokevirtual 99, 3) := by decide +kernel
theorem dX4_grime_5 : decode cX4_grime 5 = .ok (.ifCond .eq 13, 3) := by decide +kernel
theorem dX4_grime_8 : decode cX4_grime 8 = .ok (.iload_n 2, 1) := by decide +kernel
theorem dX4_grime_9 : decode cX4_grime 9 = .ok (.iconst 1, 1) := by decide +kernel
theorem dX4_grime_10 : decode cX4_grime 10 = .ok (.bipush 40, 2) := by decide +kernel
theorem dX4_grime_12 : decode cX4_grime 12 = .ok (.invokestatic 47, 3) := by decide +kernel
theorem dX4_grime_15 : decode cX4_grime 15 = .ok (.ifCond .ne 10, 3) := by decide +kernel
theorem dX4_grime_18 : decode cX4_grime 18 = .ok (.aload_n 0, 1) := by decide +kernel
theorem dX4_grime_19 : decode cX4_grime 19 = .ok (.ldc 51, 2) := by decide +kernel
theorem dX4_grime_21 : decode cX4_grime 21 = .ok (.invokevirtual 52, 3) := by decide +kernel
theorem dX4_grime_24 : decode cX4_grime 24 = .ok (.ireturn, 1) := by decide +kernel
theorem dX4_grime_25 : decode cX4_grime 25 = .ok (.aload_n 0, 1) := by decide +kernel
theorem dX4_grime_26 : decode cX4_grime 26 = .ok (.aload_n 0, 1) := by decide +kernel
theorem dX4_grime_27 : decode cX4_grime 27 = .ok (.getfield 19, 3) := by decide +kernel
theorem dX4_grime_30 : decode cX4_grime 30 = .ok (.getfield 105, 3) := by decide +kernel
theorem dX4_grime_33 : decode cX4_grime 33 = .ok (.iload_n 1, 1) := by decide +kernel
theorem dX4_grime_34 : decode cX4_grime 34 = .ok (.bipush 99, 2) := by decide +kernel
theorem dX4_grime_36 : decode cX4_grime 36 = .ok (.iload_n 2, 1) := by decide +kernel
theorem dX4_grime_37 : decode cX4_grime 37 = .ok (.invokevirtual 175, 3) := by decide +kernel
theorem dX4_grime_40 : decode cX4_grime 40 = .ok (.ireturn, 1) := by decide +kernel
theorem dX4_best_0 : decode cX4_best 0 = .ok (.iload_n 1, 1) := by decide +kernel
theorem dX4_best_1 : decode cX4_best 1 = .ok (.iconst 1, 1) := by decide +kernel
theorem dX4_best_2 : decode cX4_best 2 = .ok (.bipush 40, 2) := by decide +kernel
theorem dX4_best_4 : decode cX4_best 4 = .ok (.invokestatic 47, 3) := by decide +kernel
theorem dX4_best_7 : decode cX4_best 7 = .ok (.ifCond .ne 10, 3) := by decide +kernel
theorem dX4_best_10 : decode cX4_best 10 = .ok (.aload_n 0, 1) := by decide +kernel
theorem dX4_best_11 : decode cX4_best 11 = .ok (.ldc 51, 2) := by decide +kernel
theorem dX4_best_13 : decode cX4_best 13 = .ok (.invokevirtual 52, 3) := by decide +kernel
theorem dX4_best_16 : decode cX4_best 16 = .ok (.ireturn, 1) := by decide +kernel
theorem dX4_best_17 : decode cX4_best 17 = .ok (.aload_n 0, 1) := by decide +kernel
theorem dX4_best_18 : decode cX4_best 18 = .ok (.getfield 12, 3) := by decide +kernel
theorem dX4_best_21 : decode cX4_best 21 = .ok (.getfield 92, 3) := by decide +kernel
theorem dX4_best_24 : decode cX4_best 24 = .ok (.ifCond .ne 10, 3) := by decide +kernel
theorem dX4_best_27 : decode cX4_best 27 = .ok (.aload_n 0, 1) := by decide +kernel
theorem dX4_best_28 : decode cX4_best 28 = .ok (.ldc 161, 2) := by decide +kernel
theorem dX4_best_30 : decode cX4_best 30 = .ok (.invokevirtual 52, 3) := by decide +kernel
theorem dX4_best_33 : decode cX4_best 33 = .ok (.ireturn, 1) := by decide +kernel
theorem dX4_best_34 : decode cX4_best 34 = .ok (.iconst 0, 1) := by decide +kernel
theorem dX4_best_35 : decode cX4_best 35 = .ok (.istore_n 2, 1) := by decide +kernel
theorem dX4_best_36 : decode cX4_best 36 = .ok (.ldc 171, 2) := by decide +kernel
theorem dX4_best_38 : decode cX4_best 38 = .ok (.istore_n 3, 1) := by decide +kernel
theorem dX4_best_39 : decode cX4_best 39 = .ok (.iconst 0, 1) := by decide +kernel
theorem dX4_best_40 : decode cX4_best 40 = .ok (.istore 4, 2) := by decide +kernel
theorem dX4_best_42 : decode cX4_best 42 = .ok (.iload 4, 2) := by decide +kernel
theorem dX4_best_44 : decode cX4_best 44 = .ok (.aload_n 0, 1) := by decide +kernel
theorem dX4_best_45 : decode cX4_best 45 = .ok (.getfield 12, 3) := by decide +kernel
theorem dX4_best_48 : decode cX4_best 48 = .ok (.getfield 92, 3) := by decide +kernel
theorem dX4_best_51 : decode cX4_best 51 = .ok (.if_icmp .ge 49, 3) := by decide +kernel
theorem dX4_best_54 : decode cX4_best 54 = .ok (.aload_n 0, 1) := by decide +kernel
theorem dX4_best_55 : decode cX4_best 55 = .ok (.getfield 19, 3) := by decide +kernel
theorem dX4_best_58 : decode cX4_best 58 = .ok (.aload_n 0, 1) := by decide +kernel
theorem dX4_best_59 : decode cX4_best 59 = .ok (.getfield 12, 3) := by decide +kernel
theorem dX4_best_62 : decode cX4_best 62 = .ok (.invokevirtual 154, 3) := by decide +kernel
theorem dX4_best_65 : decode cX4_best 65 = .ok (.aload_n 0, 1) := by decide +kernel
theorem dX4_best_66 : decode cX4_best 66 = .ok (.getfield 19, 3) := by decide +kernel
theorem dX4_best_69 : decode cX4_best 69 = .ok (.iload 4, 2) := by decide +kernel
theorem dX4_best_71 : decode cX4_best 71 = .ok (.invokevirtual 140, 3) := by decide +kernel
theorem dX4_best_74 : decode cX4_best 74 = .ok (.pop, 1) := by decide +kernel
theorem dX4_best_75 : decode cX4_best 75 = .ok (.aload_n 0, 1) := by decide +kernel
theorem dX4_best_76 : decode cX4_best 76 = .ok (.iload_n 1, 1) := by decide +kernel
theorem dX4_best_77 : decode cX4_best 77 = .ok (.invokevirtual 172, 3) := by decide +kernel
theorem dX4_best_80 : decode cX4_best 80 = .ok (.istore 5, 2) := by decide +kernel
theorem dX4_best_82 : decode cX4_best 82 = .ok (.iload 5, 2) := by decide +kernel
theorem dX4_best_84 : decode cX4_best 84 = .ok (.iload_n 3, 1) := by decide +kernel
theorem dX4_best_85 : decode cX4_best 85 = .ok (.if_icmp .ge 9, 3) := by decide +kernel
theorem dX4_best_88 : decode cX4_best 88 = .ok (.iload 5, 2) := by decide +kernel
theorem dX4_best_90 : decode cX4_best 90 = .ok (.istore_n 3, 1) := by decide +kernel
theorem dX4_best_91 : decode cX4_best 91 = .ok (.iload 4, 2) := by decide +kernel
theorem dX4_best_93 : decode cX4_best 93 = .ok (.istore_n 2, 1) := by decide +kernel
theorem dX4_best_94 : decode cX4_best 94 = .ok (.iinc 4 1, 3) := by decide +kernel
theorem dX4_best_97 : decode cX4_best 97 = .ok (.goto (-55), 3) := by decide +kernel
theorem dX4_best_100 : decode cX4_best 100 = .ok (.iload_n 2, 1) := by decide +kernel
theorem dX4_best_101 : decode cX4_best 101 = .ok (.ireturn, 1) := by decide +kernel
theorem dX4_delay_0 : decode cX4_delay 0 = .ok (.aload_n 0, 1) := by decide +kernel
theorem dX4_delay_1 : decode cX4_delay 1 = .ok (.iload_n 1, 1) := by decide +kernel
theorem dX4_delay_2 : decode cX4_delay 2 = .ok (.invokevirtual 99, 3) := by decide +kernel
theorem dX4_delay_5 : decode cX4_delay 5 = .ok (.ifCond .eq 20, 3) := by decide +kernel
theorem dX4_delay_8 : decode cX4_delay 8 = .ok (.iload_n 2, 1) := by decide +kernel
theorem dX4_delay_9 : decode cX4_delay 9 = .ok (.invokestatic 60, 3) := by decide +kernel
theorem dX4_delay_12 : decode cX4_delay 12 = .ok (.ifCond .eq 13, 3) := by decide +kernel
theorem dX4_delay_15 : decode cX4_delay 15 = .ok (.iload_n 3, 1) := by decide +kernel
theorem dX4_delay_16 : decode cX4_delay 16 = .ok (.iconst 1, 1) := by decide +kernel
theorem dX4_delay_17 : decode cX4_delay 17 = .ok (.bipush 20, 2) := by decide +kernel
theorem dX4_delay_19 : decode cX4_delay 19 = .ok (.invokestatic 47, 3) := by decide +kernel
theorem dX4_delay_22 : decode cX4_delay 22 = .ok (.ifCond .ne 10, 3) := by decide +kernel
theorem dX4_delay_25 : decode cX4_delay 25 = .ok (.aload_n 0, 1) := by decide +kernel
theorem dX4_delay_26 : decode cX4_delay 26 = .ok (.ldc 51, 2) := by decide +kernel
theorem dX4_delay_28 : decode cX4_delay 28 = .ok (.invokevirtual 52, 3) := by decide +kernel
theorem dX4_delay_31 : decode cX4_delay 31 = .ok (.ireturn, 1) := by decide +kernel
theorem dX4_delay_32 : decode cX4_delay 32 = .ok (.iconst 0, 1) := by decide +kernel
theorem dX4_delay_33 : decode cX4_delay 33 = .ok (.istore 4, 2) := by decide +kernel
theorem dX4_delay_35 : decode cX4_delay 35 = .ok (.iconst (-1), 1) := by decide +kernel
theorem dX4_delay_36 : decode cX4_delay 36 = .ok (.istore 5, 2) := by decide +kernel
theorem dX4_delay_38 : decode cX4_delay 38 = .ok (.aload_n 0, 1) := by decide +kernel
theorem dX4_delay_39 : decode cX4_delay 39 = .ok (.getfield 19, 3) := by decide +kernel
theorem dX4_delay_42 : decode cX4_delay 42 = .ok (.aload_n 0, 1) := by decide +kernel
theorem dX4_delay_43 : decode cX4_delay 43 = .ok (.getfield 12, 3) := by decide +kernel
theorem dX4_delay_46 : decode cX4_delay 46 = .ok (.invokevirtual 154, 3) := by decide +kernel
theorem dX4_delay_49 : decode cX4_delay 49 = .ok (.iconst 0, 1) := by decide +kernel
theorem dX4_delay_50 : decode cX4_delay 50 = .ok (.istore 6, 2) := by decide +kernel
theorem dX4_delay_52 : decode cX4_delay 52 = .ok (.iload 6, 2) := by decide +kernel
theorem dX4_delay_54 : decode cX4_delay 54 = .ok (.bipush 20, 2) := by decide +kernel
theorem dX4_delay_56 : decode cX4_delay 56 = .ok (.if_icmp .gt 73, 3) := by decide +kernel
theorem dX4_delay_59 : decode cX4_delay 59 = .ok (.aload_n 0, 1) := by decide +kernel
theorem dX4_delay_60 : decode cX4_delay 60 = .ok (.getfield 22, 3) := by decide +kernel
theorem dX4_delay_63 : decode cX4_delay 63 = .ok (.aload_n 0, 1) := by decide +kernel
theorem dX4_delay_64 : decode cX4_delay 64 = .ok (.getfield 19, 3) := by decide +kernel
theorem dX4_delay_67 : decode cX4_delay 67 = .ok (.invokevirtual 154, 3) := by decide +kernel
theorem dX4_delay_70 : decode cX4_delay 70 = .ok (.aload_n 0, 1) := by decide +kernel
theorem dX4_delay_71 : decode cX4_delay 71 = .ok (.getfield 22, 3) := by decide +kernel
theorem dX4_delay_74 : decode cX4_delay 74 = .ok (.iload_n 1, 1) := by decide +kernel
theorem dX4_delay_75 : decode cX4_delay 75 = .ok (.invokevirtual 143, 3) := by decide +kernel
theorem dX4_delay_78 : decode cX4_delay 78 = .ok (.pop, 1) := by decide +kernel
theorem dX4_delay_79 : decode cX4_delay 79 = .ok (.aload_n 0, 1) := by decide +kernel
theorem dX4_delay_80 : decode cX4_delay 80 = .ok (.getfield 22, 3) := by decide +kernel
theorem dX4_delay_83 : decode cX4_delay 83 = .ok (.iload_n 3, 1) := by decide +kernel
theorem dX4_delay_84 : decode cX4_delay 84 = .ok (.invokevirtual 147, 3) := by decide +kernel
theorem dX4_delay_87 : decode cX4_delay 87 = .ok (.aload_n 0, 1) := by decide +kernel
theorem dX4_delay_88 : decode cX4_delay 88 = .ok (.getfield 22, 3) := by decide +kernel
theorem dX4_delay_91 : decode cX4_delay 91 = .ok (.getfield 67, 3) := by decide +kernel
theorem dX4_delay_94 : decode cX4_delay 94 = .ok (.iload_n 2, 1) := by decide +kernel
theorem dX4_delay_95 : decode cX4_delay 95 = .ok (.iaload, 1) := by decide +kernel
theorem dX4_delay_96 : decode cX4_delay 96 = .ok (.invokestatic 179, 3) := by decide +kernel
theorem dX4_delay_99 : decode cX4_delay 99 = .ok (.istore 7, 2) := by decide +kernel
theorem dX4_delay_101 : decode cX4_delay 101 = .ok (.iload 7, 2) := by decide +kernel
theorem dX4_delay_103 : decode cX4_delay 103 = .ok (.iload 5, 2) := by decide +kernel
theorem dX4_delay_105 : decode cX4_delay 105 = .ok (.if_icmp .le 11, 3) := by decide +kernel
theorem dX4_delay_108 : decode cX4_delay 108 = .ok (.iload 7, 2) := by decide +kernel
theorem dX4_delay_110 : decode cX4_delay 110 = .ok (.istore 5, 2) := by decide +kernel
theorem dX4_delay_112 : decode cX4_delay 112 = .ok (.iload 6, 2) := by decide +kernel
theorem dX4_delay_114 : decode cX4_delay 114 = .ok (.istore 4, 2) := by decide +kernel
theorem dX4_delay_116 : decode cX4_delay 116 = .ok (.aload_n 0, 1) := by decide +kernel
theorem dX4_delay_117 : decode cX4_delay 117 = .ok (.getfield 19, 3) := by decide +kernel
theorem dX4_delay_120 : decode cX4_delay 120 = .ok (.invokevirtual 158, 3) := by decide +kernel
theorem dX4_delay_123 : decode cX4_delay 123 = .ok (.iinc 6 1, 3) := by decide +kernel
theorem dX4_delay_126 : decode cX4_delay 126 = .ok (.goto (-74), 3) := by decide +kernel
theorem dX4_delay_129 : decode cX4_delay 129 = .ok (.iload 4, 2) := by decide +kernel
theorem dX4_delay_131 : decode cX4_delay 131 = .ok (.ireturn, 1) := by decide +kernel
theorem dX4_bears_0 : decode cX4_bears 0 = .ok (.iload_n 1, 1) := by decide +kernel
theorem dX4_bears_1 : decode cX4_bears 1 = .ok (.iconst 1, 1) := by decide +kernel
theorem dX4_bears_2 : decode cX4_bears 2 = .ok (.bipush 40, 2) := by decide +kernel
theorem dX4_bears_4 : decode cX4_bears 4 = .ok (.invokestatic 47, 3) := by decide +kernel
theorem dX4_bears_7 : decode cX4_bears 7 = .ok (.ifCond .ne 10, 3) := by decide +kernel
theorem dX4_bears_10 : decode cX4_bears 10 = .ok (.aload_n 0, 1) := by decide +kernel
theorem dX4_bears_11 : decode cX4_bears 11 = .ok (.ldc 51, 2) := by decide +kernel
theorem dX4_bears_13 : decode cX4_bears 13 = .ok (.invokevirtual 52, 3) := by decide +kernel
theorem dX4_bears_16 : decode cX4_bears 16 = .ok (.ireturn, 1) := by decide +kernel
theorem dX4_bears_17 : decode cX4_bears 17 = .ok (.aload_n 0, 1) := by decide +kernel
theorem dX4_bears_18 : decode cX4_bears 18 = .ok (.getfield 12, 3) := by decide +kernel
theorem dX4_bears_21 : decode cX4_bears 21 = .ok (.invokevirtual 76, 3) := by decide +kernel
theorem dX4_bears_24 : decode cX4_bears 24 = .ok (.istore_n 2, 1) := by decide +kernel
theorem dX4_bears_25 : decode cX4_bears 25 = .ok (.bipush 20, 2) := by decide +kernel
theorem dX4_bears_27 : decode cX4_bears 27 = .ok (.istore_n 3, 1) := by decide +kernel
theorem dX4_bears_28 : decode cX4_bears 28 = .ok (.iload_n 3, 1) := by decide +kernel
theorem dX4_bears_29 : decode cX4_bears 29 = .ok (.ifCond .lt 39, 3) := by decide +kernel
theorem dX4_bears_32 : decode cX4_bears 32 = .ok (.aload_n 0, 1) := by decide +kernel
theorem dX4_bears_33 : decode cX4_bears 33 = .ok (.getfield 19, 3) := by decide +kernel
theorem dX4_bears_36 : decode cX4_bears 36 = .ok (.aload_n 0, 1) := by decide +kernel
theorem dX4_bears_37 : decode cX4_bears 37 = .ok (.getfield 12, 3) := by decide +kernel
theorem dX4_bears_40 : decode cX4_bears 40 = .ok (.invokevirtual 154, 3) := by decide +kernel
theorem dX4_bears_43 : decode cX4_bears 43 = .ok (.aload_n 0, 1) := by decide +kernel
theorem dX4_bears_44 : decode cX4_bears 44 = .ok (.getfield 19, 3) := by decide +kernel
theorem dX4_bears_47 : decode cX4_bears 47 = .ok (.iload_n 3, 1) := by decide +kernel
theorem dX4_bears_48 : decode cX4_bears 48 = .ok (.putfield 56, 3) := by decide +kernel
theorem dX4_bears_51 : decode cX4_bears 51 = .ok (.aload_n 0, 1) := by decide +kernel
theorem dX4_bears_52 : decode cX4_bears 52 = .ok (.iload_n 1, 1) := by decide +kernel
theorem dX4_bears_53 : decode cX4_bears 53 = .ok (.invokevirtual 172, 3) := by decide +kernel
theorem dX4_bears_56 : decode cX4_bears 56 = .ok (.iload_n 2, 1) := by decide +kernel
theorem dX4_bears_57 : decode cX4_bears 57 = .ok (.if_icmp .gt 5, 3) := by decide +kernel
theorem dX4_bears_60 : decode cX4_bears 60 = .ok (.iload_n 3, 1) := by decide +kernel
theorem dX4_bears_61 : decode cX4_bears 61 = .ok (.ireturn, 1) := by decide +kernel
theorem dX4_bears_62 : decode cX4_bears 62 = .ok (.iinc 3 (-1), 3) := by decide +kernel
theorem dX4_bears_65 : decode cX4_bears 65 = .ok (.goto (-37), 3) := by decide +kernel
theorem dX4_bears_68 : decode cX4_bears 68 = .ok (.aload_n 0, 1) := by decide +kernel
theorem dX4_bears_69 : decode cX4_bears 69 = .ok (.ldc 161, 2) := by decide +kernel
theorem dX4_bears_71 : decode cX4_bears 71 = .ok (.invokevirtual 52, 3) := by decide +kernel
theorem dX4_bears_74 : decode cX4_bears 74 = .ok (.ireturn, 1) := by decide +kernel
theorem dX4_fullest_0 : decode cX4_fullest 0 = .ok (.iload_n 1, 1) := by decide +kernel
theorem dX4_fullest_1 : decode cX4_fullest 1 = .ok (.iconst 0, 1) := by decide +kernel
theorem dX4_fullest_2 : decode cX4_fullest 2 = .ok (.bipush 100, 2) := by decide +kernel
theorem dX4_fullest_4 : decode cX4_fullest 4 = .ok (.invokestatic 47, 3) := by decide +kernel
theorem dX4_fullest_7 : decode cX4_fullest 7 = .ok (.ifCond .ne 10, 3) := by decide +kernel
theorem dX4_fullest_10 : decode cX4_fullest 10 = .ok (.aload_n 0, 1) := by decide +kernel
theorem dX4_fullest_11 : decode cX4_fullest 11 = .ok (.ldc 51, 2) := by decide +kernel
theorem dX4_fullest_13 : decode cX4_fullest 13 = .ok (.invokevirtual 52, 3) := by decide +kernel
theorem dX4_fullest_16 : decode cX4_fullest 16 = .ok (.ireturn, 1) := by decide +kernel
theorem dX4_fullest_17 : decode cX4_fullest 17 = .ok (.aload_n 0, 1) := by decide +kernel
theorem dX4_fullest_18 : decode cX4_fullest 18 = .ok (.iload_n 1, 1) := by decide +kernel
theorem dX4_fullest_19 : decode cX4_fullest 19 = .ok (.invokevirtual 151, 3) := by decide +kernel
theorem dX4_fullest_22 : decode cX4_fullest 22 = .ok (.iconst 0, 1) := by decide +kernel
theorem dX4_fullest_23 : decode cX4_fullest 23 = .ok (.istore_n 2, 1) := by decide +kernel
theorem dX4_fullest_24 : decode cX4_fullest 24 = .ok (.iconst (-1), 1) := by decide +kernel
theorem dX4_fullest_25 : decode cX4_fullest 25 = .ok (.istore_n 3, 1) := by decide +kernel
theorem dX4_fullest_26 : decode cX4_fullest 26 = .ok (.iconst 0, 1) := by decide +kernel
theorem dX4_fullest_27 : decode cX4_fullest 27 = .ok (.istore 4, 2) := by decide +kernel
theorem dX4_fullest_29 : decode cX4_fullest 29 = .ok (.iload 4, 2) := by decide +kernel
theorem dX4_fullest_31 : decode cX4_fullest 31 = .ok (.bipush 8, 2) := by decide +kernel
theorem dX4_fullest_33 : decode cX4_fullest 33 = .ok (.if_icmp .ge 36, 3) := by decide +kernel
theorem dX4_fullest_36 : decode cX4_fullest 36 = .ok (.aload_n 0, 1) := by decide +kernel
theorem dX4_fullest_37 : decode cX4_fullest 37 = .ok (.getfield 19, 3) := by decide +kernel
theorem dX4_fullest_40 : decode cX4_fullest 40 = .ok (.getfield 67, 3) := by decide +kernel
theorem dX4_fullest_43 : decode cX4_fullest 43 = .ok (.iload 4, 2) := by decide +kernel
theorem dX4_fullest_45 : decode cX4_fullest 45 = .ok (.iaload, 1) := by decide +kernel
theorem dX4_fullest_46 : decode cX4_fullest 46 = .ok (.invokestatic 179, 3) := by decide +kernel
theorem dX4_fullest_49 : decode cX4_fullest 49 = .ok (.istore 5, 2) := by decide +kernel
theorem dX4_fullest_51 : decode cX4_fullest 51 = .ok (.iload 5, 2) := by decide +kernel
theorem dX4_fullest_53 : decode cX4_fullest 53 = .ok (.iload_n 3, 1) := by decide +kernel
theorem dX4_fullest_54 : decode cX4_fullest 54 = .ok (.if_icmp .le 9, 3) := by decide +kernel
theorem dX4_fullest_57 : decode cX4_fullest 57 = .ok (.iload 5, 2) := by decide +kernel
theorem dX4_fullest_59 : decode cX4_fullest 59 = .ok (.istore_n 3, 1) := by decide +kernel
theorem dX4_fullest_60 : decode cX4_fullest 60 = .ok (.iload 4, 2) := by decide +kernel
theorem dX4_fullest_62 : decode cX4_fullest 62 = .ok (.istore_n 2, 1) := by decide +kernel
theorem dX4_fullest_63 : decode cX4_fullest 63 = .ok (.iinc 4 1, 3) := by decide +kernel
theorem dX4_fullest_66 : decode cX4_fullest 66 = .ok (.goto (-37), 3) := by decide +kernel
theorem dX4_fullest_69 : decode cX4_fullest 69 = .ok (.iload_n 2, 1) := by decide +kernel
theorem dX4_fullest_70 : decode cX4_fullest 70 = .ok (.ireturn, 1) := by decide +kernel
theorem dX4_feed_0 : decode cX4_feed 0 = .ok (.iload_n 2, 1) := by decide +kernel
theorem dX4_feed_1 : decode cX4_feed 1 = .ok (.iconst 1, 1) := by decide +kernel
theorem dX4_feed_2 : decode cX4_feed 2 = .ok (.iconst 4, 1) := by decide +kernel
theorem dX4_feed_3 : decode cX4_feed 3 = .ok (.invokestatic 47, 3) := by decide +kernel
theorem dX4_feed_6 : decode cX4_feed 6 = .ok (.ifCond .ne 10, 3) := by decide +kernel
theorem dX4_feed_9 : decode cX4_feed 9 = .ok (.aload_n 0, 1) := by decide +kernel
theorem dX4_feed_10 : decode cX4_feed 10 = .ok (.ldc 51, 2) := by decide +kernel
theorem dX4_feed_12 : decode cX4_feed 12 = .ok (.invokevirtual 52, 3) := by decide +kernel
theorem dX4_feed_15 : decode cX4_feed 15 = .ok (.ireturn, 1) := by decide +kernel
theorem dX4_feed_16 : decode cX4_feed 16 = .ok (.aload_n 0, 1) := by decide +kernel
theorem dX4_feed_17 : decode cX4_feed 17 = .ok (.getfield 28, 3) := by decide +kernel
theorem dX4_feed_20 : decode cX4_feed 20 = .ok (.getfield 182, 3) := by decide +kernel
theorem dX4_feed_23 : decode cX4_feed 23 = .ok (.bipush 120, 2) := by decide +kernel
theorem dX4_feed_25 : decode cX4_feed 25 = .ok (.iload_n 2, 1) := by decide +kernel
theorem dX4_feed_26 : decode cX4_feed 26 = .ok (.isub, 1) := by decide +kernel
theorem dX4_feed_27 : decode cX4_feed 27 = .ok (.if_icmp .le 10, 3) := by decide +kernel
theorem dX4_feed_30 : decode cX4_feed 30 = .ok (.aload_n 0, 1) := by decide +kernel
theorem dX4_feed_31 : decode cX4_feed 31 = .ok (.ldc 95, 2) := by decide +kernel
theorem dX4_feed_33 : decode cX4_feed 33 = .ok (.invokevirtual 52, 3) := by decide +kernel
theorem dX4_feed_36 : decode cX4_feed 36 = .ok (.ireturn, 1) := by decide +kernel
theorem dX4_feed_37 : decode cX4_feed 37 = .ok (.iload_n 2, 1) := by decide +kernel
theorem dX4_feed_38 : decode cX4_feed 38 = .ok (.iconst 1, 1) := by decide +kernel
theorem dX4_feed_39 : decode cX4_feed 39 = .ok (.isub, 1) := by decide +kernel
theorem dX4_feed_40 : decode cX4_feed 40 = .ok (.istore_n 3, 1) := by decide +kernel
theorem dX4_feed_41 : decode cX4_feed 41 = .ok (.iload_n 3, 1) := by decide +kernel
theorem dX4_feed_42 : decode cX4_feed 42 = .ok (.ifCond .lt 26, 3) := by decide +kernel
theorem dX4_feed_45 : decode cX4_feed 45 = .ok (.aload_n 0, 1) := by decide +kernel
theorem dX4_feed_46 : decode cX4_feed 46 = .ok (.getfield 28, 3) := by decide +kernel
theorem dX4_feed_49 : decode cX4_feed 49 = .ok (.iload_n 1, 1) := by decide +kernel
theorem dX4_feed_50 : decode cX4_feed 50 = .ok (.bipush 8, 2) := by decide +kernel
theorem dX4_feed_52 : decode cX4_feed 52 = .ok (.iload_n 3, 1) := by decide +kernel
theorem dX4_feed_53 : decode cX4_feed 53 = .ok (.imul, 1) := by decide +kernel
theorem dX4_feed_54 : decode cX4_feed 54 = .ok (.ishr, 1) := by decide +kernel
theorem dX4_feed_55 : decode cX4_feed 55 = .ok (.sipush 255, 3) := by decide +kernel
theorem dX4_feed_58 : decode cX4_feed 58 = .ok (.iand, 1) := by decide +kernel
theorem dX4_feed_59 : decode cX4_feed 59 = .ok (.invokevirtual 185, 3) := by decide +kernel
theorem dX4_feed_62 : decode cX4_feed 62 = .ok (.iinc 3 (-1), 3) := by decide +kernel
theorem dX4_feed_65 : decode cX4_feed 65 = .ok (.goto (-24), 3) := by decide +kernel
theorem dX4_feed_68 : decode cX4_feed 68 = .ok (.aload_n 0, 1) := by decide +kernel
theorem dX4_feed_69 : decode cX4_feed 69 = .ok (.getfield 28, 3) := by decide +kernel
theorem dX4_feed_72 : decode cX4_feed 72 = .ok (.getfield 182, 3) := by decide +kernel
theorem dX4_feed_75 : decode cX4_feed 75 = .ok (.ireturn, 1) := by decide +kernel
theorem dX4_wipe_0 : decode cX4_wipe 0 = .ok (.aload_n 0, 1) := by decide +kernel
theorem dX4_wipe_1 : decode cX4_wipe 1 = .ok (.getfield 28, 3) := by decide +kernel
theorem dX4_wipe_4 : decode cX4_wipe 4 = .ok (.getfield 182, 3) := by decide +kernel
theorem dX4_wipe_7 : decode cX4_wipe 7 = .ok (.istore_n 1, 1) := by decide +kernel
theorem dX4_wipe_8 : decode cX4_wipe 8 = .ok (.aload_n 0, 1) := by decide +kernel
theorem dX4_wipe_9 : decode cX4_wipe 9 = .ok (.getfield 28, 3) := by decide +kernel
theorem dX4_wipe_12 : decode cX4_wipe 12 = .ok (.iconst 0, 1) := by decide +kernel
theorem dX4_wipe_13 : decode cX4_wipe 13 = .ok (.putfield 182, 3) := by decide +kernel
theorem dX4_wipe_16 : decode cX4_wipe 16 = .ok (.iload_n 1, 1) := by decide +kernel
theorem dX4_wipe_17 : decode cX4_wipe 17 = .ok (.ireturn, 1) := by decide +kernel
theorem dX4_house_0 : decode cX4_house 0 = .ok (.aload_n 0, 1) := by decide +kernel
theorem dX4_house_1 : decode cX4_house 1 = .ok (.getfield 19, 3) := by decide +kernel
theorem dX4_house_4 : decode cX4_house 4 = .ok (.aload_n 0, 1) := by decide +kernel
theorem dX4_house_5 : decode cX4_house 5 = .ok (.getfield 12, 3) := by decide +kernel
theorem dX4_house_8 : decode cX4_house 8 = .ok (.invokevirtual 154, 3) := by decide +kernel
theorem dX4_house_11 : decode cX4_house 11 = .ok (.aload_n 0, 1) := by decide +kernel
theorem dX4_house_12 : decode cX4_house 12 = .ok (.getfield 28, 3) := by decide +kernel
theorem dX4_house_15 : decode cX4_house 15 = .ok (.aload_n 0, 1) := by decide +kernel
theorem dX4_house_16 : decode cX4_house 16 = .ok (.getfield 19, 3) := by decide +kernel
theorem dX4_house_19 : decode cX4_house 19 = .ok (.invokevirtual 188, 3) := by decide +kernel
theorem dX4_house_22 : decode cX4_house 22 = .ok (.istore_n 1, 1) := by decide +kernel
theorem dX4_house_23 : decode cX4_house 23 = .ok (.iload_n 1, 1) := by decide +kernel
theorem dX4_house_24 : decode cX4_house 24 = .ok (.ifCond .lt 14, 3) := by decide +kernel
theorem dX4_house_27 : decode cX4_house 27 = .ok (.aload_n 0, 1) := by decide +kernel
theorem dX4_house_28 : decode cX4_house 28 = .ok (.getfield 12, 3) := by decide +kernel
theorem dX4_house_31 : decode cX4_house 31 = .ok (.aload_n 0, 1) := by decide +kernel
theorem dX4_house_32 : decode cX4_house 32 = .ok (.getfield 19, 3) := by decide +kernel
theorem dX4_house_35 : decode cX4_house 35 = .ok (.invokevirtual 154, 3) := by decide +kernel
theorem dX4_house_38 : decode cX4_house 38 = .ok (.aload_n 0, 1) := by decide +kernel
theorem dX4_house_39 : decode cX4_house 39 = .ok (.getfield 28, 3) := by decide +kernel
theorem dX4_house_42 : decode cX4_house 42 = .ok (.iconst 0, 1) := by decide +kernel
theorem dX4_house_43 : decode cX4_house 43 = .ok (.putfield 182, 3) := by decide +kernel
theorem dX4_house_46 : decode cX4_house 46 = .ok (.iload_n 1, 1) := by decide +kernel
theorem dX4_house_47 : decode cX4_house 47 = .ok (.ireturn, 1) := by decide +kernel
theorem dX4_sheet_0 : decode cX4_sheet 0 = .ok (.aload_n 0, 1) := by decide +kernel
theorem dX4_sheet_1 : decode cX4_sheet 1 = .ok (.iload_n 1, 1) := by decide +kernel
theorem dX4_sheet_2 : decode cX4_sheet 2 = .ok (.invokevirtual 192, 3) := by decide +kernel
theorem dX4_sheet_5 : decode cX4_sheet 5 = .ok (.astore 4, 2) := by decide +kernel
theorem dX4_sheet_7 : decode cX4_sheet 7 = .ok (.aload 4, 2) := by decide +kernel
theorem dX4_sheet_9 : decode cX4_sheet 9 = .ok (.ifnull 25, 3) := by decide +kernel
theorem dX4_sheet_12 : decode cX4_sheet 12 = .ok (.iload_n 2, 1) := by decide +kernel
theorem dX4_sheet_13 : decode cX4_sheet 13 = .ok (.ifCond .eq 28, 3) := by decide +kernel
theorem dX4_sheet_16 : decode cX4_sheet 16 = .ok (.iload_n 2, 1) := by decide +kernel
theorem dX4_sheet_17 : decode cX4_sheet 17 = .ok (.bipush 8, 2) := by decide +kernel
theorem dX4_sheet_19 : decode cX4_sheet 19 = .ok (.if_icmp .eq 22, 3) := by decide +kernel
theorem dX4_sheet_22 : decode cX4_sheet 22 = .ok (.iload_n 2, 1) := by decide +kernel
theorem dX4_sheet_23 : decode cX4_sheet 23 = .ok (.bipush 16, 2) := by decide +kernel
theorem dX4_sheet_25 : decode cX4_sheet 25 = .ok (.if_icmp .eq 16, 3) := by decide +kernel
theorem dX4_sheet_28 : decode cX4_sheet 28 = .ok (.iload_n 2, 1) := by decide +kernel
theorem dX4_sheet_29 : decode cX4_sheet 29 = .ok (.bipush 64, 2) := by decide +kernel
theorem dX4_sheet_31 : decode cX4_sheet 31 = .ok (.if_icmp .eq 10, 3) := by decide +kernel
theorem dX4_sheet_34 : decode cX4_sheet 34 = .ok (.aload_n 0, 1) := by decide +kernel
theorem dX4_sheet_35 : decode cX4_sheet 35 = .ok (.ldc 51, 2) := by decide +kernel
theorem dX4_sheet_37 : decode cX4_sheet 37 = .ok (.invokevirtual 52, 3) := by decide +kernel
theorem dX4_sheet_40 : decode cX4_sheet 40 = .ok (.ireturn, 1) := by decide +kernel
theorem dX4_sheet_41 : decode cX4_sheet 41 = .ok (.iload_n 3, 1) := by decide +kernel
theorem dX4_sheet_42 : decode cX4_sheet 42 = .ok (.ifCond .ge 10, 3) := by decide +kernel
theorem dX4_sheet_45 : decode cX4_sheet 45 = .ok (.aload_n 0, 1) := by decide +kernel
theorem dX4_sheet_46 : decode cX4_sheet 46 = .ok (.ldc 196, 2) := by decide +kernel
theorem dX4_sheet_48 : decode cX4_sheet 48 = .ok (.invokevirtual 52, 3) := by decide +kernel
theorem dX4_sheet_51 : decode cX4_sheet 51 = .ok (.ireturn, 1) := by decide +kernel
theorem dX4_sheet_52 : decode cX4_sheet 52 = .ok (.iload_n 3, 1) := by decide +kernel
theorem dX4_sheet_53 : decode cX4_sheet 53 = .ok (.bipush 40, 2) := by decide +kernel
theorem dX4_sheet_55 : decode cX4_sheet 55 = .ok (.if_icmp .le 10, 3) := by decide +kernel
theorem dX4_sheet_58 : decode cX4_sheet 58 = .ok (.aload_n 0, 1) := by decide +kernel
theorem dX4_sheet_59 : decode cX4_sheet 59 = .ok (.ldc 51, 2) := by decide +kernel
theorem dX4_sheet_61 : decode cX4_sheet 61 = .ok (.invokevirtual 52, 3) := by decide +kernel
theorem dX4_sheet_64 : decode cX4_sheet 64 = .ok (.ireturn, 1) := by decide +kernel
theorem dX4_sheet_65 : decode cX4_sheet 65 = .ok (.aload 4, 2) := by decide +kernel
theorem dX4_sheet_67 : decode cX4_sheet 67 = .ok (.iload_n 2, 1) := by decide +kernel
theorem dX4_sheet_68 : decode cX4_sheet 68 = .ok (.iload_n 3, 1) := by decide +kernel
theorem dX4_sheet_69 : decode cX4_sheet 69 = .ok (.invokevirtual 197, 3) := by decide +kernel
theorem dX4_sheet_72 : decode cX4_sheet 72 = .ok (.ireturn, 1) := by decide +kernel
theorem dX4_write_0 : decode cX4_write 0 = .ok (.aload_n 0, 1) := by decide +kernel
theorem dX4_write_1 : decode cX4_write 1 = .ok (.iload_n 1, 1) := by decide +kernel
theorem dX4_write_2 : decode cX4_write 2 = .ok (.invokevirtual 192, 3) := by decide +kernel
theorem dX4_write_5 : decode cX4_write 5 = .ok (.astore 5, 2) := by decide +kernel
theorem dX4_write_7 : decode cX4_write 7 = .ok (.aload 5, 2) := by decide +kernel
theorem dX4_write_9 : decode cX4_write 9 = .ok (.ifnonnull 11, 3) := by decide +kernel
theorem dX4_write_12 : decode cX4_write 12 = .ok (.aload_n 0, 1) := by decide +kernel
theorem dX4_write_13 : decode cX4_write 13 = .ok (.ldc 51, 2) := by decide +kernel
theorem dX4_write_15 : decode cX4_write 15 = .ok (.invokevirtual 52, 3) := by decide +kernel
theorem dX4_write_18 : decode cX4_write 18 = .ok (.i2l, 1) := by decide +kernel
theorem dX4_write_19 : decode cX4_write 19 = .ok (.lreturn, 1) := by decide +kernel
theorem dX4_write_20 : decode cX4_write 20 = .ok (.aload 5, 2) := by decide +kernel
theorem dX4_write_22 : decode cX4_write 22 = .ok (.invokevirtual 200, 3) := by decide +kernel
theorem dX4_write_25 : decode cX4_write 25 = .ok (.ifCond .eq 11, 3) := by decide +kernel
theorem dX4_write_28 : decode cX4_write 28 = .ok (.aload_n 0, 1) := by decide +kernel
theorem dX4_write_29 : decode cX4_write 29 = .ok (.ldc 204, 2) := by decide +kernel
theorem dX4_write_31 : decode cX4_write 31 = .ok (.invokevirtual 52, 3) := by decide +kernel
theorem dX4_write_34 : decode cX4_write 34 = .ok (.i2l, 1) := by decide +kernel
theorem dX4_write_35 : decode cX4_write 35 = .ok (.lreturn, 1) := by decide +kernel
theorem dX4_write_36 : decode cX4_write 36 = .ok (.iload_n 2, 1) := by decide +kernel
theorem dX4_write_37 : decode cX4_write 37 = .ok (.iconst 0, 1) := by decide +kernel
theorem dX4_write_38 : decode cX4_write 38 = .ok (.aload 5, 2) := by decide +kernel
theorem dX4_write_40 : decode cX4_write 40 = .ok (.getfield 205, 3) := by decide +kernel
theorem dX4_write_43 : decode cX4_write 43 = .ok (.iconst 1, 1) := by decide +kernel
theorem dX4_write_44 : decode cX4_write 44 = .ok (.isub, 1) := by decide +kernel
theorem dX4_write_45 : decode cX4_write 45 = .ok (.invokestatic 47, 3) := by decide +kernel
theorem dX4_write_48 : decode cX4_write 48 = .ok (.ifCond .ne 11, 3) := by decide +kernel
theorem dX4_write_51 : decode cX4_write 51 = .ok (.aload_n 0, 1) := by decide +kernel
theorem dX4_write_52 : decode cX4_write 52 = .ok (.ldc 51, 2) := by decide +kernel
theorem dX4_write_54 : decode cX4_write 54 = .ok (.invokevirtual 52, 3) := by decide +kernel
theorem dX4_write_57 : decode cX4_write 57 = .ok (.i2l, 1) := by decide +kernel
theorem dX4_write_58 : decode cX4_write 58 = .ok (.lreturn, 1) := by decide +kernel
theorem dX4_write_59 : decode cX4_write 59 = .ok (.aload 5, 2) := by decide +kernel
theorem dX4_write_61 : decode cX4_write 61 = .ok (.getfield 208, 3) := by decide +kernel
theorem dX4_write_64 : decode cX4_write 64 = .ok (.iload_n 2, 1) := by decide +kernel
theorem dX4_write_65 : decode cX4_write 65 = .ok (.laload, 1) := by decide +kernel
theorem dX4_write_66 : decode cX4_write 66 = .ok (.lstore 6, 2) := by decide +kernel
theorem dX4_write_68 : decode cX4_write 68 = .ok (.aload 5, 2) := by decide +kernel
theorem dX4_write_70 : decode cX4_write 70 = .ok (.iload_n 2, 1) := by decide +kernel
theorem dX4_write_71 : decode cX4_write 71 = .ok (.lload_n 3, 1) := by decide +kernel
theorem dX4_write_72 : decode cX4_write 72 = .ok (.invokevirtual 212, 3) := by decide +kernel
theorem dX4_write_75 : decode cX4_write 75 = .ok (.lload 6, 2) := by decide +kernel
theorem dX4_write_77 : decode cX4_write 77 = .ok (.lreturn, 1) := by decide +kernel
theorem dX4_copy_0 : decode cX4_copy 0 = .ok (.aload_n 0, 1) := by decide +kernel
theorem dX4_copy_1 : decode cX4_copy 1 = .ok (.iload_n 1, 1) := by decide +kernel
theorem dX4_copy_2 : decode cX4_copy 2 = .ok (.invokevirtual 192, 3) := by decide +kernel
theorem dX4_copy_5 : decode cX4_copy 5 = .ok (.astore 6, 2) := by decide +kernel
theorem dX4_copy_7 : decode cX4_copy 7 = .ok (.aload_n 0, 1) := by decide +kernel
theorem dX4_copy_8 : decode cX4_copy 8 = .ok (.iload_n 3, 1) := by decide +kernel
theorem dX4_copy_9 : decode cX4_copy 9 = .ok (.invokevirtual 192, 3) := by decide +kernel
theorem dX4_copy_12 : decode cX4_copy 12 = .ok (.astore 7, 2) := by decide +kernel
theorem dX4_copy_14 : decode cX4_copy 14 = .ok (.aload 6, 2) := by decide +kernel
theorem dX4_copy_16 : decode cX4_copy 16 = .ok (.ifnull 8, 3) := by decide +kernel
theorem dX4_copy_19 : decode cX4_copy 19 = .ok (.aload 7, 2) := by decide +kernel
theorem dX4_copy_21 : decode cX4_copy 21 = .ok (.ifnonnull 10, 3) := by decide +kernel
theorem dX4_copy_24 : decode cX4_copy 24 = .ok (.aload_n 0, 1) := by decide +kernel
theorem dX4_copy_25 : decode cX4_copy 25 = .ok (.ldc 51, 2) := by decide +kernel
theorem dX4_copy_27 : decode cX4_copy 27 = .ok (.invokevirtual 52, 3) := by decide +kernel
theorem dX4_copy_30 : decode cX4_copy 30 = .ok (.ireturn, 1) := by decide +kernel
theorem dX4_copy_31 : decode cX4_copy 31 = .ok (.aload 6, 2) := by decide +kernel
theorem dX4_copy_33 : decode cX4_copy 33 = .ok (.invokevirtual 200, 3) := by decide +kernel
theorem dX4_copy_36 : decode cX4_copy 36 = .ok (.ifCond .ne 11, 3) := by decide +kernel
theorem dX4_copy_39 : decode cX4_copy 39 = .ok (.aload 7, 2) := by decide +kernel
theorem dX4_copy_41 : decode cX4_copy 41 = .ok (.invokevirtual 200, 3) := by decide +kernel
theorem dX4_copy_44 : decode cX4_copy 44 = .ok (.ifCond .eq 10, 3) := by decide +kernel
theorem dX4_copy_47 : decode cX4_copy 47 = .ok (.aload_n 0, 1) := by decide +kernel
theorem dX4_copy_48 : decode cX4_copy 48 = .ok (.ldc 204, 2) := by decide +kernel
theorem dX4_copy_50 : decode cX4_copy 50 = .ok (.invokevirtual 52, 3) := by decide +kernel
theorem dX4_copy_53 : decode cX4_copy 53 = .ok (.ireturn, 1) := by decide +kernel
theorem dX4_copy_54 : decode cX4_copy 54 = .ok (.aload 6, 2) := by decide +kernel
theorem dX4_copy_56 : decode cX4_copy 56 = .ok (.getfield 215, 3) := by decide +kernel
theorem dX4_copy_59 : decode cX4_copy 59 = .ok (.aload 7, 2) := by decide +kernel
theorem dX4_copy_61 : decode cX4_copy 61 = .ok (.getfield 215, 3) := by decide +kernel
theorem dX4_copy_64 : decode cX4_copy 64 = .ok (.if_icmp .eq 10, 3) := by decide +kernel
theorem dX4_copy_67 : decode cX4_copy 67 = .ok (.aload_n 0, 1) := by decide +kernel
theorem dX4_copy_68 : decode cX4_copy 68 = .ok (.ldc 136, 2) := by decide +kernel
theorem dX4_copy_70 : decode cX4_copy 70 = .ok (.invokevirtual 52, 3) := by decide +kernel
theorem dX4_copy_73 : decode cX4_copy 73 = .ok (.ireturn, 1) := by decide +kernel
theorem dX4_copy_74 : decode cX4_copy 74 = .ok (.aload 6, 2) := by decide +kernel
theorem dX4_copy_76 : decode cX4_copy 76 = .ok (.iload_n 2, 1) := by decide +kernel
theorem dX4_copy_77 : decode cX4_copy 77 = .ok (.iload 5, 2) := by decide +kernel
theorem dX4_copy_79 : decode cX4_copy 79 = .ok (.invokevirtual 218, 3) := by decide +kernel
theorem dX4_copy_82 : decode cX4_copy 82 = .ok (.ifCond .eq 15, 3) := by decide +kernel
theorem dX4_copy_85 : decode cX4_copy 85 = .ok (.aload 7, 2) := by decide +kernel
theorem dX4_copy_87 : decode cX4_copy 87 = .ok (.iload 4, 2) := by decide +kernel
theorem dX4_copy_89 : decode cX4_copy 89 = .ok (.iload 5, 2) := by decide +kernel
theorem dX4_copy_91 : decode cX4_copy 91 = .ok (.invokevirtual 218, 3) := by decide +kernel
theorem dX4_copy_94 : decode cX4_copy 94 = .ok (.ifCond .ne 10, 3) := by decide +kernel
theorem dX4_copy_97 : decode cX4_copy 97 = .ok (.aload_n 0, 1) := by decide +kernel
theorem dX4_copy_98 : decode cX4_copy 98 = .ok (.ldc 51, 2) := by decide +kernel
theorem dX4_copy_100 : decode cX4_copy 100 = .ok (.invokevirtual 52, 3) := by decide +kernel
theorem dX4_copy_103 : decode cX4_copy 103 = .ok (.ireturn, 1) := by decide +kernel
theorem dX4_copy_104 : decode cX4_copy 104 = .ok (.aload 6, 2) := by decide +kernel
theorem dX4_copy_106 : decode cX4_copy 106 = .ok (.getfield 208, 3) := by decide +kernel
theorem dX4_copy_109 : decode cX4_copy 109 = .ok (.iload_n 2, 1) := by decide +kernel
theorem dX4_copy_110 : decode cX4_copy 110 = .ok (.aload 7, 2) := by decide +kernel
theorem dX4_copy_112 : decode cX4_copy 112 = .ok (.getfield 208, 3) := by decide +kernel
theorem dX4_copy_115 : decode cX4_copy 115 = .ok (.iload 4, 2) := by decide +kernel
theorem dX4_copy_117 : decode cX4_copy 117 = .ok (.iload 5, 2) := by decide +kernel
theorem dX4_copy_119 : decode cX4_copy 119 = .ok (.invokestatic 221, 3) := by decide +kernel
theorem dX4_copy_122 : decode cX4_copy 122 = .ok (.iload 5, 2) := by decide +kernel
theorem dX4_copy_124 : decode cX4_copy 124 = .ok (.ireturn, 1) := by decide +kernel
theorem dX4_lays_0 : decode cX4_lays 0 = .ok (.aload_n 0, 1) := by decide +kernel
theorem dX4_lays_1 : decode cX4_lays 1 = .ok (.iload_n 1, 1) := by decide +kernel
theorem dX4_lays_2 : decode cX4_lays 2 = .ok (.invokevirtual 192, 3) := by decide +kernel
theorem dX4_lays_5 : decode cX4_lays 5 = .ok (.astore_n 2, 1) := by decide +kernel
theorem dX4_lays_6 : decode cX4_lays 6 = .ok (.aload_n 2, 1) := by decide +kernel
theorem dX4_lays_7 : decode cX4_lays 7 = .ok (.ifnonnull 10, 3) := by decide +kernel
theorem dX4_lays_10 : decode cX4_lays 10 = .ok (.aload_n 0, 1) := by decide +kernel
theorem dX4_lays_11 : decode cX4_lays 11 = .ok (.ldc 51, 2) := by decide +kernel
theorem dX4_lays_13 : decode cX4_lays 13 = .ok (.invokevirtual 52, 3) := by decide +kernel
theorem dX4_lays_16 : decode cX4_lays 16 = .ok (.ireturn, 1) := by decide +kernel
theorem dX4_lays_17 : decode cX4_lays 17 = .ok (.aload_n 2, 1) := by decide +kernel
theorem dX4_lays_18 : decode cX4_lays 18 = .ok (.invokevirtual 200, 3) := by decide +kernel
theorem dX4_lays_21 : decode cX4_lays 21 = .ok (.ifCond .eq 10, 3) := by decide +kernel
theorem dX4_lays_24 : decode cX4_lays 24 = .ok (.aload_n 0, 1) := by decide +kernel
theorem dX4_lays_25 : decode cX4_lays 25 = .ok (.ldc 204, 2) := by decide +kernel
theorem dX4_lays_27 : decode cX4_lays 27 = .ok (.invokevirtual 52, 3) := by decide +kernel
theorem dX4_lays_30 : decode cX4_lays 30 = .ok (.ireturn, 1) := by decide +kernel
theorem dX4_lays_31 : decode cX4_lays 31 = .ok (.iconst 0, 1) := by decide +kernel
theorem dX4_lays_32 : decode cX4_lays 32 = .ok (.istore_n 3, 1) := by decide +kernel
theorem dX4_lays_33 : decode cX4_lays 33 = .ok (.iconst 0, 1) := by decide +kernel
theorem dX4_lays_34 : decode cX4_lays 34 = .ok (.istore 4, 2) := by decide +kernel
theorem dX4_lays_36 : decode cX4_lays 36 = .ok (.iload 4, 2) := by decide +kernel
theorem dX4_lays_38 : decode cX4_lays 38 = .ok (.bipush 8, 2) := by decide +kernel
theorem dX4_lays_40 : decode cX4_lays 40 = .ok (.if_icmp .ge 59, 3) := by decide +kernel
theorem dX4_lays_43 : decode cX4_lays 43 = .ok (.iload 4, 2) := by decide +kernel
theorem dX4_lays_45 : decode cX4_lays 45 = .ok (.aload_n 2, 1) := by decide +kernel
theorem dX4_lays_46 : decode cX4_lays 46 = .ok (.getfield 205, 3) := by decide +kernel
theorem dX4_lays_49 : decode cX4_lays 49 = .ok (.if_icmp .ge 50, 3) := by decide +kernel
theorem dX4_lays_52 : decode cX4_lays 52 = .ok (.aload_n 2, 1) := by decide +kernel
theorem dX4_lays_53 : decode cX4_lays 53 = .ok (.getfield 208, 3) := by decide +kernel
theorem dX4_lays_56 : decode cX4_lays 56 = .ok (.iload 4, 2) := by decide +kernel
theorem dX4_lays_58 : decode cX4_lays 58 = .ok (.laload, 1) := by decide +kernel
theorem dX4_lays_59 : decode cX4_lays 59 = .ok (.lstore 5, 2) := by decide +kernel
theorem dX4_lays_61 : decode cX4_lays 61 = .ok (.lload 5, 2) := by decide +kernel
theorem dX4_lays_63 : decode cX4_lays 63 = .ok (.lconst 0, 1) := by decide +kernel
theorem dX4_lays_64 : decode cX4_lays 64 = .ok (.lcmp, 1) := by decide +kernel
theorem dX4_lays_65 : decode cX4_lays 65 = .ok (.ifCond .lt 28, 3) := by decide +kernel
theorem dX4_lays_68 : decode cX4_lays 68 = .ok (.lload 5, 2) := by decide +kernel
theorem dX4_lays_70 : decode cX4_lays 70 = .ok (.ldc2_w 227, 3) := by decide +kernel
theorem dX4_lays_73 : decode cX4_lays 73 = .ok (.lcmp, 1) := by decide +kernel
theorem dX4_lays_74 : decode cX4_lays 74 = .ok (.ifCond .gt 19, 3) := by decide +kernel
theorem dX4_lays_77 : decode cX4_lays 77 = .ok (.aload_n 0, 1) := by decide +kernel
theorem dX4_lays_78 : decode cX4_lays 78 = .ok (.getfield 12, 3) := by decide +kernel
theorem dX4_lays_81 : decode cX4_lays 81 = .ok (.getfield 67, 3) := by decide +kernel
theorem dX4_lays_84 : decode cX4_lays 84 = .ok (.iload 4, 2) := by decide +kernel
theorem dX4_lays_86 : decode cX4_lays 86 = .ok (.lload 5, 2) := by decide +kernel
theorem dX4_lays_88 : decode cX4_lays 88 = .ok (.l2i, 1) := by decide +kernel
theorem dX4_lays_89 : decode cX4_lays 89 = .ok (.iastore, 1) := by decide +kernel
theorem dX4_lays_90 : decode cX4_lays 90 = .ok (.iinc 3 1, 3) := by decide +kernel
theorem dX4_lays_93 : decode cX4_lays 93 = .ok (.iinc 4 1, 3) := by decide +kernel
theorem dX4_lays_96 : decode cX4_lays 96 = .ok (.goto (-60), 3) := by decide +kernel
theorem dX4_lays_99 : decode cX4_lays 99 = .ok (.iload_n 3, 1) := by decide +kernel
theorem dX4_lays_100 : decode cX4_lays 100 = .ok (.ireturn, 1) := by decide +kernel
theorem dX4_book_0 : decode cX4_book 0 = .ok (.aload_n 0, 1) := by decide +kernel
theorem dX4_book_1 : decode cX4_book 1 = .ok (.iload_n 1, 1) := by decide +kernel
theorem dX4_book_2 : decode cX4_book 2 = .ok (.invokevirtual 192, 3) := by decide +kernel
theorem dX4_book_5 : decode cX4_book 5 = .ok (.astore_n 3, 1) := by decide +kernel
theorem dX4_book_6 : decode cX4_book 6 = .ok (.aload_n 3, 1) := by decide +kernel
theorem dX4_book_7 : decode cX4_book 7 = .ok (.ifnonnull 10, 3) := by decide +kernel
theorem dX4_book_10 : decode cX4_book 10 = .ok (.aload_n 0, 1) := by decide +kernel
theorem dX4_book_11 : decode cX4_book 11 = .ok (.ldc 51, 2) := by decide +kernel
theorem dX4_book_13 : decode cX4_book 13 = .ok (.invokevirtual 52, 3) := by decide +kernel
theorem dX4_book_16 : decode cX4_book 16 = .ok (.ireturn, 1) := by decide +kernel
theorem dX4_book_17 : decode cX4_book 17 = .ok (.aload_n 3, 1) := by decide +kernel
theorem dX4_book_18 : decode cX4_book 18 = .ok (.invokevirtual 200, 3) := by decide +kernel
theorem dX4_book_21 : decode cX4_book 21 = .ok (.ifCond .eq 10, 3) := by decide +kernel
theorem dX4_book_24 : decode cX4_book 24 = .ok (.aload_n 0, 1) := by decide +kernel
theorem dX4_book_25 : decode cX4_book 25 = .ok (.ldc 204, 2) := by decide +kernel
theorem dX4_book_27 : decode cX4_book 27 = .ok (.invokevirtual 52, 3) := by decide +kernel
theorem dX4_book_30 : decode cX4_book 30 = .ok (.ireturn, 1) := by decide +kernel
theorem dX4_book_31 : decode cX4_book 31 = .ok (.iload_n 2, 1) := by decide +kernel
theorem dX4_book_32 : decode cX4_book 32 = .ok (.invokestatic 60, 3) := by decide +kernel
theorem dX4_book_35 : decode cX4_book 35 = .ok (.ifCond .ne 10, 3) := by decide +kernel
theorem dX4_book_38 : decode cX4_book 38 = .ok (.aload_n 0, 1) := by decide +kernel
theorem dX4_book_39 : decode cX4_book 39 = .ok (.ldc 51, 2) := by decide +kernel
theorem dX4_book_41 : decode cX4_book 41 = .ok (.invokevirtual 52, 3) := by decide +kernel
theorem dX4_book_44 : decode cX4_book 44 = .ok (.ireturn, 1) := by decide +kernel
theorem dX4_book_45 : decode cX4_book 45 = .ok (.aload_n 0, 1) := by decide +kernel
theorem dX4_book_46 : decode cX4_book 46 = .ok (.getfield 19, 3) := by decide +kernel
theorem dX4_book_49 : decode cX4_book 49 = .ok (.aload_n 0, 1) := by decide +kernel
theorem dX4_book_50 : decode cX4_book 50 = .ok (.getfield 12, 3) := by decide +kernel
theorem dX4_book_53 : decode cX4_book 53 = .ok (.invokevirtual 154, 3) := by decide +kernel
theorem dX4_book_56 : decode cX4_book 56 = .ok (.iconst 0, 1) := by decide +kernel
theorem dX4_book_57 : decode cX4_book 57 = .ok (.istore 4, 2) := by decide +kernel
theorem dX4_book_59 : decode cX4_book 59 = .ok (.iload 4, 2) := by decide +kernel
theorem dX4_book_61 : decode cX4_book 61 = .ok (.aload_n 3, 1) := by decide +kernel
theorem dX4_book_62 : decode cX4_book 62 = .ok (.getfield 205, 3) := by decide +kernel
theorem dX4_book_65 : decode cX4_book 65 = .ok (.if_icmp .ge 32, 3) := by decide +kernel
theorem dX4_book_68 : decode cX4_book 68 = .ok (.aload_n 3, 1) := by decide +kernel
theorem dX4_book_69 : decode cX4_book 69 = .ok (.iload 4, 2) := by decide +kernel
theorem dX4_book_71 : decode cX4_book 71 = .ok (.aload_n 0, 1) := by decide +kernel
theorem dX4_book_72 : decode cX4_book 72 = .ok (.getfield 19, 3) := by decide +kernel
theorem dX4_book_75 : decode cX4_book 75 = .ok (.getfield 67, 3) := by decide +kernel
theorem dX4_book_78 : decode cX4_book 78 = .ok (.iload_n 2, 1) := by decide +kernel
theorem dX4_book_79 : decode cX4_book 79 = .ok (.iaload, 1) := by decide +kernel
theorem dX4_book_80 : decode cX4_book 80 = .ok (.i2l, 1) := by decide +kernel
theorem dX4_book_81 : decode cX4_book 81 = .ok (.invokevirtual 212, 3) := by decide +kernel
theorem dX4_book_84 : decode cX4_book 84 = .ok (.aload_n 0, 1) := by decide +kernel
theorem dX4_book_85 : decode cX4_book 85 = .ok (.getfield 19, 3) := by decide +kernel
theorem dX4_book_88 : decode cX4_book 88 = .ok (.invokevirtual 158, 3) := by decide +kernel
theorem dX4_book_91 : decode cX4_book 91 = .ok (.iinc 4 1, 3) := by decide +kernel
theorem dX4_book_94 : decode cX4_book 94 = .ok (.goto (-35), 3) := by decide +kernel
theorem dX4_book_97 : decode cX4_book 97 = .ok (.aload_n 3, 1) := by decide +kernel
theorem dX4_book_98 : decode cX4_book 98 = .ok (.getfield 205, 3) := by decide +kernel
theorem dX4_book_101 : decode cX4_book 101 = .ok (.ireturn, 1) := by decide +kernel
theorem dX4_read_0 : decode cX4_read 0 = .ok (.aload_n 0, 1) := by decide +kernel
theorem dX4_read_1 : decode cX4_read 1 = .ok (.iload_n 1, 1) := by decide +kernel
theorem dX4_read_2 : decode cX4_read 2 = .ok (.invokevirtual 192, 3) := by decide +kernel
theorem dX4_read_5 : decode cX4_read 5 = .ok (.astore 4, 2) := by decide +kernel
theorem dX4_read_7 : decode cX4_read 7 = .ok (.aload 4, 2) := by decide +kernel
theorem dX4_read_9 : decode cX4_read 9 = .ok (.ifnonnull 10, 3) := by decide +kernel
theorem dX4_read_12 : decode cX4_read 12 = .ok (.aload_n 0, 1) := by decide +kernel
theorem dX4_read_13 : decode cX4_read 13 = .ok (.ldc 51, 2) := by decide +kernel
theorem dX4_read_15 : decode cX4_read 15 = .ok (.invokevirtual 52, 3) := by decide +kernel
theorem dX4_read_18 : decode cX4_read 18 = .ok (.ireturn, 1) := by decide +kernel
theorem dX4_read_19 : decode cX4_read 19 = .ok (.aload 4, 2) := by decide +kernel
theorem dX4_read_21 : decode cX4_read 21 = .ok (.invokevirtual 200, 3) := by decide +kernel
theorem dX4_read_24 : decode cX4_read 24 = .ok (.ifCond .eq 10, 3) := by decide +kernel
theorem dX4_read_27 : decode cX4_read 27 = .ok (.aload_n 0, 1) := by decide +kernel
theorem dX4_read_28 : decode cX4_read 28 = .ok (.ldc 204, 2) := by decide +kernel
theorem dX4_read_30 : decode cX4_read 30 = .ok (.invokevirtual 52, 3) := by decide +kernel
theorem dX4_read_33 : decode cX4_read 33 = .ok (.ireturn, 1) := by decide +kernel
theorem dX4_read_34 : decode cX4_read 34 = .ok (.iload_n 2, 1) := by decide +kernel
theorem dX4_read_35 : decode cX4_read 35 = .ok (.invokestatic 60, 3) := by decide +kernel
theorem dX4_read_38 : decode cX4_read 38 = .ok (.ifCond .eq 11, 3) := by decide +kernel
theorem dX4_read_41 : decode cX4_read 41 = .ok (.aload_n 0, 1) := by decide +kernel
theorem dX4_read_42 : decode cX4_read 42 = .ok (.iload_n 3, 1) := by decide +kernel
theorem dX4_read_43 : decode cX4_read 43 = .ok (.invokevirtual 99, 3) := by decide +kernel
theorem dX4_read_46 : decode cX4_read 46 = .ok (.ifCond .ne 10, 3) := by decide +kernel
theorem dX4_read_49 : decode cX4_read 49 = .ok (.aload_n 0, 1) := by decide +kernel
theorem dX4_read_50 : decode cX4_read 50 = .ok (.ldc 51, 2) := by decide +kernel
theorem dX4_read_52 : decode cX4_read 52 = .ok (.invokevirtual 52, 3) := by decide +kernel
theorem dX4_read_55 : decode cX4_read 55 = .ok (.ireturn, 1) := by decide +kernel
theorem dX4_read_56 : decode cX4_read 56 = .ok (.iconst 0, 1) := by decide +kernel
theorem dX4_read_57 : decode cX4_read 57 = .ok (.istore 5, 2) := by decide +kernel
theorem dX4_read_59 : decode cX4_read 59 = .ok (.iconst 0, 1) := by decide +kernel
theorem dX4_read_60 : decode cX4_read 60 = .ok (.istore 6, 2) := by decide +kernel
theorem dX4_read_62 : decode cX4_read 62 = .ok (.iload 6, 2) := by decide +kernel
theorem dX4_read_64 : decode cX4_read 64 = .ok (.iconst 5, 1) := by decide +kernel
theorem dX4_read_65 : decode cX4_read 65 = .ok (.if_icmp .gt 71, 3) := by decide +kernel
theorem dX4_read_68 : decode cX4_read 68 = .ok (.iconst 0, 1) := by decide +kernel
theorem dX4_read_69 : decode cX4_read 69 = .ok (.istore 7, 2) := by decide +kernel
theorem dX4_read_71 : decode cX4_read 71 = .ok (.iload 7, 2) := by decide +kernel
theorem dX4_read_73 : decode cX4_read 73 = .ok (.bipush 8, 2) := by decide +kernel
theorem dX4_read_75 : decode cX4_read 75 = .ok (.if_icmp .ge 55, 3) := by decide +kernel
theorem dX4_read_78 : decode cX4_read 78 = .ok (.aload_n 0, 1) := by decide +kernel
theorem dX4_read_79 : decode cX4_read 79 = .ok (.getfield 19, 3) := by decide +kernel
theorem dX4_read_82 : decode cX4_read 82 = .ok (.aload_n 0, 1) := by decide +kernel
theorem dX4_read_83 : decode cX4_read 83 = .ok (.getfield 12, 3) := by decide +kernel
theorem dX4_read_86 : decode cX4_read 86 = .ok (.invokevirtual 154, 3) := by decide +kernel
theorem dX4_read_89 : decode cX4_read 89 = .ok (.aload_n 0, 1) := by decide +kernel
theorem dX4_read_90 : decode cX4_read 90 = .ok (.getfield 19, 3) := by decide +kernel
theorem dX4_read_93 : decode cX4_read 93 = .ok (.getfield 102, 3) := by decide +kernel
theorem dX4_read_96 : decode cX4_read 96 = .ok (.iload_n 3, 1) := by decide +kernel
theorem dX4_read_97 : decode cX4_read 97 = .ok (.iload 6, 2) := by decide +kernel
theorem dX4_read_99 : decode cX4_read 99 = .ok (.iastore, 1) := by decide +kernel
theorem dX4_read_100 : decode cX4_read 100 = .ok (.aload_n 0, 1) := by decide +kernel
theorem dX4_read_101 : decode cX4_read 101 = .ok (.getfield 19, 3) := by decide +kernel
theorem dX4_read_104 : decode cX4_read 104 = .ok (.getfield 111, 3) := by decide +kernel
theorem dX4_read_107 : decode cX4_read 107 = .ok (.iload_n 3, 1) := by decide +kernel
theorem dX4_read_108 : decode cX4_read 108 = .ok (.iload 7, 2) := by decide +kernel
theorem dX4_read_110 : decode cX4_read 110 = .ok (.iastore, 1) := by decide +kernel
theorem dX4_read_111 : decode cX4_read 111 = .ok (.aload_n 0, 1) := by decide +kernel
theorem dX4_read_112 : decode cX4_read 112 = .ok (.aload 4, 2) := by decide +kernel
theorem dX4_read_114 : decode cX4_read 114 = .ok (.iload_n 2, 1) := by decide +kernel
theorem dX4_read_115 : decode cX4_read 115 = .ok (.invokevirtual 229, 3) := by decide +kernel
theorem dX4_read_118 : decode cX4_read 118 = .ok (.ifCond .eq 6, 3) := by decide +kernel
theorem dX4_read_121 : decode cX4_read 121 = .ok (.iinc 5 1, 3) := by decide +kernel
theorem dX4_read_124 : decode cX4_read 124 = .ok (.iinc 7 1, 3) := by decide +kernel
theorem dX4_read_127 : decode cX4_read 127 = .ok (.goto (-56), 3) := by decide +kernel
theorem dX4_read_130 : decode cX4_read 130 = .ok (.iinc 6 1, 3) := by decide +kernel
theorem dX4_read_133 : decode cX4_read 133 = .ok (.goto (-71), 3) := by decide +kernel
theorem dX4_read_136 : decode cX4_read 136 = .ok (.iload 5, 2) := by decide +kernel
theorem dX4_read_138 : decode cX4_read 138 = .ok (.ireturn, 1) := by decide +kernel
theorem dX4_image_0 : decode cX4_image 0 = .ok (.aload_n 0, 1) := by decide +kernel
theorem dX4_image_1 : decode cX4_image 1 = .ok (.getfield 16, 3) := by decide +kernel
theorem dX4_image_4 : decode cX4_image 4 = .ok (.aload_n 0, 1) := by decide +kernel
theorem dX4_image_5 : decode cX4_image 5 = .ok (.getfield 12, 3) := by decide +kernel
theorem dX4_image_8 : decode cX4_image 8 = .ok (.invokevirtual 154, 3) := by decide +kernel
theorem dX4_image_11 : decode cX4_image 11 = .ok (.aload_n 0, 1) := by decide +kernel
theorem dX4_image_12 : decode cX4_image 12 = .ok (.iconst 1, 1) := by decide +kernel
theorem dX4_image_13 : decode cX4_image 13 = .ok (.putfield 42, 3) := by decide +kernel
theorem dX4_image_16 : decode cX4_image 16 = .ok (.iconst 1, 1) := by decide +kernel
theorem dX4_image_17 : decode cX4_image 17 = .ok (.ireturn, 1) := by decide +kernel
theorem dX4_undo_0 : decode cX4_undo 0 = .ok (.aload_n 0, 1) := by decide +kernel
theorem dX4_undo_1 : decode cX4_undo 1 = .ok (.getfield 42, 3) := by decide +kernel
theorem dX4_undo_4 : decode cX4_undo 4 = .ok (.ifCond .ne 10, 3) := by decide +kernel
theorem dX4_undo_7 : decode cX4_undo 7 = .ok (.aload_n 0, 1) := by decide +kernel
theorem dX4_undo_8 : decode cX4_undo 8 = .ok (.ldc 161, 2) := by decide +kernel
theorem dX4_undo_10 : decode cX4_undo 10 = .ok (.invokevirtual 52, 3) := by decide +kernel
theorem dX4_undo_13 : decode cX4_undo 13 = .ok (.ireturn, 1) := by decide +kernel
theorem dX4_undo_14 : decode cX4_undo 14 = .ok (.aload_n 0, 1) := by decide +kernel
theorem dX4_undo_15 : decode cX4_undo 15 = .ok (.getfield 12, 3) := by decide +kernel
theorem dX4_undo_18 : decode cX4_undo 18 = .ok (.aload_n 0, 1) := by decide +kernel
theorem dX4_undo_19 : decode cX4_undo 19 = .ok (.getfield 16, 3) := by decide +kernel
theorem dX4_undo_22 : decode cX4_undo 22 = .ok (.invokevirtual 154, 3) := by decide +kernel
theorem dX4_undo_25 : decode cX4_undo 25 = .ok (.aload_n 0, 1) := by decide +kernel
theorem dX4_undo_26 : decode cX4_undo 26 = .ok (.getfield 12, 3) := by decide +kernel
theorem dX4_undo_29 : decode cX4_undo 29 = .ok (.getfield 92, 3) := by decide +kernel
theorem dX4_undo_32 : decode cX4_undo 32 = .ok (.ireturn, 1) := by decide +kernel
theorem dX4_tear_0 : decode cX4_tear 0 = .ok (.aload_n 0, 1) := by decide +kernel
theorem dX4_tear_1 : decode cX4_tear 1 = .ok (.getfield 42, 3) := by decide +kernel
theorem dX4_tear_4 : decode cX4_tear 4 = .ok (.ifCond .eq 7, 3) := by decide +kernel
theorem dX4_tear_7 : decode cX4_tear 7 = .ok (.iconst 1, 1) := by decide +kernel
theorem dX4_tear_8 : decode cX4_tear 8 = .ok (.goto 4, 3) := by decide +kernel
theorem dX4_tear_11 : decode cX4_tear 11 = .ok (.iconst 0, 1) := by decide +kernel
theorem dX4_tear_12 : decode cX4_tear 12 = .ok (.istore_n 1, 1) := by decide +kernel
theorem dX4_tear_13 : decode cX4_tear 13 = .ok (.aload_n 0, 1) := by decide +kernel
theorem dX4_tear_14 : decode cX4_tear 14 = .ok (.iconst 0, 1) := by decide +kernel
theorem dX4_tear_15 : decode cX4_tear 15 = .ok (.putfield 42, 3) := by decide +kernel
theorem dX4_tear_18 : decode cX4_tear 18 = .ok (.iload_n 1, 1) := by decide +kernel
theorem dX4_tear_19 : decode cX4_tear 19 = .ok (.ireturn, 1) := by decide +kernel
theorem dX4_count_0 : decode cX4_count 0 = .ok (.iload_n 1, 1) := by decide +kernel
theorem dX4_count_1 : decode cX4_count 1 = .ok (.tableswitch 63 0 3 #[31, 39, 47, 55], 31) := by decide +kernel
theorem dX4_count_32 : decode cX4_count 32 = .ok (.aload_n 0, 1) := by decide +kernel
theorem dX4_count_33 : decode cX4_count 33 = .ok (.getfield 12, 3) := by decide +kernel
theorem dX4_count_36 : decode cX4_count 36 = .ok (.getfield 92, 3) := by decide +kernel
theorem dX4_count_39 : decode cX4_count 39 = .ok (.ireturn, 1) := by decide +kernel
theorem dX4_count_40 : decode cX4_count 40 = .ok (.aload_n 0, 1) := by decide +kernel
theorem dX4_count_41 : decode cX4_count 41 = .ok (.getfield 28, 3) := by decide +kernel
theorem dX4_count_44 : decode cX4_count 44 = .ok (.getfield 182, 3) := by decide +kernel
theorem dX4_count_47 : decode cX4_count 47 = .ok (.ireturn, 1) := by decide +kernel
theorem dX4_count_48 : decode cX4_count 48 = .ok (.aload_n 0, 1) := by decide +kernel
theorem dX4_count_49 : decode cX4_count 49 = .ok (.getfield 12, 3) := by decide +kernel
theorem dX4_count_52 : decode cX4_count 52 = .ok (.invokevirtual 233, 3) := by decide +kernel
theorem dX4_count_55 : decode cX4_count 55 = .ok (.ireturn, 1) := by decide +kernel
theorem dX4_count_56 : decode cX4_count 56 = .ok (.aload_n 0, 1) := by decide +kernel
theorem dX4_count_57 : decode cX4_count 57 = .ok (.getfield 12, 3) := by decide +kernel
theorem dX4_count_60 : decode cX4_count 60 = .ok (.invokevirtual 236, 3) := by decide +kernel
theorem dX4_count_63 : decode cX4_count 63 = .ok (.ireturn, 1) := by decide +kernel
theorem dX4_count_64 : decode cX4_count 64 = .ok (.aload_n 0, 1) := by decide +kernel
theorem dX4_count_65 : decode cX4_count 65 = .ok (.ldc 51, 2) := by decide +kernel
theorem dX4_count_67 : decode cX4_count 67 = .ok (.invokevirtual 52, 3) := by decide +kernel
theorem dX4_count_70 : decode cX4_count 70 = .ok (.ireturn, 1) := by decide +kernel
theorem dX4_status_0 : decode cX4_status 0 = .ok (.iload_n 1, 1) := by decide +kernel
theorem dX4_status_1 : decode cX4_status 1 = .ok (.iconst (-1), 1) := by decide +kernel
theorem dX4_status_2 : decode cX4_status 2 = .ok (.bipush 6, 2) := by decide +kernel
theorem dX4_status_4 : decode cX4_status 4 = .ok (.invokestatic 47, 3) := by decide +kernel
theorem dX4_status_7 : decode cX4_status 7 = .ok (.ifCond .ne 10, 3) := by decide +kernel
theorem dX4_status_10 : decode cX4_status 10 = .ok (.aload_n 0, 1) := by decide +kernel
theorem dX4_status_11 : decode cX4_status 11 = .ok (.ldc 51, 2) := by decide +kernel
theorem dX4_status_13 : decode cX4_status 13 = .ok (.invokevirtual 52, 3) := by decide +kernel
theorem dX4_status_16 : decode cX4_status 16 = .ok (.ireturn, 1) := by decide +kernel
theorem dX4_status_17 : decode cX4_status 17 = .ok (.iload_n 1, 1) := by decide +kernel
theorem dX4_status_18 : decode cX4_status 18 = .ok (.ifCond .lt 10, 3) := by decide +kernel
theorem dX4_status_21 : decode cX4_status 21 = .ok (.aload_n 0, 1) := by decide +kernel
theorem dX4_status_22 : decode cX4_status 22 = .ok (.getfield 38, 3) := by decide +kernel
theorem dX4_status_25 : decode cX4_status 25 = .ok (.iload_n 1, 1) := by decide +kernel
theorem dX4_status_26 : decode cX4_status 26 = .ok (.iaload, 1) := by decide +kernel
theorem dX4_status_27 : decode cX4_status 27 = .ok (.ireturn, 1) := by decide +kernel
theorem dX4_status_28 : decode cX4_status 28 = .ok (.iconst 0, 1) := by decide +kernel
theorem dX4_status_29 : decode cX4_status 29 = .ok (.istore_n 2, 1) := by decide +kernel
theorem dX4_status_30 : decode cX4_status 30 = .ok (.iconst 0, 1) := by decide +kernel
theorem dX4_status_31 : decode cX4_status 31 = .ok (.istore_n 3, 1) := by decide +kernel
theorem dX4_status_32 : decode cX4_status 32 = .ok (.iload_n 3, 1) := by decide +kernel
theorem dX4_status_33 : decode cX4_status 33 = .ok (.bipush 7, 2) := by decide +kernel
theorem dX4_status_35 : decode cX4_status 35 = .ok (.if_icmp .ge 18, 3) := by decide +kernel
theorem dX4_status_38 : decode cX4_status 38 = .ok (.iload_n 2, 1) := by decide +kernel
theorem dX4_status_39 : decode cX4_status 39 = .ok (.aload_n 0, 1) := by decide +kernel
theorem dX4_status_40 : decode cX4_status 40 = .ok (.getfield 38, 3) := by decide +kernel
theorem dX4_status_43 : decode cX4_status 43 = .ok (.iload_n 3, 1) := by decide +kernel
theorem dX4_status_44 : decode cX4_status 44 = .ok (.iaload, 1) := by decide +kernel
theorem dX4_status_45 : decode cX4_status 45 = .ok (.iadd, 1) := by decide +kernel
theorem dX4_status_46 : decode cX4_status 46 = .ok (.istore_n 2, 1) := by decide +kernel
theorem dX4_status_47 : decode cX4_status 47 = .ok (.iinc 3 1, 3) := by decide +kernel
theorem dX4_status_50 : decode cX4_status 50 = .ok (.goto (-18), 3) := by decide +kernel
theorem dX4_status_53 : decode cX4_status 53 = .ok (.iload_n 2, 1) := by decide +kernel
theorem dX4_status_54 : decode cX4_status 54 = .ok (.ireturn, 1) := by decide +kernel
theorem dX4_finding_0 : decode cX4_finding 0 = .ok (.ldc 51, 2) := by decide +kernel
theorem dX4_finding_2 : decode cX4_finding 2 = .ok (.iload_n 1, 1) := by decide +kernel
theorem dX4_finding_3 : decode cX4_finding 3 = .ok (.isub, 1) := by decide +kernel
theorem dX4_finding_4 : decode cX4_finding 4 = .ok (.istore_n 2, 1) := by decide +kernel
theorem dX4_finding_5 : decode cX4_finding 5 = .ok (.iload_n 2, 1) := by decide +kernel
theorem dX4_finding_6 : decode cX4_finding 6 = .ok (.ifCond .lt 19, 3) := by decide +kernel
theorem dX4_finding_9 : decode cX4_finding 9 = .ok (.iload_n 2, 1) := by decide +kernel
theorem dX4_finding_10 : decode cX4_finding 10 = .ok (.bipush 7, 2) := by decide +kernel
theorem dX4_finding_12 : decode cX4_finding 12 = .ok (.if_icmp .ge 13, 3) := by decide +kernel
theorem dX4_finding_15 : decode cX4_finding 15 = .ok (.aload_n 0, 1) := by decide +kernel
theorem dX4_finding_16 : decode cX4_finding 16 = .ok (.getfield 38, 3) := by decide +kernel
theorem dX4_finding_19 : decode cX4_finding 19 = .ok (.iload_n 2, 1) := by decide +kernel
theorem dX4_finding_20 : decode cX4_finding 20 = .ok (.dup2, 1) := by decide +kernel
theorem dX4_finding_21 : decode cX4_finding 21 = .ok (.iaload, 1) := by decide +kernel
theorem dX4_finding_22 : decode cX4_finding 22 = .ok (.iconst 1, 1) := by decide +kernel
theorem dX4_finding_23 : decode cX4_finding 23 = .ok (.iadd, 1) := by decide +kernel
theorem dX4_finding_24 : decode cX4_finding 24 = .ok (.iastore, 1) := by decide +kernel
theorem dX4_finding_25 : decode cX4_finding 25 = .ok (.iload_n 1, 1) := by decide +kernel
theorem dX4_finding_26 : decode cX4_finding 26 = .ok (.ireturn, 1) := by decide +kernel
theorem dX4_within_0 : decode cX4_within 0 = .ok (.iload_n 0, 1) := by decide +kernel
theorem dX4_within_1 : decode cX4_within 1 = .ok (.iload_n 1, 1) := by decide +kernel
theorem dX4_within_2 : decode cX4_within 2 = .ok (.if_icmp .lt 12, 3) := by decide +kernel
theorem dX4_within_5 : decode cX4_within 5 = .ok (.iload_n 0, 1) := by decide +kernel
theorem dX4_within_6 : decode cX4_within 6 = .ok (.iload_n 2, 1) := by decide +kernel
theorem dX4_within_7 : decode cX4_within 7 = .ok (.if_icmp .gt 7, 3) := by decide +kernel
theorem dX4_within_10 : decode cX4_within 10 = .ok (.iconst 1, 1) := by decide +kernel
theorem dX4_within_11 : decode cX4_within 11 = .ok (.goto 4, 3) := by decide +kernel
theorem dX4_within_14 : decode cX4_within 14 = .ok (.iconst 0, 1) := by decide +kernel
theorem dX4_within_15 : decode cX4_within 15 = .ok (.ireturn, 1) := by decide +kernel
theorem dX4_isRoom_0 : decode cX4_isRoom 0 = .ok (.iload_n 0, 1) := by decide +kernel
theorem dX4_isRoom_1 : decode cX4_isRoom 1 = .ok (.iconst 0, 1) := by decide +kernel
theorem dX4_isRoom_2 : decode cX4_isRoom 2 = .ok (.bipush 7, 2) := by decide +kernel
theorem dX4_isRoom_4 : decode cX4_isRoom 4 = .ok (.invokestatic 47, 3) := by decide +kernel
theorem dX4_isRoom_7 : decode cX4_isRoom 7 = .ok (.ireturn, 1) := by decide +kernel
theorem dX4_isMemory_0 : decode cX4_isMemory 0 = .ok (.iload_n 0, 1) := by decide +kernel
theorem dX4_isMemory_1 : decode cX4_isMemory 1 = .ok (.iconst 0, 1) := by decide +kernel
theorem dX4_isMemory_2 : decode cX4_isMemory 2 = .ok (.bipush 9, 2) := by decide +kernel
theorem dX4_isMemory_4 : decode cX4_isMemory 4 = .ok (.invokestatic 47, 3) := by decide +kernel
theorem dX4_isMemory_7 : decode cX4_isMemory 7 = .ok (.ireturn, 1) := by decide +kernel
theorem dX4_isKind_0 : decode cX4_isKind 0 = .ok (.iload_n 0, 1) := by decide +kernel
theorem dX4_isKind_1 : decode cX4_isKind 1 = .ok (.iconst 0, 1) := by decide +kernel
theorem dX4_isKind_2 : decode cX4_isKind 2 = .ok (.iconst 5, 1) := by decide +kernel
theorem dX4_isKind_3 : decode cX4_isKind 3 = .ok (.invokestatic 47, 3) := by decide +kernel
theorem dX4_isKind_6 : decode cX4_isKind 6 = .ok (.ireturn, 1) := by decide +kernel
theorem dX4_sheetAt_0 : decode cX4_sheetAt 0 = .ok (.iload_n 1, 1) := by decide +kernel
theorem dX4_sheetAt_1 : decode cX4_sheetAt 1 = .ok (.iconst 0, 1) := by decide +kernel
theorem dX4_sheetAt_2 : decode cX4_sheetAt 2 = .ok (.iconst 3, 1) := by decide +kernel
theorem dX4_sheetAt_3 : decode cX4_sheetAt 3 = .ok (.invokestatic 47, 3) := by decide +kernel
theorem dX4_sheetAt_6 : decode cX4_sheetAt 6 = .ok (.ifCond .eq 12, 3) := by decide +kernel
theorem dX4_sheetAt_9 : decode cX4_sheetAt 9 = .ok (.aload_n 0, 1) := by decide +kernel
theorem dX4_sheetAt_10 : decode cX4_sheetAt 10 = .ok (.getfield 34, 3) := by decide +kernel
theorem dX4_sheetAt_13 : decode cX4_sheetAt 13 = .ok (.iload_n 1, 1) := by decide +kernel
theorem dX4_sheetAt_14 : decode cX4_sheetAt 14 = .ok (.aaload, 1) := by decide +kernel
theorem dX4_sheetAt_15 : decode cX4_sheetAt 15 = .ok (.goto 4, 3) := by decide +kernel
theorem dX4_sheetAt_18 : decode cX4_sheetAt 18 = .ok (.aconst_null, 1) := by decide +kernel
theorem dX4_sheetAt_19 : decode cX4_sheetAt 19 = .ok (.areturn, 1) := by decide +kernel
theorem dX4_isDuster_0 : decode cX4_isDuster 0 = .ok (.iload_n 1, 1) := by decide +kernel
theorem dX4_isDuster_1 : decode cX4_isDuster 1 = .ok (.iconst 0, 1) := by decide +kernel
theorem dX4_isDuster_2 : decode cX4_isDuster 2 = .ok (.aload_n 0, 1) := by decide +kernel
theorem dX4_isDuster_3 : decode cX4_isDuster 3 = .ok (.getfield 12, 3) := by decide +kernel
theorem dX4_isDuster_6 : decode cX4_isDuster 6 = .ok (.getfield 92, 3) := by decide +kernel
theorem dX4_isDuster_9 : decode cX4_isDuster 9 = .ok (.iconst 1, 1) := by decide +kernel
theorem dX4_isDuster_10 : decode cX4_isDuster 10 = .ok (.isub, 1) := by decide +kernel
theorem dX4_isDuster_11 : decode cX4_isDuster 11 = .ok (.invokestatic 47, 3) := by decide +kernel
theorem dX4_isDuster_14 : decode cX4_isDuster 14 = .ok (.ireturn, 1) := by decide +kernel
theorem dX4_lookAhead_0 : decode cX4_lookAhead 0 = .ok (.aload_n 0, 1) := by decide +kernel
theorem dX4_lookAhead_1 : decode cX4_lookAhead 1 = .ok (.getfield 19, 3) := by decide +kernel
theorem dX4_lookAhead_4 : decode cX4_lookAhead 4 = .ok (.aload_n 0, 1) := by decide +kernel
theorem dX4_lookAhead_5 : decode cX4_lookAhead 5 = .ok (.getfield 12, 3) := by decide +kernel
theorem dX4_lookAhead_8 : decode cX4_lookAhead 8 = .ok (.invokevirtual 154, 3) := by decide +kernel
theorem dX4_lookAhead_11 : decode cX4_lookAhead 11 = .ok (.aload_n 0, 1) := by decide +kernel
theorem dX4_lookAhead_12 : decode cX4_lookAhead 12 = .ok (.getfield 19, 3) := by decide +kernel
theorem dX4_lookAhead_15 : decode cX4_lookAhead 15 = .ok (.iload_n 1, 1) := by decide +kernel
theorem dX4_lookAhead_16 : decode cX4_lookAhead 16 = .ok (.invokevirtual 147, 3) := by decide +kernel
theorem dX4_lookAhead_19 : decode cX4_lookAhead 19 = .ok (.return_, 1) := by decide +kernel
theorem dX4_dustAheadAfter_0 : decode cX4_dustAheadAfter 0 = .ok (.aload_n 0, 1) := by decide +kernel
theorem dX4_dustAheadAfter_1 : decode cX4_dustAheadAfter 1 = .ok (.getfield 19, 3) := by decide +kernel
theorem dX4_dustAheadAfter_4 : decode cX4_dustAheadAfter 4 = .ok (.iload_n 1, 1) := by decide +kernel
theorem dX4_dustAheadAfter_5 : decode cX4_dustAheadAfter 5 = .ok (.invokevirtual 147, 3) := by decide +kernel
theorem dX4_dustAheadAfter_8 : decode cX4_dustAheadAfter 8 = .ok (.aload_n 0, 1) := by decide +kernel
theorem dX4_dustAheadAfter_9 : decode cX4_dustAheadAfter 9 = .ok (.getfield 19, 3) := by decide +kernel
theorem dX4_dustAheadAfter_12 : decode cX4_dustAheadAfter 12 = .ok (.invokevirtual 76, 3) := by decide +kernel
theorem dX4_dustAheadAfter_15 : decode cX4_dustAheadAfter 15 = .ok (.ireturn, 1) := by decide +kernel
theorem dX4_firstWith_0 : decode cX4_firstWith 0 = .ok (.aload_n 0, 1) := by decide +kernel
theorem dX4_firstWith_1 : decode cX4_firstWith 1 = .ok (.getfield 19, 3) := by decide +kernel
theorem dX4_firstWith_4 : decode cX4_firstWith 4 = .ok (.aload_n 0, 1) := by decide +kernel
theorem dX4_firstWith_5 : decode cX4_firstWith 5 = .ok (.getfield 12, 3) := by decide +kernel
theorem dX4_firstWith_8 : decode cX4_firstWith 8 = .ok (.invokevirtual 154, 3) := by decide +kernel
theorem dX4_firstWith_11 : decode cX4_firstWith 11 = .ok (.iconst 0, 1) := by decide +kernel
theorem dX4_firstWith_12 : decode cX4_firstWith 12 = .ok (.istore 4, 2) := by decide +kernel
theorem dX4_firstWith_14 : decode cX4_firstWith 14 = .ok (.iload 4, 2) := by decide +kernel
theorem dX4_firstWith_16 : decode cX4_firstWith 16 = .ok (.bipush 100, 2) := by decide +kernel
theorem dX4_firstWith_18 : decode cX4_firstWith 18 = .ok (.if_icmp .gt 29, 3) := by decide +kernel
theorem dX4_firstWith_21 : decode cX4_firstWith 21 = .ok (.aload_n 1, 1) := by decide +kernel
theorem dX4_firstWith_22 : decode cX4_firstWith 22 = .ok (.iload_n 2, 1) := by decide +kernel
theorem dX4_firstWith_23 : decode cX4_firstWith 23 = .ok (.iaload, 1) := by decide +kernel
theorem dX4_firstWith_24 : decode cX4_firstWith 24 = .ok (.iload_n 3, 1) := by decide +kernel
theorem dX4_firstWith_25 : decode cX4_firstWith 25 = .ok (.ishr, 1) := by decide +kernel
theorem dX4_firstWith_26 : decode cX4_firstWith 26 = .ok (.iconst 1, 1) := by decide +kernel
theorem dX4_firstWith_27 : decode cX4_firstWith 27 = .ok (.iand, 1) := by decide +kernel
theorem dX4_firstWith_28 : decode cX4_firstWith 28 = .ok (.ifCond .eq 6, 3) := by decide +kernel
theorem dX4_firstWith_31 : decode cX4_firstWith 31 = .ok (.iload 4, 2) := by decide +kernel
theorem dX4_firstWith_33 : decode cX4_firstWith 33 = .ok (.ireturn, 1) := by decide +kernel
theorem dX4_firstWith_34 : decode cX4_firstWith 34 = .ok (.aload_n 0, 1) := by decide +kernel
theorem dX4_firstWith_35 : decode cX4_firstWith 35 = .ok (.getfield 19, 3) := by decide +kernel
theorem dX4_firstWith_38 : decode cX4_firstWith 38 = .ok (.invokevirtual 158, 3) := by decide +kernel
theorem dX4_firstWith_41 : decode cX4_firstWith 41 = .ok (.iinc 4 1, 3) := by decide +kernel
theorem dX4_firstWith_44 : decode cX4_firstWith 44 = .ok (.goto (-30), 3) := by decide +kernel
theorem dX4_firstWith_47 : decode cX4_firstWith 47 = .ok (.aload_n 0, 1) := by decide +kernel
theorem dX4_firstWith_48 : decode cX4_firstWith 48 = .ok (.ldc 161, 2) := by decide +kernel
theorem dX4_firstWith_50 : decode cX4_firstWith 50 = .ok (.invokevirtual 52, 3) := by decide +kernel
theorem dX4_firstWith_53 : decode cX4_firstWith 53 = .ok (.ireturn, 1) := by decide +kernel
theorem dX4_withMostMemories_0 : decode cX4_withMostMemories 0 = .ok (.iconst 0, 1) := by decide +kernel
theorem dX4_withMostMemories_1 : decode cX4_withMostMemories 1 = .ok (.istore 5, 2) := by decide +kernel
theorem dX4_withMostMemories_3 : decode cX4_withMostMemories 3 = .ok (.iconst (-1), 1) := by decide +kernel
theorem dX4_withMostMemories_4 : decode cX4_withMostMemories 4 = .ok (.istore 6, 2) := by decide +kernel
theorem dX4_withMostMemories_6 : decode cX4_withMostMemories 6 = .ok (.iconst 0, 1) := by decide +kernel
theorem dX4_withMostMemories_7 : decode cX4_withMostMemories 7 = .ok (.istore 7, 2) := by decide +kernel
theorem dX4_withMostMemories_9 : decode cX4_withMostMemories 9 = .ok (.iload 7, 2) := by decide +kernel
theorem dX4_withMostMemories_11 : decode cX4_withMostMemories 11 = .ok (.iload_n 3, 1) := by decide +kernel
theorem dX4_withMostMemories_12 : decode cX4_withMostMemories 12 = .ok (.if_icmp .gt 58, 3) := by decide +kernel
theorem dX4_withMostMemories_15 : decode cX4_withMostMemories 15 = .ok (.aload_n 0, 1) := by decide +kernel
theorem dX4_withMostMemories_16 : decode cX4_withMostMemories 16 = .ok (.getfield 19, 3) := by decide +kernel
theorem dX4_withMostMemories_19 : decode cX4_withMostMemories 19 = .ok (.aload_n 0, 1) := by decide +kernel
theorem dX4_withMostMemories_20 : decode cX4_withMostMemories 20 = .ok (.getfield 12, 3) := by decide +kernel
theorem dX4_withMostMemories_23 : decode cX4_withMostMemories 23 = .ok (.invokevirtual 154, 3) := by decide +kernel
theorem dX4_withMostMemories_26 : decode cX4_withMostMemories 26 = .ok (.aload_n 1, 1) := by decide +kernel
theorem dX4_withMostMemories_27 : decode cX4_withMostMemories 27 = .ok (.iload_n 2, 1) := by decide +kernel
theorem dX4_withMostMemories_28 : decode cX4_withMostMemories 28 = .ok (.iload 7, 2) := by decide +kernel
theorem dX4_withMostMemories_30 : decode cX4_withMostMemories 30 = .ok (.iastore, 1) := by decide +kernel
theorem dX4_withMostMemories_31 : decode cX4_withMostMemories 31 = .ok (.aload_n 0, 1) := by decide +kernel
theorem dX4_withMostMemories_32 : decode cX4_withMostMemories 32 = .ok (.getfield 19, 3) := by decide +kernel
theorem dX4_withMostMemories_35 : decode cX4_withMostMemories 35 = .ok (.iload 4, 2) := by decide +kernel
theorem dX4_withMostMemories_37 : decode cX4_withMostMemories 37 = .ok (.invokevirtual 147, 3) := by decide +kernel
theorem dX4_withMostMemories_40 : decode cX4_withMostMemories 40 = .ok (.aload_n 0, 1) := by decide +kernel
theorem dX4_withMostMemories_41 : decode cX4_withMostMemories 41 = .ok (.getfield 19, 3) := by decide +kernel
theorem dX4_withMostMemories_44 : decode cX4_withMostMemories 44 = .ok (.invokevirtual 233, 3) := by decide +kernel
theorem dX4_withMostMemories_47 : decode cX4_withMostMemories 47 = .ok (.istore 8, 2) := by decide +kernel
theorem dX4_withMostMemories_49 : decode cX4_withMostMemories 49 = .ok (.iload 8, 2) := by decide +kernel
theorem dX4_withMostMemories_51 : decode cX4_withMostMemories 51 = .ok (.iload 6, 2) := by decide +kernel
theorem dX4_withMostMemories_53 : decode cX4_withMostMemories 53 = .ok (.if_icmp .le 11, 3) := by decide +kernel
theorem dX4_withMostMemories_56 : decode cX4_withMostMemories 56 = .ok (.iload 8, 2) := by decide +kernel
theorem dX4_withMostMemories_58 : decode cX4_withMostMemories 58 = .ok (.istore 6, 2) := by decide +kernel
theorem dX4_withMostMemories_60 : decode cX4_withMostMemories 60 = .ok (.iload 7, 2) := by decide +kernel
theorem dX4_withMostMemories_62 : decode cX4_withMostMemories 62 = .ok (.istore 5, 2) := by decide +kernel
theorem dX4_withMostMemories_64 : decode cX4_withMostMemories 64 = .ok (.iinc 7 1, 3) := by decide +kernel
theorem dX4_withMostMemories_67 : decode cX4_withMostMemories 67 = .ok (.goto (-58), 3) := by decide +kernel
theorem dX4_withMostMemories_70 : decode cX4_withMostMemories 70 = .ok (.iload 5, 2) := by decide +kernel
theorem dX4_withMostMemories_72 : decode cX4_withMostMemories 72 = .ok (.ireturn, 1) := by decide +kernel
theorem dX4_aheadGoesAs_0 : decode cX4_aheadGoesAs 0 = .ok (.iconst 0, 1) := by decide +kernel
theorem dX4_aheadGoesAs_1 : decode cX4_aheadGoesAs 1 = .ok (.istore_n 3, 1) := by decide +kernel
theorem dX4_aheadGoesAs_2 : decode cX4_aheadGoesAs 2 = .ok (.iload_n 3, 1) := by decide +kernel
theorem dX4_aheadGoesAs_3 : decode cX4_aheadGoesAs 3 = .ok (.aload_n 1, 1) := by decide +kernel
theorem dX4_aheadGoesAs_4 : decode cX4_aheadGoesAs 4 = .ok (.getfield 205, 3) := by decide +kernel
theorem dX4_aheadGoesAs_7 : decode cX4_aheadGoesAs 7 = .ok (.if_icmp .ge 38, 3) := by decide +kernel
theorem dX4_aheadGoesAs_10 : decode cX4_aheadGoesAs 10 = .ok (.aload_n 1, 1) := by decide +kernel
theorem dX4_aheadGoesAs_11 : decode cX4_aheadGoesAs 11 = .ok (.getfield 208, 3) := by decide +kernel
theorem dX4_aheadGoesAs_14 : decode cX4_aheadGoesAs 14 = .ok (.iload_n 3, 1) := by decide +kernel
theorem dX4_aheadGoesAs_15 : decode cX4_aheadGoesAs 15 = .ok (.laload, 1) := by decide +kernel
theorem dX4_aheadGoesAs_16 : decode cX4_aheadGoesAs 16 = .ok (.aload_n 0, 1) := by decide +kernel
theorem dX4_aheadGoesAs_17 : decode cX4_aheadGoesAs 17 = .ok (.getfield 19, 3) := by decide +kernel
theorem dX4_aheadGoesAs_20 : decode cX4_aheadGoesAs 20 = .ok (.getfield 67, 3) := by decide +kernel
theorem dX4_aheadGoesAs_23 : decode cX4_aheadGoesAs 23 = .ok (.iload_n 2, 1) := by decide +kernel
theorem dX4_aheadGoesAs_24 : decode cX4_aheadGoesAs 24 = .ok (.iaload, 1) := by decide +kernel
theorem dX4_aheadGoesAs_25 : decode cX4_aheadGoesAs 25 = .ok (.i2l, 1) := by decide +kernel
theorem dX4_aheadGoesAs_26 : decode cX4_aheadGoesAs 26 = .ok (.lcmp, 1) := by decide +kernel
theorem dX4_aheadGoesAs_27 : decode cX4_aheadGoesAs 27 = .ok (.ifCond .eq 5, 3) := by decide +kernel
theorem dX4_aheadGoesAs_30 : decode cX4_aheadGoesAs 30 = .ok (.iconst 0, 1) := by decide +kernel
theorem dX4_aheadGoesAs_31 : decode cX4_aheadGoesAs 31 = .ok (.ireturn, 1) := by decide +kernel
theorem dX4_aheadGoesAs_32 : decode cX4_aheadGoesAs 32 = .ok (.aload_n 0, 1) := by decide +kernel
theorem dX4_aheadGoesAs_33 : decode cX4_aheadGoesAs 33 = .ok (.getfield 19, 3) := by decide +kernel
theorem dX4_aheadGoesAs_36 : decode cX4_aheadGoesAs 36 = .ok (.invokevirtual 158, 3) := by decide +kernel
theorem dX4_aheadGoesAs_39 : decode cX4_aheadGoesAs 39 = .ok (.iinc 3 1, 3) := by decide +kernel
theorem dX4_aheadGoesAs_42 : decode cX4_aheadGoesAs 42 = .ok (.goto (-40), 3) := by decide +kernel
theorem dX4_aheadGoesAs_45 : decode cX4_aheadGoesAs 45 = .ok (.iconst 1, 1) := by decide +kernel
theorem dX4_aheadGoesAs_46 : decode cX4_aheadGoesAs 46 = .ok (.ireturn, 1) := by decide +kernel
end
section
theorem dX5_init_0 : decode cX5_init 0 = .ok (.aload_n 0, 1) := by decide +kernel
theorem dX5_init_1 : decode cX5_init 1 = .ok (.invokespecial 1, 3) := by decide +kernel
theorem dX5_init_4 : decode cX5_init 4 = .ok (.aload_n 0, 1) := by decide +kernel
theorem dX5_init_5 : decode cX5_init 5 = .ok (.bipush 51, 2) := by decide +kernel
theorem dX5_init_7 : decode cX5_init 7 = .ok (.newarray .int, 2) := by decide +kernel
theorem dX5_init_9 : decode cX5_init 9 = .ok (.putfield 7, 3) := by decide +kernel
theorem dX5_init_12 : decode cX5_init 12 = .ok (.aload_n 0, 1) := by decide +kernel
theorem dX5_init_13 : decode cX5_init 13 = .ok (.bipush 7, 2) := by decide +kernel
theorem dX5_init_15 : decode cX5_init 15 = .ok (.newarray .int, 2) := by decide +kernel
theorem dX5_init_17 : decode cX5_init 17 = .ok (.putfield 13, 3) := by decide +kernel
theorem dX5_init_20 : decode cX5_init 20 = .ok (.aload_n 0, 1) := by decide +kernel
theorem dX5_init_21 : decode cX5_init 21 = .ok (.bipush 51, 2) := by decide +kernel
theorem dX5_init_23 : decode cX5_init 23 = .ok (.newarray .int, 2) := by decide +kernel
theorem dX5_init_25 : decode cX5_init 25 = .ok (.putfield 16, 3) := by decide +kernel
theorem dX5_init_28 : decode cX5_init 28 = .ok (.aload_n 0, 1) := by decide +kernel
theorem dX5_init_29 : decode cX5_init 29 = .ok (.bipush 51, 2) := by decide +kernel
theorem dX5_init_31 : decode cX5_init 31 = .ok (.newarray .int, 2) := by decide +kernel
theorem dX5_init_33 : decode cX5_init 33 = .ok (.putfield 19, 3) := by decide +kernel
theorem dX5_init_36 : decode cX5_init 36 = .ok (.aload_n 0, 1) := by decide +kernel
theorem dX5_init_37 : decode cX5_init 37 = .ok (.bipush 120, 2) := by decide +kernel
theorem dX5_init_39 : decode cX5_init 39 = .ok (.newarray .int, 2) := by decide +kernel
theorem dX5_init_41 : decode cX5_init 41 = .ok (.putfield 22, 3) := by decide +kernel
theorem dX5_init_44 : decode cX5_init 44 = .ok (.aload_n 0, 1) := by decide +kernel
theorem dX5_init_45 : decode cX5_init 45 = .ok (.iconst 4, 1) := by decide +kernel
theorem dX5_init_46 : decode cX5_init 46 = .ok (.newarray .int, 2) := by decide +kernel
theorem dX5_init_48 : decode cX5_init 48 = .ok (.putfield 25, 3) := by decide +kernel
theorem dX5_init_51 : decode cX5_init 51 = .ok (.aload_n 0, 1) := by decide +kernel
theorem dX5_init_52 : decode cX5_init 52 = .ok (.iconst 4, 1) := by decide +kernel
theorem dX5_init_53 : decode cX5_init 53 = .ok (.newarray .int, 2) := by decide +kernel
theorem dX5_init_55 : decode cX5_init 55 = .ok (.putfield 28, 3) := by decide +kernel
theorem dX5_init_58 : decode cX5_init 58 = .ok (.aload_n 0, 1) := by decide +kernel
theorem dX5_init_59 : decode cX5_init 59 = .ok (.sipush 160, 3) := by decide +kernel
theorem dX5_init_62 : decode cX5_init 62 = .ok (.newarray .long, 2) := by decide +kernel
theorem dX5_init_64 : decode cX5_init 64 = .ok (.putfield 31, 3) := by decide +kernel
theorem dX5_init_67 : decode cX5_init 67 = .ok (.aload_n 0, 1) := by decide +kernel
theorem dX5_init_68 : decode cX5_init 68 = .ok (.bipush 40, 2) := by decide +kernel
theorem dX5_init_70 : decode cX5_init 70 = .ok (.newarray .long, 2) := by decide +kernel
theorem dX5_init_72 : decode cX5_init 72 = .ok (.putfield 35, 3) := by decide +kernel
theorem dX5_init_75 : decode cX5_init 75 = .ok (.aload_n 0, 1) := by decide +kernel
theorem dX5_init_76 : decode cX5_init 76 = .ok (.bipush 51, 2) := by decide +kernel
theorem dX5_init_78 : decode cX5_init 78 = .ok (.newarray .int, 2) := by decide +kernel
theorem dX5_init_80 : decode cX5_init 80 = .ok (.putfield 38, 3) := by decide +kernel
theorem dX5_init_83 : decode cX5_init 83 = .ok (.aload_n 0, 1) := by decide +kernel
theorem dX5_init_84 : decode cX5_init 84 = .ok (.bipush 51, 2) := by decide +kernel
theorem dX5_init_86 : decode cX5_init 86 = .ok (.newarray .int, 2) := by decide +kernel
theorem dX5_init_88 : decode cX5_init 88 = .ok (.putfield 41, 3) := by decide +kernel
theorem dX5_init_91 : decode cX5_init 91 = .ok (.aload_n 0, 1) := by decide +kernel
theorem dX5_init_92 : decode cX5_init 92 = .ok (.getfield 7, 3) := by decide +kernel
theorem dX5_init_95 : decode cX5_init 95 = .ok (.iconst 1, 1) := by decide +kernel
theorem dX5_init_96 : decode cX5_init 96 = .ok (.iconst 3, 1) := by decide +kernel
theorem dX5_init_97 : decode cX5_init 97 = .ok (.iastore, 1) := by decide +kernel
theorem dX5_init_98 : decode cX5_init 98 = .ok (.iconst 0, 1) := by decide +kernel
theorem dX5_init_99 : decode cX5_init 99 = .ok (.istore_n 1, 1) := by decide +kernel
theorem dX5_init_100 : decode cX5_init 100 = .ok (.iload_n 1, 1) := by decide +kernel
theorem dX5_init_101 : decode cX5_init 101 = .ok (.bipush 8, 2) := by decide +kernel
theorem dX5_init_103 : decode cX5_init 103 = .ok (.if_icmp .ge 17, 3) := by decide +kernel
theorem dX5_init_106 : decode cX5_init 106 = .ok (.aload_n 0, 1) := by decide +kernel
theorem dX5_init_107 : decode cX5_init 107 = .ok (.iload_n 1, 1) := by decide +kernel
theorem dX5_init_108 : decode cX5_init 108 = .ok (.iconst 0, 1) := by decide +kernel
theorem dX5_init_109 : decode cX5_init 109 = .ok (.bipush 20, 2) := by decide +kernel
theorem dX5_init_111 : decode cX5_init 111 = .ok (.invokevirtual 44, 3) := by decide +kernel
theorem dX5_init_114 : decode cX5_init 114 = .ok (.iinc 1 1, 3) := by decide +kernel
theorem dX5_init_117 : decode cX5_init 117 = .ok (.goto (-17), 3) := by decide +kernel
theorem dX5_init_120 : decode cX5_init 120 = .ok (.return_, 1) := by decide +kernel
theorem dX5_in_0 : decode cX5_in 0 = .ok (.iload_n 0, 1) := by decide +kernel
theorem dX5_in_1 : decode cX5_in 1 = .ok (.iload_n 1, 1) := by decide +kernel
theorem dX5_in_2 : decode cX5_in 2 = .ok (.if_icmp .lt 12, 3) := by decide +kernel
theorem dX5_in_5 : decode cX5_in 5 = .ok (.iload_n 0, 1) := by decide +kernel
theorem dX5_in_6 : decode cX5_in 6 = .ok (.iload_n 2, 1) := by decide +kernel
theorem dX5_in_7 : decode cX5_in 7 = .ok (.if_icmp .gt 7, 3) := by decide +kernel
theorem dX5_in_10 : decode cX5_in 10 = .ok (.iconst 1, 1) := by decide +kernel
theorem dX5_in_11 : decode cX5_in 11 = .ok (.goto 4, 3) := by decide +kernel
theorem dX5_in_14 : decode cX5_in 14 = .ok (.iconst 0, 1) := by decide +kernel
theorem dX5_in_15 : decode cX5_in 15 = .ok (.ireturn, 1) := by decide +kernel
theorem dX5_finds_0 : decode cX5_finds 0 = .ok (.aload_n 0, 1) := by decide +kernel
theorem dX5_finds_1 : decode cX5_finds 1 = .ok (.getfield 13, 3) := by decide +kernel
theorem dX5_finds_4 : decode cX5_finds 4 = .ok (.ldc 48, 2) := by decide +kernel
theorem dX5_finds_6 : decode cX5_finds 6 = .ok (.iload_n 1, 1) := by decide +kernel
theorem dX5_finds_7 : decode cX5_finds 7 = .ok (.isub, 1) := by decide +kernel
theorem dX5_finds_8 : decode cX5_finds 8 = .ok (.dup2, 1) := by decide +kernel
theorem dX5_finds_9 : decode cX5_finds 9 = .ok (.iaload, 1) := by decide +kernel
theorem dX5_finds_10 : decode cX5_finds 10 = .ok (.iconst 1, 1) := by decide +kernel
theorem dX5_finds_11 : decode cX5_finds 11 = .ok (.iadd, 1) := by decide +kernel
theorem dX5_finds_12 : decode cX5_finds 12 = .ok (.iastore, 1) := by decide +kernel
theorem dX5_finds_13 : decode cX5_finds 13 = .ok (.iload_n 1, 1) := by decide +kernel
theorem dX5_finds_14 : decode cX5_finds 14 = .ok (.ireturn, 1) := by decide +kernel
theorem dX5_held_0 : decode cX5_held 0 = .ok (.iload_n 0, 1) := by decide +kernel
theorem dX5_held_1 : decode cX5_held 1 = .ok (.iload_n 1, 1) := by decide +kernel
theorem dX5_held_2 : decode cX5_held 2 = .ok (.if_icmp .ge 7, 3) := by decide +kernel
theorem dX5_held_5 : decode cX5_held 5 = .ok (.iload_n 1, 1) := by decide +kernel
theorem dX5_held_6 : decode cX5_held 6 = .ok (.goto 13, 3) := by decide +kernel
theorem dX5_held_9 : decode cX5_held 9 = .ok (.iload_n 0, 1) := by decide +kernel
theorem dX5_held_10 : decode cX5_held 10 = .ok (.iload_n 2, 1) := by decide +kernel
theorem dX5_held_11 : decode cX5_held 11 = .ok (.if_icmp .le 7, 3) := by decide +kernel
theorem dX5_held_14 : decode cX5_held 14 = .ok (.iload_n 2, 1) := by decide +kernel
theorem dX5_held_15 : decode cX5_held 15 = .ok (.goto 4, 3) := by decide +kernel
theorem dX5_held_18 : decode cX5_held 18 = .ok (.iload_n 0, 1) := by decide +kernel
theorem dX5_held_19 : decode cX5_held 19 = .ok (.ireturn, 1) := by decide +kernel
theorem dX5_its_0 : decode cX5_its 0 = .ok (.aload_n 0, 1) := by decide +kernel
theorem dX5_its_1 : decode cX5_its 1 = .ok (.getfield 7, 3) := by decide +kernel
theorem dX5_its_4 : decode cX5_its 4 = .ok (.bipush 19, 2) := by decide +kernel
theorem dX5_its_6 : decode cX5_its 6 = .ok (.iconst 4, 1) := by decide +kernel
theorem dX5_its_7 : decode cX5_its 7 = .ok (.iload_n 1, 1) := by decide +kernel
theorem dX5_its_8 : decode cX5_its 8 = .ok (.imul, 1) := by decide +kernel
theorem dX5_its_9 : decode cX5_its 9 = .ok (.iadd, 1) := by decide +kernel
theorem dX5_its_10 : decode cX5_its 10 = .ok (.iload_n 2, 1) := by decide +kernel
theorem dX5_its_11 : decode cX5_its 11 = .ok (.iadd, 1) := by decide +kernel
theorem dX5_its_12 : decode cX5_its 12 = .ok (.iaload, 1) := by decide +kernel
theorem dX5_its_13 : decode cX5_its 13 = .ok (.ireturn, 1) := by decide +kernel
theorem dX5_puts_0 : decode cX5_puts 0 = .ok (.aload_n 0, 1) := by decide +kernel
theorem dX5_puts_1 : decode cX5_puts 1 = .ok (.getfield 7, 3) := by decide +kernel
theorem dX5_puts_4 : decode cX5_puts 4 = .ok (.bipush 19, 2) := by decide +kernel
theorem dX5_puts_6 : decode cX5_puts 6 = .ok (.iconst 4, 1) := by decide +kernel
theorem dX5_puts_7 : decode cX5_puts 7 = .ok (.iload_n 1, 1) := by decide +kernel
theorem dX5_puts_8 : decode cX5_puts 8 = .ok (.imul, 1) := by decide +kernel
theorem dX5_puts_9 : decode cX5_puts 9 = .ok (.iadd, 1) := by decide +kernel
theorem dX5_puts_10 : decode cX5_puts 10 = .ok (.iload_n 2, 1) := by decide +kernel
theorem dX5_puts_11 : decode cX5_puts 11 = .ok (.iadd, 1) := by decide +kernel
theorem dX5_puts_12 : decode cX5_puts 12 = .ok (.iload_n 3, 1) := by decide +kernel
theorem dX5_puts_13 : decode cX5_puts 13 = .ok (.iastore, 1) := by decide +kernel
theorem dX5_puts_14 : decode cX5_puts 14 = .ok (.return_, 1) := by decide +kernel
theorem dX5_there_0 : decode cX5_there 0 = .ok (.aload_n 0, 1) := by decide +kernel
theorem dX5_there_1 : decode cX5_there 1 = .ok (.getfield 7, 3) := by decide +kernel
theorem dX5_there_4 : decode cX5_there 4 = .ok (.iconst 3, 1) := by decide +kernel
theorem dX5_there_5 : decode cX5_there 5 = .ok (.iconst 2, 1) := by decide +kernel
theorem dX5_there_6 : decode cX5_there 6 = .ok (.iload_n 1, 1) := by decide +kernel
theorem dX5_there_7 : decode cX5_there 7 = .ok (.imul, 1) := by decide +kernel
theorem dX5_there_8 : decode cX5_there 8 = .ok (.iadd, 1) := by decide +kernel
theorem dX5_there_9 : decode cX5_there 9 = .ok (.iload_n 2, 1) := by decide +kernel
theorem dX5_there_10 : decode cX5_there 10 = .ok (.iadd, 1) := by decide +kernel
theorem dX5_there_11 : decode cX5_there 11 = .ok (.iaload, 1) := by decide +kernel
theorem dX5_there_12 : decode cX5_there 12 = .ok (.ireturn, 1) := by decide +kernel
theorem dX5_places_0 : decode cX5_places 0 = .ok (.aload_n 0, 1) := by decide +kernel
theorem dX5_places_1 : decode cX5_places 1 = .ok (.getfield 7, 3) := by decide +kernel
theorem dX5_places_4 : decode cX5_places 4 = .ok (.iconst 3, 1) := by decide +kernel
theorem dX5_places_5 : decode cX5_places 5 = .ok (.iconst 2, 1) := by decide +kernel
theorem dX5_places_6 : decode cX5_places 6 = .ok (.iload_n 1, 1) := by decide +kernel
theorem dX5_places_7 : decode cX5_places 7 = .ok (.imul, 1) := by decide +kernel
theorem dX5_places_8 : decode cX5_places 8 = .ok (.iadd, 1) := by decide +kernel
theorem dX5_places_9 : decode cX5_places 9 = .ok (.iload_n 2, 1) := by decide +kernel
theorem dX5_places_10 : decode cX5_places 10 = .ok (.iadd, 1) := by decide +kernel
theorem dX5_places_11 : decode cX5_places 11 = .ok (.iload_n 3, 1) := by decide +kernel
theorem dX5_places_12 : decode cX5_places 12 = .ok (.iastore, 1) := by decide +kernel
theorem dX5_places_13 : decode cX5_places 13 = .ok (.return_, 1) := by decide +kernel
theorem dX5_becomes_0 : decode cX5_becomes 0 = .ok (.aload_n 0, 1) := by decide +kernel
theorem dX5_becomes_1 : decode cX5_becomes 1 = .ok (.getfield 7, 3) := by decide +kernel
theorem dX5_becomes_4 : decode cX5_becomes 4 = .ok (.iload_n 1, 1) := by decide +kernel
theorem dX5_becomes_5 : decode cX5_becomes 5 = .ok (.iaload, 1) := by decide +kernel
theorem dX5_becomes_6 : decode cX5_becomes 6 = .ok (.istore_n 3, 1) := by decide +kernel
theorem dX5_becomes_7 : decode cX5_becomes 7 = .ok (.aload_n 0, 1) := by decide +kernel
theorem dX5_becomes_8 : decode cX5_becomes 8 = .ok (.getfield 7, 3) := by decide +kernel
theorem dX5_becomes_11 : decode cX5_becomes 11 = .ok (.iload_n 1, 1) := by decide +kernel
theorem dX5_becomes_12 : decode cX5_becomes 12 = .ok (.iload_n 2, 1) := by decide +kernel
theorem dX5_becomes_13 : decode cX5_becomes 13 = .ok (.iastore, 1) := by decide +kernel
theorem dX5_becomes_14 : decode cX5_becomes 14 = .ok (.iload_n 3, 1) := by decide +kernel
theorem dX5_becomes_15 : decode cX5_becomes 15 = .ok (.ireturn, 1) := by decide +kernel
theorem dX5_isOne_0 : decode cX5_isOne 0 = .ok (.iload_n 1, 1) := by decide +kernel
theorem dX5_isOne_1 : decode cX5_isOne 1 = .ok (.iconst 0, 1) := by decide +kernel
theorem dX5_isOne_2 : decode cX5_isOne 2 = .ok (.aload_n 0, 1) := by decide +kernel
theorem dX5_isOne_3 : decode cX5_isOne 3 = .ok (.getfield 7, 3) := by decide +kernel
theorem dX5_isOne_6 : decode cX5_isOne 6 = .ok (.iconst 2, 1) := by decide +kernel
theorem dX5_isOne_7 : decode cX5_isOne 7 = .ok (.iaload, 1) := by decide +kernel
theorem dX5_isOne_8 : decode cX5_isOne 8 = .ok (.iconst 1, 1) := by decide +kernel
theorem dX5_isOne_9 : decode cX5_isOne 9 = .ok (.isub, 1) := by decide +kernel
theorem dX5_isOne_10 : decode cX5_isOne 10 = .ok (.invokestatic 49, 3) := by decide +kernel
theorem dX5_isOne_13 : decode cX5_isOne 13 = .ok (.ireturn, 1) := by decide +kernel
theorem dX5_isKind_0 : decode cX5_isKind 0 = .ok (.iload_n 0, 1) := by decide +kernel
theorem dX5_isKind_1 : decode cX5_isKind 1 = .ok (.iconst 0, 1) := by decide +kernel
theorem dX5_isKind_2 : decode cX5_isKind 2 = .ok (.iconst 5, 1) := by decide +kernel
theorem dX5_isKind_3 : decode cX5_isKind 3 = .ok (.invokestatic 49, 3) := by decide +kernel
theorem dX5_isKind_6 : decode cX5_isKind 6 = .ok (.ireturn, 1) := by decide +kernel
theorem dX5_isRoom_0 : decode cX5_isRoom 0 = .ok (.iload_n 0, 1) := by decide +kernel
theorem dX5_isRoom_1 : decode cX5_isRoom 1 = .ok (.iconst 0, 1) := by decide +kernel
theorem dX5_isRoom_2 : decode cX5_isRoom 2 = .ok (.bipush 7, 2) := by decide +kernel
theorem dX5_isRoom_4 : decode cX5_isRoom 4 = .ok (.invokestatic 49, 3) := by decide +kernel
theorem dX5_isRoom_7 : decode cX5_isRoom 7 = .ok (.ireturn, 1) := by decide +kernel
theorem dX5_isMemory_0 : decode cX5_isMemory 0 = .ok (.iload_n 0, 1) := by decide +kernel
theorem dX5_isMemory_1 : decode cX5_isMemory 1 = .ok (.iconst 0, 1) := by decide +kernel
theorem dX5_isMemory_2 : decode cX5_isMemory 2 = .ok (.bipush 9, 2) := by decide +kernel
theorem dX5_isMemory_4 : decode cX5_isMemory 4 = .ok (.invokestatic 49, 3) := by decide +kernel
theorem dX5_isMemory_7 : decode cX5_isMemory 7 = .ok (.ireturn, 1) := by decide +kernel
theorem dX5_bits_0 : decode cX5_bits 0 = .ok (.iconst 0, 1) := by decide +kernel
theorem dX5_bits_1 : decode cX5_bits 1 = .ok (.istore_n 1, 1) := by decide +kernel
theorem dX5_bits_2 : decode cX5_bits 2 = .ok (.iload_n 0, 1) := by decide +kernel
theorem dX5_bits_3 : decode cX5_bits 3 = .ok (.istore_n 2, 1) := by decide +kernel
theorem dX5_bits_4 : decode cX5_bits 4 = .ok (.iload_n 2, 1) := by decide +kernel
theorem dX5_bits_5 : decode cX5_bits 5 = .ok (.ifCond .eq 15, 3) := by decide +kernel
theorem dX5_bits_8 : decode cX5_bits 8 = .ok (.iinc 1 1, 3) := by decide +kernel
theorem dX5_bits_11 : decode cX5_bits 11 = .ok (.iload_n 2, 1) := by decide +kernel
theorem dX5_bits_12 : decode cX5_bits 12 = .ok (.iload_n 2, 1) := by decide +kernel
theorem dX5_bits_13 : decode cX5_bits 13 = .ok (.iconst 1, 1) := by decide +kernel
theorem dX5_bits_14 : decode cX5_bits 14 = .ok (.isub, 1) := by decide +kernel
theorem dX5_bits_15 : decode cX5_bits 15 = .ok (.iand, 1) := by decide +kernel
theorem dX5_bits_16 : decode cX5_bits 16 = .ok (.istore_n 2, 1) := by decide +kernel
theorem dX5_bits_17 : decode cX5_bits 17 = .ok (.goto (-13), 3) := by decide +kernel
theorem dX5_bits_20 : decode cX5_bits 20 = .ok (.iload_n 1, 1) := by decide +kernel
theorem dX5_bits_21 : decode cX5_bits 21 = .ok (.ireturn, 1) := by decide +kernel
theorem dX5_falls_0 : decode cX5_falls 0 = .ok (.iload_n 1, 1) := by decide +kernel
theorem dX5_falls_1 : decode cX5_falls 1 = .ok (.iconst 0, 1) := by decide +kernel
theorem dX5_falls_2 : decode cX5_falls 2 = .ok (.bipush 20, 2) := by decide +kernel
theorem dX5_falls_4 : decode cX5_falls 4 = .ok (.invokestatic 49, 3) := by decide +kernel
theorem dX5_falls_7 : decode cX5_falls 7 = .ok (.ifCond .eq 12, 3) := by decide +kernel
theorem dX5_falls_10 : decode cX5_falls 10 = .ok (.aload_n 0, 1) := by decide +kernel
theorem dX5_falls_11 : decode cX5_falls 11 = .ok (.iconst 1, 1) := by decide +kernel
theorem dX5_falls_12 : decode cX5_falls 12 = .ok (.iload_n 1, 1) := by decide +kernel
theorem dX5_falls_13 : decode cX5_falls 13 = .ok (.invokevirtual 53, 3) := by decide +kernel
theorem dX5_falls_16 : decode cX5_falls 16 = .ok (.goto 9, 3) := by decide +kernel
theorem dX5_falls_19 : decode cX5_falls 19 = .ok (.aload_n 0, 1) := by decide +kernel
theorem dX5_falls_20 : decode cX5_falls 20 = .ok (.ldc 48, 2) := by decide +kernel
theorem dX5_falls_22 : decode cX5_falls 22 = .ok (.invokevirtual 57, 3) := by decide +kernel
theorem dX5_falls_25 : decode cX5_falls 25 = .ok (.ireturn, 1) := by decide +kernel
theorem dX5_room_0 : decode cX5_room 0 = .ok (.iload_n 2, 1) := by decide +kernel
theorem dX5_room_1 : decode cX5_room 1 = .ok (.ifCond .ne 13, 3) := by decide +kernel
theorem dX5_room_4 : decode cX5_room 4 = .ok (.iload_n 3, 1) := by decide +kernel
theorem dX5_room_5 : decode cX5_room 5 = .ok (.iconst 0, 1) := by decide +kernel
theorem dX5_room_6 : decode cX5_room 6 = .ok (.bipush 99, 2) := by decide +kernel
theorem dX5_room_8 : decode cX5_room 8 = .ok (.invokestatic 49, 3) := by decide +kernel
theorem dX5_room_11 : decode cX5_room 11 = .ok (.goto 24, 3) := by decide +kernel
theorem dX5_room_14 : decode cX5_room 14 = .ok (.iload_n 2, 1) := by decide +kernel
theorem dX5_room_15 : decode cX5_room 15 = .ok (.iconst 1, 1) := by decide +kernel
theorem dX5_room_16 : decode cX5_room 16 = .ok (.if_icmp .ne 18, 3) := by decide +kernel
theorem dX5_room_19 : decode cX5_room 19 = .ok (.iload_n 3, 1) := by decide +kernel
theorem dX5_room_20 : decode cX5_room 20 = .ok (.iconst 0, 1) := by decide +kernel
theorem dX5_room_21 : decode cX5_room 21 = .ok (.sipush 1023, 3) := by decide +kernel
theorem dX5_room_24 : decode cX5_room 24 = .ok (.invokestatic 49, 3) := by decide +kernel
theorem dX5_room_27 : decode cX5_room 27 = .ok (.ifCond .eq 7, 3) := by decide +kernel
theorem dX5_room_30 : decode cX5_room 30 = .ok (.iconst 1, 1) := by decide +kernel
theorem dX5_room_31 : decode cX5_room 31 = .ok (.goto 4, 3) := by decide +kernel
theorem dX5_room_34 : decode cX5_room 34 = .ok (.iconst 0, 1) := by decide +kernel
theorem dX5_room_35 : decode cX5_room 35 = .ok (.istore 4, 2) := by decide +kernel
theorem dX5_room_37 : decode cX5_room 37 = .ok (.iload_n 1, 1) := by decide +kernel
theorem dX5_room_38 : decode cX5_room 38 = .ok (.invokestatic 61, 3) := by decide +kernel
theorem dX5_room_41 : decode cX5_room 41 = .ok (.ifCond .eq 23, 3) := by decide +kernel
theorem dX5_room_44 : decode cX5_room 44 = .ok (.iload 4, 2) := by decide +kernel
theorem dX5_room_46 : decode cX5_room 46 = .ok (.ifCond .eq 18, 3) := by decide +kernel
theorem dX5_room_49 : decode cX5_room 49 = .ok (.aload_n 0, 1) := by decide +kernel
theorem dX5_room_50 : decode cX5_room 50 = .ok (.iconst 3, 1) := by decide +kernel
theorem dX5_room_51 : decode cX5_room 51 = .ok (.iconst 2, 1) := by decide +kernel
theorem dX5_room_52 : decode cX5_room 52 = .ok (.iload_n 1, 1) := by decide +kernel
theorem dX5_room_53 : decode cX5_room 53 = .ok (.imul, 1) := by decide +kernel
theorem dX5_room_54 : decode cX5_room 54 = .ok (.iadd, 1) := by decide +kernel
theorem dX5_room_55 : decode cX5_room 55 = .ok (.iload_n 2, 1) := by decide +kernel
theorem dX5_room_56 : decode cX5_room 56 = .ok (.iadd, 1) := by decide +kernel
theorem dX5_room_57 : decode cX5_room 57 = .ok (.iload_n 3, 1) := by decide +kernel
theorem dX5_room_58 : decode cX5_room 58 = .ok (.invokevirtual 53, 3) := by decide +kernel
theorem dX5_room_61 : decode cX5_room 61 = .ok (.goto 9, 3) := by decide +kernel
theorem dX5_room_64 : decode cX5_room 64 = .ok (.aload_n 0, 1) := by decide +kernel
theorem dX5_room_65 : decode cX5_room 65 = .ok (.ldc 48, 2) := by decide +kernel
theorem dX5_room_67 : decode cX5_room 67 = .ok (.invokevirtual 57, 3) := by decide +kernel
theorem dX5_room_70 : decode cX5_room 70 = .ok (.ireturn, 1) := by decide +kernel
theorem dX5_roomOfOne_0 : decode cX5_roomOfOne 0 = .ok (.aload_n 0, 1) := by decide +kernel
theorem dX5_roomOfOne_1 : decode cX5_roomOfOne 1 = .ok (.getfield 7, 3) := by decide +kernel
theorem dX5_roomOfOne_4 : decode cX5_roomOfOne 4 = .ok (.iconst 0, 1) := by decide +kernel
theorem dX5_roomOfOne_5 : decode cX5_roomOfOne 5 = .ok (.iaload, 1) := by decide +kernel
theorem dX5_roomOfOne_6 : decode cX5_roomOfOne 6 = .ok (.aload_n 0, 1) := by decide +kernel
theorem dX5_roomOfOne_7 : decode cX5_roomOfOne 7 = .ok (.iload_n 1, 1) := by decide +kernel
theorem dX5_roomOfOne_8 : decode cX5_roomOfOne 8 = .ok (.iconst 3, 1) := by decide +kernel
theorem dX5_roomOfOne_9 : decode cX5_roomOfOne 9 = .ok (.invokevirtual 65, 3) := by decide +kernel
theorem dX5_roomOfOne_12 : decode cX5_roomOfOne 12 = .ok (.iadd, 1) := by decide +kernel
theorem dX5_roomOfOne_13 : decode cX5_roomOfOne 13 = .ok (.bipush 8, 2) := by decide +kernel
theorem dX5_roomOfOne_15 : decode cX5_roomOfOne 15 = .ok (.irem, 1) := by decide +kernel
theorem dX5_roomOfOne_16 : decode cX5_roomOfOne 16 = .ok (.ireturn, 1) := by decide +kernel
theorem dX5_inRoom_0 : decode cX5_inRoom 0 = .ok (.iconst 0, 1) := by decide +kernel
theorem dX5_inRoom_1 : decode cX5_inRoom 1 = .ok (.istore_n 2, 1) := by decide +kernel
theorem dX5_inRoom_2 : decode cX5_inRoom 2 = .ok (.iconst 0, 1) := by decide +kernel
theorem dX5_inRoom_3 : decode cX5_inRoom 3 = .ok (.istore_n 3, 1) := by decide +kernel
theorem dX5_inRoom_4 : decode cX5_inRoom 4 = .ok (.iload_n 3, 1) := by decide +kernel
theorem dX5_inRoom_5 : decode cX5_inRoom 5 = .ok (.aload_n 0, 1) := by decide +kernel
theorem dX5_inRoom_6 : decode cX5_inRoom 6 = .ok (.getfield 7, 3) := by decide +kernel
theorem dX5_inRoom_9 : decode cX5_inRoom 9 = .ok (.iconst 2, 1) := by decide +kernel
theorem dX5_inRoom_10 : decode cX5_inRoom 10 = .ok (.iaload, 1) := by decide +kernel
theorem dX5_inRoom_11 : decode cX5_inRoom 11 = .ok (.if_icmp .ge 28, 3) := by decide +kernel
theorem dX5_inRoom_14 : decode cX5_inRoom 14 = .ok (.iload_n 2, 1) := by decide +kernel
theorem dX5_inRoom_15 : decode cX5_inRoom 15 = .ok (.aload_n 0, 1) := by decide +kernel
theorem dX5_inRoom_16 : decode cX5_inRoom 16 = .ok (.iload_n 3, 1) := by decide +kernel
theorem dX5_inRoom_17 : decode cX5_inRoom 17 = .ok (.invokevirtual 68, 3) := by decide +kernel
theorem dX5_inRoom_20 : decode cX5_inRoom 20 = .ok (.iload_n 1, 1) := by decide +kernel
theorem dX5_inRoom_21 : decode cX5_inRoom 21 = .ok (.if_icmp .ne 9, 3) := by decide +kernel
theorem dX5_inRoom_24 : decode cX5_inRoom 24 = .ok (.iconst 1, 1) := by decide +kernel
theorem dX5_inRoom_25 : decode cX5_inRoom 25 = .ok (.iload_n 3, 1) := by decide +kernel
theorem dX5_inRoom_26 : decode cX5_inRoom 26 = .ok (.ishl, 1) := by decide +kernel
theorem dX5_inRoom_27 : decode cX5_inRoom 27 = .ok (.goto 4, 3) := by decide +kernel
theorem dX5_inRoom_30 : decode cX5_inRoom 30 = .ok (.iconst 0, 1) := by decide +kernel
theorem dX5_inRoom_31 : decode cX5_inRoom 31 = .ok (.ior, 1) := by decide +kernel
theorem dX5_inRoom_32 : decode cX5_inRoom 32 = .ok (.istore_n 2, 1) := by decide +kernel
theorem dX5_inRoom_33 : decode cX5_inRoom 33 = .ok (.iinc 3 1, 3) := by decide +kernel
theorem dX5_inRoom_36 : decode cX5_inRoom 36 = .ok (.goto (-32), 3) := by decide +kernel
theorem dX5_inRoom_39 : decode cX5_inRoom 39 = .ok (.iload_n 2, 1) := by decide +kernel
theorem dX5_inRoom_40 : decode cX5_inRoom 40 = .ok (.ireturn, 1) := by decide +kernel
theorem dX5_roomOf_0 : decode cX5_roomOf 0 = .ok (.iload_n 1, 1) := by decide +kernel
theorem dX5_roomOf_1 : decode cX5_roomOf 1 = .ok (.invokestatic 61, 3) := by decide +kernel
theorem dX5_roomOf_4 : decode cX5_roomOf 4 = .ok (.ifCond .eq 12, 3) := by decide +kernel
theorem dX5_roomOf_7 : decode cX5_roomOf 7 = .ok (.iload_n 2, 1) := by decide +kernel
theorem dX5_roomOf_8 : decode cX5_roomOf 8 = .ok (.iconst 0, 1) := by decide +kernel
theorem dX5_roomOf_9 : decode cX5_roomOf 9 = .ok (.iconst 2, 1) := by decide +kernel
theorem dX5_roomOf_10 : decode cX5_roomOf 10 = .ok (.invokestatic 49, 3) := by decide +kernel
theorem dX5_roomOf_13 : decode cX5_roomOf 13 = .ok (.ifCond .ne 10, 3) := by decide +kernel
theorem dX5_roomOf_16 : decode cX5_roomOf 16 = .ok (.aload_n 0, 1) := by decide +kernel
theorem dX5_roomOf_17 : decode cX5_roomOf 17 = .ok (.ldc 48, 2) := by decide +kernel
theorem dX5_roomOf_19 : decode cX5_roomOf 19 = .ok (.invokevirtual 57, 3) := by decide +kernel
theorem dX5_roomOf_22 : decode cX5_roomOf 22 = .ok (.ireturn, 1) := by decide +kernel
theorem dX5_roomOf_23 : decode cX5_roomOf 23 = .ok (.iload_n 2, 1) := by decide +kernel
theorem dX5_roomOf_24 : decode cX5_roomOf 24 = .ok (.iconst 2, 1) := by decide +kernel
theorem dX5_roomOf_25 : decode cX5_roomOf 25 = .ok (.if_icmp .ge 12, 3) := by decide +kernel
theorem dX5_roomOf_28 : decode cX5_roomOf 28 = .ok (.aload_n 0, 1) := by decide +kernel
theorem dX5_roomOf_29 : decode cX5_roomOf 29 = .ok (.iload_n 1, 1) := by decide +kernel
theorem dX5_roomOf_30 : decode cX5_roomOf 30 = .ok (.iload_n 2, 1) := by decide +kernel
theorem dX5_roomOf_31 : decode cX5_roomOf 31 = .ok (.invokevirtual 71, 3) := by decide +kernel
theorem dX5_roomOf_34 : decode cX5_roomOf 34 = .ok (.goto 8, 3) := by decide +kernel
theorem dX5_roomOf_37 : decode cX5_roomOf 37 = .ok (.aload_n 0, 1) := by decide +kernel
theorem dX5_roomOf_38 : decode cX5_roomOf 38 = .ok (.iload_n 1, 1) := by decide +kernel
theorem dX5_roomOf_39 : decode cX5_roomOf 39 = .ok (.invokevirtual 74, 3) := by decide +kernel
theorem dX5_roomOf_42 : decode cX5_roomOf 42 = .ok (.ireturn, 1) := by decide +kernel
theorem dX5_dustOfAll_0 : decode cX5_dustOfAll 0 = .ok (.iconst 0, 1) := by decide +kernel
theorem dX5_dustOfAll_1 : decode cX5_dustOfAll 1 = .ok (.istore_n 1, 1) := by decide +kernel
theorem dX5_dustOfAll_2 : decode cX5_dustOfAll 2 = .ok (.iconst 0, 1) := by decide +kernel
theorem dX5_dustOfAll_3 : decode cX5_dustOfAll 3 = .ok (.istore_n 2, 1) := by decide +kernel
theorem dX5_dustOfAll_4 : decode cX5_dustOfAll 4 = .ok (.iload_n 2, 1) := by decide +kernel
theorem dX5_dustOfAll_5 : decode cX5_dustOfAll 5 = .ok (.bipush 8, 2) := by decide +kernel
theorem dX5_dustOfAll_7 : decode cX5_dustOfAll 7 = .ok (.if_icmp .ge 18, 3) := by decide +kernel
theorem dX5_dustOfAll_10 : decode cX5_dustOfAll 10 = .ok (.iload_n 1, 1) := by decide +kernel
theorem dX5_dustOfAll_11 : decode cX5_dustOfAll 11 = .ok (.aload_n 0, 1) := by decide +kernel
theorem dX5_dustOfAll_12 : decode cX5_dustOfAll 12 = .ok (.iload_n 2, 1) := by decide +kernel
theorem dX5_dustOfAll_13 : decode cX5_dustOfAll 13 = .ok (.iconst 0, 1) := by decide +kernel
theorem dX5_dustOfAll_14 : decode cX5_dustOfAll 14 = .ok (.invokevirtual 71, 3) := by decide +kernel
theorem dX5_dustOfAll_17 : decode cX5_dustOfAll 17 = .ok (.iadd, 1) := by decide +kernel
theorem dX5_dustOfAll_18 : decode cX5_dustOfAll 18 = .ok (.istore_n 1, 1) := by decide +kernel
theorem dX5_dustOfAll_19 : decode cX5_dustOfAll 19 = .ok (.iinc 2 1, 3) := by decide +kernel
theorem dX5_dustOfAll_22 : decode cX5_dustOfAll 22 = .ok (.goto (-18), 3) := by decide +kernel
theorem dX5_dustOfAll_25 : decode cX5_dustOfAll 25 = .ok (.iload_n 1, 1) := by decide +kernel
theorem dX5_dustOfAll_26 : decode cX5_dustOfAll 26 = .ok (.ireturn, 1) := by decide +kernel
theorem dX5_memoriesOfAll_0 : decode cX5_memoriesOfAll 0 = .ok (.iconst 0, 1) := by decide +kernel
theorem dX5_memoriesOfAll_1 : decode cX5_memoriesOfAll 1 = .ok (.istore_n 1, 1) := by decide +kernel
theorem dX5_memoriesOfAll_2 : decode cX5_memoriesOfAll 2 = .ok (.iconst 0, 1) := by decide +kernel
theorem dX5_memoriesOfAll_3 : decode cX5_memoriesOfAll 3 = .ok (.istore_n 2, 1) := by decide +kernel
theorem dX5_memoriesOfAll_4 : decode cX5_memoriesOfAll 4 = .ok (.iload_n 2, 1) := by decide +kernel
theorem dX5_memoriesOfAll_5 : decode cX5_memoriesOfAll 5 = .ok (.bipush 8, 2) := by decide +kernel
theorem dX5_memoriesOfAll_7 : decode cX5_memoriesOfAll 7 = .ok (.if_icmp .ge 21, 3) := by decide +kernel
theorem dX5_memoriesOfAll_10 : decode cX5_memoriesOfAll 10 = .ok (.iload_n 1, 1) := by decide +kernel
theorem dX5_memoriesOfAll_11 : decode cX5_memoriesOfAll 11 = .ok (.aload_n 0, 1) := by decide +kernel
theorem dX5_memoriesOfAll_12 : decode cX5_memoriesOfAll 12 = .ok (.iload_n 2, 1) := by decide +kernel
theorem dX5_memoriesOfAll_13 : decode cX5_memoriesOfAll 13 = .ok (.iconst 1, 1) := by decide +kernel
theorem dX5_memoriesOfAll_14 : decode cX5_memoriesOfAll 14 = .ok (.invokevirtual 71, 3) := by decide +kernel
theorem dX5_memoriesOfAll_17 : decode cX5_memoriesOfAll 17 = .ok (.invokestatic 77, 3) := by decide +kernel
theorem dX5_memoriesOfAll_20 : decode cX5_memoriesOfAll 20 = .ok (.iadd, 1) := by decide +kernel
theorem dX5_memoriesOfAll_21 : decode cX5_memoriesOfAll 21 = .ok (.istore_n 1, 1) := by decide +kernel
theorem dX5_memoriesOfAll_22 : decode cX5_memoriesOfAll 22 = .ok (.iinc 2 1, 3) := by decide +kernel
theorem dX5_memoriesOfAll_25 : decode cX5_memoriesOfAll 25 = .ok (.goto (-21), 3) := by decide +kernel
theorem dX5_memoriesOfAll_28 : decode cX5_memoriesOfAll 28 = .ok (.iload_n 1, 1) := by decide +kernel
theorem dX5_memoriesOfAll_29 : decode cX5_memoriesOfAll 29 = .ok (.ireturn, 1) := by decide +kernel
theorem dX5_common_0 : decode cX5_common 0 = .ok (.sipush 1023, 3) := by decide +kernel
theorem dX5_common_3 : decode cX5_common 3 = .ok (.istore_n 1, 1) := by decide +kernel
theorem dX5_common_4 : decode cX5_common 4 = .ok (.iconst 0, 1) := by decide +kernel
theorem dX5_common_5 : decode cX5_common 5 = .ok (.istore_n 2, 1) := by decide +kernel
theorem dX5_common_6 : decode cX5_common 6 = .ok (.iload_n 2, 1) := by decide +kernel
theorem dX5_common_7 : decode cX5_common 7 = .ok (.bipush 8, 2) := by decide +kernel
theorem dX5_common_9 : decode cX5_common 9 = .ok (.if_icmp .ge 18, 3) := by decide +kernel
theorem dX5_common_12 : decode cX5_common 12 = .ok (.iload_n 1, 1) := by decide +kernel
theorem dX5_common_13 : decode cX5_common 13 = .ok (.aload_n 0, 1) := by decide +kernel
theorem dX5_common_14 : decode cX5_common 14 = .ok (.iload_n 2, 1) := by decide +kernel
theorem dX5_common_15 : decode cX5_common 15 = .ok (.iconst 1, 1) := by decide +kernel
theorem dX5_common_16 : decode cX5_common 16 = .ok (.invokevirtual 71, 3) := by decide +kernel
theorem dX5_common_19 : decode cX5_common 19 = .ok (.iand, 1) := by decide +kernel
theorem dX5_common_20 : decode cX5_common 20 = .ok (.istore_n 1, 1) := by decide +kernel
theorem dX5_common_21 : decode cX5_common 21 = .ok (.iinc 2 1, 3) := by decide +kernel
theorem dX5_common_24 : decode cX5_common 24 = .ok (.goto (-18), 3) := by decide +kernel
theorem dX5_common_27 : decode cX5_common 27 = .ok (.iload_n 1, 1) := by decide +kernel
theorem dX5_common_28 : decode cX5_common 28 = .ok (.ireturn, 1) := by decide +kernel
theorem dX5_anywhere_0 : decode cX5_anywhere 0 = .ok (.iconst 0, 1) := by decide +kernel
theorem dX5_anywhere_1 : decode cX5_anywhere 1 = .ok (.istore_n 1, 1) := by decide +kernel
theorem dX5_anywhere_2 : decode cX5_anywhere 2 = .ok (.iconst 0, 1) := by decide +kernel
theorem dX5_anywhere_3 : decode cX5_anywhere 3 = .ok (.istore_n 2, 1) := by decide +kernel
theorem dX5_anywhere_4 : decode cX5_anywhere 4 = .ok (.iload_n 2, 1) := by decide +kernel
theorem dX5_anywhere_5 : decode cX5_anywhere 5 = .ok (.bipush 8, 2) := by decide +kernel
theorem dX5_anywhere_7 : decode cX5_anywhere 7 = .ok (.if_icmp .ge 18, 3) := by decide +kernel
theorem dX5_anywhere_10 : decode cX5_anywhere 10 = .ok (.iload_n 1, 1) := by decide +kernel
theorem dX5_anywhere_11 : decode cX5_anywhere 11 = .ok (.aload_n 0, 1) := by decide +kernel
theorem dX5_anywhere_12 : decode cX5_anywhere 12 = .ok (.iload_n 2, 1) := by decide +kernel
theorem dX5_anywhere_13 : decode cX5_anywhere 13 = .ok (.iconst 1, 1) := by decide +kernel
theorem dX5_anywhere_14 : decode cX5_anywhere 14 = .ok (.invokevirtual 71, 3) := by decide +kernel
theorem dX5_anywhere_17 : decode cX5_anywhere 17 = .ok (.ior, 1) := by decide +kernel
theorem dX5_anywhere_18 : decode cX5_anywhere 18 = .ok (.istore_n 1, 1) := by decide +kernel
theorem dX5_anywhere_19 : decode cX5_anywhere 19 = .ok (.iinc 2 1, 3) := by decide +kernel
theorem dX5_anywhere_22 : decode cX5_anywhere 22 = .ok (.goto (-18), 3) := by decide +kernel
theorem dX5_anywhere_25 : decode cX5_anywhere 25 = .ok (.iload_n 1, 1) := by decide +kernel
theorem dX5_anywhere_26 : decode cX5_anywhere 26 = .ok (.ireturn, 1) := by decide +kernel
theorem dX5_heldByAny_0 : decode cX5_heldByAny 0 = .ok (.iconst 0, 1) := by decide +kernel
theorem dX5_heldByAny_1 : decode cX5_heldByAny 1 = .ok (.istore_n 1, 1) := by decide +kernel
theorem dX5_heldByAny_2 : decode cX5_heldByAny 2 = .ok (.iconst 0, 1) := by decide +kernel
theorem dX5_heldByAny_3 : decode cX5_heldByAny 3 = .ok (.istore_n 2, 1) := by decide +kernel
theorem dX5_heldByAny_4 : decode cX5_heldByAny 4 = .ok (.iload_n 2, 1) := by decide +kernel
theorem dX5_heldByAny_5 : decode cX5_heldByAny 5 = .ok (.aload_n 0, 1) := by decide +kernel
theorem dX5_heldByAny_6 : decode cX5_heldByAny 6 = .ok (.getfield 7, 3) := by decide +kernel
theorem dX5_heldByAny_9 : decode cX5_heldByAny 9 = .ok (.iconst 2, 1) := by decide +kernel
theorem dX5_heldByAny_10 : decode cX5_heldByAny 10 = .ok (.iaload, 1) := by decide +kernel
theorem dX5_heldByAny_11 : decode cX5_heldByAny 11 = .ok (.if_icmp .ge 18, 3) := by decide +kernel
theorem dX5_heldByAny_14 : decode cX5_heldByAny 14 = .ok (.iload_n 1, 1) := by decide +kernel
theorem dX5_heldByAny_15 : decode cX5_heldByAny 15 = .ok (.aload_n 0, 1) := by decide +kernel
theorem dX5_heldByAny_16 : decode cX5_heldByAny 16 = .ok (.iload_n 2, 1) := by decide +kernel
theorem dX5_heldByAny_17 : decode cX5_heldByAny 17 = .ok (.iconst 1, 1) := by decide +kernel
theorem dX5_heldByAny_18 : decode cX5_heldByAny 18 = .ok (.invokevirtual 65, 3) := by decide +kernel
theorem dX5_heldByAny_21 : decode cX5_heldByAny 21 = .ok (.ior, 1) := by decide +kernel
theorem dX5_heldByAny_22 : decode cX5_heldByAny 22 = .ok (.istore_n 1, 1) := by decide +kernel
theorem dX5_heldByAny_23 : decode cX5_heldByAny 23 = .ok (.iinc 2 1, 3) := by decide +kernel
theorem dX5_heldByAny_26 : decode cX5_heldByAny 26 = .ok (.goto (-22), 3) := by decide +kernel
theorem dX5_heldByAny_29 : decode cX5_heldByAny 29 = .ok (.iload_n 1, 1) := by decide +kernel
theorem dX5_heldByAny_30 : decode cX5_heldByAny 30 = .ok (.ireturn, 1) := by decide +kernel
theorem dX5_now_0 : decode cX5_now 0 = .ok (.iload_n 1, 1) := by decide +kernel
theorem dX5_now_1 : decode cX5_now 1 = .ok (.tableswitch 73 0 5 #[39, 46, 53, 58, 63, 68], 39) := by decide +kernel
theorem dX5_now_40 : decode cX5_now 40 = .ok (.aload_n 0, 1) := by decide +kernel
theorem dX5_now_41 : decode cX5_now 41 = .ok (.getfield 7, 3) := by decide +kernel
theorem dX5_now_44 : decode cX5_now 44 = .ok (.iconst 0, 1) := by decide +kernel
theorem dX5_now_45 : decode cX5_now 45 = .ok (.iaload, 1) := by decide +kernel
theorem dX5_now_46 : decode cX5_now 46 = .ok (.ireturn, 1) := by decide +kernel
theorem dX5_now_47 : decode cX5_now 47 = .ok (.aload_n 0, 1) := by decide +kernel
theorem dX5_now_48 : decode cX5_now 48 = .ok (.getfield 7, 3) := by decide +kernel
theorem dX5_now_51 : decode cX5_now 51 = .ok (.iconst 1, 1) := by decide +kernel
theorem dX5_now_52 : decode cX5_now 52 = .ok (.iaload, 1) := by decide +kernel
theorem dX5_now_53 : decode cX5_now 53 = .ok (.ireturn, 1) := by decide +kernel
theorem dX5_now_54 : decode cX5_now 54 = .ok (.aload_n 0, 1) := by decide +kernel
theorem dX5_now_55 : decode cX5_now 55 = .ok (.invokevirtual 80, 3) := by decide +kernel
theorem dX5_now_58 : decode cX5_now 58 = .ok (.ireturn, 1) := by decide +kernel
theorem dX5_now_59 : decode cX5_now 59 = .ok (.aload_n 0, 1) := by decide +kernel
theorem dX5_now_60 : decode cX5_now 60 = .ok (.invokevirtual 84, 3) := by decide +kernel
theorem dX5_now_63 : decode cX5_now 63 = .ok (.ireturn, 1) := by decide +kernel
theorem dX5_now_64 : decode cX5_now 64 = .ok (.aload_n 0, 1) := by decide +kernel
theorem dX5_now_65 : decode cX5_now 65 = .ok (.invokevirtual 87, 3) := by decide +kernel
theorem dX5_now_68 : decode cX5_now 68 = .ok (.ireturn, 1) := by decide +kernel
theorem dX5_now_69 : decode cX5_now 69 = .ok (.aload_n 0, 1) := by decide +kernel
theorem dX5_now_70 : decode cX5_now 70 = .ok (.invokevirtual 90, 3) := by decide +kernel
theorem dX5_now_73 : decode cX5_now 73 = .ok (.ireturn, 1) := by decide +kernel
theorem dX5_now_74 : decode cX5_now 74 = .ok (.aload_n 0, 1) := by decide +kernel
theorem dX5_now_75 : decode cX5_now 75 = .ok (.ldc 48, 2) := by decide +kernel
theorem dX5_now_77 : decode cX5_now 77 = .ok (.invokevirtual 57, 3) := by decide +kernel
theorem dX5_now_80 : decode cX5_now 80 = .ok (.ireturn, 1) := by decide +kernel
theorem dX5_wipes_0 : decode cX5_wipes 0 = .ok (.aload_n 0, 1) := by decide +kernel
theorem dX5_wipes_1 : decode cX5_wipes 1 = .ok (.iload_n 1, 1) := by decide +kernel
theorem dX5_wipes_2 : decode cX5_wipes 2 = .ok (.iconst 2, 1) := by decide +kernel
theorem dX5_wipes_3 : decode cX5_wipes 3 = .ok (.invokevirtual 65, 3) := by decide +kernel
theorem dX5_wipes_6 : decode cX5_wipes 6 = .ok (.istore_n 2, 1) := by decide +kernel
theorem dX5_wipes_7 : decode cX5_wipes 7 = .ok (.bipush 12, 2) := by decide +kernel
theorem dX5_wipes_9 : decode cX5_wipes 9 = .ok (.iload_n 2, 1) := by decide +kernel
theorem dX5_wipes_10 : decode cX5_wipes 10 = .ok (.bipush 10, 2) := by decide +kernel
theorem dX5_wipes_12 : decode cX5_wipes 12 = .ok (.idiv, 1) := by decide +kernel
theorem dX5_wipes_13 : decode cX5_wipes 13 = .ok (.isub, 1) := by decide +kernel
theorem dX5_wipes_14 : decode cX5_wipes 14 = .ok (.istore_n 3, 1) := by decide +kernel
theorem dX5_wipes_15 : decode cX5_wipes 15 = .ok (.iload_n 2, 1) := by decide +kernel
theorem dX5_wipes_16 : decode cX5_wipes 16 = .ok (.bipush 20, 2) := by decide +kernel
theorem dX5_wipes_18 : decode cX5_wipes 18 = .ok (.if_icmp .ge 9, 3) := by decide +kernel
theorem dX5_wipes_21 : decode cX5_wipes 21 = .ok (.iconst 2, 1) := by decide +kernel
theorem dX5_wipes_22 : decode cX5_wipes 22 = .ok (.iload_n 3, 1) := by decide +kernel
theorem dX5_wipes_23 : decode cX5_wipes 23 = .ok (.imul, 1) := by decide +kernel
theorem dX5_wipes_24 : decode cX5_wipes 24 = .ok (.goto 4, 3) := by decide +kernel
theorem dX5_wipes_27 : decode cX5_wipes 27 = .ok (.iload_n 3, 1) := by decide +kernel
theorem dX5_wipes_28 : decode cX5_wipes 28 = .ok (.istore 4, 2) := by decide +kernel
theorem dX5_wipes_30 : decode cX5_wipes 30 = .ok (.aload_n 0, 1) := by decide +kernel
theorem dX5_wipes_31 : decode cX5_wipes 31 = .ok (.iload_n 1, 1) := by decide +kernel
theorem dX5_wipes_32 : decode cX5_wipes 32 = .ok (.iconst 0, 1) := by decide +kernel
theorem dX5_wipes_33 : decode cX5_wipes 33 = .ok (.invokevirtual 65, 3) := by decide +kernel
theorem dX5_wipes_36 : decode cX5_wipes 36 = .ok (.tableswitch 55 1 5 #[36, 44, 52, 40, 47], 36) := by decide +kernel
theorem dX5_wipes_72 : decode cX5_wipes 72 = .ok (.iload_n 3, 1) := by decide +kernel
theorem dX5_wipes_73 : decode cX5_wipes 73 = .ok (.iconst 3, 1) := by decide +kernel
theorem dX5_wipes_74 : decode cX5_wipes 74 = .ok (.iadd, 1) := by decide +kernel
theorem dX5_wipes_75 : decode cX5_wipes 75 = .ok (.ireturn, 1) := by decide +kernel
theorem dX5_wipes_76 : decode cX5_wipes 76 = .ok (.iload_n 3, 1) := by decide +kernel
theorem dX5_wipes_77 : decode cX5_wipes 77 = .ok (.iconst 2, 1) := by decide +kernel
theorem dX5_wipes_78 : decode cX5_wipes 78 = .ok (.isub, 1) := by decide +kernel
theorem dX5_wipes_79 : decode cX5_wipes 79 = .ok (.ireturn, 1) := by decide +kernel
theorem dX5_wipes_80 : decode cX5_wipes 80 = .ok (.iload 4, 2) := by decide +kernel
theorem dX5_wipes_82 : decode cX5_wipes 82 = .ok (.ireturn, 1) := by decide +kernel
theorem dX5_wipes_83 : decode cX5_wipes 83 = .ok (.iload 4, 2) := by decide +kernel
theorem dX5_wipes_85 : decode cX5_wipes 85 = .ok (.iconst 1, 1) := by decide +kernel
theorem dX5_wipes_86 : decode cX5_wipes 86 = .ok (.isub, 1) := by decide +kernel
theorem dX5_wipes_87 : decode cX5_wipes 87 = .ok (.ireturn, 1) := by decide +kernel
theorem dX5_wipes_88 : decode cX5_wipes 88 = .ok (.bipush 9, 2) := by decide +kernel
theorem dX5_wipes_90 : decode cX5_wipes 90 = .ok (.ireturn, 1) := by decide +kernel
theorem dX5_wipes_91 : decode cX5_wipes 91 = .ok (.iload_n 3, 1) := by decide +kernel
theorem dX5_wipes_92 : decode cX5_wipes 92 = .ok (.ireturn, 1) := by decide +kernel
theorem dX5_takesUp_0 : decode cX5_takesUp 0 = .ok (.aload_n 0, 1) := by decide +kernel
theorem dX5_takesUp_1 : decode cX5_takesUp 1 = .ok (.iload_n 1, 1) := by decide +kernel
theorem dX5_takesUp_2 : decode cX5_takesUp 2 = .ok (.iconst 0, 1) := by decide +kernel
theorem dX5_takesUp_3 : decode cX5_takesUp 3 = .ok (.invokevirtual 65, 3) := by decide +kernel
theorem dX5_takesUp_6 : decode cX5_takesUp 6 = .ok (.tableswitch 58 1 5 #[34, 36, 53, 34, 56], 34) := by decide +kernel
theorem dX5_takesUp_40 : decode cX5_takesUp 40 = .ok (.iconst 2, 1) := by decide +kernel
theorem dX5_takesUp_41 : decode cX5_takesUp 41 = .ok (.ireturn, 1) := by decide +kernel
theorem dX5_takesUp_42 : decode cX5_takesUp 42 = .ok (.aload_n 0, 1) := by decide +kernel
theorem dX5_takesUp_43 : decode cX5_takesUp 43 = .ok (.iload_n 1, 1) := by decide +kernel
theorem dX5_takesUp_44 : decode cX5_takesUp 44 = .ok (.iconst 2, 1) := by decide +kernel
theorem dX5_takesUp_45 : decode cX5_takesUp 45 = .ok (.invokevirtual 65, 3) := by decide +kernel
theorem dX5_takesUp_48 : decode cX5_takesUp 48 = .ok (.bipush 60, 2) := by decide +kernel
theorem dX5_takesUp_50 : decode cX5_takesUp 50 = .ok (.if_icmp .le 7, 3) := by decide +kernel
theorem dX5_takesUp_53 : decode cX5_takesUp 53 = .ok (.iconst 0, 1) := by decide +kernel
theorem dX5_takesUp_54 : decode cX5_takesUp 54 = .ok (.goto 4, 3) := by decide +kernel
theorem dX5_takesUp_57 : decode cX5_takesUp 57 = .ok (.iconst 1, 1) := by decide +kernel
theorem dX5_takesUp_58 : decode cX5_takesUp 58 = .ok (.ireturn, 1) := by decide +kernel
theorem dX5_takesUp_59 : decode cX5_takesUp 59 = .ok (.bipush 9, 2) := by decide +kernel
theorem dX5_takesUp_61 : decode cX5_takesUp 61 = .ok (.ireturn, 1) := by decide +kernel
theorem dX5_takesUp_62 : decode cX5_takesUp 62 = .ok (.iconst 0, 1) := by decide +kernel
theorem dX5_takesUp_63 : decode cX5_takesUp 63 = .ok (.ireturn, 1) := by decide +kernel
theorem dX5_takesUp_64 : decode cX5_takesUp 64 = .ok (.iconst 1, 1) := by decide +kernel
theorem dX5_takesUp_65 : decode cX5_takesUp 65 = .ok (.ireturn, 1) := by decide +kernel
theorem dX5_leaves_0 : decode cX5_leaves 0 = .ok (.aload_n 0, 1) := by decide +kernel
theorem dX5_leaves_1 : decode cX5_leaves 1 = .ok (.iload_n 1, 1) := by decide +kernel
theorem dX5_leaves_2 : decode cX5_leaves 2 = .ok (.iconst 2, 1) := by decide +kernel
theorem dX5_leaves_3 : decode cX5_leaves 3 = .ok (.invokevirtual 65, 3) := by decide +kernel
theorem dX5_leaves_6 : decode cX5_leaves 6 = .ok (.bipush 25, 2) := by decide +kernel
theorem dX5_leaves_8 : decode cX5_leaves 8 = .ok (.idiv, 1) := by decide +kernel
theorem dX5_leaves_9 : decode cX5_leaves 9 = .ok (.istore_n 2, 1) := by decide +kernel
theorem dX5_leaves_10 : decode cX5_leaves 10 = .ok (.aload_n 0, 1) := by decide +kernel
theorem dX5_leaves_11 : decode cX5_leaves 11 = .ok (.iload_n 1, 1) := by decide +kernel
theorem dX5_leaves_12 : decode cX5_leaves 12 = .ok (.iconst 0, 1) := by decide +kernel
theorem dX5_leaves_13 : decode cX5_leaves 13 = .ok (.invokevirtual 65, 3) := by decide +kernel
theorem dX5_leaves_16 : decode cX5_leaves 16 = .ok (.tableswitch 75 1 5 #[36, 75, 46, 40, 58], 36) := by decide +kernel
theorem dX5_leaves_52 : decode cX5_leaves 52 = .ok (.iload_n 2, 1) := by decide +kernel
theorem dX5_leaves_53 : decode cX5_leaves 53 = .ok (.iconst 1, 1) := by decide +kernel
theorem dX5_leaves_54 : decode cX5_leaves 54 = .ok (.iadd, 1) := by decide +kernel
theorem dX5_leaves_55 : decode cX5_leaves 55 = .ok (.ireturn, 1) := by decide +kernel
theorem dX5_leaves_56 : decode cX5_leaves 56 = .ok (.iconst 2, 1) := by decide +kernel
theorem dX5_leaves_57 : decode cX5_leaves 57 = .ok (.iload_n 2, 1) := by decide +kernel
theorem dX5_leaves_58 : decode cX5_leaves 58 = .ok (.iconst 1, 1) := by decide +kernel
theorem dX5_leaves_59 : decode cX5_leaves 59 = .ok (.iadd, 1) := by decide +kernel
theorem dX5_leaves_60 : decode cX5_leaves 60 = .ok (.imul, 1) := by decide +kernel
theorem dX5_leaves_61 : decode cX5_leaves 61 = .ok (.ireturn, 1) := by decide +kernel
theorem dX5_leaves_62 : decode cX5_leaves 62 = .ok (.iload_n 2, 1) := by decide +kernel
theorem dX5_leaves_63 : decode cX5_leaves 63 = .ok (.ifCond .le 9, 3) := by decide +kernel
theorem dX5_leaves_66 : decode cX5_leaves 66 = .ok (.iload_n 2, 1) := by decide +kernel
theorem dX5_leaves_67 : decode cX5_leaves 67 = .ok (.iconst 1, 1) := by decide +kernel
theorem dX5_leaves_68 : decode cX5_leaves 68 = .ok (.isub, 1) := by decide +kernel
theorem dX5_leaves_69 : decode cX5_leaves 69 = .ok (.goto 4, 3) := by decide +kernel
theorem dX5_leaves_72 : decode cX5_leaves 72 = .ok (.iconst 0, 1) := by decide +kernel
theorem dX5_leaves_73 : decode cX5_leaves 73 = .ok (.ireturn, 1) := by decide +kernel
theorem dX5_leaves_74 : decode cX5_leaves 74 = .ok (.aload_n 0, 1) := by decide +kernel
theorem dX5_leaves_75 : decode cX5_leaves 75 = .ok (.iload_n 1, 1) := by decide +kernel
theorem dX5_leaves_76 : decode cX5_leaves 76 = .ok (.iconst 2, 1) := by decide +kernel
theorem dX5_leaves_77 : decode cX5_leaves 77 = .ok (.invokevirtual 65, 3) := by decide +kernel
theorem dX5_leaves_80 : decode cX5_leaves 80 = .ok (.ifCond .ne 9, 3) := by decide +kernel
theorem dX5_leaves_83 : decode cX5_leaves 83 = .ok (.iload_n 2, 1) := by decide +kernel
theorem dX5_leaves_84 : decode cX5_leaves 84 = .ok (.iconst 1, 1) := by decide +kernel
theorem dX5_leaves_85 : decode cX5_leaves 85 = .ok (.iadd, 1) := by decide +kernel
theorem dX5_leaves_86 : decode cX5_leaves 86 = .ok (.goto 4, 3) := by decide +kernel
theorem dX5_leaves_89 : decode cX5_leaves 89 = .ok (.iload_n 2, 1) := by decide +kernel
theorem dX5_leaves_90 : decode cX5_leaves 90 = .ok (.ireturn, 1) := by decide +kernel
theorem dX5_leaves_91 : decode cX5_leaves 91 = .ok (.iload_n 2, 1) := by decide +kernel
theorem dX5_leaves_92 : decode cX5_leaves 92 = .ok (.ireturn, 1) := by decide +kernel
theorem dX5_isKeeping_0 : decode cX5_isKeeping 0 = .ok (.aload_n 0, 1) := by decide +kernel
theorem dX5_isKeeping_1 : decode cX5_isKeeping 1 = .ok (.iload_n 1, 1) := by decide +kernel
theorem dX5_isKeeping_2 : decode cX5_isKeeping 2 = .ok (.iconst 0, 1) := by decide +kernel
theorem dX5_isKeeping_3 : decode cX5_isKeeping 3 = .ok (.invokevirtual 65, 3) := by decide +kernel
theorem dX5_isKeeping_6 : decode cX5_isKeeping 6 = .ok (.istore_n 2, 1) := by decide +kernel
theorem dX5_isKeeping_7 : decode cX5_isKeeping 7 = .ok (.iload_n 2, 1) := by decide +kernel
theorem dX5_isKeeping_8 : decode cX5_isKeeping 8 = .ok (.iconst 5, 1) := by decide +kernel
theorem dX5_isKeeping_9 : decode cX5_isKeeping 9 = .ok (.if_icmp .ne 24, 3) := by decide +kernel
theorem dX5_isKeeping_12 : decode cX5_isKeeping 12 = .ok (.aload_n 0, 1) := by decide +kernel
theorem dX5_isKeeping_13 : decode cX5_isKeeping 13 = .ok (.iload_n 1, 1) := by decide +kernel
theorem dX5_isKeeping_14 : decode cX5_isKeeping 14 = .ok (.iconst 1, 1) := by decide +kernel
theorem dX5_isKeeping_15 : decode cX5_isKeeping 15 = .ok (.invokevirtual 65, 3) := by decide +kernel
theorem dX5_isKeeping_18 : decode cX5_isKeeping 18 = .ok (.invokestatic 77, 3) := by decide +kernel
theorem dX5_isKeeping_21 : decode cX5_isKeeping 21 = .ok (.iconst 5, 1) := by decide +kernel
theorem dX5_isKeeping_22 : decode cX5_isKeeping 22 = .ok (.if_icmp .lt 7, 3) := by decide +kernel
theorem dX5_isKeeping_25 : decode cX5_isKeeping 25 = .ok (.iconst 1, 1) := by decide +kernel
theorem dX5_isKeeping_26 : decode cX5_isKeeping 26 = .ok (.goto 17, 3) := by decide +kernel
theorem dX5_isKeeping_29 : decode cX5_isKeeping 29 = .ok (.iconst 0, 1) := by decide +kernel
theorem dX5_isKeeping_30 : decode cX5_isKeeping 30 = .ok (.goto 13, 3) := by decide +kernel
theorem dX5_isKeeping_33 : decode cX5_isKeeping 33 = .ok (.iload_n 2, 1) := by decide +kernel
theorem dX5_isKeeping_34 : decode cX5_isKeeping 34 = .ok (.iconst 2, 1) := by decide +kernel
theorem dX5_isKeeping_35 : decode cX5_isKeeping 35 = .ok (.if_icmp .eq 7, 3) := by decide +kernel
theorem dX5_isKeeping_38 : decode cX5_isKeeping 38 = .ok (.iconst 1, 1) := by decide +kernel
theorem dX5_isKeeping_39 : decode cX5_isKeeping 39 = .ok (.goto 4, 3) := by decide +kernel
theorem dX5_isKeeping_42 : decode cX5_isKeeping 42 = .ok (.iconst 0, 1) := by decide +kernel
theorem dX5_isKeeping_43 : decode cX5_isKeeping 43 = .ok (.ireturn, 1) := by decide +kernel
theorem dX5_adds_0 : decode cX5_adds 0 = .ok (.aload_n 0, 1) := by decide +kernel
theorem dX5_adds_1 : decode cX5_adds 1 = .ok (.getfield 7, 3) := by decide +kernel
theorem dX5_adds_4 : decode cX5_adds 4 = .ok (.iconst 2, 1) := by decide +kernel
theorem dX5_adds_5 : decode cX5_adds 5 = .ok (.iaload, 1) := by decide +kernel
theorem dX5_adds_6 : decode cX5_adds 6 = .ok (.istore 4, 2) := by decide +kernel
theorem dX5_adds_8 : decode cX5_adds 8 = .ok (.aload_n 0, 1) := by decide +kernel
theorem dX5_adds_9 : decode cX5_adds 9 = .ok (.iload 4, 2) := by decide +kernel
theorem dX5_adds_11 : decode cX5_adds 11 = .ok (.iconst 0, 1) := by decide +kernel
theorem dX5_adds_12 : decode cX5_adds 12 = .ok (.iload_n 1, 1) := by decide +kernel
theorem dX5_adds_13 : decode cX5_adds 13 = .ok (.invokevirtual 93, 3) := by decide +kernel
theorem dX5_adds_16 : decode cX5_adds 16 = .ok (.aload_n 0, 1) := by decide +kernel
theorem dX5_adds_17 : decode cX5_adds 17 = .ok (.iload 4, 2) := by decide +kernel
theorem dX5_adds_19 : decode cX5_adds 19 = .ok (.iconst 1, 1) := by decide +kernel
theorem dX5_adds_20 : decode cX5_adds 20 = .ok (.iload_n 2, 1) := by decide +kernel
theorem dX5_adds_21 : decode cX5_adds 21 = .ok (.invokevirtual 93, 3) := by decide +kernel
theorem dX5_adds_24 : decode cX5_adds 24 = .ok (.aload_n 0, 1) := by decide +kernel
theorem dX5_adds_25 : decode cX5_adds 25 = .ok (.iload 4, 2) := by decide +kernel
theorem dX5_adds_27 : decode cX5_adds 27 = .ok (.iconst 2, 1) := by decide +kernel
theorem dX5_adds_28 : decode cX5_adds 28 = .ok (.iload_n 3, 1) := by decide +kernel
theorem dX5_adds_29 : decode cX5_adds 29 = .ok (.invokevirtual 93, 3) := by decide +kernel
theorem dX5_adds_32 : decode cX5_adds 32 = .ok (.aload_n 0, 1) := by decide +kernel
theorem dX5_adds_33 : decode cX5_adds 33 = .ok (.iload 4, 2) := by decide +kernel
theorem dX5_adds_35 : decode cX5_adds 35 = .ok (.iconst 3, 1) := by decide +kernel
theorem dX5_adds_36 : decode cX5_adds 36 = .ok (.iload 4, 2) := by decide +kernel
theorem dX5_adds_38 : decode cX5_adds 38 = .ok (.invokevirtual 93, 3) := by decide +kernel
theorem dX5_adds_41 : decode cX5_adds 41 = .ok (.aload_n 0, 1) := by decide +kernel
theorem dX5_adds_42 : decode cX5_adds 42 = .ok (.getfield 7, 3) := by decide +kernel
theorem dX5_adds_45 : decode cX5_adds 45 = .ok (.iconst 2, 1) := by decide +kernel
theorem dX5_adds_46 : decode cX5_adds 46 = .ok (.dup2, 1) := by decide +kernel
theorem dX5_adds_47 : decode cX5_adds 47 = .ok (.iaload, 1) := by decide +kernel
theorem dX5_adds_48 : decode cX5_adds 48 = .ok (.iconst 1, 1) := by decide +kernel
theorem dX5_adds_49 : decode cX5_adds 49 = .ok (.iadd, 1) := by decide +kernel
theorem dX5_adds_50 : decode cX5_adds 50 = .ok (.iastore, 1) := by decide +kernel
theorem dX5_adds_51 : decode cX5_adds 51 = .ok (.return_, 1) := by decide +kernel
theorem dX5_duster_0 : decode cX5_duster 0 = .ok (.iload_n 1, 1) := by decide +kernel
theorem dX5_duster_1 : decode cX5_duster 1 = .ok (.invokestatic 96, 3) := by decide +kernel
theorem dX5_duster_4 : decode cX5_duster 4 = .ok (.ifCond .ne 10, 3) := by decide +kernel
theorem dX5_duster_7 : decode cX5_duster 7 = .ok (.aload_n 0, 1) := by decide +kernel
theorem dX5_duster_8 : decode cX5_duster 8 = .ok (.ldc 48, 2) := by decide +kernel
theorem dX5_duster_10 : decode cX5_duster 10 = .ok (.invokevirtual 57, 3) := by decide +kernel
theorem dX5_duster_13 : decode cX5_duster 13 = .ok (.ireturn, 1) := by decide +kernel
theorem dX5_duster_14 : decode cX5_duster 14 = .ok (.aload_n 0, 1) := by decide +kernel
theorem dX5_duster_15 : decode cX5_duster 15 = .ok (.getfield 7, 3) := by decide +kernel
theorem dX5_duster_18 : decode cX5_duster 18 = .ok (.iconst 2, 1) := by decide +kernel
theorem dX5_duster_19 : decode cX5_duster 19 = .ok (.iaload, 1) := by decide +kernel
theorem dX5_duster_20 : decode cX5_duster 20 = .ok (.bipush 8, 2) := by decide +kernel
theorem dX5_duster_22 : decode cX5_duster 22 = .ok (.if_icmp .ne 10, 3) := by decide +kernel
theorem dX5_duster_25 : decode cX5_duster 25 = .ok (.aload_n 0, 1) := by decide +kernel
theorem dX5_duster_26 : decode cX5_duster 26 = .ok (.ldc 99, 2) := by decide +kernel
theorem dX5_duster_28 : decode cX5_duster 28 = .ok (.invokevirtual 57, 3) := by decide +kernel
theorem dX5_duster_31 : decode cX5_duster 31 = .ok (.ireturn, 1) := by decide +kernel
theorem dX5_duster_32 : decode cX5_duster 32 = .ok (.aload_n 0, 1) := by decide +kernel
theorem dX5_duster_33 : decode cX5_duster 33 = .ok (.iload_n 1, 1) := by decide +kernel
theorem dX5_duster_34 : decode cX5_duster 34 = .ok (.iconst 0, 1) := by decide +kernel
theorem dX5_duster_35 : decode cX5_duster 35 = .ok (.iconst 0, 1) := by decide +kernel
theorem dX5_duster_36 : decode cX5_duster 36 = .ok (.invokevirtual 100, 3) := by decide +kernel
theorem dX5_duster_39 : decode cX5_duster 39 = .ok (.aload_n 0, 1) := by decide +kernel
theorem dX5_duster_40 : decode cX5_duster 40 = .ok (.getfield 7, 3) := by decide +kernel
theorem dX5_duster_43 : decode cX5_duster 43 = .ok (.iconst 2, 1) := by decide +kernel
theorem dX5_duster_44 : decode cX5_duster 44 = .ok (.iaload, 1) := by decide +kernel
theorem dX5_duster_45 : decode cX5_duster 45 = .ok (.iconst 1, 1) := by decide +kernel
theorem dX5_duster_46 : decode cX5_duster 46 = .ok (.isub, 1) := by decide +kernel
theorem dX5_duster_47 : decode cX5_duster 47 = .ok (.ireturn, 1) := by decide +kernel
theorem dX5_of_0 : decode cX5_of 0 = .ok (.aload_n 0, 1) := by decide +kernel
theorem dX5_of_1 : decode cX5_of 1 = .ok (.iload_n 1, 1) := by decide +kernel
theorem dX5_of_2 : decode cX5_of 2 = .ok (.invokevirtual 103, 3) := by decide +kernel
theorem dX5_of_5 : decode cX5_of 5 = .ok (.ifCond .eq 13, 3) := by decide +kernel
theorem dX5_of_8 : decode cX5_of 8 = .ok (.iload_n 2, 1) := by decide +kernel
theorem dX5_of_9 : decode cX5_of 9 = .ok (.iconst 0, 1) := by decide +kernel
theorem dX5_of_10 : decode cX5_of 10 = .ok (.bipush 8, 2) := by decide +kernel
theorem dX5_of_12 : decode cX5_of 12 = .ok (.invokestatic 49, 3) := by decide +kernel
theorem dX5_of_15 : decode cX5_of 15 = .ok (.ifCond .ne 10, 3) := by decide +kernel
theorem dX5_of_18 : decode cX5_of 18 = .ok (.aload_n 0, 1) := by decide +kernel
theorem dX5_of_19 : decode cX5_of 19 = .ok (.ldc 48, 2) := by decide +kernel
theorem dX5_of_21 : decode cX5_of 21 = .ok (.invokevirtual 57, 3) := by decide +kernel
theorem dX5_of_24 : decode cX5_of 24 = .ok (.ireturn, 1) := by decide +kernel
theorem dX5_of_25 : decode cX5_of 25 = .ok (.iload_n 2, 1) := by decide +kernel
theorem dX5_of_26 : decode cX5_of 26 = .ok (.tableswitch 72 4 8 #[34, 40, 46, 52, 58], 34) := by decide +kernel
theorem dX5_of_60 : decode cX5_of 60 = .ok (.aload_n 0, 1) := by decide +kernel
theorem dX5_of_61 : decode cX5_of 61 = .ok (.iload_n 1, 1) := by decide +kernel
theorem dX5_of_62 : decode cX5_of 62 = .ok (.invokevirtual 68, 3) := by decide +kernel
theorem dX5_of_65 : decode cX5_of 65 = .ok (.ireturn, 1) := by decide +kernel
theorem dX5_of_66 : decode cX5_of 66 = .ok (.aload_n 0, 1) := by decide +kernel
theorem dX5_of_67 : decode cX5_of 67 = .ok (.iload_n 1, 1) := by decide +kernel
theorem dX5_of_68 : decode cX5_of 68 = .ok (.invokevirtual 106, 3) := by decide +kernel
theorem dX5_of_71 : decode cX5_of 71 = .ok (.ireturn, 1) := by decide +kernel
theorem dX5_of_72 : decode cX5_of 72 = .ok (.aload_n 0, 1) := by decide +kernel
theorem dX5_of_73 : decode cX5_of 73 = .ok (.iload_n 1, 1) := by decide +kernel
theorem dX5_of_74 : decode cX5_of 74 = .ok (.invokevirtual 109, 3) := by decide +kernel
theorem dX5_of_77 : decode cX5_of 77 = .ok (.ireturn, 1) := by decide +kernel
theorem dX5_of_78 : decode cX5_of 78 = .ok (.aload_n 0, 1) := by decide +kernel
theorem dX5_of_79 : decode cX5_of 79 = .ok (.iload_n 1, 1) := by decide +kernel
theorem dX5_of_80 : decode cX5_of 80 = .ok (.invokevirtual 112, 3) := by decide +kernel
theorem dX5_of_83 : decode cX5_of 83 = .ok (.ireturn, 1) := by decide +kernel
theorem dX5_of_84 : decode cX5_of 84 = .ok (.aload_n 0, 1) := by decide +kernel
theorem dX5_of_85 : decode cX5_of 85 = .ok (.iload_n 1, 1) := by decide +kernel
theorem dX5_of_86 : decode cX5_of 86 = .ok (.invokevirtual 115, 3) := by decide +kernel
theorem dX5_of_89 : decode cX5_of 89 = .ok (.ifCond .eq 7, 3) := by decide +kernel
theorem dX5_of_92 : decode cX5_of 92 = .ok (.iconst 1, 1) := by decide +kernel
theorem dX5_of_93 : decode cX5_of 93 = .ok (.goto 4, 3) := by decide +kernel
theorem dX5_of_96 : decode cX5_of 96 = .ok (.iconst 0, 1) := by decide +kernel
theorem dX5_of_97 : decode cX5_of 97 = .ok (.ireturn, 1) := by decide +kernel
theorem dX5_of_98 : decode cX5_of 98 = .ok (.aload_n 0, 1) := by decide +kernel
theorem dX5_of_99 : decode cX5_of 99 = .ok (.iload_n 1, 1) := by decide +kernel
theorem dX5_of_100 : decode cX5_of 100 = .ok (.iload_n 2, 1) := by decide +kernel
theorem dX5_of_101 : decode cX5_of 101 = .ok (.invokevirtual 65, 3) := by decide +kernel
theorem dX5_of_104 : decode cX5_of 104 = .ok (.ireturn, 1) := by decide +kernel
theorem dX5_isPart_0 : decode cX5_isPart 0 = .ok (.iload_n 0, 1) := by decide +kernel
theorem dX5_isPart_1 : decode cX5_isPart 1 = .ok (.lookupswitch 44 #[(1, 27), (2, 36)], 27) := by decide +kernel
theorem dX5_isPart_28 : decode cX5_isPart 28 = .ok (.iload_n 1, 1) := by decide +kernel
theorem dX5_isPart_29 : decode cX5_isPart 29 = .ok (.iconst 0, 1) := by decide +kernel
theorem dX5_isPart_30 : decode cX5_isPart 30 = .ok (.sipush 1023, 3) := by decide +kernel
theorem dX5_isPart_33 : decode cX5_isPart 33 = .ok (.invokestatic 49, 3) := by decide +kernel
theorem dX5_isPart_36 : decode cX5_isPart 36 = .ok (.ireturn, 1) := by decide +kernel
theorem dX5_isPart_37 : decode cX5_isPart 37 = .ok (.iload_n 1, 1) := by decide +kernel
theorem dX5_isPart_38 : decode cX5_isPart 38 = .ok (.iconst 0, 1) := by decide +kernel
theorem dX5_isPart_39 : decode cX5_isPart 39 = .ok (.bipush 99, 2) := by decide +kernel
theorem dX5_isPart_41 : decode cX5_isPart 41 = .ok (.invokestatic 49, 3) := by decide +kernel
theorem dX5_isPart_44 : decode cX5_isPart 44 = .ok (.ireturn, 1) := by decide +kernel
theorem dX5_isPart_45 : decode cX5_isPart 45 = .ok (.iload_n 0, 1) := by decide +kernel
theorem dX5_isPart_46 : decode cX5_isPart 46 = .ok (.iconst 3, 1) := by decide +kernel
theorem dX5_isPart_47 : decode cX5_isPart 47 = .ok (.if_icmp .ne 14, 3) := by decide +kernel
theorem dX5_isPart_50 : decode cX5_isPart 50 = .ok (.iload_n 1, 1) := by decide +kernel
theorem dX5_isPart_51 : decode cX5_isPart 51 = .ok (.invokestatic 61, 3) := by decide +kernel
theorem dX5_isPart_54 : decode cX5_isPart 54 = .ok (.ifCond .eq 7, 3) := by decide +kernel
theorem dX5_isPart_57 : decode cX5_isPart 57 = .ok (.iconst 1, 1) := by decide +kernel
theorem dX5_isPart_58 : decode cX5_isPart 58 = .ok (.goto 4, 3) := by decide +kernel
theorem dX5_isPart_61 : decode cX5_isPart 61 = .ok (.iconst 0, 1) := by decide +kernel
theorem dX5_isPart_62 : decode cX5_isPart 62 = .ok (.ireturn, 1) := by decide +kernel
theorem dX5_set_0 : decode cX5_set 0 = .ok (.aload_n 0, 1) := by decide +kernel
theorem dX5_set_1 : decode cX5_set 1 = .ok (.iload_n 1, 1) := by decide +kernel
theorem dX5_set_2 : decode cX5_set 2 = .ok (.invokevirtual 103, 3) := by decide +kernel
theorem dX5_set_5 : decode cX5_set 5 = .ok (.ifCond .eq 27, 3) := by decide +kernel
theorem dX5_set_8 : decode cX5_set 8 = .ok (.iload_n 2, 1) := by decide +kernel
theorem dX5_set_9 : decode cX5_set 9 = .ok (.iload_n 3, 1) := by decide +kernel
theorem dX5_set_10 : decode cX5_set 10 = .ok (.invokestatic 118, 3) := by decide +kernel
theorem dX5_set_13 : decode cX5_set 13 = .ok (.ifCond .eq 19, 3) := by decide +kernel
theorem dX5_set_16 : decode cX5_set 16 = .ok (.aload_n 0, 1) := by decide +kernel
theorem dX5_set_17 : decode cX5_set 17 = .ok (.bipush 19, 2) := by decide +kernel
theorem dX5_set_19 : decode cX5_set 19 = .ok (.iconst 4, 1) := by decide +kernel
theorem dX5_set_20 : decode cX5_set 20 = .ok (.iload_n 1, 1) := by decide +kernel
theorem dX5_set_21 : decode cX5_set 21 = .ok (.imul, 1) := by decide +kernel
theorem dX5_set_22 : decode cX5_set 22 = .ok (.iadd, 1) := by decide +kernel
theorem dX5_set_23 : decode cX5_set 23 = .ok (.iload_n 2, 1) := by decide +kernel
theorem dX5_set_24 : decode cX5_set 24 = .ok (.iadd, 1) := by decide +kernel
theorem dX5_set_25 : decode cX5_set 25 = .ok (.iload_n 3, 1) := by decide +kernel
theorem dX5_set_26 : decode cX5_set 26 = .ok (.invokevirtual 53, 3) := by decide +kernel
theorem dX5_set_29 : decode cX5_set 29 = .ok (.goto 9, 3) := by decide +kernel
theorem dX5_set_32 : decode cX5_set 32 = .ok (.aload_n 0, 1) := by decide +kernel
theorem dX5_set_33 : decode cX5_set 33 = .ok (.ldc 48, 2) := by decide +kernel
theorem dX5_set_35 : decode cX5_set 35 = .ok (.invokevirtual 57, 3) := by decide +kernel
theorem dX5_set_38 : decode cX5_set 38 = .ok (.ireturn, 1) := by decide +kernel
theorem dX5_turn_0 : decode cX5_turn 0 = .ok (.aload_n 0, 1) := by decide +kernel
theorem dX5_turn_1 : decode cX5_turn 1 = .ok (.iload_n 1, 1) := by decide +kernel
theorem dX5_turn_2 : decode cX5_turn 2 = .ok (.invokevirtual 103, 3) := by decide +kernel
theorem dX5_turn_5 : decode cX5_turn 5 = .ok (.ifCond .eq 24, 3) := by decide +kernel
theorem dX5_turn_8 : decode cX5_turn 8 = .ok (.iload_n 2, 1) := by decide +kernel
theorem dX5_turn_9 : decode cX5_turn 9 = .ok (.invokestatic 96, 3) := by decide +kernel
theorem dX5_turn_12 : decode cX5_turn 12 = .ok (.ifCond .eq 17, 3) := by decide +kernel
theorem dX5_turn_15 : decode cX5_turn 15 = .ok (.aload_n 0, 1) := by decide +kernel
theorem dX5_turn_16 : decode cX5_turn 16 = .ok (.bipush 19, 2) := by decide +kernel
theorem dX5_turn_18 : decode cX5_turn 18 = .ok (.iconst 4, 1) := by decide +kernel
theorem dX5_turn_19 : decode cX5_turn 19 = .ok (.iload_n 1, 1) := by decide +kernel
theorem dX5_turn_20 : decode cX5_turn 20 = .ok (.imul, 1) := by decide +kernel
theorem dX5_turn_21 : decode cX5_turn 21 = .ok (.iadd, 1) := by decide +kernel
theorem dX5_turn_22 : decode cX5_turn 22 = .ok (.iload_n 2, 1) := by decide +kernel
theorem dX5_turn_23 : decode cX5_turn 23 = .ok (.invokevirtual 53, 3) := by decide +kernel
theorem dX5_turn_26 : decode cX5_turn 26 = .ok (.goto 9, 3) := by decide +kernel
theorem dX5_turn_29 : decode cX5_turn 29 = .ok (.aload_n 0, 1) := by decide +kernel
theorem dX5_turn_30 : decode cX5_turn 30 = .ok (.ldc 48, 2) := by decide +kernel
theorem dX5_turn_32 : decode cX5_turn 32 = .ok (.invokevirtual 57, 3) := by decide +kernel
theorem dX5_turn_35 : decode cX5_turn 35 = .ok (.ireturn, 1) := by decide +kernel
theorem dX5_as_0 : decode cX5_as 0 = .ok (.aload_n 0, 1) := by decide +kernel
theorem dX5_as_1 : decode cX5_as 1 = .ok (.iload_n 1, 1) := by decide +kernel
theorem dX5_as_2 : decode cX5_as 2 = .ok (.invokevirtual 103, 3) := by decide +kernel
theorem dX5_as_5 : decode cX5_as 5 = .ok (.ifCond .eq 10, 3) := by decide +kernel
theorem dX5_as_8 : decode cX5_as 8 = .ok (.iload_n 2, 1) := by decide +kernel
theorem dX5_as_9 : decode cX5_as 9 = .ok (.invokestatic 96, 3) := by decide +kernel
theorem dX5_as_12 : decode cX5_as 12 = .ok (.ifCond .ne 10, 3) := by decide +kernel
theorem dX5_as_15 : decode cX5_as 15 = .ok (.aload_n 0, 1) := by decide +kernel
theorem dX5_as_16 : decode cX5_as 16 = .ok (.ldc 48, 2) := by decide +kernel
theorem dX5_as_18 : decode cX5_as 18 = .ok (.invokevirtual 57, 3) := by decide +kernel
theorem dX5_as_21 : decode cX5_as 21 = .ok (.ireturn, 1) := by decide +kernel
theorem dX5_as_22 : decode cX5_as 22 = .ok (.aload_n 0, 1) := by decide +kernel
theorem dX5_as_23 : decode cX5_as 23 = .ok (.iload_n 1, 1) := by decide +kernel
theorem dX5_as_24 : decode cX5_as 24 = .ok (.iconst 0, 1) := by decide +kernel
theorem dX5_as_25 : decode cX5_as 25 = .ok (.invokevirtual 65, 3) := by decide +kernel
theorem dX5_as_28 : decode cX5_as 28 = .ok (.istore_n 3, 1) := by decide +kernel
theorem dX5_as_29 : decode cX5_as 29 = .ok (.iload_n 2, 1) := by decide +kernel
theorem dX5_as_30 : decode cX5_as 30 = .ok (.ifCond .eq 28, 3) := by decide +kernel
theorem dX5_as_33 : decode cX5_as 33 = .ok (.iload_n 2, 1) := by decide +kernel
theorem dX5_as_34 : decode cX5_as 34 = .ok (.iload_n 3, 1) := by decide +kernel
theorem dX5_as_35 : decode cX5_as 35 = .ok (.if_icmp .eq 23, 3) := by decide +kernel
theorem dX5_as_38 : decode cX5_as 38 = .ok (.iload_n 2, 1) := by decide +kernel
theorem dX5_as_39 : decode cX5_as 39 = .ok (.iconst 1, 1) := by decide +kernel
theorem dX5_as_40 : decode cX5_as 40 = .ok (.if_icmp .ne 8, 3) := by decide +kernel
theorem dX5_as_43 : decode cX5_as 43 = .ok (.iload_n 3, 1) := by decide +kernel
theorem dX5_as_44 : decode cX5_as 44 = .ok (.iconst 4, 1) := by decide +kernel
theorem dX5_as_45 : decode cX5_as 45 = .ok (.if_icmp .eq 13, 3) := by decide +kernel
theorem dX5_as_48 : decode cX5_as 48 = .ok (.iload_n 2, 1) := by decide +kernel
theorem dX5_as_49 : decode cX5_as 49 = .ok (.iconst 2, 1) := by decide +kernel
theorem dX5_as_50 : decode cX5_as 50 = .ok (.if_icmp .ne 12, 3) := by decide +kernel
theorem dX5_as_53 : decode cX5_as 53 = .ok (.iload_n 3, 1) := by decide +kernel
theorem dX5_as_54 : decode cX5_as 54 = .ok (.iconst 5, 1) := by decide +kernel
theorem dX5_as_55 : decode cX5_as 55 = .ok (.if_icmp .ne 7, 3) := by decide +kernel
theorem dX5_as_58 : decode cX5_as 58 = .ok (.iconst 1, 1) := by decide +kernel
theorem dX5_as_59 : decode cX5_as 59 = .ok (.goto 4, 3) := by decide +kernel
theorem dX5_as_62 : decode cX5_as 62 = .ok (.iconst 0, 1) := by decide +kernel
theorem dX5_as_63 : decode cX5_as 63 = .ok (.istore 4, 2) := by decide +kernel
theorem dX5_as_65 : decode cX5_as 65 = .ok (.iload 4, 2) := by decide +kernel
theorem dX5_as_67 : decode cX5_as 67 = .ok (.ifCond .eq 12, 3) := by decide +kernel
theorem dX5_as_70 : decode cX5_as 70 = .ok (.aload_n 0, 1) := by decide +kernel
theorem dX5_as_71 : decode cX5_as 71 = .ok (.iload_n 1, 1) := by decide +kernel
theorem dX5_as_72 : decode cX5_as 72 = .ok (.iconst 2, 1) := by decide +kernel
theorem dX5_as_73 : decode cX5_as 73 = .ok (.invokevirtual 65, 3) := by decide +kernel
theorem dX5_as_76 : decode cX5_as 76 = .ok (.goto 9, 3) := by decide +kernel
theorem dX5_as_79 : decode cX5_as 79 = .ok (.aload_n 0, 1) := by decide +kernel
theorem dX5_as_80 : decode cX5_as 80 = .ok (.ldc 122, 2) := by decide +kernel
theorem dX5_as_82 : decode cX5_as 82 = .ok (.invokevirtual 57, 3) := by decide +kernel
theorem dX5_as_85 : decode cX5_as 85 = .ok (.ireturn, 1) := by decide +kernel
theorem dX5_least_0 : decode cX5_least 0 = .ok (.iload_n 0, 1) := by decide +kernel
theorem dX5_least_1 : decode cX5_least 1 = .ok (.istore_n 2, 1) := by decide +kernel
theorem dX5_least_2 : decode cX5_least 2 = .ok (.iconst 0, 1) := by decide +kernel
theorem dX5_least_3 : decode cX5_least 3 = .ok (.istore_n 3, 1) := by decide +kernel
theorem dX5_least_4 : decode cX5_least 4 = .ok (.iload_n 3, 1) := by decide +kernel
theorem dX5_least_5 : decode cX5_least 5 = .ok (.iload_n 1, 1) := by decide +kernel
theorem dX5_least_6 : decode cX5_least 6 = .ok (.if_icmp .ge 15, 3) := by decide +kernel
theorem dX5_least_9 : decode cX5_least 9 = .ok (.iload_n 2, 1) := by decide +kernel
theorem dX5_least_10 : decode cX5_least 10 = .ok (.iload_n 2, 1) := by decide +kernel
theorem dX5_least_11 : decode cX5_least 11 = .ok (.iconst 1, 1) := by decide +kernel
theorem dX5_least_12 : decode cX5_least 12 = .ok (.isub, 1) := by decide +kernel
theorem dX5_least_13 : decode cX5_least 13 = .ok (.iand, 1) := by decide +kernel
theorem dX5_least_14 : decode cX5_least 14 = .ok (.istore_n 2, 1) := by decide +kernel
theorem dX5_least_15 : decode cX5_least 15 = .ok (.iinc 3 1, 3) := by decide +kernel
theorem dX5_least_18 : decode cX5_least 18 = .ok (.goto (-14), 3) := by decide +kernel
theorem dX5_least_21 : decode cX5_least 21 = .ok (.iload_n 0, 1) := by decide +kernel
theorem dX5_least_22 : decode cX5_least 22 = .ok (.iload_n 2, 1) := by decide +kernel
theorem dX5_least_23 : decode cX5_least 23 = .ok (.iconst (-1), 1) := by decide +kernel
theorem dX5_least_24 : decode cX5_least 24 = .ok (.ixor, 1) := by decide +kernel
theorem dX5_least_25 : decode cX5_least 25 = .ok (.iand, 1) := by decide +kernel
theorem dX5_least_26 : decode cX5_least 26 = .ok (.ireturn, 1) := by decide +kernel
theorem dX5_goes_0 : decode cX5_goes 0 = .ok (.aload_n 0, 1) := by decide +kernel
theorem dX5_goes_1 : decode cX5_goes 1 = .ok (.iload_n 1, 1) := by decide +kernel
theorem dX5_goes_2 : decode cX5_goes 2 = .ok (.iconst 1, 1) := by decide +kernel
theorem dX5_goes_3 : decode cX5_goes 3 = .ok (.invokevirtual 65, 3) := by decide +kernel
theorem dX5_goes_6 : decode cX5_goes 6 = .ok (.istore_n 3, 1) := by decide +kernel
theorem dX5_goes_7 : decode cX5_goes 7 = .ok (.aload_n 0, 1) := by decide +kernel
theorem dX5_goes_8 : decode cX5_goes 8 = .ok (.iload_n 2, 1) := by decide +kernel
theorem dX5_goes_9 : decode cX5_goes 9 = .ok (.iconst 1, 1) := by decide +kernel
theorem dX5_goes_10 : decode cX5_goes 10 = .ok (.invokevirtual 71, 3) := by decide +kernel
theorem dX5_goes_13 : decode cX5_goes 13 = .ok (.istore 4, 2) := by decide +kernel
theorem dX5_goes_15 : decode cX5_goes 15 = .ok (.iload 4, 2) := by decide +kernel
theorem dX5_goes_17 : decode cX5_goes 17 = .ok (.iload_n 3, 1) := by decide +kernel
theorem dX5_goes_18 : decode cX5_goes 18 = .ok (.iconst (-1), 1) := by decide +kernel
theorem dX5_goes_19 : decode cX5_goes 19 = .ok (.ixor, 1) := by decide +kernel
theorem dX5_goes_20 : decode cX5_goes 20 = .ok (.iand, 1) := by decide +kernel
theorem dX5_goes_21 : decode cX5_goes 21 = .ok (.aload_n 0, 1) := by decide +kernel
theorem dX5_goes_22 : decode cX5_goes 22 = .ok (.iload_n 1, 1) := by decide +kernel
theorem dX5_goes_23 : decode cX5_goes 23 = .ok (.invokevirtual 109, 3) := by decide +kernel
theorem dX5_goes_26 : decode cX5_goes 26 = .ok (.invokestatic 123, 3) := by decide +kernel
theorem dX5_goes_29 : decode cX5_goes 29 = .ok (.istore 5, 2) := by decide +kernel
theorem dX5_goes_31 : decode cX5_goes 31 = .ok (.iload_n 3, 1) := by decide +kernel
theorem dX5_goes_32 : decode cX5_goes 32 = .ok (.iload 4, 2) := by decide +kernel
theorem dX5_goes_34 : decode cX5_goes 34 = .ok (.iconst (-1), 1) := by decide +kernel
theorem dX5_goes_35 : decode cX5_goes 35 = .ok (.ixor, 1) := by decide +kernel
theorem dX5_goes_36 : decode cX5_goes 36 = .ok (.iand, 1) := by decide +kernel
theorem dX5_goes_37 : decode cX5_goes 37 = .ok (.aload_n 0, 1) := by decide +kernel
theorem dX5_goes_38 : decode cX5_goes 38 = .ok (.iload_n 1, 1) := by decide +kernel
theorem dX5_goes_39 : decode cX5_goes 39 = .ok (.invokevirtual 112, 3) := by decide +kernel
theorem dX5_goes_42 : decode cX5_goes 42 = .ok (.invokestatic 123, 3) := by decide +kernel
theorem dX5_goes_45 : decode cX5_goes 45 = .ok (.istore 6, 2) := by decide +kernel
theorem dX5_goes_47 : decode cX5_goes 47 = .ok (.aload_n 0, 1) := by decide +kernel
theorem dX5_goes_48 : decode cX5_goes 48 = .ok (.iload_n 1, 1) := by decide +kernel
theorem dX5_goes_49 : decode cX5_goes 49 = .ok (.invokevirtual 106, 3) := by decide +kernel
theorem dX5_goes_52 : decode cX5_goes 52 = .ok (.aload_n 0, 1) := by decide +kernel
theorem dX5_goes_53 : decode cX5_goes 53 = .ok (.iload_n 2, 1) := by decide +kernel
theorem dX5_goes_54 : decode cX5_goes 54 = .ok (.iconst 0, 1) := by decide +kernel
theorem dX5_goes_55 : decode cX5_goes 55 = .ok (.invokevirtual 71, 3) := by decide +kernel
theorem dX5_goes_58 : decode cX5_goes 58 = .ok (.if_icmp .ge 11, 3) := by decide +kernel
theorem dX5_goes_61 : decode cX5_goes 61 = .ok (.aload_n 0, 1) := by decide +kernel
theorem dX5_goes_62 : decode cX5_goes 62 = .ok (.iload_n 1, 1) := by decide +kernel
theorem dX5_goes_63 : decode cX5_goes 63 = .ok (.invokevirtual 106, 3) := by decide +kernel
theorem dX5_goes_66 : decode cX5_goes 66 = .ok (.goto 9, 3) := by decide +kernel
theorem dX5_goes_69 : decode cX5_goes 69 = .ok (.aload_n 0, 1) := by decide +kernel
theorem dX5_goes_70 : decode cX5_goes 70 = .ok (.iload_n 2, 1) := by decide +kernel
theorem dX5_goes_71 : decode cX5_goes 71 = .ok (.iconst 0, 1) := by decide +kernel
theorem dX5_goes_72 : decode cX5_goes 72 = .ok (.invokevirtual 71, 3) := by decide +kernel
theorem dX5_goes_75 : decode cX5_goes 75 = .ok (.istore 7, 2) := by decide +kernel
theorem dX5_goes_77 : decode cX5_goes 77 = .ok (.aload_n 0, 1) := by decide +kernel
theorem dX5_goes_78 : decode cX5_goes 78 = .ok (.iload_n 1, 1) := by decide +kernel
theorem dX5_goes_79 : decode cX5_goes 79 = .ok (.invokevirtual 115, 3) := by decide +kernel
theorem dX5_goes_82 : decode cX5_goes 82 = .ok (.istore 8, 2) := by decide +kernel
theorem dX5_goes_84 : decode cX5_goes 84 = .ok (.aload_n 0, 1) := by decide +kernel
theorem dX5_goes_85 : decode cX5_goes 85 = .ok (.iload_n 1, 1) := by decide +kernel
theorem dX5_goes_86 : decode cX5_goes 86 = .ok (.iconst 1, 1) := by decide +kernel
theorem dX5_goes_87 : decode cX5_goes 87 = .ok (.iload 8, 2) := by decide +kernel
theorem dX5_goes_89 : decode cX5_goes 89 = .ok (.ifCond .eq 7, 3) := by decide +kernel
theorem dX5_goes_92 : decode cX5_goes 92 = .ok (.iload_n 3, 1) := by decide +kernel
theorem dX5_goes_93 : decode cX5_goes 93 = .ok (.goto 9, 3) := by decide +kernel
theorem dX5_goes_96 : decode cX5_goes 96 = .ok (.iload_n 3, 1) := by decide +kernel
theorem dX5_goes_97 : decode cX5_goes 97 = .ok (.iload 6, 2) := by decide +kernel
theorem dX5_goes_99 : decode cX5_goes 99 = .ok (.iconst (-1), 1) := by decide +kernel
theorem dX5_goes_100 : decode cX5_goes 100 = .ok (.ixor, 1) := by decide +kernel
theorem dX5_goes_101 : decode cX5_goes 101 = .ok (.iand, 1) := by decide +kernel
theorem dX5_goes_102 : decode cX5_goes 102 = .ok (.iload 5, 2) := by decide +kernel
theorem dX5_goes_104 : decode cX5_goes 104 = .ok (.ior, 1) := by decide +kernel
theorem dX5_goes_105 : decode cX5_goes 105 = .ok (.invokevirtual 93, 3) := by decide +kernel
theorem dX5_goes_108 : decode cX5_goes 108 = .ok (.aload_n 0, 1) := by decide +kernel
theorem dX5_goes_109 : decode cX5_goes 109 = .ok (.iload_n 2, 1) := by decide +kernel
theorem dX5_goes_110 : decode cX5_goes 110 = .ok (.iconst 1, 1) := by decide +kernel
theorem dX5_goes_111 : decode cX5_goes 111 = .ok (.iload 4, 2) := by decide +kernel
theorem dX5_goes_113 : decode cX5_goes 113 = .ok (.iload 5, 2) := by decide +kernel
theorem dX5_goes_115 : decode cX5_goes 115 = .ok (.iconst (-1), 1) := by decide +kernel
theorem dX5_goes_116 : decode cX5_goes 116 = .ok (.ixor, 1) := by decide +kernel
theorem dX5_goes_117 : decode cX5_goes 117 = .ok (.iand, 1) := by decide +kernel
theorem dX5_goes_118 : decode cX5_goes 118 = .ok (.iload 6, 2) := by decide +kernel
theorem dX5_goes_120 : decode cX5_goes 120 = .ok (.ior, 1) := by decide +kernel
theorem dX5_goes_121 : decode cX5_goes 121 = .ok (.invokevirtual 44, 3) := by decide +kernel
theorem dX5_goes_124 : decode cX5_goes 124 = .ok (.aload_n 0, 1) := by decide +kernel
theorem dX5_goes_125 : decode cX5_goes 125 = .ok (.iload_n 2, 1) := by decide +kernel
theorem dX5_goes_126 : decode cX5_goes 126 = .ok (.iconst 0, 1) := by decide +kernel
theorem dX5_goes_127 : decode cX5_goes 127 = .ok (.aload_n 0, 1) := by decide +kernel
theorem dX5_goes_128 : decode cX5_goes 128 = .ok (.iload_n 2, 1) := by decide +kernel
theorem dX5_goes_129 : decode cX5_goes 129 = .ok (.iconst 0, 1) := by decide +kernel
theorem dX5_goes_130 : decode cX5_goes 130 = .ok (.invokevirtual 71, 3) := by decide +kernel
theorem dX5_goes_133 : decode cX5_goes 133 = .ok (.iload 7, 2) := by decide +kernel
theorem dX5_goes_135 : decode cX5_goes 135 = .ok (.isub, 1) := by decide +kernel
theorem dX5_goes_136 : decode cX5_goes 136 = .ok (.invokevirtual 44, 3) := by decide +kernel
theorem dX5_goes_139 : decode cX5_goes 139 = .ok (.aload_n 0, 1) := by decide +kernel
theorem dX5_goes_140 : decode cX5_goes 140 = .ok (.iload_n 1, 1) := by decide +kernel
theorem dX5_goes_141 : decode cX5_goes 141 = .ok (.iconst 2, 1) := by decide +kernel
theorem dX5_goes_142 : decode cX5_goes 142 = .ok (.aload_n 0, 1) := by decide +kernel
theorem dX5_goes_143 : decode cX5_goes 143 = .ok (.iload_n 1, 1) := by decide +kernel
theorem dX5_goes_144 : decode cX5_goes 144 = .ok (.iconst 2, 1) := by decide +kernel
theorem dX5_goes_145 : decode cX5_goes 145 = .ok (.invokevirtual 65, 3) := by decide +kernel
theorem dX5_goes_148 : decode cX5_goes 148 = .ok (.iload 7, 2) := by decide +kernel
theorem dX5_goes_150 : decode cX5_goes 150 = .ok (.iconst 2, 1) := by decide +kernel
theorem dX5_goes_151 : decode cX5_goes 151 = .ok (.idiv, 1) := by decide +kernel
theorem dX5_goes_152 : decode cX5_goes 152 = .ok (.iadd, 1) := by decide +kernel
theorem dX5_goes_153 : decode cX5_goes 153 = .ok (.iconst 0, 1) := by decide +kernel
theorem dX5_goes_154 : decode cX5_goes 154 = .ok (.bipush 99, 2) := by decide +kernel
theorem dX5_goes_156 : decode cX5_goes 156 = .ok (.invokestatic 126, 3) := by decide +kernel
theorem dX5_goes_159 : decode cX5_goes 159 = .ok (.invokevirtual 93, 3) := by decide +kernel
theorem dX5_goes_162 : decode cX5_goes 162 = .ok (.iload 7, 2) := by decide +kernel
theorem dX5_goes_164 : decode cX5_goes 164 = .ok (.ireturn, 1) := by decide +kernel
theorem dX5_through_0 : decode cX5_through 0 = .ok (.aload_n 0, 1) := by decide +kernel
theorem dX5_through_1 : decode cX5_through 1 = .ok (.iload_n 1, 1) := by decide +kernel
theorem dX5_through_2 : decode cX5_through 2 = .ok (.invokevirtual 103, 3) := by decide +kernel
theorem dX5_through_5 : decode cX5_through 5 = .ok (.ifCond .eq 19, 3) := by decide +kernel
theorem dX5_through_8 : decode cX5_through 8 = .ok (.iload_n 2, 1) := by decide +kernel
theorem dX5_through_9 : decode cX5_through 9 = .ok (.invokestatic 61, 3) := by decide +kernel
theorem dX5_through_12 : decode cX5_through 12 = .ok (.ifCond .eq 12, 3) := by decide +kernel
theorem dX5_through_15 : decode cX5_through 15 = .ok (.aload_n 0, 1) := by decide +kernel
theorem dX5_through_16 : decode cX5_through 16 = .ok (.iload_n 1, 1) := by decide +kernel
theorem dX5_through_17 : decode cX5_through 17 = .ok (.iload_n 2, 1) := by decide +kernel
theorem dX5_through_18 : decode cX5_through 18 = .ok (.invokevirtual 130, 3) := by decide +kernel
theorem dX5_through_21 : decode cX5_through 21 = .ok (.goto 9, 3) := by decide +kernel
theorem dX5_through_24 : decode cX5_through 24 = .ok (.aload_n 0, 1) := by decide +kernel
theorem dX5_through_25 : decode cX5_through 25 = .ok (.ldc 48, 2) := by decide +kernel
theorem dX5_through_27 : decode cX5_through 27 = .ok (.invokevirtual 57, 3) := by decide +kernel
theorem dX5_through_30 : decode cX5_through 30 = .ok (.ireturn, 1) := by decide +kernel
theorem dX5_washes_0 : decode cX5_washes 0 = .ok (.aload_n 0, 1) := by decide +kernel
theorem dX5_washes_1 : decode cX5_washes 1 = .ok (.iload_n 1, 1) := by decide +kernel
theorem dX5_washes_2 : decode cX5_washes 2 = .ok (.iconst 1, 1) := by decide +kernel
theorem dX5_washes_3 : decode cX5_washes 3 = .ok (.invokevirtual 65, 3) := by decide +kernel
theorem dX5_washes_6 : decode cX5_washes 6 = .ok (.istore_n 2, 1) := by decide +kernel
theorem dX5_washes_7 : decode cX5_washes 7 = .ok (.iconst 0, 1) := by decide +kernel
theorem dX5_washes_8 : decode cX5_washes 8 = .ok (.istore_n 3, 1) := by decide +kernel
theorem dX5_washes_9 : decode cX5_washes 9 = .ok (.iload_n 3, 1) := by decide +kernel
theorem dX5_washes_10 : decode cX5_washes 10 = .ok (.bipush 8, 2) := by decide +kernel
theorem dX5_washes_12 : decode cX5_washes 12 = .ok (.if_icmp .ge 23, 3) := by decide +kernel
theorem dX5_washes_15 : decode cX5_washes 15 = .ok (.aload_n 0, 1) := by decide +kernel
theorem dX5_washes_16 : decode cX5_washes 16 = .ok (.iload_n 3, 1) := by decide +kernel
theorem dX5_washes_17 : decode cX5_washes 17 = .ok (.iconst 1, 1) := by decide +kernel
theorem dX5_washes_18 : decode cX5_washes 18 = .ok (.aload_n 0, 1) := by decide +kernel
theorem dX5_washes_19 : decode cX5_washes 19 = .ok (.iload_n 3, 1) := by decide +kernel
theorem dX5_washes_20 : decode cX5_washes 20 = .ok (.iconst 1, 1) := by decide +kernel
theorem dX5_washes_21 : decode cX5_washes 21 = .ok (.invokevirtual 71, 3) := by decide +kernel
theorem dX5_washes_24 : decode cX5_washes 24 = .ok (.iload_n 2, 1) := by decide +kernel
theorem dX5_washes_25 : decode cX5_washes 25 = .ok (.ior, 1) := by decide +kernel
theorem dX5_washes_26 : decode cX5_washes 26 = .ok (.invokevirtual 44, 3) := by decide +kernel
theorem dX5_washes_29 : decode cX5_washes 29 = .ok (.iinc 3 1, 3) := by decide +kernel
theorem dX5_washes_32 : decode cX5_washes 32 = .ok (.goto (-23), 3) := by decide +kernel
theorem dX5_washes_35 : decode cX5_washes 35 = .ok (.aload_n 0, 1) := by decide +kernel
theorem dX5_washes_36 : decode cX5_washes 36 = .ok (.iload_n 1, 1) := by decide +kernel
theorem dX5_washes_37 : decode cX5_washes 37 = .ok (.iconst 1, 1) := by decide +kernel
theorem dX5_washes_38 : decode cX5_washes 38 = .ok (.iconst 0, 1) := by decide +kernel
theorem dX5_washes_39 : decode cX5_washes 39 = .ok (.invokevirtual 93, 3) := by decide +kernel
theorem dX5_washes_42 : decode cX5_washes 42 = .ok (.aload_n 0, 1) := by decide +kernel
theorem dX5_washes_43 : decode cX5_washes 43 = .ok (.iload_n 1, 1) := by decide +kernel
theorem dX5_washes_44 : decode cX5_washes 44 = .ok (.iconst 2, 1) := by decide +kernel
theorem dX5_washes_45 : decode cX5_washes 45 = .ok (.iconst 0, 1) := by decide +kernel
theorem dX5_washes_46 : decode cX5_washes 46 = .ok (.invokevirtual 93, 3) := by decide +kernel
theorem dX5_washes_49 : decode cX5_washes 49 = .ok (.iload_n 2, 1) := by decide +kernel
theorem dX5_washes_50 : decode cX5_washes 50 = .ok (.ireturn, 1) := by decide +kernel
theorem dX5_wash_0 : decode cX5_wash 0 = .ok (.aload_n 0, 1) := by decide +kernel
theorem dX5_wash_1 : decode cX5_wash 1 = .ok (.iload_n 1, 1) := by decide +kernel
theorem dX5_wash_2 : decode cX5_wash 2 = .ok (.invokevirtual 103, 3) := by decide +kernel
theorem dX5_wash_5 : decode cX5_wash 5 = .ok (.ifCond .eq 11, 3) := by decide +kernel
theorem dX5_wash_8 : decode cX5_wash 8 = .ok (.aload_n 0, 1) := by decide +kernel
theorem dX5_wash_9 : decode cX5_wash 9 = .ok (.iload_n 1, 1) := by decide +kernel
theorem dX5_wash_10 : decode cX5_wash 10 = .ok (.invokevirtual 133, 3) := by decide +kernel
theorem dX5_wash_13 : decode cX5_wash 13 = .ok (.goto 9, 3) := by decide +kernel
theorem dX5_wash_16 : decode cX5_wash 16 = .ok (.aload_n 0, 1) := by decide +kernel
theorem dX5_wash_17 : decode cX5_wash 17 = .ok (.ldc 48, 2) := by decide +kernel
theorem dX5_wash_19 : decode cX5_wash 19 = .ok (.invokevirtual 57, 3) := by decide +kernel
theorem dX5_wash_22 : decode cX5_wash 22 = .ok (.ireturn, 1) := by decide +kernel
theorem dX5_shakes_0 : decode cX5_shakes 0 = .ok (.aload_n 0, 1) := by decide +kernel
theorem dX5_shakes_1 : decode cX5_shakes 1 = .ok (.iload_n 1, 1) := by decide +kernel
theorem dX5_shakes_2 : decode cX5_shakes 2 = .ok (.iconst 1, 1) := by decide +kernel
theorem dX5_shakes_3 : decode cX5_shakes 3 = .ok (.invokevirtual 65, 3) := by decide +kernel
theorem dX5_shakes_6 : decode cX5_shakes 6 = .ok (.istore_n 2, 1) := by decide +kernel
theorem dX5_shakes_7 : decode cX5_shakes 7 = .ok (.aload_n 0, 1) := by decide +kernel
theorem dX5_shakes_8 : decode cX5_shakes 8 = .ok (.iload_n 1, 1) := by decide +kernel
theorem dX5_shakes_9 : decode cX5_shakes 9 = .ok (.invokevirtual 68, 3) := by decide +kernel
theorem dX5_shakes_12 : decode cX5_shakes 12 = .ok (.iconst 1, 1) := by decide +kernel
theorem dX5_shakes_13 : decode cX5_shakes 13 = .ok (.iadd, 1) := by decide +kernel
theorem dX5_shakes_14 : decode cX5_shakes 14 = .ok (.bipush 8, 2) := by decide +kernel
theorem dX5_shakes_16 : decode cX5_shakes 16 = .ok (.irem, 1) := by decide +kernel
theorem dX5_shakes_17 : decode cX5_shakes 17 = .ok (.istore_n 3, 1) := by decide +kernel
theorem dX5_shakes_18 : decode cX5_shakes 18 = .ok (.aload_n 0, 1) := by decide +kernel
theorem dX5_shakes_19 : decode cX5_shakes 19 = .ok (.iload_n 3, 1) := by decide +kernel
theorem dX5_shakes_20 : decode cX5_shakes 20 = .ok (.iconst 1, 1) := by decide +kernel
theorem dX5_shakes_21 : decode cX5_shakes 21 = .ok (.aload_n 0, 1) := by decide +kernel
theorem dX5_shakes_22 : decode cX5_shakes 22 = .ok (.iload_n 3, 1) := by decide +kernel
theorem dX5_shakes_23 : decode cX5_shakes 23 = .ok (.iconst 1, 1) := by decide +kernel
theorem dX5_shakes_24 : decode cX5_shakes 24 = .ok (.invokevirtual 71, 3) := by decide +kernel
theorem dX5_shakes_27 : decode cX5_shakes 27 = .ok (.iload_n 2, 1) := by decide +kernel
theorem dX5_shakes_28 : decode cX5_shakes 28 = .ok (.ior, 1) := by decide +kernel
theorem dX5_shakes_29 : decode cX5_shakes 29 = .ok (.invokevirtual 44, 3) := by decide +kernel
theorem dX5_shakes_32 : decode cX5_shakes 32 = .ok (.aload_n 0, 1) := by decide +kernel
theorem dX5_shakes_33 : decode cX5_shakes 33 = .ok (.iload_n 1, 1) := by decide +kernel
theorem dX5_shakes_34 : decode cX5_shakes 34 = .ok (.iconst 1, 1) := by decide +kernel
theorem dX5_shakes_35 : decode cX5_shakes 35 = .ok (.iconst 0, 1) := by decide +kernel
theorem dX5_shakes_36 : decode cX5_shakes 36 = .ok (.invokevirtual 93, 3) := by decide +kernel
theorem dX5_shakes_39 : decode cX5_shakes 39 = .ok (.aload_n 0, 1) := by decide +kernel
theorem dX5_shakes_40 : decode cX5_shakes 40 = .ok (.iload_n 1, 1) := by decide +kernel
theorem dX5_shakes_41 : decode cX5_shakes 41 = .ok (.iconst 2, 1) := by decide +kernel
theorem dX5_shakes_42 : decode cX5_shakes 42 = .ok (.aload_n 0, 1) := by decide +kernel
theorem dX5_shakes_43 : decode cX5_shakes 43 = .ok (.iload_n 1, 1) := by decide +kernel
theorem dX5_shakes_44 : decode cX5_shakes 44 = .ok (.iconst 2, 1) := by decide +kernel
theorem dX5_shakes_45 : decode cX5_shakes 45 = .ok (.invokevirtual 65, 3) := by decide +kernel
theorem dX5_shakes_48 : decode cX5_shakes 48 = .ok (.iconst 2, 1) := by decide +kernel
theorem dX5_shakes_49 : decode cX5_shakes 49 = .ok (.idiv, 1) := by decide +kernel
theorem dX5_shakes_50 : decode cX5_shakes 50 = .ok (.invokevirtual 93, 3) := by decide +kernel
theorem dX5_shakes_53 : decode cX5_shakes 53 = .ok (.iload_n 2, 1) := by decide +kernel
theorem dX5_shakes_54 : decode cX5_shakes 54 = .ok (.ireturn, 1) := by decide +kernel
theorem dX5_shake_0 : decode cX5_shake 0 = .ok (.aload_n 0, 1) := by decide +kernel
theorem dX5_shake_1 : decode cX5_shake 1 = .ok (.iload_n 1, 1) := by decide +kernel
theorem dX5_shake_2 : decode cX5_shake 2 = .ok (.invokevirtual 103, 3) := by decide +kernel
theorem dX5_shake_5 : decode cX5_shake 5 = .ok (.ifCond .eq 11, 3) := by decide +kernel
theorem dX5_shake_8 : decode cX5_shake 8 = .ok (.aload_n 0, 1) := by decide +kernel
theorem dX5_shake_9 : decode cX5_shake 9 = .ok (.iload_n 1, 1) := by decide +kernel
theorem dX5_shake_10 : decode cX5_shake 10 = .ok (.invokevirtual 136, 3) := by decide +kernel
theorem dX5_shake_13 : decode cX5_shake 13 = .ok (.goto 9, 3) := by decide +kernel
theorem dX5_shake_16 : decode cX5_shake 16 = .ok (.aload_n 0, 1) := by decide +kernel
theorem dX5_shake_17 : decode cX5_shake 17 = .ok (.ldc 48, 2) := by decide +kernel
theorem dX5_shake_19 : decode cX5_shake 19 = .ok (.invokevirtual 57, 3) := by decide +kernel
theorem dX5_shake_22 : decode cX5_shake 22 = .ok (.ireturn, 1) := by decide +kernel
theorem dX5_oneDay_0 : decode cX5_oneDay 0 = .ok (.iconst 0, 1) := by decide +kernel
theorem dX5_oneDay_1 : decode cX5_oneDay 1 = .ok (.istore_n 1, 1) := by decide +kernel
theorem dX5_oneDay_2 : decode cX5_oneDay 2 = .ok (.iload_n 1, 1) := by decide +kernel
theorem dX5_oneDay_3 : decode cX5_oneDay 3 = .ok (.aload_n 0, 1) := by decide +kernel
theorem dX5_oneDay_4 : decode cX5_oneDay 4 = .ok (.getfield 7, 3) := by decide +kernel
theorem dX5_oneDay_7 : decode cX5_oneDay 7 = .ok (.iconst 2, 1) := by decide +kernel
theorem dX5_oneDay_8 : decode cX5_oneDay 8 = .ok (.iaload, 1) := by decide +kernel
theorem dX5_oneDay_9 : decode cX5_oneDay 9 = .ok (.if_icmp .ge 20, 3) := by decide +kernel
theorem dX5_oneDay_12 : decode cX5_oneDay 12 = .ok (.aload_n 0, 1) := by decide +kernel
theorem dX5_oneDay_13 : decode cX5_oneDay 13 = .ok (.iload_n 1, 1) := by decide +kernel
theorem dX5_oneDay_14 : decode cX5_oneDay 14 = .ok (.aload_n 0, 1) := by decide +kernel
theorem dX5_oneDay_15 : decode cX5_oneDay 15 = .ok (.iload_n 1, 1) := by decide +kernel
theorem dX5_oneDay_16 : decode cX5_oneDay 16 = .ok (.invokevirtual 68, 3) := by decide +kernel
theorem dX5_oneDay_19 : decode cX5_oneDay 19 = .ok (.invokevirtual 130, 3) := by decide +kernel
theorem dX5_oneDay_22 : decode cX5_oneDay 22 = .ok (.pop, 1) := by decide +kernel
theorem dX5_oneDay_23 : decode cX5_oneDay 23 = .ok (.iinc 1 1, 3) := by decide +kernel
theorem dX5_oneDay_26 : decode cX5_oneDay 26 = .ok (.goto (-24), 3) := by decide +kernel
theorem dX5_oneDay_29 : decode cX5_oneDay 29 = .ok (.iconst 0, 1) := by decide +kernel
theorem dX5_oneDay_30 : decode cX5_oneDay 30 = .ok (.istore_n 1, 1) := by decide +kernel
theorem dX5_oneDay_31 : decode cX5_oneDay 31 = .ok (.iload_n 1, 1) := by decide +kernel
theorem dX5_oneDay_32 : decode cX5_oneDay 32 = .ok (.bipush 8, 2) := by decide +kernel
theorem dX5_oneDay_34 : decode cX5_oneDay 34 = .ok (.if_icmp .ge 34, 3) := by decide +kernel
theorem dX5_oneDay_37 : decode cX5_oneDay 37 = .ok (.aload_n 0, 1) := by decide +kernel
theorem dX5_oneDay_38 : decode cX5_oneDay 38 = .ok (.iload_n 1, 1) := by decide +kernel
theorem dX5_oneDay_39 : decode cX5_oneDay 39 = .ok (.iconst 0, 1) := by decide +kernel
theorem dX5_oneDay_40 : decode cX5_oneDay 40 = .ok (.aload_n 0, 1) := by decide +kernel
theorem dX5_oneDay_41 : decode cX5_oneDay 41 = .ok (.iload_n 1, 1) := by decide +kernel
theorem dX5_oneDay_42 : decode cX5_oneDay 42 = .ok (.iconst 0, 1) := by decide +kernel
theorem dX5_oneDay_43 : decode cX5_oneDay 43 = .ok (.invokevirtual 71, 3) := by decide +kernel
theorem dX5_oneDay_46 : decode cX5_oneDay 46 = .ok (.aload_n 0, 1) := by decide +kernel
theorem dX5_oneDay_47 : decode cX5_oneDay 47 = .ok (.getfield 7, 3) := by decide +kernel
theorem dX5_oneDay_50 : decode cX5_oneDay 50 = .ok (.iconst 1, 1) := by decide +kernel
theorem dX5_oneDay_51 : decode cX5_oneDay 51 = .ok (.iaload, 1) := by decide +kernel
theorem dX5_oneDay_52 : decode cX5_oneDay 52 = .ok (.iadd, 1) := by decide +kernel
theorem dX5_oneDay_53 : decode cX5_oneDay 53 = .ok (.iconst 0, 1) := by decide +kernel
theorem dX5_oneDay_54 : decode cX5_oneDay 54 = .ok (.bipush 99, 2) := by decide +kernel
theorem dX5_oneDay_56 : decode cX5_oneDay 56 = .ok (.invokestatic 126, 3) := by decide +kernel
theorem dX5_oneDay_59 : decode cX5_oneDay 59 = .ok (.invokevirtual 44, 3) := by decide +kernel
theorem dX5_oneDay_62 : decode cX5_oneDay 62 = .ok (.iinc 1 1, 3) := by decide +kernel
theorem dX5_oneDay_65 : decode cX5_oneDay 65 = .ok (.goto (-34), 3) := by decide +kernel
theorem dX5_oneDay_68 : decode cX5_oneDay 68 = .ok (.aload_n 0, 1) := by decide +kernel
theorem dX5_oneDay_69 : decode cX5_oneDay 69 = .ok (.getfield 7, 3) := by decide +kernel
theorem dX5_oneDay_72 : decode cX5_oneDay 72 = .ok (.iconst 0, 1) := by decide +kernel
theorem dX5_oneDay_73 : decode cX5_oneDay 73 = .ok (.dup2, 1) := by decide +kernel
theorem dX5_oneDay_74 : decode cX5_oneDay 74 = .ok (.iaload, 1) := by decide +kernel
theorem dX5_oneDay_75 : decode cX5_oneDay 75 = .ok (.iconst 1, 1) := by decide +kernel
theorem dX5_oneDay_76 : decode cX5_oneDay 76 = .ok (.iadd, 1) := by decide +kernel
theorem dX5_oneDay_77 : decode cX5_oneDay 77 = .ok (.iastore, 1) := by decide +kernel
theorem dX5_oneDay_78 : decode cX5_oneDay 78 = .ok (.return_, 1) := by decide +kernel
theorem dX5_passes_0 : decode cX5_passes 0 = .ok (.iconst 0, 1) := by decide +kernel
theorem dX5_passes_1 : decode cX5_passes 1 = .ok (.istore_n 2, 1) := by decide +kernel
theorem dX5_passes_2 : decode cX5_passes 2 = .ok (.iload_n 2, 1) := by decide +kernel
theorem dX5_passes_3 : decode cX5_passes 3 = .ok (.iload_n 1, 1) := by decide +kernel
theorem dX5_passes_4 : decode cX5_passes 4 = .ok (.if_icmp .ge 13, 3) := by decide +kernel
theorem dX5_passes_7 : decode cX5_passes 7 = .ok (.aload_n 0, 1) := by decide +kernel
theorem dX5_passes_8 : decode cX5_passes 8 = .ok (.invokevirtual 139, 3) := by decide +kernel
theorem dX5_passes_11 : decode cX5_passes 11 = .ok (.iinc 2 1, 3) := by decide +kernel
theorem dX5_passes_14 : decode cX5_passes 14 = .ok (.goto (-12), 3) := by decide +kernel
theorem dX5_passes_17 : decode cX5_passes 17 = .ok (.return_, 1) := by decide +kernel
theorem dX5_days_0 : decode cX5_days 0 = .ok (.iload_n 1, 1) := by decide +kernel
theorem dX5_days_1 : decode cX5_days 1 = .ok (.iconst 1, 1) := by decide +kernel
theorem dX5_days_2 : decode cX5_days 2 = .ok (.bipush 60, 2) := by decide +kernel
theorem dX5_days_4 : decode cX5_days 4 = .ok (.invokestatic 49, 3) := by decide +kernel
theorem dX5_days_7 : decode cX5_days 7 = .ok (.ifCond .ne 10, 3) := by decide +kernel
theorem dX5_days_10 : decode cX5_days 10 = .ok (.aload_n 0, 1) := by decide +kernel
theorem dX5_days_11 : decode cX5_days 11 = .ok (.ldc 48, 2) := by decide +kernel
theorem dX5_days_13 : decode cX5_days 13 = .ok (.invokevirtual 57, 3) := by decide +kernel
theorem dX5_days_16 : decode cX5_days 16 = .ok (.ireturn, 1) := by decide +kernel
theorem dX5_days_17 : decode cX5_days 17 = .ok (.aload_n 0, 1) := by decide +kernel
theorem dX5_days_18 : decode cX5_days 18 = .ok (.getfield 7, 3) := by decide +kernel
theorem dX5_days_21 : decode cX5_days 21 = .ok (.iconst 0, 1) := by decide +kernel
theorem dX5_days_22 : decode cX5_days 22 = .ok (.iaload, 1) := by decide +kernel
theorem dX5_days_23 : decode cX5_days 23 = .ok (.iload_n 1, 1) := by decide +kernel
theorem dX5_days_24 : decode cX5_days 24 = .ok (.iadd, 1) := by decide +kernel
theorem dX5_days_25 : decode cX5_days 25 = .ok (.sipush 9999, 3) := by decide +kernel
theorem dX5_days_28 : decode cX5_days 28 = .ok (.if_icmp .le 10, 3) := by decide +kernel
theorem dX5_days_31 : decode cX5_days 31 = .ok (.aload_n 0, 1) := by decide +kernel
theorem dX5_days_32 : decode cX5_days 32 = .ok (.ldc 142, 2) := by decide +kernel
theorem dX5_days_34 : decode cX5_days 34 = .ok (.invokevirtual 57, 3) := by decide +kernel
theorem dX5_days_37 : decode cX5_days 37 = .ok (.ireturn, 1) := by decide +kernel
theorem dX5_days_38 : decode cX5_days 38 = .ok (.aload_n 0, 1) := by decide +kernel
theorem dX5_days_39 : decode cX5_days 39 = .ok (.iload_n 1, 1) := by decide +kernel
theorem dX5_days_40 : decode cX5_days 40 = .ok (.invokevirtual 143, 3) := by decide +kernel
theorem dX5_days_43 : decode cX5_days 43 = .ok (.aload_n 0, 1) := by decide +kernel
theorem dX5_days_44 : decode cX5_days 44 = .ok (.invokevirtual 80, 3) := by decide +kernel
theorem dX5_days_47 : decode cX5_days 47 = .ok (.ireturn, 1) := by decide +kernel
theorem dX5_behind_0 : decode cX5_behind 0 = .ok (.aload_n 0, 1) := by decide +kernel
theorem dX5_behind_1 : decode cX5_behind 1 = .ok (.iconst 1, 1) := by decide +kernel
theorem dX5_behind_2 : decode cX5_behind 2 = .ok (.aload_n 0, 1) := by decide +kernel
theorem dX5_behind_3 : decode cX5_behind 3 = .ok (.getfield 16, 3) := by decide +kernel
theorem dX5_behind_6 : decode cX5_behind 6 = .ok (.invokevirtual 147, 3) := by decide +kernel
theorem dX5_behind_9 : decode cX5_behind 9 = .ok (.aload_n 0, 1) := by decide +kernel
theorem dX5_behind_10 : decode cX5_behind 10 = .ok (.iload_n 1, 1) := by decide +kernel
theorem dX5_behind_11 : decode cX5_behind 11 = .ok (.invokevirtual 143, 3) := by decide +kernel
theorem dX5_behind_14 : decode cX5_behind 14 = .ok (.aload_n 0, 1) := by decide +kernel
theorem dX5_behind_15 : decode cX5_behind 15 = .ok (.getfield 7, 3) := by decide +kernel
theorem dX5_behind_18 : decode cX5_behind 18 = .ok (.iload_n 2, 1) := by decide +kernel
theorem dX5_behind_19 : decode cX5_behind 19 = .ok (.iaload, 1) := by decide +kernel
theorem dX5_behind_20 : decode cX5_behind 20 = .ok (.istore_n 3, 1) := by decide +kernel
theorem dX5_behind_21 : decode cX5_behind 21 = .ok (.aload_n 0, 1) := by decide +kernel
theorem dX5_behind_22 : decode cX5_behind 22 = .ok (.iconst 0, 1) := by decide +kernel
theorem dX5_behind_23 : decode cX5_behind 23 = .ok (.aload_n 0, 1) := by decide +kernel
theorem dX5_behind_24 : decode cX5_behind 24 = .ok (.getfield 16, 3) := by decide +kernel
theorem dX5_behind_27 : decode cX5_behind 27 = .ok (.invokevirtual 147, 3) := by decide +kernel
theorem dX5_behind_30 : decode cX5_behind 30 = .ok (.iload_n 3, 1) := by decide +kernel
theorem dX5_behind_31 : decode cX5_behind 31 = .ok (.ireturn, 1) := by decide +kernel
theorem dX5_on_0 : decode cX5_on 0 = .ok (.iload_n 1, 1) := by decide +kernel
theorem dX5_on_1 : decode cX5_on 1 = .ok (.invokestatic 61, 3) := by decide +kernel
theorem dX5_on_4 : decode cX5_on 4 = .ok (.ifCond .eq 37, 3) := by decide +kernel
theorem dX5_on_7 : decode cX5_on 7 = .ok (.iload_n 2, 1) := by decide +kernel
theorem dX5_on_8 : decode cX5_on 8 = .ok (.iconst 0, 1) := by decide +kernel
theorem dX5_on_9 : decode cX5_on 9 = .ok (.bipush 100, 2) := by decide +kernel
theorem dX5_on_11 : decode cX5_on 11 = .ok (.invokestatic 49, 3) := by decide +kernel
theorem dX5_on_14 : decode cX5_on 14 = .ok (.ifCond .eq 27, 3) := by decide +kernel
theorem dX5_on_17 : decode cX5_on 17 = .ok (.iload_n 3, 1) := by decide +kernel
theorem dX5_on_18 : decode cX5_on 18 = .ok (.iconst 0, 1) := by decide +kernel
theorem dX5_on_19 : decode cX5_on 19 = .ok (.iconst 1, 1) := by decide +kernel
theorem dX5_on_20 : decode cX5_on 20 = .ok (.invokestatic 49, 3) := by decide +kernel
theorem dX5_on_23 : decode cX5_on 23 = .ok (.ifCond .eq 18, 3) := by decide +kernel
theorem dX5_on_26 : decode cX5_on 26 = .ok (.aload_n 0, 1) := by decide +kernel
theorem dX5_on_27 : decode cX5_on 27 = .ok (.iload_n 2, 1) := by decide +kernel
theorem dX5_on_28 : decode cX5_on 28 = .ok (.iconst 3, 1) := by decide +kernel
theorem dX5_on_29 : decode cX5_on 29 = .ok (.iconst 2, 1) := by decide +kernel
theorem dX5_on_30 : decode cX5_on 30 = .ok (.iload_n 1, 1) := by decide +kernel
theorem dX5_on_31 : decode cX5_on 31 = .ok (.imul, 1) := by decide +kernel
theorem dX5_on_32 : decode cX5_on 32 = .ok (.iadd, 1) := by decide +kernel
theorem dX5_on_33 : decode cX5_on 33 = .ok (.iload_n 3, 1) := by decide +kernel
theorem dX5_on_34 : decode cX5_on 34 = .ok (.iadd, 1) := by decide +kernel
theorem dX5_on_35 : decode cX5_on 35 = .ok (.invokevirtual 151, 3) := by decide +kernel
theorem dX5_on_38 : decode cX5_on 38 = .ok (.goto 9, 3) := by decide +kernel
theorem dX5_on_41 : decode cX5_on 41 = .ok (.aload_n 0, 1) := by decide +kernel
theorem dX5_on_42 : decode cX5_on 42 = .ok (.ldc 48, 2) := by decide +kernel
theorem dX5_on_44 : decode cX5_on 44 = .ok (.invokevirtual 57, 3) := by decide +kernel
theorem dX5_on_47 : decode cX5_on 47 = .ok (.ireturn, 1) := by decide +kernel
theorem dX5_then_0 : decode cX5_then 0 = .ok (.aload_n 0, 1) := by decide +kernel
theorem dX5_then_1 : decode cX5_then 1 = .ok (.iload_n 1, 1) := by decide +kernel
theorem dX5_then_2 : decode cX5_then 2 = .ok (.invokevirtual 103, 3) := by decide +kernel
theorem dX5_then_5 : decode cX5_then 5 = .ok (.ifCond .eq 40, 3) := by decide +kernel
theorem dX5_then_8 : decode cX5_then 8 = .ok (.iload_n 2, 1) := by decide +kernel
theorem dX5_then_9 : decode cX5_then 9 = .ok (.iconst 0, 1) := by decide +kernel
theorem dX5_then_10 : decode cX5_then 10 = .ok (.bipush 100, 2) := by decide +kernel
theorem dX5_then_12 : decode cX5_then 12 = .ok (.invokestatic 49, 3) := by decide +kernel
theorem dX5_then_15 : decode cX5_then 15 = .ok (.ifCond .eq 30, 3) := by decide +kernel
theorem dX5_then_18 : decode cX5_then 18 = .ok (.iload_n 3, 1) := by decide +kernel
theorem dX5_then_19 : decode cX5_then 19 = .ok (.iconst 0, 1) := by decide +kernel
theorem dX5_then_20 : decode cX5_then 20 = .ok (.iconst 1, 1) := by decide +kernel
theorem dX5_then_21 : decode cX5_then 21 = .ok (.invokestatic 49, 3) := by decide +kernel
theorem dX5_then_24 : decode cX5_then 24 = .ok (.ifCond .eq 21, 3) := by decide +kernel
theorem dX5_then_27 : decode cX5_then 27 = .ok (.aload_n 0, 1) := by decide +kernel
theorem dX5_then_28 : decode cX5_then 28 = .ok (.iload_n 2, 1) := by decide +kernel
theorem dX5_then_29 : decode cX5_then 29 = .ok (.bipush 19, 2) := by decide +kernel
theorem dX5_then_31 : decode cX5_then 31 = .ok (.iconst 4, 1) := by decide +kernel
theorem dX5_then_32 : decode cX5_then 32 = .ok (.iload_n 1, 1) := by decide +kernel
theorem dX5_then_33 : decode cX5_then 33 = .ok (.imul, 1) := by decide +kernel
theorem dX5_then_34 : decode cX5_then 34 = .ok (.iadd, 1) := by decide +kernel
theorem dX5_then_35 : decode cX5_then 35 = .ok (.iconst 1, 1) := by decide +kernel
theorem dX5_then_36 : decode cX5_then 36 = .ok (.iadd, 1) := by decide +kernel
theorem dX5_then_37 : decode cX5_then 37 = .ok (.iload_n 3, 1) := by decide +kernel
theorem dX5_then_38 : decode cX5_then 38 = .ok (.iadd, 1) := by decide +kernel
theorem dX5_then_39 : decode cX5_then 39 = .ok (.invokevirtual 151, 3) := by decide +kernel
theorem dX5_then_42 : decode cX5_then 42 = .ok (.goto 9, 3) := by decide +kernel
theorem dX5_then_45 : decode cX5_then 45 = .ok (.aload_n 0, 1) := by decide +kernel
theorem dX5_then_46 : decode cX5_then 46 = .ok (.ldc 48, 2) := by decide +kernel
theorem dX5_then_48 : decode cX5_then 48 = .ok (.invokevirtual 57, 3) := by decide +kernel
theorem dX5_then_51 : decode cX5_then 51 = .ok (.ireturn, 1) := by decide +kernel
theorem dX5_clean_0 : decode cX5_clean 0 = .ok (.iload_n 1, 1) := by decide +kernel
theorem dX5_clean_1 : decode cX5_clean 1 = .ok (.invokestatic 61, 3) := by decide +kernel
theorem dX5_clean_4 : decode cX5_clean 4 = .ok (.ifCond .ne 10, 3) := by decide +kernel
theorem dX5_clean_7 : decode cX5_clean 7 = .ok (.aload_n 0, 1) := by decide +kernel
theorem dX5_clean_8 : decode cX5_clean 8 = .ok (.ldc 48, 2) := by decide +kernel
theorem dX5_clean_10 : decode cX5_clean 10 = .ok (.invokevirtual 57, 3) := by decide +kernel
theorem dX5_clean_13 : decode cX5_clean 13 = .ok (.ireturn, 1) := by decide +kernel
theorem dX5_clean_14 : decode cX5_clean 14 = .ok (.aload_n 0, 1) := by decide +kernel
theorem dX5_clean_15 : decode cX5_clean 15 = .ok (.iconst 1, 1) := by decide +kernel
theorem dX5_clean_16 : decode cX5_clean 16 = .ok (.aload_n 0, 1) := by decide +kernel
theorem dX5_clean_17 : decode cX5_clean 17 = .ok (.getfield 16, 3) := by decide +kernel
theorem dX5_clean_20 : decode cX5_clean 20 = .ok (.invokevirtual 147, 3) := by decide +kernel
theorem dX5_clean_23 : decode cX5_clean 23 = .ok (.iconst 0, 1) := by decide +kernel
theorem dX5_clean_24 : decode cX5_clean 24 = .ok (.istore_n 2, 1) := by decide +kernel
theorem dX5_clean_25 : decode cX5_clean 25 = .ok (.iload_n 2, 1) := by decide +kernel
theorem dX5_clean_26 : decode cX5_clean 26 = .ok (.bipush 100, 2) := by decide +kernel
theorem dX5_clean_28 : decode cX5_clean 28 = .ok (.if_icmp .gt 22, 3) := by decide +kernel
theorem dX5_clean_31 : decode cX5_clean 31 = .ok (.aload_n 0, 1) := by decide +kernel
theorem dX5_clean_32 : decode cX5_clean 32 = .ok (.iload_n 1, 1) := by decide +kernel
theorem dX5_clean_33 : decode cX5_clean 33 = .ok (.iconst 0, 1) := by decide +kernel
theorem dX5_clean_34 : decode cX5_clean 34 = .ok (.invokevirtual 71, 3) := by decide +kernel
theorem dX5_clean_37 : decode cX5_clean 37 = .ok (.ifCond .le 13, 3) := by decide +kernel
theorem dX5_clean_40 : decode cX5_clean 40 = .ok (.aload_n 0, 1) := by decide +kernel
theorem dX5_clean_41 : decode cX5_clean 41 = .ok (.invokevirtual 139, 3) := by decide +kernel
theorem dX5_clean_44 : decode cX5_clean 44 = .ok (.iinc 2 1, 3) := by decide +kernel
theorem dX5_clean_47 : decode cX5_clean 47 = .ok (.goto (-22), 3) := by decide +kernel
theorem dX5_clean_50 : decode cX5_clean 50 = .ok (.aload_n 0, 1) := by decide +kernel
theorem dX5_clean_51 : decode cX5_clean 51 = .ok (.iconst 0, 1) := by decide +kernel
theorem dX5_clean_52 : decode cX5_clean 52 = .ok (.aload_n 0, 1) := by decide +kernel
theorem dX5_clean_53 : decode cX5_clean 53 = .ok (.getfield 16, 3) := by decide +kernel
theorem dX5_clean_56 : decode cX5_clean 56 = .ok (.invokevirtual 147, 3) := by decide +kernel
theorem dX5_clean_59 : decode cX5_clean 59 = .ok (.iload_n 2, 1) := by decide +kernel
theorem dX5_clean_60 : decode cX5_clean 60 = .ok (.bipush 100, 2) := by decide +kernel
theorem dX5_clean_62 : decode cX5_clean 62 = .ok (.if_icmp .le 12, 3) := by decide +kernel
theorem dX5_clean_65 : decode cX5_clean 65 = .ok (.aload_n 0, 1) := by decide +kernel
theorem dX5_clean_66 : decode cX5_clean 66 = .ok (.ldc 154, 2) := by decide +kernel
theorem dX5_clean_68 : decode cX5_clean 68 = .ok (.invokevirtual 57, 3) := by decide +kernel
theorem dX5_clean_71 : decode cX5_clean 71 = .ok (.goto 4, 3) := by decide +kernel
theorem dX5_clean_74 : decode cX5_clean 74 = .ok (.iload_n 2, 1) := by decide +kernel
theorem dX5_clean_75 : decode cX5_clean 75 = .ok (.ireturn, 1) := by decide +kernel
theorem dX5_whenHas_0 : decode cX5_whenHas 0 = .ok (.aload_n 0, 1) := by decide +kernel
theorem dX5_whenHas_1 : decode cX5_whenHas 1 = .ok (.iconst 1, 1) := by decide +kernel
theorem dX5_whenHas_2 : decode cX5_whenHas 2 = .ok (.aload_n 0, 1) := by decide +kernel
theorem dX5_whenHas_3 : decode cX5_whenHas 3 = .ok (.getfield 16, 3) := by decide +kernel
theorem dX5_whenHas_6 : decode cX5_whenHas 6 = .ok (.invokevirtual 147, 3) := by decide +kernel
theorem dX5_whenHas_9 : decode cX5_whenHas 9 = .ok (.iconst 0, 1) := by decide +kernel
theorem dX5_whenHas_10 : decode cX5_whenHas 10 = .ok (.istore_n 3, 1) := by decide +kernel
theorem dX5_whenHas_11 : decode cX5_whenHas 11 = .ok (.iload_n 3, 1) := by decide +kernel
theorem dX5_whenHas_12 : decode cX5_whenHas 12 = .ok (.bipush 100, 2) := by decide +kernel
theorem dX5_whenHas_14 : decode cX5_whenHas 14 = .ok (.if_icmp .gt 26, 3) := by decide +kernel
theorem dX5_whenHas_17 : decode cX5_whenHas 17 = .ok (.aload_n 0, 1) := by decide +kernel
theorem dX5_whenHas_18 : decode cX5_whenHas 18 = .ok (.getfield 7, 3) := by decide +kernel
theorem dX5_whenHas_21 : decode cX5_whenHas 21 = .ok (.iload_n 1, 1) := by decide +kernel
theorem dX5_whenHas_22 : decode cX5_whenHas 22 = .ok (.iaload, 1) := by decide +kernel
theorem dX5_whenHas_23 : decode cX5_whenHas 23 = .ok (.iload_n 2, 1) := by decide +kernel
theorem dX5_whenHas_24 : decode cX5_whenHas 24 = .ok (.ishr, 1) := by decide +kernel
theorem dX5_whenHas_25 : decode cX5_whenHas 25 = .ok (.iconst 1, 1) := by decide +kernel
theorem dX5_whenHas_26 : decode cX5_whenHas 26 = .ok (.iand, 1) := by decide +kernel
theorem dX5_whenHas_27 : decode cX5_whenHas 27 = .ok (.ifCond .ne 13, 3) := by decide +kernel
theorem dX5_whenHas_30 : decode cX5_whenHas 30 = .ok (.aload_n 0, 1) := by decide +kernel
theorem dX5_whenHas_31 : decode cX5_whenHas 31 = .ok (.invokevirtual 139, 3) := by decide +kernel
theorem dX5_whenHas_34 : decode cX5_whenHas 34 = .ok (.iinc 3 1, 3) := by decide +kernel
theorem dX5_whenHas_37 : decode cX5_whenHas 37 = .ok (.goto (-26), 3) := by decide +kernel
theorem dX5_whenHas_40 : decode cX5_whenHas 40 = .ok (.aload_n 0, 1) := by decide +kernel
theorem dX5_whenHas_41 : decode cX5_whenHas 41 = .ok (.iconst 0, 1) := by decide +kernel
theorem dX5_whenHas_42 : decode cX5_whenHas 42 = .ok (.aload_n 0, 1) := by decide +kernel
theorem dX5_whenHas_43 : decode cX5_whenHas 43 = .ok (.getfield 16, 3) := by decide +kernel
theorem dX5_whenHas_46 : decode cX5_whenHas 46 = .ok (.invokevirtual 147, 3) := by decide +kernel
theorem dX5_whenHas_49 : decode cX5_whenHas 49 = .ok (.iload_n 3, 1) := by decide +kernel
theorem dX5_whenHas_50 : decode cX5_whenHas 50 = .ok (.bipush 100, 2) := by decide +kernel
theorem dX5_whenHas_52 : decode cX5_whenHas 52 = .ok (.if_icmp .le 12, 3) := by decide +kernel
theorem dX5_whenHas_55 : decode cX5_whenHas 55 = .ok (.aload_n 0, 1) := by decide +kernel
theorem dX5_whenHas_56 : decode cX5_whenHas 56 = .ok (.ldc 154, 2) := by decide +kernel
theorem dX5_whenHas_58 : decode cX5_whenHas 58 = .ok (.invokevirtual 57, 3) := by decide +kernel
theorem dX5_whenHas_61 : decode cX5_whenHas 61 = .ok (.goto 4, 3) := by decide +kernel
theorem dX5_whenHas_64 : decode cX5_whenHas 64 = .ok (.iload_n 3, 1) := by decide +kernel
theorem dX5_whenHas_65 : decode cX5_whenHas 65 = .ok (.ireturn, 1) := by decide +kernel
theorem dX5_comes_0 : decode cX5_comes 0 = .ok (.iload_n 1, 1) := by decide +kernel
theorem dX5_comes_1 : decode cX5_comes 1 = .ok (.invokestatic 61, 3) := by decide +kernel
theorem dX5_comes_4 : decode cX5_comes 4 = .ok (.ifCond .eq 25, 3) := by decide +kernel
theorem dX5_comes_7 : decode cX5_comes 7 = .ok (.iload_n 2, 1) := by decide +kernel
theorem dX5_comes_8 : decode cX5_comes 8 = .ok (.invokestatic 155, 3) := by decide +kernel
theorem dX5_comes_11 : decode cX5_comes 11 = .ok (.ifCond .eq 18, 3) := by decide +kernel
theorem dX5_comes_14 : decode cX5_comes 14 = .ok (.aload_n 0, 1) := by decide +kernel
theorem dX5_comes_15 : decode cX5_comes 15 = .ok (.iconst 3, 1) := by decide +kernel
theorem dX5_comes_16 : decode cX5_comes 16 = .ok (.iconst 2, 1) := by decide +kernel
theorem dX5_comes_17 : decode cX5_comes 17 = .ok (.iload_n 1, 1) := by decide +kernel
theorem dX5_comes_18 : decode cX5_comes 18 = .ok (.imul, 1) := by decide +kernel
theorem dX5_comes_19 : decode cX5_comes 19 = .ok (.iadd, 1) := by decide +kernel
theorem dX5_comes_20 : decode cX5_comes 20 = .ok (.iconst 1, 1) := by decide +kernel
theorem dX5_comes_21 : decode cX5_comes 21 = .ok (.iadd, 1) := by decide +kernel
theorem dX5_comes_22 : decode cX5_comes 22 = .ok (.iload_n 2, 1) := by decide +kernel
theorem dX5_comes_23 : decode cX5_comes 23 = .ok (.invokevirtual 158, 3) := by decide +kernel
theorem dX5_comes_26 : decode cX5_comes 26 = .ok (.goto 9, 3) := by decide +kernel
theorem dX5_comes_29 : decode cX5_comes 29 = .ok (.aload_n 0, 1) := by decide +kernel
theorem dX5_comes_30 : decode cX5_comes 30 = .ok (.ldc 48, 2) := by decide +kernel
theorem dX5_comes_32 : decode cX5_comes 32 = .ok (.invokevirtual 57, 3) := by decide +kernel
theorem dX5_comes_35 : decode cX5_comes 35 = .ok (.ireturn, 1) := by decide +kernel
theorem dX5_holds_0 : decode cX5_holds 0 = .ok (.aload_n 0, 1) := by decide +kernel
theorem dX5_holds_1 : decode cX5_holds 1 = .ok (.iload_n 1, 1) := by decide +kernel
theorem dX5_holds_2 : decode cX5_holds 2 = .ok (.invokevirtual 103, 3) := by decide +kernel
theorem dX5_holds_5 : decode cX5_holds 5 = .ok (.ifCond .eq 26, 3) := by decide +kernel
theorem dX5_holds_8 : decode cX5_holds 8 = .ok (.iload_n 2, 1) := by decide +kernel
theorem dX5_holds_9 : decode cX5_holds 9 = .ok (.invokestatic 155, 3) := by decide +kernel
theorem dX5_holds_12 : decode cX5_holds 12 = .ok (.ifCond .eq 19, 3) := by decide +kernel
theorem dX5_holds_15 : decode cX5_holds 15 = .ok (.aload_n 0, 1) := by decide +kernel
theorem dX5_holds_16 : decode cX5_holds 16 = .ok (.bipush 19, 2) := by decide +kernel
theorem dX5_holds_18 : decode cX5_holds 18 = .ok (.iconst 4, 1) := by decide +kernel
theorem dX5_holds_19 : decode cX5_holds 19 = .ok (.iload_n 1, 1) := by decide +kernel
theorem dX5_holds_20 : decode cX5_holds 20 = .ok (.imul, 1) := by decide +kernel
theorem dX5_holds_21 : decode cX5_holds 21 = .ok (.iadd, 1) := by decide +kernel
theorem dX5_holds_22 : decode cX5_holds 22 = .ok (.iconst 1, 1) := by decide +kernel
theorem dX5_holds_23 : decode cX5_holds 23 = .ok (.iadd, 1) := by decide +kernel
theorem dX5_holds_24 : decode cX5_holds 24 = .ok (.iload_n 2, 1) := by decide +kernel
theorem dX5_holds_25 : decode cX5_holds 25 = .ok (.invokevirtual 158, 3) := by decide +kernel
theorem dX5_holds_28 : decode cX5_holds 28 = .ok (.goto 9, 3) := by decide +kernel
theorem dX5_holds_31 : decode cX5_holds 31 = .ok (.aload_n 0, 1) := by decide +kernel
theorem dX5_holds_32 : decode cX5_holds 32 = .ok (.ldc 48, 2) := by decide +kernel
theorem dX5_holds_34 : decode cX5_holds 34 = .ok (.invokevirtual 57, 3) := by decide +kernel
theorem dX5_holds_37 : decode cX5_holds 37 = .ok (.ireturn, 1) := by decide +kernel
theorem dX5_dustBehind_0 : decode cX5_dustBehind 0 = .ok (.aload_n 0, 1) := by decide +kernel
theorem dX5_dustBehind_1 : decode cX5_dustBehind 1 = .ok (.iload_n 1, 1) := by decide +kernel
theorem dX5_dustBehind_2 : decode cX5_dustBehind 2 = .ok (.invokevirtual 143, 3) := by decide +kernel
theorem dX5_dustBehind_5 : decode cX5_dustBehind 5 = .ok (.aload_n 0, 1) := by decide +kernel
theorem dX5_dustBehind_6 : decode cX5_dustBehind 6 = .ok (.invokevirtual 80, 3) := by decide +kernel
theorem dX5_dustBehind_9 : decode cX5_dustBehind 9 = .ok (.istore_n 2, 1) := by decide +kernel
theorem dX5_dustBehind_10 : decode cX5_dustBehind 10 = .ok (.aload_n 0, 1) := by decide +kernel
theorem dX5_dustBehind_11 : decode cX5_dustBehind 11 = .ok (.iconst 0, 1) := by decide +kernel
theorem dX5_dustBehind_12 : decode cX5_dustBehind 12 = .ok (.aload_n 0, 1) := by decide +kernel
theorem dX5_dustBehind_13 : decode cX5_dustBehind 13 = .ok (.getfield 16, 3) := by decide +kernel
theorem dX5_dustBehind_16 : decode cX5_dustBehind 16 = .ok (.invokevirtual 147, 3) := by decide +kernel
theorem dX5_dustBehind_19 : decode cX5_dustBehind 19 = .ok (.iload_n 2, 1) := by decide +kernel
theorem dX5_dustBehind_20 : decode cX5_dustBehind 20 = .ok (.ireturn, 1) := by decide +kernel
theorem dX5_memoriesBehind_0 : decode cX5_memoriesBehind 0 = .ok (.aload_n 0, 1) := by decide +kernel
theorem dX5_memoriesBehind_1 : decode cX5_memoriesBehind 1 = .ok (.iload_n 1, 1) := by decide +kernel
theorem dX5_memoriesBehind_2 : decode cX5_memoriesBehind 2 = .ok (.invokevirtual 143, 3) := by decide +kernel
theorem dX5_memoriesBehind_5 : decode cX5_memoriesBehind 5 = .ok (.aload_n 0, 1) := by decide +kernel
theorem dX5_memoriesBehind_6 : decode cX5_memoriesBehind 6 = .ok (.invokevirtual 161, 3) := by decide +kernel
theorem dX5_memoriesBehind_9 : decode cX5_memoriesBehind 9 = .ok (.istore_n 2, 1) := by decide +kernel
theorem dX5_memoriesBehind_10 : decode cX5_memoriesBehind 10 = .ok (.aload_n 0, 1) := by decide +kernel
theorem dX5_memoriesBehind_11 : decode cX5_memoriesBehind 11 = .ok (.iconst 0, 1) := by decide +kernel
theorem dX5_memoriesBehind_12 : decode cX5_memoriesBehind 12 = .ok (.aload_n 0, 1) := by decide +kernel
theorem dX5_memoriesBehind_13 : decode cX5_memoriesBehind 13 = .ok (.getfield 16, 3) := by decide +kernel
theorem dX5_memoriesBehind_16 : decode cX5_memoriesBehind 16 = .ok (.invokevirtual 147, 3) := by decide +kernel
theorem dX5_memoriesBehind_19 : decode cX5_memoriesBehind 19 = .ok (.iload_n 2, 1) := by decide +kernel
theorem dX5_memoriesBehind_20 : decode cX5_memoriesBehind 20 = .ok (.ireturn, 1) := by decide +kernel
theorem dX5_round_0 : decode cX5_round 0 = .ok (.aload_n 0, 1) := by decide +kernel
theorem dX5_round_1 : decode cX5_round 1 = .ok (.iload_n 1, 1) := by decide +kernel
theorem dX5_round_2 : decode cX5_round 2 = .ok (.invokevirtual 103, 3) := by decide +kernel
theorem dX5_round_5 : decode cX5_round 5 = .ok (.ifCond .eq 13, 3) := by decide +kernel
theorem dX5_round_8 : decode cX5_round 8 = .ok (.iload_n 2, 1) := by decide +kernel
theorem dX5_round_9 : decode cX5_round 9 = .ok (.iconst 1, 1) := by decide +kernel
theorem dX5_round_10 : decode cX5_round 10 = .ok (.bipush 40, 2) := by decide +kernel
theorem dX5_round_12 : decode cX5_round 12 = .ok (.invokestatic 49, 3) := by decide +kernel
theorem dX5_round_15 : decode cX5_round 15 = .ok (.ifCond .ne 10, 3) := by decide +kernel
theorem dX5_round_18 : decode cX5_round 18 = .ok (.aload_n 0, 1) := by decide +kernel
theorem dX5_round_19 : decode cX5_round 19 = .ok (.ldc 48, 2) := by decide +kernel
theorem dX5_round_21 : decode cX5_round 21 = .ok (.invokevirtual 57, 3) := by decide +kernel
theorem dX5_round_24 : decode cX5_round 24 = .ok (.ireturn, 1) := by decide +kernel
theorem dX5_round_25 : decode cX5_round 25 = .ok (.iconst 0, 1) := by decide +kernel
theorem dX5_round_26 : decode cX5_round 26 = .ok (.istore_n 3, 1) := by decide +kernel
theorem dX5_round_27 : decode cX5_round 27 = .ok (.sipush 793, 3) := by decide +kernel
theorem dX5_round_30 : decode cX5_round 30 = .ok (.istore 4, 2) := by decide +kernel
theorem dX5_round_32 : decode cX5_round 32 = .ok (.aload_n 0, 1) := by decide +kernel
theorem dX5_round_33 : decode cX5_round 33 = .ok (.iconst 1, 1) := by decide +kernel
theorem dX5_round_34 : decode cX5_round 34 = .ok (.aload_n 0, 1) := by decide +kernel
theorem dX5_round_35 : decode cX5_round 35 = .ok (.getfield 16, 3) := by decide +kernel
theorem dX5_round_38 : decode cX5_round 38 = .ok (.invokevirtual 147, 3) := by decide +kernel
theorem dX5_round_41 : decode cX5_round 41 = .ok (.iconst 0, 1) := by decide +kernel
theorem dX5_round_42 : decode cX5_round 42 = .ok (.istore 5, 2) := by decide +kernel
theorem dX5_round_44 : decode cX5_round 44 = .ok (.iload 5, 2) := by decide +kernel
theorem dX5_round_46 : decode cX5_round 46 = .ok (.bipush 8, 2) := by decide +kernel
theorem dX5_round_48 : decode cX5_round 48 = .ok (.if_icmp .ge 54, 3) := by decide +kernel
theorem dX5_round_51 : decode cX5_round 51 = .ok (.aload_n 0, 1) := by decide +kernel
theorem dX5_round_52 : decode cX5_round 52 = .ok (.iload_n 1, 1) := by decide +kernel
theorem dX5_round_53 : decode cX5_round 53 = .ok (.iconst 3, 1) := by decide +kernel
theorem dX5_round_54 : decode cX5_round 54 = .ok (.iload 5, 2) := by decide +kernel
theorem dX5_round_56 : decode cX5_round 56 = .ok (.invokevirtual 93, 3) := by decide +kernel
theorem dX5_round_59 : decode cX5_round 59 = .ok (.aload_n 0, 1) := by decide +kernel
theorem dX5_round_60 : decode cX5_round 60 = .ok (.iload_n 2, 1) := by decide +kernel
theorem dX5_round_61 : decode cX5_round 61 = .ok (.invokevirtual 164, 3) := by decide +kernel
theorem dX5_round_64 : decode cX5_round 64 = .ok (.istore 6, 2) := by decide +kernel
theorem dX5_round_66 : decode cX5_round 66 = .ok (.iload 6, 2) := by decide +kernel
theorem dX5_round_68 : decode cX5_round 68 = .ok (.iload 4, 2) := by decide +kernel
theorem dX5_round_70 : decode cX5_round 70 = .ok (.if_icmp .ge 8, 3) := by decide +kernel
theorem dX5_round_73 : decode cX5_round 73 = .ok (.iload 5, 2) := by decide +kernel
theorem dX5_round_75 : decode cX5_round 75 = .ok (.goto 4, 3) := by decide +kernel
theorem dX5_round_78 : decode cX5_round 78 = .ok (.iload_n 3, 1) := by decide +kernel
theorem dX5_round_79 : decode cX5_round 79 = .ok (.istore_n 3, 1) := by decide +kernel
theorem dX5_round_80 : decode cX5_round 80 = .ok (.iload 6, 2) := by decide +kernel
theorem dX5_round_82 : decode cX5_round 82 = .ok (.iload 4, 2) := by decide +kernel
theorem dX5_round_84 : decode cX5_round 84 = .ok (.if_icmp .ge 8, 3) := by decide +kernel
theorem dX5_round_87 : decode cX5_round 87 = .ok (.iload 6, 2) := by decide +kernel
theorem dX5_round_89 : decode cX5_round 89 = .ok (.goto 5, 3) := by decide +kernel
theorem dX5_round_92 : decode cX5_round 92 = .ok (.iload 4, 2) := by decide +kernel
theorem dX5_round_94 : decode cX5_round 94 = .ok (.istore 4, 2) := by decide +kernel
theorem dX5_round_96 : decode cX5_round 96 = .ok (.iinc 5 1, 3) := by decide +kernel
theorem dX5_round_99 : decode cX5_round 99 = .ok (.goto (-55), 3) := by decide +kernel
theorem dX5_round_102 : decode cX5_round 102 = .ok (.iload_n 3, 1) := by decide +kernel
theorem dX5_round_103 : decode cX5_round 103 = .ok (.ireturn, 1) := by decide +kernel
theorem dX5_mostBy_0 : decode cX5_mostBy 0 = .ok (.iconst 0, 1) := by decide +kernel
theorem dX5_mostBy_1 : decode cX5_mostBy 1 = .ok (.istore 5, 2) := by decide +kernel
theorem dX5_mostBy_3 : decode cX5_mostBy 3 = .ok (.iconst (-1), 1) := by decide +kernel
theorem dX5_mostBy_4 : decode cX5_mostBy 4 = .ok (.istore 6, 2) := by decide +kernel
theorem dX5_mostBy_6 : decode cX5_mostBy 6 = .ok (.aload_n 0, 1) := by decide +kernel
theorem dX5_mostBy_7 : decode cX5_mostBy 7 = .ok (.iconst 1, 1) := by decide +kernel
theorem dX5_mostBy_8 : decode cX5_mostBy 8 = .ok (.aload_n 0, 1) := by decide +kernel
theorem dX5_mostBy_9 : decode cX5_mostBy 9 = .ok (.getfield 16, 3) := by decide +kernel
theorem dX5_mostBy_12 : decode cX5_mostBy 12 = .ok (.invokevirtual 147, 3) := by decide +kernel
theorem dX5_mostBy_15 : decode cX5_mostBy 15 = .ok (.iconst 0, 1) := by decide +kernel
theorem dX5_mostBy_16 : decode cX5_mostBy 16 = .ok (.istore 7, 2) := by decide +kernel
theorem dX5_mostBy_18 : decode cX5_mostBy 18 = .ok (.iload 7, 2) := by decide +kernel
theorem dX5_mostBy_20 : decode cX5_mostBy 20 = .ok (.iload_n 3, 1) := by decide +kernel
theorem dX5_mostBy_21 : decode cX5_mostBy 21 = .ok (.if_icmp .gt 57, 3) := by decide +kernel
theorem dX5_mostBy_24 : decode cX5_mostBy 24 = .ok (.aload_n 0, 1) := by decide +kernel
theorem dX5_mostBy_25 : decode cX5_mostBy 25 = .ok (.iload_n 1, 1) := by decide +kernel
theorem dX5_mostBy_26 : decode cX5_mostBy 26 = .ok (.iload_n 2, 1) := by decide +kernel
theorem dX5_mostBy_27 : decode cX5_mostBy 27 = .ok (.iload 7, 2) := by decide +kernel
theorem dX5_mostBy_29 : decode cX5_mostBy 29 = .ok (.invokevirtual 93, 3) := by decide +kernel
theorem dX5_mostBy_32 : decode cX5_mostBy 32 = .ok (.aload_n 0, 1) := by decide +kernel
theorem dX5_mostBy_33 : decode cX5_mostBy 33 = .ok (.iload 4, 2) := by decide +kernel
theorem dX5_mostBy_35 : decode cX5_mostBy 35 = .ok (.invokevirtual 167, 3) := by decide +kernel
theorem dX5_mostBy_38 : decode cX5_mostBy 38 = .ok (.istore 8, 2) := by decide +kernel
theorem dX5_mostBy_40 : decode cX5_mostBy 40 = .ok (.iload 8, 2) := by decide +kernel
theorem dX5_mostBy_42 : decode cX5_mostBy 42 = .ok (.iload 6, 2) := by decide +kernel
theorem dX5_mostBy_44 : decode cX5_mostBy 44 = .ok (.if_icmp .le 8, 3) := by decide +kernel
theorem dX5_mostBy_47 : decode cX5_mostBy 47 = .ok (.iload 7, 2) := by decide +kernel
theorem dX5_mostBy_49 : decode cX5_mostBy 49 = .ok (.goto 5, 3) := by decide +kernel
theorem dX5_mostBy_52 : decode cX5_mostBy 52 = .ok (.iload 5, 2) := by decide +kernel
theorem dX5_mostBy_54 : decode cX5_mostBy 54 = .ok (.istore 5, 2) := by decide +kernel
theorem dX5_mostBy_56 : decode cX5_mostBy 56 = .ok (.iload 8, 2) := by decide +kernel
theorem dX5_mostBy_58 : decode cX5_mostBy 58 = .ok (.iload 6, 2) := by decide +kernel
theorem dX5_mostBy_60 : decode cX5_mostBy 60 = .ok (.if_icmp .le 8, 3) := by decide +kernel
theorem dX5_mostBy_63 : decode cX5_mostBy 63 = .ok (.iload 8, 2) := by decide +kernel
theorem dX5_mostBy_65 : decode cX5_mostBy 65 = .ok (.goto 5, 3) := by decide +kernel
theorem dX5_mostBy_68 : decode cX5_mostBy 68 = .ok (.iload 6, 2) := by decide +kernel
theorem dX5_mostBy_70 : decode cX5_mostBy 70 = .ok (.istore 6, 2) := by decide +kernel
theorem dX5_mostBy_72 : decode cX5_mostBy 72 = .ok (.iinc 7 1, 3) := by decide +kernel
theorem dX5_mostBy_75 : decode cX5_mostBy 75 = .ok (.goto (-57), 3) := by decide +kernel
theorem dX5_mostBy_78 : decode cX5_mostBy 78 = .ok (.iload 5, 2) := by decide +kernel
theorem dX5_mostBy_80 : decode cX5_mostBy 80 = .ok (.ireturn, 1) := by decide +kernel
theorem dX5_kind_0 : decode cX5_kind 0 = .ok (.aload_n 0, 1) := by decide +kernel
theorem dX5_kind_1 : decode cX5_kind 1 = .ok (.iload_n 1, 1) := by decide +kernel
theorem dX5_kind_2 : decode cX5_kind 2 = .ok (.invokevirtual 103, 3) := by decide +kernel
theorem dX5_kind_5 : decode cX5_kind 5 = .ok (.ifCond .eq 24, 3) := by decide +kernel
theorem dX5_kind_8 : decode cX5_kind 8 = .ok (.iload_n 2, 1) := by decide +kernel
theorem dX5_kind_9 : decode cX5_kind 9 = .ok (.iconst 1, 1) := by decide +kernel
theorem dX5_kind_10 : decode cX5_kind 10 = .ok (.bipush 40, 2) := by decide +kernel
theorem dX5_kind_12 : decode cX5_kind 12 = .ok (.invokestatic 49, 3) := by decide +kernel
theorem dX5_kind_15 : decode cX5_kind 15 = .ok (.ifCond .eq 14, 3) := by decide +kernel
theorem dX5_kind_18 : decode cX5_kind 18 = .ok (.aload_n 0, 1) := by decide +kernel
theorem dX5_kind_19 : decode cX5_kind 19 = .ok (.iload_n 1, 1) := by decide +kernel
theorem dX5_kind_20 : decode cX5_kind 20 = .ok (.iconst 0, 1) := by decide +kernel
theorem dX5_kind_21 : decode cX5_kind 21 = .ok (.iconst 5, 1) := by decide +kernel
theorem dX5_kind_22 : decode cX5_kind 22 = .ok (.iload_n 2, 1) := by decide +kernel
theorem dX5_kind_23 : decode cX5_kind 23 = .ok (.invokevirtual 170, 3) := by decide +kernel
theorem dX5_kind_26 : decode cX5_kind 26 = .ok (.goto 9, 3) := by decide +kernel
theorem dX5_kind_29 : decode cX5_kind 29 = .ok (.aload_n 0, 1) := by decide +kernel
theorem dX5_kind_30 : decode cX5_kind 30 = .ok (.ldc 48, 2) := by decide +kernel
theorem dX5_kind_32 : decode cX5_kind 32 = .ok (.invokevirtual 57, 3) := by decide +kernel
theorem dX5_kind_35 : decode cX5_kind 35 = .ok (.ireturn, 1) := by decide +kernel
theorem dX5_grime_0 : decode cX5_grime 0 = .ok (.aload_n 0, 1) := by decide +kernel
theorem dX5_grime_1 : decode cX5_grime 1 = .ok (.iload_n 1, 1) := by decide +kernel
theorem dX5_grime_2 : decode cX5_grime 2 = .ok (.invokevirtual 103, 3) := by decide +kernel
theorem dX5_grime_5 : decode cX5_grime 5 = .ok (.ifCond .eq 25, 3) := by decide +kernel
theorem dX5_grime_8 : decode cX5_grime 8 = .ok (.iload_n 2, 1) := by decide +kernel
theorem dX5_grime_9 : decode cX5_grime 9 = .ok (.iconst 1, 1) := by decide +kernel
theorem dX5_grime_10 : decode cX5_grime 10 = .ok (.bipush 40, 2) := by decide +kernel
theorem dX5_grime_12 : decode cX5_grime 12 = .ok (.invokestatic 49, 3) := by decide +kernel
theorem dX5_grime_15 : decode cX5_grime 15 = .ok (.ifCond .eq 15, 3) := by decide +kernel
theorem dX5_grime_18 : decode cX5_grime 18 = .ok (.aload_n 0, 1) := by decide +kernel
theorem dX5_grime_19 : decode cX5_grime 19 = .ok (.iload_n 1, 1) := by decide +kernel
theorem dX5_grime_20 : decode cX5_grime 20 = .ok (.iconst 2, 1) := by decide +kernel
theorem dX5_grime_21 : decode cX5_grime 21 = .ok (.bipush 99, 2) := by decide +kernel
theorem dX5_grime_23 : decode cX5_grime 23 = .ok (.iload_n 2, 1) := by decide +kernel
theorem dX5_grime_24 : decode cX5_grime 24 = .ok (.invokevirtual 170, 3) := by decide +kernel
theorem dX5_grime_27 : decode cX5_grime 27 = .ok (.goto 9, 3) := by decide +kernel
theorem dX5_grime_30 : decode cX5_grime 30 = .ok (.aload_n 0, 1) := by decide +kernel
theorem dX5_grime_31 : decode cX5_grime 31 = .ok (.ldc 48, 2) := by decide +kernel
theorem dX5_grime_33 : decode cX5_grime 33 = .ok (.invokevirtual 57, 3) := by decide +kernel
theorem dX5_grime_36 : decode cX5_grime 36 = .ok (.ireturn, 1) := by decide +kernel
theorem dX5_best_0 : decode cX5_best 0 = .ok (.iload_n 1, 1) := by decide +kernel
theorem dX5_best_1 : decode cX5_best 1 = .ok (.iconst 1, 1) := by decide +kernel
theorem dX5_best_2 : decode cX5_best 2 = .ok (.bipush 40, 2) := by decide +kernel
theorem dX5_best_4 : decode cX5_best 4 = .ok (.invokestatic 49, 3) := by decide +kernel
theorem dX5_best_7 : decode cX5_best 7 = .ok (.ifCond .ne 10, 3) := by decide +kernel
theorem dX5_best_10 : decode cX5_best 10 = .ok (.aload_n 0, 1) := by decide +kernel
theorem dX5_best_11 : decode cX5_best 11 = .ok (.ldc 48, 2) := by decide +kernel
theorem dX5_best_13 : decode cX5_best 13 = .ok (.invokevirtual 57, 3) := by decide +kernel
theorem dX5_best_16 : decode cX5_best 16 = .ok (.ireturn, 1) := by decide +kernel
theorem dX5_best_17 : decode cX5_best 17 = .ok (.iconst (-1), 1) := by decide +kernel
theorem dX5_best_18 : decode cX5_best 18 = .ok (.istore_n 2, 1) := by decide +kernel
theorem dX5_best_19 : decode cX5_best 19 = .ok (.sipush 793, 3) := by decide +kernel
theorem dX5_best_22 : decode cX5_best 22 = .ok (.istore_n 3, 1) := by decide +kernel
theorem dX5_best_23 : decode cX5_best 23 = .ok (.aload_n 0, 1) := by decide +kernel
theorem dX5_best_24 : decode cX5_best 24 = .ok (.iconst 1, 1) := by decide +kernel
theorem dX5_best_25 : decode cX5_best 25 = .ok (.aload_n 0, 1) := by decide +kernel
theorem dX5_best_26 : decode cX5_best 26 = .ok (.getfield 16, 3) := by decide +kernel
theorem dX5_best_29 : decode cX5_best 29 = .ok (.invokevirtual 147, 3) := by decide +kernel
theorem dX5_best_32 : decode cX5_best 32 = .ok (.iconst 0, 1) := by decide +kernel
theorem dX5_best_33 : decode cX5_best 33 = .ok (.istore 4, 2) := by decide +kernel
theorem dX5_best_35 : decode cX5_best 35 = .ok (.iload 4, 2) := by decide +kernel
theorem dX5_best_37 : decode cX5_best 37 = .ok (.aload_n 0, 1) := by decide +kernel
theorem dX5_best_38 : decode cX5_best 38 = .ok (.getfield 7, 3) := by decide +kernel
theorem dX5_best_41 : decode cX5_best 41 = .ok (.iconst 2, 1) := by decide +kernel
theorem dX5_best_42 : decode cX5_best 42 = .ok (.iaload, 1) := by decide +kernel
end
section
theorem dX5_best_43 : decode cX5_best 43 = .ok (.if_icmp .ge 49, 3) := by decide +kernel
theorem dX5_best_46 : decode cX5_best 46 = .ok (.aload_n 0, 1) := by decide +kernel
theorem dX5_best_47 : decode cX5_best 47 = .ok (.iload 4, 2) := by decide +kernel
theorem dX5_best_49 : decode cX5_best 49 = .ok (.invokevirtual 133, 3) := by decide +kernel
theorem dX5_best_52 : decode cX5_best 52 = .ok (.pop, 1) := by decide +kernel
theorem dX5_best_53 : decode cX5_best 53 = .ok (.aload_n 0, 1) := by decide +kernel
theorem dX5_best_54 : decode cX5_best 54 = .ok (.iload_n 1, 1) := by decide +kernel
theorem dX5_best_55 : decode cX5_best 55 = .ok (.invokevirtual 164, 3) := by decide +kernel
theorem dX5_best_58 : decode cX5_best 58 = .ok (.istore 5, 2) := by decide +kernel
theorem dX5_best_60 : decode cX5_best 60 = .ok (.iload 5, 2) := by decide +kernel
theorem dX5_best_62 : decode cX5_best 62 = .ok (.iload_n 3, 1) := by decide +kernel
theorem dX5_best_63 : decode cX5_best 63 = .ok (.if_icmp .ge 8, 3) := by decide +kernel
theorem dX5_best_66 : decode cX5_best 66 = .ok (.iload 4, 2) := by decide +kernel
theorem dX5_best_68 : decode cX5_best 68 = .ok (.goto 4, 3) := by decide +kernel
theorem dX5_best_71 : decode cX5_best 71 = .ok (.iload_n 2, 1) := by decide +kernel
theorem dX5_best_72 : decode cX5_best 72 = .ok (.istore_n 2, 1) := by decide +kernel
theorem dX5_best_73 : decode cX5_best 73 = .ok (.iload 5, 2) := by decide +kernel
theorem dX5_best_75 : decode cX5_best 75 = .ok (.iload_n 3, 1) := by decide +kernel
theorem dX5_best_76 : decode cX5_best 76 = .ok (.if_icmp .ge 8, 3) := by decide +kernel
theorem dX5_best_79 : decode cX5_best 79 = .ok (.iload 5, 2) := by decide +kernel
theorem dX5_best_81 : decode cX5_best 81 = .ok (.goto 4, 3) := by decide +kernel
theorem dX5_best_84 : decode cX5_best 84 = .ok (.iload_n 3, 1) := by decide +kernel
theorem dX5_best_85 : decode cX5_best 85 = .ok (.istore_n 3, 1) := by decide +kernel
theorem dX5_best_86 : decode cX5_best 86 = .ok (.iinc 4 1, 3) := by decide +kernel
theorem dX5_best_89 : decode cX5_best 89 = .ok (.goto (-54), 3) := by decide +kernel
theorem dX5_best_92 : decode cX5_best 92 = .ok (.iload_n 2, 1) := by decide +kernel
theorem dX5_best_93 : decode cX5_best 93 = .ok (.ifCond .ge 12, 3) := by decide +kernel
theorem dX5_best_96 : decode cX5_best 96 = .ok (.aload_n 0, 1) := by decide +kernel
theorem dX5_best_97 : decode cX5_best 97 = .ok (.ldc 154, 2) := by decide +kernel
theorem dX5_best_99 : decode cX5_best 99 = .ok (.invokevirtual 57, 3) := by decide +kernel
theorem dX5_best_102 : decode cX5_best 102 = .ok (.goto 4, 3) := by decide +kernel
theorem dX5_best_105 : decode cX5_best 105 = .ok (.iload_n 2, 1) := by decide +kernel
theorem dX5_best_106 : decode cX5_best 106 = .ok (.ireturn, 1) := by decide +kernel
theorem dX5_delay_0 : decode cX5_delay 0 = .ok (.aload_n 0, 1) := by decide +kernel
theorem dX5_delay_1 : decode cX5_delay 1 = .ok (.iload_n 1, 1) := by decide +kernel
theorem dX5_delay_2 : decode cX5_delay 2 = .ok (.invokevirtual 103, 3) := by decide +kernel
theorem dX5_delay_5 : decode cX5_delay 5 = .ok (.ifCond .eq 20, 3) := by decide +kernel
theorem dX5_delay_8 : decode cX5_delay 8 = .ok (.iload_n 2, 1) := by decide +kernel
theorem dX5_delay_9 : decode cX5_delay 9 = .ok (.invokestatic 61, 3) := by decide +kernel
theorem dX5_delay_12 : decode cX5_delay 12 = .ok (.ifCond .eq 13, 3) := by decide +kernel
theorem dX5_delay_15 : decode cX5_delay 15 = .ok (.iload_n 3, 1) := by decide +kernel
theorem dX5_delay_16 : decode cX5_delay 16 = .ok (.iconst 1, 1) := by decide +kernel
theorem dX5_delay_17 : decode cX5_delay 17 = .ok (.bipush 20, 2) := by decide +kernel
theorem dX5_delay_19 : decode cX5_delay 19 = .ok (.invokestatic 49, 3) := by decide +kernel
theorem dX5_delay_22 : decode cX5_delay 22 = .ok (.ifCond .ne 10, 3) := by decide +kernel
theorem dX5_delay_25 : decode cX5_delay 25 = .ok (.aload_n 0, 1) := by decide +kernel
theorem dX5_delay_26 : decode cX5_delay 26 = .ok (.ldc 48, 2) := by decide +kernel
theorem dX5_delay_28 : decode cX5_delay 28 = .ok (.invokevirtual 57, 3) := by decide +kernel
theorem dX5_delay_31 : decode cX5_delay 31 = .ok (.ireturn, 1) := by decide +kernel
theorem dX5_delay_32 : decode cX5_delay 32 = .ok (.iconst 0, 1) := by decide +kernel
theorem dX5_delay_33 : decode cX5_delay 33 = .ok (.istore 4, 2) := by decide +kernel
theorem dX5_delay_35 : decode cX5_delay 35 = .ok (.iconst (-1), 1) := by decide +kernel
theorem dX5_delay_36 : decode cX5_delay 36 = .ok (.istore 5, 2) := by decide +kernel
theorem dX5_delay_38 : decode cX5_delay 38 = .ok (.aload_n 0, 1) := by decide +kernel
theorem dX5_delay_39 : decode cX5_delay 39 = .ok (.iconst 1, 1) := by decide +kernel
theorem dX5_delay_40 : decode cX5_delay 40 = .ok (.aload_n 0, 1) := by decide +kernel
theorem dX5_delay_41 : decode cX5_delay 41 = .ok (.getfield 16, 3) := by decide +kernel
theorem dX5_delay_44 : decode cX5_delay 44 = .ok (.invokevirtual 147, 3) := by decide +kernel
theorem dX5_delay_47 : decode cX5_delay 47 = .ok (.iconst 0, 1) := by decide +kernel
theorem dX5_delay_48 : decode cX5_delay 48 = .ok (.istore 6, 2) := by decide +kernel
theorem dX5_delay_50 : decode cX5_delay 50 = .ok (.iload 6, 2) := by decide +kernel
theorem dX5_delay_52 : decode cX5_delay 52 = .ok (.bipush 20, 2) := by decide +kernel
theorem dX5_delay_54 : decode cX5_delay 54 = .ok (.if_icmp .gt 78, 3) := by decide +kernel
theorem dX5_delay_57 : decode cX5_delay 57 = .ok (.aload_n 0, 1) := by decide +kernel
theorem dX5_delay_58 : decode cX5_delay 58 = .ok (.iload 6, 2) := by decide +kernel
theorem dX5_delay_60 : decode cX5_delay 60 = .ok (.invokevirtual 143, 3) := by decide +kernel
theorem dX5_delay_63 : decode cX5_delay 63 = .ok (.aload_n 0, 1) := by decide +kernel
theorem dX5_delay_64 : decode cX5_delay 64 = .ok (.iload_n 1, 1) := by decide +kernel
theorem dX5_delay_65 : decode cX5_delay 65 = .ok (.invokevirtual 136, 3) := by decide +kernel
theorem dX5_delay_68 : decode cX5_delay 68 = .ok (.pop, 1) := by decide +kernel
theorem dX5_delay_69 : decode cX5_delay 69 = .ok (.aload_n 0, 1) := by decide +kernel
theorem dX5_delay_70 : decode cX5_delay 70 = .ok (.iload_n 3, 1) := by decide +kernel
theorem dX5_delay_71 : decode cX5_delay 71 = .ok (.invokevirtual 143, 3) := by decide +kernel
theorem dX5_delay_74 : decode cX5_delay 74 = .ok (.aload_n 0, 1) := by decide +kernel
theorem dX5_delay_75 : decode cX5_delay 75 = .ok (.iload_n 2, 1) := by decide +kernel
theorem dX5_delay_76 : decode cX5_delay 76 = .ok (.iconst 1, 1) := by decide +kernel
theorem dX5_delay_77 : decode cX5_delay 77 = .ok (.invokevirtual 71, 3) := by decide +kernel
theorem dX5_delay_80 : decode cX5_delay 80 = .ok (.invokestatic 77, 3) := by decide +kernel
theorem dX5_delay_83 : decode cX5_delay 83 = .ok (.istore 7, 2) := by decide +kernel
theorem dX5_delay_85 : decode cX5_delay 85 = .ok (.aload_n 0, 1) := by decide +kernel
theorem dX5_delay_86 : decode cX5_delay 86 = .ok (.iconst 0, 1) := by decide +kernel
theorem dX5_delay_87 : decode cX5_delay 87 = .ok (.aload_n 0, 1) := by decide +kernel
theorem dX5_delay_88 : decode cX5_delay 88 = .ok (.getfield 16, 3) := by decide +kernel
theorem dX5_delay_91 : decode cX5_delay 91 = .ok (.invokevirtual 147, 3) := by decide +kernel
theorem dX5_delay_94 : decode cX5_delay 94 = .ok (.iload 7, 2) := by decide +kernel
theorem dX5_delay_96 : decode cX5_delay 96 = .ok (.iload 5, 2) := by decide +kernel
theorem dX5_delay_98 : decode cX5_delay 98 = .ok (.if_icmp .le 8, 3) := by decide +kernel
theorem dX5_delay_101 : decode cX5_delay 101 = .ok (.iload 6, 2) := by decide +kernel
theorem dX5_delay_103 : decode cX5_delay 103 = .ok (.goto 5, 3) := by decide +kernel
theorem dX5_delay_106 : decode cX5_delay 106 = .ok (.iload 4, 2) := by decide +kernel
theorem dX5_delay_108 : decode cX5_delay 108 = .ok (.istore 4, 2) := by decide +kernel
theorem dX5_delay_110 : decode cX5_delay 110 = .ok (.iload 7, 2) := by decide +kernel
theorem dX5_delay_112 : decode cX5_delay 112 = .ok (.iload 5, 2) := by decide +kernel
theorem dX5_delay_114 : decode cX5_delay 114 = .ok (.if_icmp .le 8, 3) := by decide +kernel
theorem dX5_delay_117 : decode cX5_delay 117 = .ok (.iload 7, 2) := by decide +kernel
theorem dX5_delay_119 : decode cX5_delay 119 = .ok (.goto 5, 3) := by decide +kernel
theorem dX5_delay_122 : decode cX5_delay 122 = .ok (.iload 5, 2) := by decide +kernel
theorem dX5_delay_124 : decode cX5_delay 124 = .ok (.istore 5, 2) := by decide +kernel
theorem dX5_delay_126 : decode cX5_delay 126 = .ok (.iinc 6 1, 3) := by decide +kernel
theorem dX5_delay_129 : decode cX5_delay 129 = .ok (.goto (-79), 3) := by decide +kernel
theorem dX5_delay_132 : decode cX5_delay 132 = .ok (.iload 4, 2) := by decide +kernel
theorem dX5_delay_134 : decode cX5_delay 134 = .ok (.ireturn, 1) := by decide +kernel
theorem dX5_bears_0 : decode cX5_bears 0 = .ok (.iload_n 1, 1) := by decide +kernel
theorem dX5_bears_1 : decode cX5_bears 1 = .ok (.iconst 1, 1) := by decide +kernel
theorem dX5_bears_2 : decode cX5_bears 2 = .ok (.bipush 40, 2) := by decide +kernel
theorem dX5_bears_4 : decode cX5_bears 4 = .ok (.invokestatic 49, 3) := by decide +kernel
theorem dX5_bears_7 : decode cX5_bears 7 = .ok (.ifCond .ne 10, 3) := by decide +kernel
theorem dX5_bears_10 : decode cX5_bears 10 = .ok (.aload_n 0, 1) := by decide +kernel
theorem dX5_bears_11 : decode cX5_bears 11 = .ok (.ldc 48, 2) := by decide +kernel
theorem dX5_bears_13 : decode cX5_bears 13 = .ok (.invokevirtual 57, 3) := by decide +kernel
theorem dX5_bears_16 : decode cX5_bears 16 = .ok (.ireturn, 1) := by decide +kernel
theorem dX5_bears_17 : decode cX5_bears 17 = .ok (.bipush 21, 2) := by decide +kernel
theorem dX5_bears_19 : decode cX5_bears 19 = .ok (.istore_n 2, 1) := by decide +kernel
theorem dX5_bears_20 : decode cX5_bears 20 = .ok (.aload_n 0, 1) := by decide +kernel
theorem dX5_bears_21 : decode cX5_bears 21 = .ok (.invokevirtual 80, 3) := by decide +kernel
theorem dX5_bears_24 : decode cX5_bears 24 = .ok (.istore_n 3, 1) := by decide +kernel
theorem dX5_bears_25 : decode cX5_bears 25 = .ok (.iconst 0, 1) := by decide +kernel
theorem dX5_bears_26 : decode cX5_bears 26 = .ok (.istore 4, 2) := by decide +kernel
theorem dX5_bears_28 : decode cX5_bears 28 = .ok (.aload_n 0, 1) := by decide +kernel
theorem dX5_bears_29 : decode cX5_bears 29 = .ok (.iconst 1, 1) := by decide +kernel
theorem dX5_bears_30 : decode cX5_bears 30 = .ok (.aload_n 0, 1) := by decide +kernel
theorem dX5_bears_31 : decode cX5_bears 31 = .ok (.getfield 16, 3) := by decide +kernel
theorem dX5_bears_34 : decode cX5_bears 34 = .ok (.invokevirtual 147, 3) := by decide +kernel
theorem dX5_bears_37 : decode cX5_bears 37 = .ok (.iload_n 2, 1) := by decide +kernel
theorem dX5_bears_38 : decode cX5_bears 38 = .ok (.ifCond .le 37, 3) := by decide +kernel
theorem dX5_bears_41 : decode cX5_bears 41 = .ok (.iload 4, 2) := by decide +kernel
theorem dX5_bears_43 : decode cX5_bears 43 = .ok (.ifCond .ne 32, 3) := by decide +kernel
theorem dX5_bears_46 : decode cX5_bears 46 = .ok (.iinc 2 (-1), 3) := by decide +kernel
theorem dX5_bears_49 : decode cX5_bears 49 = .ok (.aload_n 0, 1) := by decide +kernel
theorem dX5_bears_50 : decode cX5_bears 50 = .ok (.getfield 7, 3) := by decide +kernel
theorem dX5_bears_53 : decode cX5_bears 53 = .ok (.iconst 1, 1) := by decide +kernel
theorem dX5_bears_54 : decode cX5_bears 54 = .ok (.iload_n 2, 1) := by decide +kernel
theorem dX5_bears_55 : decode cX5_bears 55 = .ok (.iastore, 1) := by decide +kernel
theorem dX5_bears_56 : decode cX5_bears 56 = .ok (.aload_n 0, 1) := by decide +kernel
theorem dX5_bears_57 : decode cX5_bears 57 = .ok (.iload_n 1, 1) := by decide +kernel
theorem dX5_bears_58 : decode cX5_bears 58 = .ok (.invokevirtual 164, 3) := by decide +kernel
theorem dX5_bears_61 : decode cX5_bears 61 = .ok (.iload_n 3, 1) := by decide +kernel
theorem dX5_bears_62 : decode cX5_bears 62 = .ok (.if_icmp .gt 7, 3) := by decide +kernel
theorem dX5_bears_65 : decode cX5_bears 65 = .ok (.iconst 1, 1) := by decide +kernel
theorem dX5_bears_66 : decode cX5_bears 66 = .ok (.goto 4, 3) := by decide +kernel
theorem dX5_bears_69 : decode cX5_bears 69 = .ok (.iconst 0, 1) := by decide +kernel
theorem dX5_bears_70 : decode cX5_bears 70 = .ok (.istore 4, 2) := by decide +kernel
theorem dX5_bears_72 : decode cX5_bears 72 = .ok (.goto (-35), 3) := by decide +kernel
theorem dX5_bears_75 : decode cX5_bears 75 = .ok (.iload 4, 2) := by decide +kernel
theorem dX5_bears_77 : decode cX5_bears 77 = .ok (.ifCond .eq 7, 3) := by decide +kernel
theorem dX5_bears_80 : decode cX5_bears 80 = .ok (.iload_n 2, 1) := by decide +kernel
theorem dX5_bears_81 : decode cX5_bears 81 = .ok (.goto 9, 3) := by decide +kernel
theorem dX5_bears_84 : decode cX5_bears 84 = .ok (.aload_n 0, 1) := by decide +kernel
theorem dX5_bears_85 : decode cX5_bears 85 = .ok (.ldc 154, 2) := by decide +kernel
theorem dX5_bears_87 : decode cX5_bears 87 = .ok (.invokevirtual 57, 3) := by decide +kernel
theorem dX5_bears_90 : decode cX5_bears 90 = .ok (.ireturn, 1) := by decide +kernel
theorem dX5_fullest_0 : decode cX5_fullest 0 = .ok (.iload_n 1, 1) := by decide +kernel
theorem dX5_fullest_1 : decode cX5_fullest 1 = .ok (.iconst 0, 1) := by decide +kernel
theorem dX5_fullest_2 : decode cX5_fullest 2 = .ok (.bipush 100, 2) := by decide +kernel
theorem dX5_fullest_4 : decode cX5_fullest 4 = .ok (.invokestatic 49, 3) := by decide +kernel
theorem dX5_fullest_7 : decode cX5_fullest 7 = .ok (.ifCond .ne 10, 3) := by decide +kernel
theorem dX5_fullest_10 : decode cX5_fullest 10 = .ok (.aload_n 0, 1) := by decide +kernel
theorem dX5_fullest_11 : decode cX5_fullest 11 = .ok (.ldc 48, 2) := by decide +kernel
theorem dX5_fullest_13 : decode cX5_fullest 13 = .ok (.invokevirtual 57, 3) := by decide +kernel
theorem dX5_fullest_16 : decode cX5_fullest 16 = .ok (.ireturn, 1) := by decide +kernel
theorem dX5_fullest_17 : decode cX5_fullest 17 = .ok (.iconst 0, 1) := by decide +kernel
theorem dX5_fullest_18 : decode cX5_fullest 18 = .ok (.istore_n 2, 1) := by decide +kernel
theorem dX5_fullest_19 : decode cX5_fullest 19 = .ok (.aload_n 0, 1) := by decide +kernel
theorem dX5_fullest_20 : decode cX5_fullest 20 = .ok (.iconst 1, 1) := by decide +kernel
theorem dX5_fullest_21 : decode cX5_fullest 21 = .ok (.aload_n 0, 1) := by decide +kernel
theorem dX5_fullest_22 : decode cX5_fullest 22 = .ok (.getfield 16, 3) := by decide +kernel
theorem dX5_fullest_25 : decode cX5_fullest 25 = .ok (.invokevirtual 147, 3) := by decide +kernel
theorem dX5_fullest_28 : decode cX5_fullest 28 = .ok (.aload_n 0, 1) := by decide +kernel
theorem dX5_fullest_29 : decode cX5_fullest 29 = .ok (.iload_n 1, 1) := by decide +kernel
theorem dX5_fullest_30 : decode cX5_fullest 30 = .ok (.invokevirtual 143, 3) := by decide +kernel
theorem dX5_fullest_33 : decode cX5_fullest 33 = .ok (.iconst 1, 1) := by decide +kernel
theorem dX5_fullest_34 : decode cX5_fullest 34 = .ok (.istore_n 3, 1) := by decide +kernel
theorem dX5_fullest_35 : decode cX5_fullest 35 = .ok (.iload_n 3, 1) := by decide +kernel
theorem dX5_fullest_36 : decode cX5_fullest 36 = .ok (.bipush 8, 2) := by decide +kernel
theorem dX5_fullest_38 : decode cX5_fullest 38 = .ok (.if_icmp .ge 36, 3) := by decide +kernel
theorem dX5_fullest_41 : decode cX5_fullest 41 = .ok (.aload_n 0, 1) := by decide +kernel
theorem dX5_fullest_42 : decode cX5_fullest 42 = .ok (.iload_n 3, 1) := by decide +kernel
theorem dX5_fullest_43 : decode cX5_fullest 43 = .ok (.iconst 1, 1) := by decide +kernel
theorem dX5_fullest_44 : decode cX5_fullest 44 = .ok (.invokevirtual 71, 3) := by decide +kernel
theorem dX5_fullest_47 : decode cX5_fullest 47 = .ok (.invokestatic 77, 3) := by decide +kernel
theorem dX5_fullest_50 : decode cX5_fullest 50 = .ok (.aload_n 0, 1) := by decide +kernel
theorem dX5_fullest_51 : decode cX5_fullest 51 = .ok (.iload_n 2, 1) := by decide +kernel
theorem dX5_fullest_52 : decode cX5_fullest 52 = .ok (.iconst 1, 1) := by decide +kernel
theorem dX5_fullest_53 : decode cX5_fullest 53 = .ok (.invokevirtual 71, 3) := by decide +kernel
theorem dX5_fullest_56 : decode cX5_fullest 56 = .ok (.invokestatic 77, 3) := by decide +kernel
theorem dX5_fullest_59 : decode cX5_fullest 59 = .ok (.if_icmp .le 7, 3) := by decide +kernel
theorem dX5_fullest_62 : decode cX5_fullest 62 = .ok (.iload_n 3, 1) := by decide +kernel
theorem dX5_fullest_63 : decode cX5_fullest 63 = .ok (.goto 4, 3) := by decide +kernel
theorem dX5_fullest_66 : decode cX5_fullest 66 = .ok (.iload_n 2, 1) := by decide +kernel
theorem dX5_fullest_67 : decode cX5_fullest 67 = .ok (.istore_n 2, 1) := by decide +kernel
theorem dX5_fullest_68 : decode cX5_fullest 68 = .ok (.iinc 3 1, 3) := by decide +kernel
theorem dX5_fullest_71 : decode cX5_fullest 71 = .ok (.goto (-36), 3) := by decide +kernel
theorem dX5_fullest_74 : decode cX5_fullest 74 = .ok (.aload_n 0, 1) := by decide +kernel
theorem dX5_fullest_75 : decode cX5_fullest 75 = .ok (.iconst 0, 1) := by decide +kernel
theorem dX5_fullest_76 : decode cX5_fullest 76 = .ok (.aload_n 0, 1) := by decide +kernel
theorem dX5_fullest_77 : decode cX5_fullest 77 = .ok (.getfield 16, 3) := by decide +kernel
theorem dX5_fullest_80 : decode cX5_fullest 80 = .ok (.invokevirtual 147, 3) := by decide +kernel
theorem dX5_fullest_83 : decode cX5_fullest 83 = .ok (.iload_n 2, 1) := by decide +kernel
theorem dX5_fullest_84 : decode cX5_fullest 84 = .ok (.ireturn, 1) := by decide +kernel
theorem dX5_feed_0 : decode cX5_feed 0 = .ok (.iload_n 2, 1) := by decide +kernel
theorem dX5_feed_1 : decode cX5_feed 1 = .ok (.iconst 1, 1) := by decide +kernel
theorem dX5_feed_2 : decode cX5_feed 2 = .ok (.iconst 4, 1) := by decide +kernel
theorem dX5_feed_3 : decode cX5_feed 3 = .ok (.invokestatic 49, 3) := by decide +kernel
theorem dX5_feed_6 : decode cX5_feed 6 = .ok (.ifCond .ne 10, 3) := by decide +kernel
theorem dX5_feed_9 : decode cX5_feed 9 = .ok (.aload_n 0, 1) := by decide +kernel
theorem dX5_feed_10 : decode cX5_feed 10 = .ok (.ldc 48, 2) := by decide +kernel
theorem dX5_feed_12 : decode cX5_feed 12 = .ok (.invokevirtual 57, 3) := by decide +kernel
theorem dX5_feed_15 : decode cX5_feed 15 = .ok (.ireturn, 1) := by decide +kernel
theorem dX5_feed_16 : decode cX5_feed 16 = .ok (.aload_n 0, 1) := by decide +kernel
theorem dX5_feed_17 : decode cX5_feed 17 = .ok (.getfield 174, 3) := by decide +kernel
theorem dX5_feed_20 : decode cX5_feed 20 = .ok (.iload_n 2, 1) := by decide +kernel
theorem dX5_feed_21 : decode cX5_feed 21 = .ok (.iadd, 1) := by decide +kernel
theorem dX5_feed_22 : decode cX5_feed 22 = .ok (.bipush 120, 2) := by decide +kernel
theorem dX5_feed_24 : decode cX5_feed 24 = .ok (.if_icmp .le 10, 3) := by decide +kernel
theorem dX5_feed_27 : decode cX5_feed 27 = .ok (.aload_n 0, 1) := by decide +kernel
theorem dX5_feed_28 : decode cX5_feed 28 = .ok (.ldc 99, 2) := by decide +kernel
theorem dX5_feed_30 : decode cX5_feed 30 = .ok (.invokevirtual 57, 3) := by decide +kernel
theorem dX5_feed_33 : decode cX5_feed 33 = .ok (.ireturn, 1) := by decide +kernel
theorem dX5_feed_34 : decode cX5_feed 34 = .ok (.iload_n 2, 1) := by decide +kernel
theorem dX5_feed_35 : decode cX5_feed 35 = .ok (.iconst 1, 1) := by decide +kernel
theorem dX5_feed_36 : decode cX5_feed 36 = .ok (.isub, 1) := by decide +kernel
theorem dX5_feed_37 : decode cX5_feed 37 = .ok (.istore_n 3, 1) := by decide +kernel
theorem dX5_feed_38 : decode cX5_feed 38 = .ok (.iload_n 3, 1) := by decide +kernel
theorem dX5_feed_39 : decode cX5_feed 39 = .ok (.ifCond .lt 38, 3) := by decide +kernel
theorem dX5_feed_42 : decode cX5_feed 42 = .ok (.aload_n 0, 1) := by decide +kernel
theorem dX5_feed_43 : decode cX5_feed 43 = .ok (.getfield 22, 3) := by decide +kernel
theorem dX5_feed_46 : decode cX5_feed 46 = .ok (.aload_n 0, 1) := by decide +kernel
theorem dX5_feed_47 : decode cX5_feed 47 = .ok (.getfield 174, 3) := by decide +kernel
theorem dX5_feed_50 : decode cX5_feed 50 = .ok (.iload_n 1, 1) := by decide +kernel
theorem dX5_feed_51 : decode cX5_feed 51 = .ok (.bipush 8, 2) := by decide +kernel
theorem dX5_feed_53 : decode cX5_feed 53 = .ok (.iload_n 3, 1) := by decide +kernel
theorem dX5_feed_54 : decode cX5_feed 54 = .ok (.imul, 1) := by decide +kernel
theorem dX5_feed_55 : decode cX5_feed 55 = .ok (.ishr, 1) := by decide +kernel
theorem dX5_feed_56 : decode cX5_feed 56 = .ok (.sipush 255, 3) := by decide +kernel
theorem dX5_feed_59 : decode cX5_feed 59 = .ok (.iand, 1) := by decide +kernel
theorem dX5_feed_60 : decode cX5_feed 60 = .ok (.iastore, 1) := by decide +kernel
theorem dX5_feed_61 : decode cX5_feed 61 = .ok (.aload_n 0, 1) := by decide +kernel
theorem dX5_feed_62 : decode cX5_feed 62 = .ok (.dup, 1) := by decide +kernel
theorem dX5_feed_63 : decode cX5_feed 63 = .ok (.getfield 174, 3) := by decide +kernel
theorem dX5_feed_66 : decode cX5_feed 66 = .ok (.iconst 1, 1) := by decide +kernel
theorem dX5_feed_67 : decode cX5_feed 67 = .ok (.iadd, 1) := by decide +kernel
theorem dX5_feed_68 : decode cX5_feed 68 = .ok (.putfield 174, 3) := by decide +kernel
theorem dX5_feed_71 : decode cX5_feed 71 = .ok (.iinc 3 (-1), 3) := by decide +kernel
theorem dX5_feed_74 : decode cX5_feed 74 = .ok (.goto (-36), 3) := by decide +kernel
theorem dX5_feed_77 : decode cX5_feed 77 = .ok (.aload_n 0, 1) := by decide +kernel
theorem dX5_feed_78 : decode cX5_feed 78 = .ok (.getfield 174, 3) := by decide +kernel
theorem dX5_feed_81 : decode cX5_feed 81 = .ok (.ireturn, 1) := by decide +kernel
theorem dX5_wipe_0 : decode cX5_wipe 0 = .ok (.aload_n 0, 1) := by decide +kernel
theorem dX5_wipe_1 : decode cX5_wipe 1 = .ok (.getfield 174, 3) := by decide +kernel
theorem dX5_wipe_4 : decode cX5_wipe 4 = .ok (.istore_n 1, 1) := by decide +kernel
theorem dX5_wipe_5 : decode cX5_wipe 5 = .ok (.aload_n 0, 1) := by decide +kernel
theorem dX5_wipe_6 : decode cX5_wipe 6 = .ok (.iconst 0, 1) := by decide +kernel
theorem dX5_wipe_7 : decode cX5_wipe 7 = .ok (.putfield 174, 3) := by decide +kernel
theorem dX5_wipe_10 : decode cX5_wipe 10 = .ok (.iload_n 1, 1) := by decide +kernel
theorem dX5_wipe_11 : decode cX5_wipe 11 = .ok (.ireturn, 1) := by decide +kernel
theorem dX5_byteAt_0 : decode cX5_byteAt 0 = .ok (.iload_n 1, 1) := by decide +kernel
theorem dX5_byteAt_1 : decode cX5_byteAt 1 = .ok (.aload_n 0, 1) := by decide +kernel
theorem dX5_byteAt_2 : decode cX5_byteAt 2 = .ok (.getfield 174, 3) := by decide +kernel
theorem dX5_byteAt_5 : decode cX5_byteAt 5 = .ok (.if_icmp .ge 12, 3) := by decide +kernel
theorem dX5_byteAt_8 : decode cX5_byteAt 8 = .ok (.aload_n 0, 1) := by decide +kernel
theorem dX5_byteAt_9 : decode cX5_byteAt 9 = .ok (.getfield 22, 3) := by decide +kernel
theorem dX5_byteAt_12 : decode cX5_byteAt 12 = .ok (.iload_n 1, 1) := by decide +kernel
theorem dX5_byteAt_13 : decode cX5_byteAt 13 = .ok (.iaload, 1) := by decide +kernel
theorem dX5_byteAt_14 : decode cX5_byteAt 14 = .ok (.goto 4, 3) := by decide +kernel
theorem dX5_byteAt_17 : decode cX5_byteAt 17 = .ok (.iconst (-1), 1) := by decide +kernel
theorem dX5_byteAt_18 : decode cX5_byteAt 18 = .ok (.ireturn, 1) := by decide +kernel
theorem dX5_isLetter_0 : decode cX5_isLetter 0 = .ok (.iload_n 0, 1) := by decide +kernel
theorem dX5_isLetter_1 : decode cX5_isLetter 1 = .ok (.bipush 97, 2) := by decide +kernel
theorem dX5_isLetter_3 : decode cX5_isLetter 3 = .ok (.bipush 122, 2) := by decide +kernel
theorem dX5_isLetter_5 : decode cX5_isLetter 5 = .ok (.invokestatic 49, 3) := by decide +kernel
theorem dX5_isLetter_8 : decode cX5_isLetter 8 = .ok (.ireturn, 1) := by decide +kernel
theorem dX5_isDigit_0 : decode cX5_isDigit 0 = .ok (.iload_n 0, 1) := by decide +kernel
theorem dX5_isDigit_1 : decode cX5_isDigit 1 = .ok (.bipush 48, 2) := by decide +kernel
theorem dX5_isDigit_3 : decode cX5_isDigit 3 = .ok (.bipush 57, 2) := by decide +kernel
theorem dX5_isDigit_5 : decode cX5_isDigit 5 = .ok (.invokestatic 49, 3) := by decide +kernel
theorem dX5_isDigit_8 : decode cX5_isDigit 8 = .ok (.ireturn, 1) := by decide +kernel
theorem dX5_advance_0 : decode cX5_advance 0 = .ok (.aload_n 0, 1) := by decide +kernel
theorem dX5_advance_1 : decode cX5_advance 1 = .ok (.aload_n 0, 1) := by decide +kernel
theorem dX5_advance_2 : decode cX5_advance 2 = .ok (.getfield 178, 3) := by decide +kernel
theorem dX5_advance_5 : decode cX5_advance 5 = .ok (.putfield 181, 3) := by decide +kernel
theorem dX5_advance_8 : decode cX5_advance 8 = .ok (.aload_n 0, 1) := by decide +kernel
theorem dX5_advance_9 : decode cX5_advance 9 = .ok (.aload_n 0, 1) := by decide +kernel
theorem dX5_advance_10 : decode cX5_advance 10 = .ok (.getfield 181, 3) := by decide +kernel
theorem dX5_advance_13 : decode cX5_advance 13 = .ok (.invokevirtual 184, 3) := by decide +kernel
theorem dX5_advance_16 : decode cX5_advance 16 = .ok (.bipush 32, 2) := by decide +kernel
theorem dX5_advance_18 : decode cX5_advance 18 = .ok (.if_icmp .ne 16, 3) := by decide +kernel
theorem dX5_advance_21 : decode cX5_advance 21 = .ok (.aload_n 0, 1) := by decide +kernel
theorem dX5_advance_22 : decode cX5_advance 22 = .ok (.dup, 1) := by decide +kernel
theorem dX5_advance_23 : decode cX5_advance 23 = .ok (.getfield 181, 3) := by decide +kernel
theorem dX5_advance_26 : decode cX5_advance 26 = .ok (.iconst 1, 1) := by decide +kernel
theorem dX5_advance_27 : decode cX5_advance 27 = .ok (.iadd, 1) := by decide +kernel
theorem dX5_advance_28 : decode cX5_advance 28 = .ok (.putfield 181, 3) := by decide +kernel
theorem dX5_advance_31 : decode cX5_advance 31 = .ok (.goto (-23), 3) := by decide +kernel
theorem dX5_advance_34 : decode cX5_advance 34 = .ok (.aload_n 0, 1) := by decide +kernel
theorem dX5_advance_35 : decode cX5_advance 35 = .ok (.aload_n 0, 1) := by decide +kernel
theorem dX5_advance_36 : decode cX5_advance 36 = .ok (.getfield 181, 3) := by decide +kernel
theorem dX5_advance_39 : decode cX5_advance 39 = .ok (.putfield 178, 3) := by decide +kernel
theorem dX5_advance_42 : decode cX5_advance 42 = .ok (.aload_n 0, 1) := by decide +kernel
theorem dX5_advance_43 : decode cX5_advance 43 = .ok (.aload_n 0, 1) := by decide +kernel
theorem dX5_advance_44 : decode cX5_advance 44 = .ok (.getfield 181, 3) := by decide +kernel
theorem dX5_advance_47 : decode cX5_advance 47 = .ok (.invokevirtual 184, 3) := by decide +kernel
theorem dX5_advance_50 : decode cX5_advance 50 = .ok (.istore_n 1, 1) := by decide +kernel
theorem dX5_advance_51 : decode cX5_advance 51 = .ok (.aload_n 0, 1) := by decide +kernel
theorem dX5_advance_52 : decode cX5_advance 52 = .ok (.iload_n 1, 1) := by decide +kernel
theorem dX5_advance_53 : decode cX5_advance 53 = .ok (.ifCond .ge 7, 3) := by decide +kernel
theorem dX5_advance_56 : decode cX5_advance 56 = .ok (.iconst 0, 1) := by decide +kernel
theorem dX5_advance_57 : decode cX5_advance 57 = .ok (.goto 26, 3) := by decide +kernel
theorem dX5_advance_60 : decode cX5_advance 60 = .ok (.iload_n 1, 1) := by decide +kernel
theorem dX5_advance_61 : decode cX5_advance 61 = .ok (.invokestatic 187, 3) := by decide +kernel
theorem dX5_advance_64 : decode cX5_advance 64 = .ok (.ifCond .eq 7, 3) := by decide +kernel
theorem dX5_advance_67 : decode cX5_advance 67 = .ok (.iconst 1, 1) := by decide +kernel
theorem dX5_advance_68 : decode cX5_advance 68 = .ok (.goto 15, 3) := by decide +kernel
theorem dX5_advance_71 : decode cX5_advance 71 = .ok (.iload_n 1, 1) := by decide +kernel
theorem dX5_advance_72 : decode cX5_advance 72 = .ok (.invokestatic 190, 3) := by decide +kernel
theorem dX5_advance_75 : decode cX5_advance 75 = .ok (.ifCond .eq 7, 3) := by decide +kernel
theorem dX5_advance_78 : decode cX5_advance 78 = .ok (.iconst 2, 1) := by decide +kernel
theorem dX5_advance_79 : decode cX5_advance 79 = .ok (.goto 4, 3) := by decide +kernel
theorem dX5_advance_82 : decode cX5_advance 82 = .ok (.iconst 3, 1) := by decide +kernel
theorem dX5_advance_83 : decode cX5_advance 83 = .ok (.putfield 193, 3) := by decide +kernel
theorem dX5_advance_86 : decode cX5_advance 86 = .ok (.aload_n 0, 1) := by decide +kernel
theorem dX5_advance_87 : decode cX5_advance 87 = .ok (.lconst 0, 1) := by decide +kernel
theorem dX5_advance_88 : decode cX5_advance 88 = .ok (.putfield 196, 3) := by decide +kernel
theorem dX5_advance_91 : decode cX5_advance 91 = .ok (.aload_n 0, 1) := by decide +kernel
theorem dX5_advance_92 : decode cX5_advance 92 = .ok (.aload_n 0, 1) := by decide +kernel
theorem dX5_advance_93 : decode cX5_advance 93 = .ok (.getfield 193, 3) := by decide +kernel
theorem dX5_advance_96 : decode cX5_advance 96 = .ok (.iconst 2, 1) := by decide +kernel
theorem dX5_advance_97 : decode cX5_advance 97 = .ok (.if_icmp .ne 7, 3) := by decide +kernel
theorem dX5_advance_100 : decode cX5_advance 100 = .ok (.iconst 0, 1) := by decide +kernel
theorem dX5_advance_101 : decode cX5_advance 101 = .ok (.goto 4, 3) := by decide +kernel
theorem dX5_advance_104 : decode cX5_advance 104 = .ok (.iload_n 1, 1) := by decide +kernel
theorem dX5_advance_105 : decode cX5_advance 105 = .ok (.putfield 200, 3) := by decide +kernel
theorem dX5_advance_108 : decode cX5_advance 108 = .ok (.aload_n 0, 1) := by decide +kernel
theorem dX5_advance_109 : decode cX5_advance 109 = .ok (.getfield 193, 3) := by decide +kernel
theorem dX5_advance_112 : decode cX5_advance 112 = .ok (.iconst 3, 1) := by decide +kernel
theorem dX5_advance_113 : decode cX5_advance 113 = .ok (.if_icmp .ne 13, 3) := by decide +kernel
theorem dX5_advance_116 : decode cX5_advance 116 = .ok (.aload_n 0, 1) := by decide +kernel
theorem dX5_advance_117 : decode cX5_advance 117 = .ok (.dup, 1) := by decide +kernel
theorem dX5_advance_118 : decode cX5_advance 118 = .ok (.getfield 178, 3) := by decide +kernel
theorem dX5_advance_121 : decode cX5_advance 121 = .ok (.iconst 1, 1) := by decide +kernel
theorem dX5_advance_122 : decode cX5_advance 122 = .ok (.iadd, 1) := by decide +kernel
theorem dX5_advance_123 : decode cX5_advance 123 = .ok (.putfield 178, 3) := by decide +kernel
theorem dX5_advance_126 : decode cX5_advance 126 = .ok (.aload_n 0, 1) := by decide +kernel
theorem dX5_advance_127 : decode cX5_advance 127 = .ok (.getfield 193, 3) := by decide +kernel
theorem dX5_advance_130 : decode cX5_advance 130 = .ok (.iconst 1, 1) := by decide +kernel
theorem dX5_advance_131 : decode cX5_advance 131 = .ok (.if_icmp .ne 76, 3) := by decide +kernel
theorem dX5_advance_134 : decode cX5_advance 134 = .ok (.aload_n 0, 1) := by decide +kernel
theorem dX5_advance_135 : decode cX5_advance 135 = .ok (.aload_n 0, 1) := by decide +kernel
theorem dX5_advance_136 : decode cX5_advance 136 = .ok (.getfield 178, 3) := by decide +kernel
theorem dX5_advance_139 : decode cX5_advance 139 = .ok (.invokevirtual 184, 3) := by decide +kernel
theorem dX5_advance_142 : decode cX5_advance 142 = .ok (.invokestatic 187, 3) := by decide +kernel
theorem dX5_advance_145 : decode cX5_advance 145 = .ok (.ifCond .eq 62, 3) := by decide +kernel
theorem dX5_advance_148 : decode cX5_advance 148 = .ok (.aload_n 0, 1) := by decide +kernel
theorem dX5_advance_149 : decode cX5_advance 149 = .ok (.aload_n 0, 1) := by decide +kernel
theorem dX5_advance_150 : decode cX5_advance 150 = .ok (.getfield 178, 3) := by decide +kernel
theorem dX5_advance_153 : decode cX5_advance 153 = .ok (.aload_n 0, 1) := by decide +kernel
theorem dX5_advance_154 : decode cX5_advance 154 = .ok (.getfield 181, 3) := by decide +kernel
theorem dX5_advance_157 : decode cX5_advance 157 = .ok (.isub, 1) := by decide +kernel
theorem dX5_advance_158 : decode cX5_advance 158 = .ok (.bipush 12, 2) := by decide +kernel
theorem dX5_advance_160 : decode cX5_advance 160 = .ok (.if_icmp .ge 28, 3) := by decide +kernel
theorem dX5_advance_163 : decode cX5_advance 163 = .ok (.ldc2_w 203, 3) := by decide +kernel
theorem dX5_advance_166 : decode cX5_advance 166 = .ok (.aload_n 0, 1) := by decide +kernel
theorem dX5_advance_167 : decode cX5_advance 167 = .ok (.getfield 196, 3) := by decide +kernel
theorem dX5_advance_170 : decode cX5_advance 170 = .ok (.lmul, 1) := by decide +kernel
theorem dX5_advance_171 : decode cX5_advance 171 = .ok (.aload_n 0, 1) := by decide +kernel
theorem dX5_advance_172 : decode cX5_advance 172 = .ok (.aload_n 0, 1) := by decide +kernel
theorem dX5_advance_173 : decode cX5_advance 173 = .ok (.getfield 178, 3) := by decide +kernel
theorem dX5_advance_176 : decode cX5_advance 176 = .ok (.invokevirtual 184, 3) := by decide +kernel
theorem dX5_advance_179 : decode cX5_advance 179 = .ok (.i2l, 1) := by decide +kernel
theorem dX5_advance_180 : decode cX5_advance 180 = .ok (.ladd, 1) := by decide +kernel
theorem dX5_advance_181 : decode cX5_advance 181 = .ok (.ldc2_w 205, 3) := by decide +kernel
theorem dX5_advance_184 : decode cX5_advance 184 = .ok (.lsub, 1) := by decide +kernel
theorem dX5_advance_185 : decode cX5_advance 185 = .ok (.goto 6, 3) := by decide +kernel
theorem dX5_advance_188 : decode cX5_advance 188 = .ok (.ldc2_w 207, 3) := by decide +kernel
theorem dX5_advance_191 : decode cX5_advance 191 = .ok (.putfield 196, 3) := by decide +kernel
theorem dX5_advance_194 : decode cX5_advance 194 = .ok (.aload_n 0, 1) := by decide +kernel
theorem dX5_advance_195 : decode cX5_advance 195 = .ok (.dup, 1) := by decide +kernel
theorem dX5_advance_196 : decode cX5_advance 196 = .ok (.getfield 178, 3) := by decide +kernel
theorem dX5_advance_199 : decode cX5_advance 199 = .ok (.iconst 1, 1) := by decide +kernel
theorem dX5_advance_200 : decode cX5_advance 200 = .ok (.iadd, 1) := by decide +kernel
theorem dX5_advance_201 : decode cX5_advance 201 = .ok (.putfield 178, 3) := by decide +kernel
theorem dX5_advance_204 : decode cX5_advance 204 = .ok (.goto (-78), 3) := by decide +kernel
theorem dX5_advance_207 : decode cX5_advance 207 = .ok (.aload_n 0, 1) := by decide +kernel
theorem dX5_advance_208 : decode cX5_advance 208 = .ok (.getfield 193, 3) := by decide +kernel
theorem dX5_advance_211 : decode cX5_advance 211 = .ok (.iconst 2, 1) := by decide +kernel
theorem dX5_advance_212 : decode cX5_advance 212 = .ok (.if_icmp .ne 69, 3) := by decide +kernel
theorem dX5_advance_215 : decode cX5_advance 215 = .ok (.aload_n 0, 1) := by decide +kernel
theorem dX5_advance_216 : decode cX5_advance 216 = .ok (.aload_n 0, 1) := by decide +kernel
theorem dX5_advance_217 : decode cX5_advance 217 = .ok (.getfield 178, 3) := by decide +kernel
theorem dX5_advance_220 : decode cX5_advance 220 = .ok (.invokevirtual 184, 3) := by decide +kernel
theorem dX5_advance_223 : decode cX5_advance 223 = .ok (.invokestatic 190, 3) := by decide +kernel
theorem dX5_advance_226 : decode cX5_advance 226 = .ok (.ifCond .eq 55, 3) := by decide +kernel
theorem dX5_advance_229 : decode cX5_advance 229 = .ok (.aload_n 0, 1) := by decide +kernel
theorem dX5_advance_230 : decode cX5_advance 230 = .ok (.aload_n 0, 1) := by decide +kernel
theorem dX5_advance_231 : decode cX5_advance 231 = .ok (.getfield 200, 3) := by decide +kernel
theorem dX5_advance_234 : decode cX5_advance 234 = .ok (.sipush 999, 3) := by decide +kernel
theorem dX5_advance_237 : decode cX5_advance 237 = .ok (.if_icmp .le 9, 3) := by decide +kernel
theorem dX5_advance_240 : decode cX5_advance 240 = .ok (.sipush 10000, 3) := by decide +kernel
theorem dX5_advance_243 : decode cX5_advance 243 = .ok (.goto 22, 3) := by decide +kernel
theorem dX5_advance_246 : decode cX5_advance 246 = .ok (.bipush 10, 2) := by decide +kernel
theorem dX5_advance_248 : decode cX5_advance 248 = .ok (.aload_n 0, 1) := by decide +kernel
theorem dX5_advance_249 : decode cX5_advance 249 = .ok (.getfield 200, 3) := by decide +kernel
theorem dX5_advance_252 : decode cX5_advance 252 = .ok (.imul, 1) := by decide +kernel
theorem dX5_advance_253 : decode cX5_advance 253 = .ok (.aload_n 0, 1) := by decide +kernel
theorem dX5_advance_254 : decode cX5_advance 254 = .ok (.aload_n 0, 1) := by decide +kernel
theorem dX5_advance_255 : decode cX5_advance 255 = .ok (.getfield 178, 3) := by decide +kernel
theorem dX5_advance_258 : decode cX5_advance 258 = .ok (.invokevirtual 184, 3) := by decide +kernel
theorem dX5_advance_261 : decode cX5_advance 261 = .ok (.iadd, 1) := by decide +kernel
theorem dX5_advance_262 : decode cX5_advance 262 = .ok (.bipush 48, 2) := by decide +kernel
theorem dX5_advance_264 : decode cX5_advance 264 = .ok (.isub, 1) := by decide +kernel
theorem dX5_advance_265 : decode cX5_advance 265 = .ok (.putfield 200, 3) := by decide +kernel
theorem dX5_advance_268 : decode cX5_advance 268 = .ok (.aload_n 0, 1) := by decide +kernel
theorem dX5_advance_269 : decode cX5_advance 269 = .ok (.dup, 1) := by decide +kernel
theorem dX5_advance_270 : decode cX5_advance 270 = .ok (.getfield 178, 3) := by decide +kernel
theorem dX5_advance_273 : decode cX5_advance 273 = .ok (.iconst 1, 1) := by decide +kernel
theorem dX5_advance_274 : decode cX5_advance 274 = .ok (.iadd, 1) := by decide +kernel
theorem dX5_advance_275 : decode cX5_advance 275 = .ok (.putfield 178, 3) := by decide +kernel
theorem dX5_advance_278 : decode cX5_advance 278 = .ok (.goto (-71), 3) := by decide +kernel
theorem dX5_advance_281 : decode cX5_advance 281 = .ok (.return_, 1) := by decide +kernel
theorem dX5_isWord_0 : decode cX5_isWord 0 = .ok (.aload_n 0, 1) := by decide +kernel
theorem dX5_isWord_1 : decode cX5_isWord 1 = .ok (.getfield 193, 3) := by decide +kernel
theorem dX5_isWord_4 : decode cX5_isWord 4 = .ok (.iconst 1, 1) := by decide +kernel
theorem dX5_isWord_5 : decode cX5_isWord 5 = .ok (.if_icmp .ne 16, 3) := by decide +kernel
theorem dX5_isWord_8 : decode cX5_isWord 8 = .ok (.aload_n 0, 1) := by decide +kernel
theorem dX5_isWord_9 : decode cX5_isWord 9 = .ok (.getfield 196, 3) := by decide +kernel
theorem dX5_isWord_12 : decode cX5_isWord 12 = .ok (.lload_n 1, 1) := by decide +kernel
theorem dX5_isWord_13 : decode cX5_isWord 13 = .ok (.lcmp, 1) := by decide +kernel
theorem dX5_isWord_14 : decode cX5_isWord 14 = .ok (.ifCond .ne 7, 3) := by decide +kernel
theorem dX5_isWord_17 : decode cX5_isWord 17 = .ok (.iconst 1, 1) := by decide +kernel
theorem dX5_isWord_18 : decode cX5_isWord 18 = .ok (.goto 4, 3) := by decide +kernel
theorem dX5_isWord_21 : decode cX5_isWord 21 = .ok (.iconst 0, 1) := by decide +kernel
theorem dX5_isWord_22 : decode cX5_isWord 22 = .ok (.ireturn, 1) := by decide +kernel
theorem dX5_kindHere_0 : decode cX5_kindHere 0 = .ok (.aload_n 0, 1) := by decide +kernel
theorem dX5_kindHere_1 : decode cX5_kindHere 1 = .ok (.ldc2_w 209, 3) := by decide +kernel
theorem dX5_kindHere_4 : decode cX5_kindHere 4 = .ok (.invokevirtual 211, 3) := by decide +kernel
theorem dX5_kindHere_7 : decode cX5_kindHere 7 = .ok (.ifCond .eq 7, 3) := by decide +kernel
theorem dX5_kindHere_10 : decode cX5_kindHere 10 = .ok (.iconst 0, 1) := by decide +kernel
theorem dX5_kindHere_11 : decode cX5_kindHere 11 = .ok (.goto 74, 3) := by decide +kernel
theorem dX5_kindHere_14 : decode cX5_kindHere 14 = .ok (.aload_n 0, 1) := by decide +kernel
theorem dX5_kindHere_15 : decode cX5_kindHere 15 = .ok (.ldc2_w 215, 3) := by decide +kernel
theorem dX5_kindHere_18 : decode cX5_kindHere 18 = .ok (.invokevirtual 211, 3) := by decide +kernel
theorem dX5_kindHere_21 : decode cX5_kindHere 21 = .ok (.ifCond .eq 7, 3) := by decide +kernel
theorem dX5_kindHere_24 : decode cX5_kindHere 24 = .ok (.iconst 1, 1) := by decide +kernel
theorem dX5_kindHere_25 : decode cX5_kindHere 25 = .ok (.goto 60, 3) := by decide +kernel
theorem dX5_kindHere_28 : decode cX5_kindHere 28 = .ok (.aload_n 0, 1) := by decide +kernel
theorem dX5_kindHere_29 : decode cX5_kindHere 29 = .ok (.ldc2_w 217, 3) := by decide +kernel
theorem dX5_kindHere_32 : decode cX5_kindHere 32 = .ok (.invokevirtual 211, 3) := by decide +kernel
theorem dX5_kindHere_35 : decode cX5_kindHere 35 = .ok (.ifCond .eq 7, 3) := by decide +kernel
theorem dX5_kindHere_38 : decode cX5_kindHere 38 = .ok (.iconst 2, 1) := by decide +kernel
theorem dX5_kindHere_39 : decode cX5_kindHere 39 = .ok (.goto 46, 3) := by decide +kernel
theorem dX5_kindHere_42 : decode cX5_kindHere 42 = .ok (.aload_n 0, 1) := by decide +kernel
theorem dX5_kindHere_43 : decode cX5_kindHere 43 = .ok (.ldc2_w 219, 3) := by decide +kernel
theorem dX5_kindHere_46 : decode cX5_kindHere 46 = .ok (.invokevirtual 211, 3) := by decide +kernel
theorem dX5_kindHere_49 : decode cX5_kindHere 49 = .ok (.ifCond .eq 7, 3) := by decide +kernel
theorem dX5_kindHere_52 : decode cX5_kindHere 52 = .ok (.iconst 3, 1) := by decide +kernel
theorem dX5_kindHere_53 : decode cX5_kindHere 53 = .ok (.goto 32, 3) := by decide +kernel
theorem dX5_kindHere_56 : decode cX5_kindHere 56 = .ok (.aload_n 0, 1) := by decide +kernel
theorem dX5_kindHere_57 : decode cX5_kindHere 57 = .ok (.ldc2_w 221, 3) := by decide +kernel
theorem dX5_kindHere_60 : decode cX5_kindHere 60 = .ok (.invokevirtual 211, 3) := by decide +kernel
theorem dX5_kindHere_63 : decode cX5_kindHere 63 = .ok (.ifCond .eq 7, 3) := by decide +kernel
theorem dX5_kindHere_66 : decode cX5_kindHere 66 = .ok (.iconst 4, 1) := by decide +kernel
theorem dX5_kindHere_67 : decode cX5_kindHere 67 = .ok (.goto 18, 3) := by decide +kernel
theorem dX5_kindHere_70 : decode cX5_kindHere 70 = .ok (.aload_n 0, 1) := by decide +kernel
theorem dX5_kindHere_71 : decode cX5_kindHere 71 = .ok (.ldc2_w 223, 3) := by decide +kernel
theorem dX5_kindHere_74 : decode cX5_kindHere 74 = .ok (.invokevirtual 211, 3) := by decide +kernel
theorem dX5_kindHere_77 : decode cX5_kindHere 77 = .ok (.ifCond .eq 7, 3) := by decide +kernel
theorem dX5_kindHere_80 : decode cX5_kindHere 80 = .ok (.iconst 5, 1) := by decide +kernel
theorem dX5_kindHere_81 : decode cX5_kindHere 81 = .ok (.goto 4, 3) := by decide +kernel
theorem dX5_kindHere_84 : decode cX5_kindHere 84 = .ok (.iconst (-1), 1) := by decide +kernel
theorem dX5_kindHere_85 : decode cX5_kindHere 85 = .ok (.ireturn, 1) := by decide +kernel
theorem dX5_wantNumber_0 : decode cX5_wantNumber 0 = .ok (.aload_n 0, 1) := by decide +kernel
theorem dX5_wantNumber_1 : decode cX5_wantNumber 1 = .ok (.getfield 200, 3) := by decide +kernel
theorem dX5_wantNumber_4 : decode cX5_wantNumber 4 = .ok (.istore_n 3, 1) := by decide +kernel
theorem dX5_wantNumber_5 : decode cX5_wantNumber 5 = .ok (.aload_n 0, 1) := by decide +kernel
theorem dX5_wantNumber_6 : decode cX5_wantNumber 6 = .ok (.aload_n 0, 1) := by decide +kernel
theorem dX5_wantNumber_7 : decode cX5_wantNumber 7 = .ok (.getfield 225, 3) := by decide +kernel
theorem dX5_wantNumber_10 : decode cX5_wantNumber 10 = .ok (.ifCond .eq 24, 3) := by decide +kernel
theorem dX5_wantNumber_13 : decode cX5_wantNumber 13 = .ok (.aload_n 0, 1) := by decide +kernel
theorem dX5_wantNumber_14 : decode cX5_wantNumber 14 = .ok (.getfield 193, 3) := by decide +kernel
theorem dX5_wantNumber_17 : decode cX5_wantNumber 17 = .ok (.iconst 2, 1) := by decide +kernel
theorem dX5_wantNumber_18 : decode cX5_wantNumber 18 = .ok (.if_icmp .ne 16, 3) := by decide +kernel
theorem dX5_wantNumber_21 : decode cX5_wantNumber 21 = .ok (.iload_n 3, 1) := by decide +kernel
theorem dX5_wantNumber_22 : decode cX5_wantNumber 22 = .ok (.iload_n 1, 1) := by decide +kernel
theorem dX5_wantNumber_23 : decode cX5_wantNumber 23 = .ok (.iload_n 2, 1) := by decide +kernel
theorem dX5_wantNumber_24 : decode cX5_wantNumber 24 = .ok (.invokestatic 49, 3) := by decide +kernel
theorem dX5_wantNumber_27 : decode cX5_wantNumber 27 = .ok (.ifCond .eq 7, 3) := by decide +kernel
theorem dX5_wantNumber_30 : decode cX5_wantNumber 30 = .ok (.iconst 1, 1) := by decide +kernel
theorem dX5_wantNumber_31 : decode cX5_wantNumber 31 = .ok (.goto 4, 3) := by decide +kernel
theorem dX5_wantNumber_34 : decode cX5_wantNumber 34 = .ok (.iconst 0, 1) := by decide +kernel
theorem dX5_wantNumber_35 : decode cX5_wantNumber 35 = .ok (.putfield 225, 3) := by decide +kernel
theorem dX5_wantNumber_38 : decode cX5_wantNumber 38 = .ok (.aload_n 0, 1) := by decide +kernel
theorem dX5_wantNumber_39 : decode cX5_wantNumber 39 = .ok (.getfield 225, 3) := by decide +kernel
theorem dX5_wantNumber_42 : decode cX5_wantNumber 42 = .ok (.ifCond .eq 7, 3) := by decide +kernel
theorem dX5_wantNumber_45 : decode cX5_wantNumber 45 = .ok (.aload_n 0, 1) := by decide +kernel
theorem dX5_wantNumber_46 : decode cX5_wantNumber 46 = .ok (.invokevirtual 229, 3) := by decide +kernel
theorem dX5_wantNumber_49 : decode cX5_wantNumber 49 = .ok (.iload_n 3, 1) := by decide +kernel
theorem dX5_wantNumber_50 : decode cX5_wantNumber 50 = .ok (.ireturn, 1) := by decide +kernel
theorem dX5_mayWant_0 : decode cX5_mayWant 0 = .ok (.aload_n 0, 1) := by decide +kernel
theorem dX5_mayWant_1 : decode cX5_mayWant 1 = .ok (.getfield 225, 3) := by decide +kernel
theorem dX5_mayWant_4 : decode cX5_mayWant 4 = .ok (.ifCond .eq 11, 3) := by decide +kernel
theorem dX5_mayWant_7 : decode cX5_mayWant 7 = .ok (.aload_n 0, 1) := by decide +kernel
theorem dX5_mayWant_8 : decode cX5_mayWant 8 = .ok (.lload_n 1, 1) := by decide +kernel
theorem dX5_mayWant_9 : decode cX5_mayWant 9 = .ok (.invokevirtual 211, 3) := by decide +kernel
theorem dX5_mayWant_12 : decode cX5_mayWant 12 = .ok (.ifCond .ne 6, 3) := by decide +kernel
theorem dX5_mayWant_15 : decode cX5_mayWant 15 = .ok (.iload 5, 2) := by decide +kernel
theorem dX5_mayWant_17 : decode cX5_mayWant 17 = .ok (.ireturn, 1) := by decide +kernel
theorem dX5_mayWant_18 : decode cX5_mayWant 18 = .ok (.aload_n 0, 1) := by decide +kernel
theorem dX5_mayWant_19 : decode cX5_mayWant 19 = .ok (.invokevirtual 229, 3) := by decide +kernel
theorem dX5_mayWant_22 : decode cX5_mayWant 22 = .ok (.aload_n 0, 1) := by decide +kernel
theorem dX5_mayWant_23 : decode cX5_mayWant 23 = .ok (.iload_n 3, 1) := by decide +kernel
theorem dX5_mayWant_24 : decode cX5_mayWant 24 = .ok (.iload 4, 2) := by decide +kernel
theorem dX5_mayWant_26 : decode cX5_mayWant 26 = .ok (.invokevirtual 232, 3) := by decide +kernel
theorem dX5_mayWant_29 : decode cX5_mayWant 29 = .ok (.ireturn, 1) := by decide +kernel
theorem dX5_mayMemories_0 : decode cX5_mayMemories 0 = .ok (.aload_n 0, 1) := by decide +kernel
theorem dX5_mayMemories_1 : decode cX5_mayMemories 1 = .ok (.getfield 225, 3) := by decide +kernel
theorem dX5_mayMemories_4 : decode cX5_mayMemories 4 = .ok (.ifCond .eq 11, 3) := by decide +kernel
theorem dX5_mayMemories_7 : decode cX5_mayMemories 7 = .ok (.aload_n 0, 1) := by decide +kernel
theorem dX5_mayMemories_8 : decode cX5_mayMemories 8 = .ok (.lload_n 1, 1) := by decide +kernel
theorem dX5_mayMemories_9 : decode cX5_mayMemories 9 = .ok (.invokevirtual 211, 3) := by decide +kernel
theorem dX5_mayMemories_12 : decode cX5_mayMemories 12 = .ok (.ifCond .ne 5, 3) := by decide +kernel
theorem dX5_mayMemories_15 : decode cX5_mayMemories 15 = .ok (.iconst (-1), 1) := by decide +kernel
theorem dX5_mayMemories_16 : decode cX5_mayMemories 16 = .ok (.ireturn, 1) := by decide +kernel
theorem dX5_mayMemories_17 : decode cX5_mayMemories 17 = .ok (.aload_n 0, 1) := by decide +kernel
theorem dX5_mayMemories_18 : decode cX5_mayMemories 18 = .ok (.invokevirtual 229, 3) := by decide +kernel
theorem dX5_mayMemories_21 : decode cX5_mayMemories 21 = .ok (.iconst 0, 1) := by decide +kernel
theorem dX5_mayMemories_22 : decode cX5_mayMemories 22 = .ok (.istore_n 3, 1) := by decide +kernel
theorem dX5_mayMemories_23 : decode cX5_mayMemories 23 = .ok (.iconst 0, 1) := by decide +kernel
theorem dX5_mayMemories_24 : decode cX5_mayMemories 24 = .ok (.istore 4, 2) := by decide +kernel
theorem dX5_mayMemories_26 : decode cX5_mayMemories 26 = .ok (.iload 4, 2) := by decide +kernel
theorem dX5_mayMemories_28 : decode cX5_mayMemories 28 = .ok (.iconst 4, 1) := by decide +kernel
theorem dX5_mayMemories_29 : decode cX5_mayMemories 29 = .ok (.if_icmp .ge 56, 3) := by decide +kernel
theorem dX5_mayMemories_32 : decode cX5_mayMemories 32 = .ok (.aload_n 0, 1) := by decide +kernel
theorem dX5_mayMemories_33 : decode cX5_mayMemories 33 = .ok (.getfield 225, 3) := by decide +kernel
theorem dX5_mayMemories_36 : decode cX5_mayMemories 36 = .ok (.ifCond .eq 49, 3) := by decide +kernel
theorem dX5_mayMemories_39 : decode cX5_mayMemories 39 = .ok (.iload 4, 2) := by decide +kernel
theorem dX5_mayMemories_41 : decode cX5_mayMemories 41 = .ok (.ifCond .eq 11, 3) := by decide +kernel
theorem dX5_mayMemories_44 : decode cX5_mayMemories 44 = .ok (.aload_n 0, 1) := by decide +kernel
theorem dX5_mayMemories_45 : decode cX5_mayMemories 45 = .ok (.getfield 193, 3) := by decide +kernel
theorem dX5_mayMemories_48 : decode cX5_mayMemories 48 = .ok (.iconst 2, 1) := by decide +kernel
theorem dX5_mayMemories_49 : decode cX5_mayMemories 49 = .ok (.if_icmp .ne 36, 3) := by decide +kernel
theorem dX5_mayMemories_52 : decode cX5_mayMemories 52 = .ok (.aload_n 0, 1) := by decide +kernel
theorem dX5_mayMemories_53 : decode cX5_mayMemories 53 = .ok (.iconst 0, 1) := by decide +kernel
theorem dX5_mayMemories_54 : decode cX5_mayMemories 54 = .ok (.bipush 9, 2) := by decide +kernel
theorem dX5_mayMemories_56 : decode cX5_mayMemories 56 = .ok (.invokevirtual 232, 3) := by decide +kernel
theorem dX5_mayMemories_59 : decode cX5_mayMemories 59 = .ok (.istore 5, 2) := by decide +kernel
theorem dX5_mayMemories_61 : decode cX5_mayMemories 61 = .ok (.iload_n 3, 1) := by decide +kernel
theorem dX5_mayMemories_62 : decode cX5_mayMemories 62 = .ok (.aload_n 0, 1) := by decide +kernel
theorem dX5_mayMemories_63 : decode cX5_mayMemories 63 = .ok (.getfield 225, 3) := by decide +kernel
theorem dX5_mayMemories_66 : decode cX5_mayMemories 66 = .ok (.ifCond .eq 10, 3) := by decide +kernel
theorem dX5_mayMemories_69 : decode cX5_mayMemories 69 = .ok (.iconst 1, 1) := by decide +kernel
theorem dX5_mayMemories_70 : decode cX5_mayMemories 70 = .ok (.iload 5, 2) := by decide +kernel
theorem dX5_mayMemories_72 : decode cX5_mayMemories 72 = .ok (.ishl, 1) := by decide +kernel
theorem dX5_mayMemories_73 : decode cX5_mayMemories 73 = .ok (.goto 4, 3) := by decide +kernel
theorem dX5_mayMemories_76 : decode cX5_mayMemories 76 = .ok (.iconst 0, 1) := by decide +kernel
theorem dX5_mayMemories_77 : decode cX5_mayMemories 77 = .ok (.ior, 1) := by decide +kernel
theorem dX5_mayMemories_78 : decode cX5_mayMemories 78 = .ok (.istore_n 3, 1) := by decide +kernel
theorem dX5_mayMemories_79 : decode cX5_mayMemories 79 = .ok (.iinc 4 1, 3) := by decide +kernel
theorem dX5_mayMemories_82 : decode cX5_mayMemories 82 = .ok (.goto (-56), 3) := by decide +kernel
theorem dX5_mayMemories_85 : decode cX5_mayMemories 85 = .ok (.iload_n 3, 1) := by decide +kernel
theorem dX5_mayMemories_86 : decode cX5_mayMemories 86 = .ok (.ireturn, 1) := by decide +kernel
theorem dX5_wantOne_0 : decode cX5_wantOne 0 = .ok (.aload_n 0, 1) := by decide +kernel
theorem dX5_wantOne_1 : decode cX5_wantOne 1 = .ok (.aload_n 0, 1) := by decide +kernel
theorem dX5_wantOne_2 : decode cX5_wantOne 2 = .ok (.getfield 7, 3) := by decide +kernel
theorem dX5_wantOne_5 : decode cX5_wantOne 5 = .ok (.iconst 2, 1) := by decide +kernel
theorem dX5_wantOne_6 : decode cX5_wantOne 6 = .ok (.iaload, 1) := by decide +kernel
theorem dX5_wantOne_7 : decode cX5_wantOne 7 = .ok (.bipush 8, 2) := by decide +kernel
theorem dX5_wantOne_9 : decode cX5_wantOne 9 = .ok (.if_icmp .ge 7, 3) := by decide +kernel
theorem dX5_wantOne_12 : decode cX5_wantOne 12 = .ok (.iconst 1, 1) := by decide +kernel
theorem dX5_wantOne_13 : decode cX5_wantOne 13 = .ok (.goto 4, 3) := by decide +kernel
theorem dX5_wantOne_16 : decode cX5_wantOne 16 = .ok (.iconst 0, 1) := by decide +kernel
theorem dX5_wantOne_17 : decode cX5_wantOne 17 = .ok (.putfield 225, 3) := by decide +kernel
theorem dX5_wantOne_20 : decode cX5_wantOne 20 = .ok (.aload_n 0, 1) := by decide +kernel
theorem dX5_wantOne_21 : decode cX5_wantOne 21 = .ok (.getfield 225, 3) := by decide +kernel
theorem dX5_wantOne_24 : decode cX5_wantOne 24 = .ok (.ifCond .ne 4, 3) := by decide +kernel
theorem dX5_wantOne_27 : decode cX5_wantOne 27 = .ok (.return_, 1) := by decide +kernel
theorem dX5_wantOne_28 : decode cX5_wantOne 28 = .ok (.aload_n 0, 1) := by decide +kernel
theorem dX5_wantOne_29 : decode cX5_wantOne 29 = .ok (.invokevirtual 229, 3) := by decide +kernel
theorem dX5_wantOne_32 : decode cX5_wantOne 32 = .ok (.aload_n 0, 1) := by decide +kernel
theorem dX5_wantOne_33 : decode cX5_wantOne 33 = .ok (.ldc2_w 235, 3) := by decide +kernel
theorem dX5_wantOne_36 : decode cX5_wantOne 36 = .ok (.invokevirtual 237, 3) := by decide +kernel
theorem dX5_wantOne_39 : decode cX5_wantOne 39 = .ok (.istore_n 2, 1) := by decide +kernel
theorem dX5_wantOne_40 : decode cX5_wantOne 40 = .ok (.aload_n 0, 1) := by decide +kernel
theorem dX5_wantOne_41 : decode cX5_wantOne 41 = .ok (.ldc2_w 241, 3) := by decide +kernel
theorem dX5_wantOne_44 : decode cX5_wantOne 44 = .ok (.iconst 0, 1) := by decide +kernel
theorem dX5_wantOne_45 : decode cX5_wantOne 45 = .ok (.bipush 99, 2) := by decide +kernel
theorem dX5_wantOne_47 : decode cX5_wantOne 47 = .ok (.iconst 0, 1) := by decide +kernel
theorem dX5_wantOne_48 : decode cX5_wantOne 48 = .ok (.invokevirtual 243, 3) := by decide +kernel
theorem dX5_wantOne_51 : decode cX5_wantOne 51 = .ok (.istore_n 3, 1) := by decide +kernel
theorem dX5_wantOne_52 : decode cX5_wantOne 52 = .ok (.aload_n 0, 1) := by decide +kernel
theorem dX5_wantOne_53 : decode cX5_wantOne 53 = .ok (.getfield 225, 3) := by decide +kernel
theorem dX5_wantOne_56 : decode cX5_wantOne 56 = .ok (.ifCond .eq 18, 3) := by decide +kernel
theorem dX5_wantOne_59 : decode cX5_wantOne 59 = .ok (.aload_n 0, 1) := by decide +kernel
theorem dX5_wantOne_60 : decode cX5_wantOne 60 = .ok (.iload_n 1, 1) := by decide +kernel
theorem dX5_wantOne_61 : decode cX5_wantOne 61 = .ok (.iload_n 2, 1) := by decide +kernel
theorem dX5_wantOne_62 : decode cX5_wantOne 62 = .ok (.ifCond .ge 7, 3) := by decide +kernel
theorem dX5_wantOne_65 : decode cX5_wantOne 65 = .ok (.iconst 0, 1) := by decide +kernel
theorem dX5_wantOne_66 : decode cX5_wantOne 66 = .ok (.goto 4, 3) := by decide +kernel
theorem dX5_wantOne_69 : decode cX5_wantOne 69 = .ok (.iload_n 2, 1) := by decide +kernel
theorem dX5_wantOne_70 : decode cX5_wantOne 70 = .ok (.iload_n 3, 1) := by decide +kernel
theorem dX5_wantOne_71 : decode cX5_wantOne 71 = .ok (.invokevirtual 100, 3) := by decide +kernel
theorem dX5_wantOne_74 : decode cX5_wantOne 74 = .ok (.return_, 1) := by decide +kernel
theorem dX5_wantRoom_0 : decode cX5_wantRoom 0 = .ok (.aload_n 0, 1) := by decide +kernel
theorem dX5_wantRoom_1 : decode cX5_wantRoom 1 = .ok (.invokevirtual 229, 3) := by decide +kernel
theorem dX5_wantRoom_4 : decode cX5_wantRoom 4 = .ok (.aload_n 0, 1) := by decide +kernel
theorem dX5_wantRoom_5 : decode cX5_wantRoom 5 = .ok (.iconst 0, 1) := by decide +kernel
theorem dX5_wantRoom_6 : decode cX5_wantRoom 6 = .ok (.bipush 7, 2) := by decide +kernel
theorem dX5_wantRoom_8 : decode cX5_wantRoom 8 = .ok (.invokevirtual 232, 3) := by decide +kernel
theorem dX5_wantRoom_11 : decode cX5_wantRoom 11 = .ok (.istore_n 1, 1) := by decide +kernel
theorem dX5_wantRoom_12 : decode cX5_wantRoom 12 = .ok (.aload_n 0, 1) := by decide +kernel
theorem dX5_wantRoom_13 : decode cX5_wantRoom 13 = .ok (.getfield 225, 3) := by decide +kernel
theorem dX5_wantRoom_16 : decode cX5_wantRoom 16 = .ok (.ifCond .ne 4, 3) := by decide +kernel
theorem dX5_wantRoom_19 : decode cX5_wantRoom 19 = .ok (.return_, 1) := by decide +kernel
theorem dX5_wantRoom_20 : decode cX5_wantRoom 20 = .ok (.aload_n 0, 1) := by decide +kernel
theorem dX5_wantRoom_21 : decode cX5_wantRoom 21 = .ok (.ldc2_w 247, 3) := by decide +kernel
theorem dX5_wantRoom_24 : decode cX5_wantRoom 24 = .ok (.iconst 0, 1) := by decide +kernel
theorem dX5_wantRoom_25 : decode cX5_wantRoom 25 = .ok (.bipush 99, 2) := by decide +kernel
theorem dX5_wantRoom_27 : decode cX5_wantRoom 27 = .ok (.aload_n 0, 1) := by decide +kernel
theorem dX5_wantRoom_28 : decode cX5_wantRoom 28 = .ok (.iload_n 1, 1) := by decide +kernel
theorem dX5_wantRoom_29 : decode cX5_wantRoom 29 = .ok (.iconst 0, 1) := by decide +kernel
theorem dX5_wantRoom_30 : decode cX5_wantRoom 30 = .ok (.invokevirtual 71, 3) := by decide +kernel
theorem dX5_wantRoom_33 : decode cX5_wantRoom 33 = .ok (.invokevirtual 243, 3) := by decide +kernel
theorem dX5_wantRoom_36 : decode cX5_wantRoom 36 = .ok (.istore_n 2, 1) := by decide +kernel
theorem dX5_wantRoom_37 : decode cX5_wantRoom 37 = .ok (.aload_n 0, 1) := by decide +kernel
theorem dX5_wantRoom_38 : decode cX5_wantRoom 38 = .ok (.ldc2_w 249, 3) := by decide +kernel
theorem dX5_wantRoom_41 : decode cX5_wantRoom 41 = .ok (.invokevirtual 237, 3) := by decide +kernel
theorem dX5_wantRoom_44 : decode cX5_wantRoom 44 = .ok (.istore_n 3, 1) := by decide +kernel
theorem dX5_wantRoom_45 : decode cX5_wantRoom 45 = .ok (.aload_n 0, 1) := by decide +kernel
theorem dX5_wantRoom_46 : decode cX5_wantRoom 46 = .ok (.getfield 225, 3) := by decide +kernel
theorem dX5_wantRoom_49 : decode cX5_wantRoom 49 = .ok (.ifCond .eq 30, 3) := by decide +kernel
theorem dX5_wantRoom_52 : decode cX5_wantRoom 52 = .ok (.aload_n 0, 1) := by decide +kernel
theorem dX5_wantRoom_53 : decode cX5_wantRoom 53 = .ok (.iload_n 1, 1) := by decide +kernel
theorem dX5_wantRoom_54 : decode cX5_wantRoom 54 = .ok (.iconst 0, 1) := by decide +kernel
theorem dX5_wantRoom_55 : decode cX5_wantRoom 55 = .ok (.iload_n 2, 1) := by decide +kernel
theorem dX5_wantRoom_56 : decode cX5_wantRoom 56 = .ok (.invokevirtual 44, 3) := by decide +kernel
theorem dX5_wantRoom_59 : decode cX5_wantRoom 59 = .ok (.aload_n 0, 1) := by decide +kernel
theorem dX5_wantRoom_60 : decode cX5_wantRoom 60 = .ok (.iload_n 1, 1) := by decide +kernel
theorem dX5_wantRoom_61 : decode cX5_wantRoom 61 = .ok (.iconst 1, 1) := by decide +kernel
theorem dX5_wantRoom_62 : decode cX5_wantRoom 62 = .ok (.iload_n 3, 1) := by decide +kernel
theorem dX5_wantRoom_63 : decode cX5_wantRoom 63 = .ok (.ifCond .ge 12, 3) := by decide +kernel
theorem dX5_wantRoom_66 : decode cX5_wantRoom 66 = .ok (.aload_n 0, 1) := by decide +kernel
theorem dX5_wantRoom_67 : decode cX5_wantRoom 67 = .ok (.iload_n 1, 1) := by decide +kernel
theorem dX5_wantRoom_68 : decode cX5_wantRoom 68 = .ok (.iconst 1, 1) := by decide +kernel
theorem dX5_wantRoom_69 : decode cX5_wantRoom 69 = .ok (.invokevirtual 71, 3) := by decide +kernel
theorem dX5_wantRoom_72 : decode cX5_wantRoom 72 = .ok (.goto 4, 3) := by decide +kernel
theorem dX5_wantRoom_75 : decode cX5_wantRoom 75 = .ok (.iload_n 3, 1) := by decide +kernel
theorem dX5_wantRoom_76 : decode cX5_wantRoom 76 = .ok (.invokevirtual 44, 3) := by decide +kernel
theorem dX5_wantRoom_79 : decode cX5_wantRoom 79 = .ok (.return_, 1) := by decide +kernel
theorem dX5_wantItem_0 : decode cX5_wantItem 0 = .ok (.aload_n 0, 1) := by decide +kernel
theorem dX5_wantItem_1 : decode cX5_wantItem 1 = .ok (.invokevirtual 251, 3) := by decide +kernel
theorem dX5_wantItem_4 : decode cX5_wantItem 4 = .ok (.ifCond .lt 14, 3) := by decide +kernel
theorem dX5_wantItem_7 : decode cX5_wantItem 7 = .ok (.aload_n 0, 1) := by decide +kernel
theorem dX5_wantItem_8 : decode cX5_wantItem 8 = .ok (.aload_n 0, 1) := by decide +kernel
theorem dX5_wantItem_9 : decode cX5_wantItem 9 = .ok (.invokevirtual 251, 3) := by decide +kernel
theorem dX5_wantItem_12 : decode cX5_wantItem 12 = .ok (.invokevirtual 254, 3) := by decide +kernel
theorem dX5_wantItem_15 : decode cX5_wantItem 15 = .ok (.goto 117, 3) := by decide +kernel
theorem dX5_wantItem_18 : decode cX5_wantItem 18 = .ok (.aload_n 0, 1) := by decide +kernel
theorem dX5_wantItem_19 : decode cX5_wantItem 19 = .ok (.ldc2_w 257, 3) := by decide +kernel
theorem dX5_wantItem_22 : decode cX5_wantItem 22 = .ok (.invokevirtual 211, 3) := by decide +kernel
theorem dX5_wantItem_25 : decode cX5_wantItem 25 = .ok (.ifCond .eq 10, 3) := by decide +kernel
theorem dX5_wantItem_28 : decode cX5_wantItem 28 = .ok (.aload_n 0, 1) := by decide +kernel
theorem dX5_wantItem_29 : decode cX5_wantItem 29 = .ok (.invokevirtual 259, 3) := by decide +kernel
theorem dX5_wantItem_32 : decode cX5_wantItem 32 = .ok (.goto 100, 3) := by decide +kernel
theorem dX5_wantItem_35 : decode cX5_wantItem 35 = .ok (.aload_n 0, 1) := by decide +kernel
theorem dX5_wantItem_36 : decode cX5_wantItem 36 = .ok (.ldc2_w 262, 3) := by decide +kernel
theorem dX5_wantItem_39 : decode cX5_wantItem 39 = .ok (.invokevirtual 211, 3) := by decide +kernel
theorem dX5_wantItem_42 : decode cX5_wantItem 42 = .ok (.ifCond .eq 41, 3) := by decide +kernel
theorem dX5_wantItem_45 : decode cX5_wantItem 45 = .ok (.aload_n 0, 1) := by decide +kernel
theorem dX5_wantItem_46 : decode cX5_wantItem 46 = .ok (.invokevirtual 229, 3) := by decide +kernel
theorem dX5_wantItem_49 : decode cX5_wantItem 49 = .ok (.aload_n 0, 1) := by decide +kernel
theorem dX5_wantItem_50 : decode cX5_wantItem 50 = .ok (.iconst 0, 1) := by decide +kernel
theorem dX5_wantItem_51 : decode cX5_wantItem 51 = .ok (.bipush 20, 2) := by decide +kernel
theorem dX5_wantItem_53 : decode cX5_wantItem 53 = .ok (.invokevirtual 232, 3) := by decide +kernel
theorem dX5_wantItem_56 : decode cX5_wantItem 56 = .ok (.istore_n 1, 1) := by decide +kernel
theorem dX5_wantItem_57 : decode cX5_wantItem 57 = .ok (.aload_n 0, 1) := by decide +kernel
theorem dX5_wantItem_58 : decode cX5_wantItem 58 = .ok (.getfield 7, 3) := by decide +kernel
theorem dX5_wantItem_61 : decode cX5_wantItem 61 = .ok (.iconst 1, 1) := by decide +kernel
theorem dX5_wantItem_62 : decode cX5_wantItem 62 = .ok (.aload_n 0, 1) := by decide +kernel
theorem dX5_wantItem_63 : decode cX5_wantItem 63 = .ok (.getfield 225, 3) := by decide +kernel
theorem dX5_wantItem_66 : decode cX5_wantItem 66 = .ok (.ifCond .eq 7, 3) := by decide +kernel
theorem dX5_wantItem_69 : decode cX5_wantItem 69 = .ok (.iload_n 1, 1) := by decide +kernel
theorem dX5_wantItem_70 : decode cX5_wantItem 70 = .ok (.goto 9, 3) := by decide +kernel
theorem dX5_wantItem_73 : decode cX5_wantItem 73 = .ok (.aload_n 0, 1) := by decide +kernel
theorem dX5_wantItem_74 : decode cX5_wantItem 74 = .ok (.getfield 7, 3) := by decide +kernel
theorem dX5_wantItem_77 : decode cX5_wantItem 77 = .ok (.iconst 1, 1) := by decide +kernel
theorem dX5_wantItem_78 : decode cX5_wantItem 78 = .ok (.iaload, 1) := by decide +kernel
theorem dX5_wantItem_79 : decode cX5_wantItem 79 = .ok (.iastore, 1) := by decide +kernel
theorem dX5_wantItem_80 : decode cX5_wantItem 80 = .ok (.goto 52, 3) := by decide +kernel
theorem dX5_wantItem_83 : decode cX5_wantItem 83 = .ok (.aload_n 0, 1) := by decide +kernel
theorem dX5_wantItem_84 : decode cX5_wantItem 84 = .ok (.ldc2_w 264, 3) := by decide +kernel
theorem dX5_wantItem_87 : decode cX5_wantItem 87 = .ok (.invokevirtual 211, 3) := by decide +kernel
theorem dX5_wantItem_90 : decode cX5_wantItem 90 = .ok (.ifCond .eq 37, 3) := by decide +kernel
theorem dX5_wantItem_93 : decode cX5_wantItem 93 = .ok (.aload_n 0, 1) := by decide +kernel
theorem dX5_wantItem_94 : decode cX5_wantItem 94 = .ok (.invokevirtual 229, 3) := by decide +kernel
theorem dX5_wantItem_97 : decode cX5_wantItem 97 = .ok (.aload_n 0, 1) := by decide +kernel
theorem dX5_wantItem_98 : decode cX5_wantItem 98 = .ok (.iconst 0, 1) := by decide +kernel
theorem dX5_wantItem_99 : decode cX5_wantItem 99 = .ok (.aload_n 0, 1) := by decide +kernel
theorem dX5_wantItem_100 : decode cX5_wantItem 100 = .ok (.getfield 7, 3) := by decide +kernel
theorem dX5_wantItem_103 : decode cX5_wantItem 103 = .ok (.iconst 2, 1) := by decide +kernel
theorem dX5_wantItem_104 : decode cX5_wantItem 104 = .ok (.iaload, 1) := by decide +kernel
theorem dX5_wantItem_105 : decode cX5_wantItem 105 = .ok (.iconst 1, 1) := by decide +kernel
theorem dX5_wantItem_106 : decode cX5_wantItem 106 = .ok (.isub, 1) := by decide +kernel
theorem dX5_wantItem_107 : decode cX5_wantItem 107 = .ok (.invokevirtual 232, 3) := by decide +kernel
theorem dX5_wantItem_110 : decode cX5_wantItem 110 = .ok (.istore_n 1, 1) := by decide +kernel
theorem dX5_wantItem_111 : decode cX5_wantItem 111 = .ok (.aload_n 0, 1) := by decide +kernel
theorem dX5_wantItem_112 : decode cX5_wantItem 112 = .ok (.getfield 225, 3) := by decide +kernel
theorem dX5_wantItem_115 : decode cX5_wantItem 115 = .ok (.ifCond .eq 9, 3) := by decide +kernel
theorem dX5_wantItem_118 : decode cX5_wantItem 118 = .ok (.aload_n 0, 1) := by decide +kernel
theorem dX5_wantItem_119 : decode cX5_wantItem 119 = .ok (.iload_n 1, 1) := by decide +kernel
theorem dX5_wantItem_120 : decode cX5_wantItem 120 = .ok (.invokevirtual 133, 3) := by decide +kernel
theorem dX5_wantItem_123 : decode cX5_wantItem 123 = .ok (.pop, 1) := by decide +kernel
theorem dX5_wantItem_124 : decode cX5_wantItem 124 = .ok (.goto 8, 3) := by decide +kernel
theorem dX5_wantItem_127 : decode cX5_wantItem 127 = .ok (.aload_n 0, 1) := by decide +kernel
theorem dX5_wantItem_128 : decode cX5_wantItem 128 = .ok (.iconst 0, 1) := by decide +kernel
theorem dX5_wantItem_129 : decode cX5_wantItem 129 = .ok (.putfield 225, 3) := by decide +kernel
theorem dX5_wantItem_132 : decode cX5_wantItem 132 = .ok (.return_, 1) := by decide +kernel
theorem dX5_house_0 : decode cX5_house 0 = .ok (.aload_n 0, 1) := by decide +kernel
theorem dX5_house_1 : decode cX5_house 1 = .ok (.iconst 1, 1) := by decide +kernel
theorem dX5_house_2 : decode cX5_house 2 = .ok (.aload_n 0, 1) := by decide +kernel
theorem dX5_house_3 : decode cX5_house 3 = .ok (.getfield 41, 3) := by decide +kernel
theorem dX5_house_6 : decode cX5_house 6 = .ok (.invokevirtual 147, 3) := by decide +kernel
theorem dX5_house_9 : decode cX5_house 9 = .ok (.aload_n 0, 1) := by decide +kernel
theorem dX5_house_10 : decode cX5_house 10 = .ok (.iconst 0, 1) := by decide +kernel
theorem dX5_house_11 : decode cX5_house 11 = .ok (.putfield 178, 3) := by decide +kernel
theorem dX5_house_14 : decode cX5_house 14 = .ok (.aload_n 0, 1) := by decide +kernel
theorem dX5_house_15 : decode cX5_house 15 = .ok (.iconst 1, 1) := by decide +kernel
theorem dX5_house_16 : decode cX5_house 16 = .ok (.putfield 225, 3) := by decide +kernel
theorem dX5_house_19 : decode cX5_house 19 = .ok (.iconst 0, 1) := by decide +kernel
theorem dX5_house_20 : decode cX5_house 20 = .ok (.istore_n 1, 1) := by decide +kernel
theorem dX5_house_21 : decode cX5_house 21 = .ok (.iconst 1, 1) := by decide +kernel
theorem dX5_house_22 : decode cX5_house 22 = .ok (.istore_n 2, 1) := by decide +kernel
theorem dX5_house_23 : decode cX5_house 23 = .ok (.iload_n 2, 1) := by decide +kernel
theorem dX5_house_24 : decode cX5_house 24 = .ok (.ifCond .eq 47, 3) := by decide +kernel
theorem dX5_house_27 : decode cX5_house 27 = .ok (.aload_n 0, 1) := by decide +kernel
theorem dX5_house_28 : decode cX5_house 28 = .ok (.invokevirtual 229, 3) := by decide +kernel
theorem dX5_house_31 : decode cX5_house 31 = .ok (.aload_n 0, 1) := by decide +kernel
theorem dX5_house_32 : decode cX5_house 32 = .ok (.invokevirtual 266, 3) := by decide +kernel
theorem dX5_house_35 : decode cX5_house 35 = .ok (.iinc 1 1, 3) := by decide +kernel
theorem dX5_house_38 : decode cX5_house 38 = .ok (.aload_n 0, 1) := by decide +kernel
theorem dX5_house_39 : decode cX5_house 39 = .ok (.getfield 225, 3) := by decide +kernel
theorem dX5_house_42 : decode cX5_house 42 = .ok (.ifCond .eq 24, 3) := by decide +kernel
theorem dX5_house_45 : decode cX5_house 45 = .ok (.aload_n 0, 1) := by decide +kernel
theorem dX5_house_46 : decode cX5_house 46 = .ok (.getfield 193, 3) := by decide +kernel
theorem dX5_house_49 : decode cX5_house 49 = .ok (.iconst 3, 1) := by decide +kernel
theorem dX5_house_50 : decode cX5_house 50 = .ok (.if_icmp .ne 16, 3) := by decide +kernel
theorem dX5_house_53 : decode cX5_house 53 = .ok (.aload_n 0, 1) := by decide +kernel
theorem dX5_house_54 : decode cX5_house 54 = .ok (.getfield 200, 3) := by decide +kernel
theorem dX5_house_57 : decode cX5_house 57 = .ok (.bipush 59, 2) := by decide +kernel
theorem dX5_house_59 : decode cX5_house 59 = .ok (.if_icmp .ne 7, 3) := by decide +kernel
theorem dX5_house_62 : decode cX5_house 62 = .ok (.iconst 1, 1) := by decide +kernel
theorem dX5_house_63 : decode cX5_house 63 = .ok (.goto 4, 3) := by decide +kernel
theorem dX5_house_66 : decode cX5_house 66 = .ok (.iconst 0, 1) := by decide +kernel
theorem dX5_house_67 : decode cX5_house 67 = .ok (.istore_n 2, 1) := by decide +kernel
theorem dX5_house_68 : decode cX5_house 68 = .ok (.goto (-45), 3) := by decide +kernel
theorem dX5_house_71 : decode cX5_house 71 = .ok (.aload_n 0, 1) := by decide +kernel
theorem dX5_house_72 : decode cX5_house 72 = .ok (.aload_n 0, 1) := by decide +kernel
theorem dX5_house_73 : decode cX5_house 73 = .ok (.getfield 225, 3) := by decide +kernel
theorem dX5_house_76 : decode cX5_house 76 = .ok (.ifCond .eq 14, 3) := by decide +kernel
theorem dX5_house_79 : decode cX5_house 79 = .ok (.aload_n 0, 1) := by decide +kernel
theorem dX5_house_80 : decode cX5_house 80 = .ok (.getfield 193, 3) := by decide +kernel
theorem dX5_house_83 : decode cX5_house 83 = .ok (.ifCond .ne 7, 3) := by decide +kernel
theorem dX5_house_86 : decode cX5_house 86 = .ok (.iconst 1, 1) := by decide +kernel
theorem dX5_house_87 : decode cX5_house 87 = .ok (.goto 4, 3) := by decide +kernel
theorem dX5_house_90 : decode cX5_house 90 = .ok (.iconst 0, 1) := by decide +kernel
theorem dX5_house_91 : decode cX5_house 91 = .ok (.putfield 225, 3) := by decide +kernel
theorem dX5_house_94 : decode cX5_house 94 = .ok (.aload_n 0, 1) := by decide +kernel
theorem dX5_house_95 : decode cX5_house 95 = .ok (.iconst 0, 1) := by decide +kernel
theorem dX5_house_96 : decode cX5_house 96 = .ok (.putfield 174, 3) := by decide +kernel
theorem dX5_house_99 : decode cX5_house 99 = .ok (.aload_n 0, 1) := by decide +kernel
theorem dX5_house_100 : decode cX5_house 100 = .ok (.getfield 225, 3) := by decide +kernel
theorem dX5_house_103 : decode cX5_house 103 = .ok (.ifCond .ne 19, 3) := by decide +kernel
theorem dX5_house_106 : decode cX5_house 106 = .ok (.aload_n 0, 1) := by decide +kernel
theorem dX5_house_107 : decode cX5_house 107 = .ok (.iconst 0, 1) := by decide +kernel
theorem dX5_house_108 : decode cX5_house 108 = .ok (.aload_n 0, 1) := by decide +kernel
theorem dX5_house_109 : decode cX5_house 109 = .ok (.getfield 41, 3) := by decide +kernel
theorem dX5_house_112 : decode cX5_house 112 = .ok (.invokevirtual 147, 3) := by decide +kernel
theorem dX5_house_115 : decode cX5_house 115 = .ok (.iconst (-1), 1) := by decide +kernel
theorem dX5_house_116 : decode cX5_house 116 = .ok (.aload_n 0, 1) := by decide +kernel
theorem dX5_house_117 : decode cX5_house 117 = .ok (.getfield 181, 3) := by decide +kernel
theorem dX5_house_120 : decode cX5_house 120 = .ok (.isub, 1) := by decide +kernel
theorem dX5_house_121 : decode cX5_house 121 = .ok (.ireturn, 1) := by decide +kernel
theorem dX5_house_122 : decode cX5_house 122 = .ok (.iload_n 1, 1) := by decide +kernel
theorem dX5_house_123 : decode cX5_house 123 = .ok (.ireturn, 1) := by decide +kernel
theorem dX5_isSheet_0 : decode cX5_isSheet 0 = .ok (.iload_n 0, 1) := by decide +kernel
theorem dX5_isSheet_1 : decode cX5_isSheet 1 = .ok (.iconst 0, 1) := by decide +kernel
theorem dX5_isSheet_2 : decode cX5_isSheet 2 = .ok (.iconst 3, 1) := by decide +kernel
theorem dX5_isSheet_3 : decode cX5_isSheet 3 = .ok (.invokestatic 49, 3) := by decide +kernel
theorem dX5_isSheet_6 : decode cX5_isSheet 6 = .ok (.ireturn, 1) := by decide +kernel
theorem dX5_narrow_0 : decode cX5_narrow 0 = .ok (.iload_n 0, 1) := by decide +kernel
theorem dX5_narrow_1 : decode cX5_narrow 1 = .ok (.bipush 8, 2) := by decide +kernel
theorem dX5_narrow_3 : decode cX5_narrow 3 = .ok (.if_icmp .ne 13, 3) := by decide +kernel
theorem dX5_narrow_6 : decode cX5_narrow 6 = .ok (.lload_n 1, 1) := by decide +kernel
theorem dX5_narrow_7 : decode cX5_narrow 7 = .ok (.bipush 56, 2) := by decide +kernel
theorem dX5_narrow_9 : decode cX5_narrow 9 = .ok (.lshl, 1) := by decide +kernel
theorem dX5_narrow_10 : decode cX5_narrow 10 = .ok (.bipush 56, 2) := by decide +kernel
theorem dX5_narrow_12 : decode cX5_narrow 12 = .ok (.lshr, 1) := by decide +kernel
theorem dX5_narrow_13 : decode cX5_narrow 13 = .ok (.goto 20, 3) := by decide +kernel
theorem dX5_narrow_16 : decode cX5_narrow 16 = .ok (.iload_n 0, 1) := by decide +kernel
theorem dX5_narrow_17 : decode cX5_narrow 17 = .ok (.bipush 16, 2) := by decide +kernel
theorem dX5_narrow_19 : decode cX5_narrow 19 = .ok (.if_icmp .ne 13, 3) := by decide +kernel
theorem dX5_narrow_22 : decode cX5_narrow 22 = .ok (.lload_n 1, 1) := by decide +kernel
theorem dX5_narrow_23 : decode cX5_narrow 23 = .ok (.bipush 48, 2) := by decide +kernel
theorem dX5_narrow_25 : decode cX5_narrow 25 = .ok (.lshl, 1) := by decide +kernel
theorem dX5_narrow_26 : decode cX5_narrow 26 = .ok (.bipush 48, 2) := by decide +kernel
theorem dX5_narrow_28 : decode cX5_narrow 28 = .ok (.lshr, 1) := by decide +kernel
theorem dX5_narrow_29 : decode cX5_narrow 29 = .ok (.goto 4, 3) := by decide +kernel
theorem dX5_narrow_32 : decode cX5_narrow 32 = .ok (.lload_n 1, 1) := by decide +kernel
theorem dX5_narrow_33 : decode cX5_narrow 33 = .ok (.lreturn, 1) := by decide +kernel
theorem dX5_sheet_0 : decode cX5_sheet 0 = .ok (.iload_n 1, 1) := by decide +kernel
theorem dX5_sheet_1 : decode cX5_sheet 1 = .ok (.invokestatic 269, 3) := by decide +kernel
theorem dX5_sheet_4 : decode cX5_sheet 4 = .ok (.ifCond .eq 25, 3) := by decide +kernel
theorem dX5_sheet_7 : decode cX5_sheet 7 = .ok (.iload_n 2, 1) := by decide +kernel
theorem dX5_sheet_8 : decode cX5_sheet 8 = .ok (.ifCond .eq 28, 3) := by decide +kernel
theorem dX5_sheet_11 : decode cX5_sheet 11 = .ok (.iload_n 2, 1) := by decide +kernel
theorem dX5_sheet_12 : decode cX5_sheet 12 = .ok (.bipush 8, 2) := by decide +kernel
theorem dX5_sheet_14 : decode cX5_sheet 14 = .ok (.if_icmp .eq 22, 3) := by decide +kernel
theorem dX5_sheet_17 : decode cX5_sheet 17 = .ok (.iload_n 2, 1) := by decide +kernel
theorem dX5_sheet_18 : decode cX5_sheet 18 = .ok (.bipush 16, 2) := by decide +kernel
theorem dX5_sheet_20 : decode cX5_sheet 20 = .ok (.if_icmp .eq 16, 3) := by decide +kernel
theorem dX5_sheet_23 : decode cX5_sheet 23 = .ok (.iload_n 2, 1) := by decide +kernel
theorem dX5_sheet_24 : decode cX5_sheet 24 = .ok (.bipush 64, 2) := by decide +kernel
theorem dX5_sheet_26 : decode cX5_sheet 26 = .ok (.if_icmp .eq 10, 3) := by decide +kernel
theorem dX5_sheet_29 : decode cX5_sheet 29 = .ok (.aload_n 0, 1) := by decide +kernel
theorem dX5_sheet_30 : decode cX5_sheet 30 = .ok (.ldc 48, 2) := by decide +kernel
theorem dX5_sheet_32 : decode cX5_sheet 32 = .ok (.invokevirtual 57, 3) := by decide +kernel
theorem dX5_sheet_35 : decode cX5_sheet 35 = .ok (.ireturn, 1) := by decide +kernel
theorem dX5_sheet_36 : decode cX5_sheet 36 = .ok (.iload_n 3, 1) := by decide +kernel
theorem dX5_sheet_37 : decode cX5_sheet 37 = .ok (.ifCond .ge 11, 3) := by decide +kernel
theorem dX5_sheet_40 : decode cX5_sheet 40 = .ok (.aload_n 0, 1) := by decide +kernel
theorem dX5_sheet_41 : decode cX5_sheet 41 = .ok (.ldc_w 272, 3) := by decide +kernel
theorem dX5_sheet_44 : decode cX5_sheet 44 = .ok (.invokevirtual 57, 3) := by decide +kernel
theorem dX5_sheet_47 : decode cX5_sheet 47 = .ok (.ireturn, 1) := by decide +kernel
theorem dX5_sheet_48 : decode cX5_sheet 48 = .ok (.iload_n 3, 1) := by decide +kernel
theorem dX5_sheet_49 : decode cX5_sheet 49 = .ok (.bipush 40, 2) := by decide +kernel
theorem dX5_sheet_51 : decode cX5_sheet 51 = .ok (.if_icmp .le 10, 3) := by decide +kernel
theorem dX5_sheet_54 : decode cX5_sheet 54 = .ok (.aload_n 0, 1) := by decide +kernel
theorem dX5_sheet_55 : decode cX5_sheet 55 = .ok (.ldc 48, 2) := by decide +kernel
theorem dX5_sheet_57 : decode cX5_sheet 57 = .ok (.invokevirtual 57, 3) := by decide +kernel
theorem dX5_sheet_60 : decode cX5_sheet 60 = .ok (.ireturn, 1) := by decide +kernel
theorem dX5_sheet_61 : decode cX5_sheet 61 = .ok (.aload_n 0, 1) := by decide +kernel
theorem dX5_sheet_62 : decode cX5_sheet 62 = .ok (.getfield 25, 3) := by decide +kernel
theorem dX5_sheet_65 : decode cX5_sheet 65 = .ok (.iload_n 1, 1) := by decide +kernel
theorem dX5_sheet_66 : decode cX5_sheet 66 = .ok (.iload_n 2, 1) := by decide +kernel
theorem dX5_sheet_67 : decode cX5_sheet 67 = .ok (.iastore, 1) := by decide +kernel
theorem dX5_sheet_68 : decode cX5_sheet 68 = .ok (.aload_n 0, 1) := by decide +kernel
theorem dX5_sheet_69 : decode cX5_sheet 69 = .ok (.getfield 28, 3) := by decide +kernel
theorem dX5_sheet_72 : decode cX5_sheet 72 = .ok (.iload_n 1, 1) := by decide +kernel
theorem dX5_sheet_73 : decode cX5_sheet 73 = .ok (.iload_n 2, 1) := by decide +kernel
theorem dX5_sheet_74 : decode cX5_sheet 74 = .ok (.ifCond .ne 7, 3) := by decide +kernel
theorem dX5_sheet_77 : decode cX5_sheet 77 = .ok (.iconst 0, 1) := by decide +kernel
theorem dX5_sheet_78 : decode cX5_sheet 78 = .ok (.goto 4, 3) := by decide +kernel
theorem dX5_sheet_81 : decode cX5_sheet 81 = .ok (.iload_n 3, 1) := by decide +kernel
theorem dX5_sheet_82 : decode cX5_sheet 82 = .ok (.iastore, 1) := by decide +kernel
theorem dX5_sheet_83 : decode cX5_sheet 83 = .ok (.iconst 0, 1) := by decide +kernel
theorem dX5_sheet_84 : decode cX5_sheet 84 = .ok (.istore 4, 2) := by decide +kernel
theorem dX5_sheet_86 : decode cX5_sheet 86 = .ok (.iload 4, 2) := by decide +kernel
theorem dX5_sheet_88 : decode cX5_sheet 88 = .ok (.bipush 40, 2) := by decide +kernel
theorem dX5_sheet_90 : decode cX5_sheet 90 = .ok (.if_icmp .ge 22, 3) := by decide +kernel
theorem dX5_sheet_93 : decode cX5_sheet 93 = .ok (.aload_n 0, 1) := by decide +kernel
theorem dX5_sheet_94 : decode cX5_sheet 94 = .ok (.getfield 31, 3) := by decide +kernel
theorem dX5_sheet_97 : decode cX5_sheet 97 = .ok (.bipush 40, 2) := by decide +kernel
theorem dX5_sheet_99 : decode cX5_sheet 99 = .ok (.iload_n 1, 1) := by decide +kernel
theorem dX5_sheet_100 : decode cX5_sheet 100 = .ok (.imul, 1) := by decide +kernel
theorem dX5_sheet_101 : decode cX5_sheet 101 = .ok (.iload 4, 2) := by decide +kernel
theorem dX5_sheet_103 : decode cX5_sheet 103 = .ok (.iadd, 1) := by decide +kernel
theorem dX5_sheet_104 : decode cX5_sheet 104 = .ok (.lconst 0, 1) := by decide +kernel
theorem dX5_sheet_105 : decode cX5_sheet 105 = .ok (.lastore, 1) := by decide +kernel
theorem dX5_sheet_106 : decode cX5_sheet 106 = .ok (.iinc 4 1, 3) := by decide +kernel
theorem dX5_sheet_109 : decode cX5_sheet 109 = .ok (.goto (-23), 3) := by decide +kernel
theorem dX5_sheet_112 : decode cX5_sheet 112 = .ok (.aload_n 0, 1) := by decide +kernel
theorem dX5_sheet_113 : decode cX5_sheet 113 = .ok (.getfield 28, 3) := by decide +kernel
theorem dX5_sheet_116 : decode cX5_sheet 116 = .ok (.iload_n 1, 1) := by decide +kernel
theorem dX5_sheet_117 : decode cX5_sheet 117 = .ok (.iaload, 1) := by decide +kernel
theorem dX5_sheet_118 : decode cX5_sheet 118 = .ok (.ireturn, 1) := by decide +kernel
theorem dX5_write_0 : decode cX5_write 0 = .ok (.iload_n 1, 1) := by decide +kernel
theorem dX5_write_1 : decode cX5_write 1 = .ok (.invokestatic 269, 3) := by decide +kernel
theorem dX5_write_4 : decode cX5_write 4 = .ok (.ifCond .ne 11, 3) := by decide +kernel
theorem dX5_write_7 : decode cX5_write 7 = .ok (.aload_n 0, 1) := by decide +kernel
theorem dX5_write_8 : decode cX5_write 8 = .ok (.ldc 48, 2) := by decide +kernel
theorem dX5_write_10 : decode cX5_write 10 = .ok (.invokevirtual 57, 3) := by decide +kernel
theorem dX5_write_13 : decode cX5_write 13 = .ok (.i2l, 1) := by decide +kernel
theorem dX5_write_14 : decode cX5_write 14 = .ok (.lreturn, 1) := by decide +kernel
theorem dX5_write_15 : decode cX5_write 15 = .ok (.aload_n 0, 1) := by decide +kernel
theorem dX5_write_16 : decode cX5_write 16 = .ok (.getfield 25, 3) := by decide +kernel
theorem dX5_write_19 : decode cX5_write 19 = .ok (.iload_n 1, 1) := by decide +kernel
theorem dX5_write_20 : decode cX5_write 20 = .ok (.iaload, 1) := by decide +kernel
theorem dX5_write_21 : decode cX5_write 21 = .ok (.ifCond .ne 12, 3) := by decide +kernel
theorem dX5_write_24 : decode cX5_write 24 = .ok (.aload_n 0, 1) := by decide +kernel
theorem dX5_write_25 : decode cX5_write 25 = .ok (.ldc_w 273, 3) := by decide +kernel
theorem dX5_write_28 : decode cX5_write 28 = .ok (.invokevirtual 57, 3) := by decide +kernel
theorem dX5_write_31 : decode cX5_write 31 = .ok (.i2l, 1) := by decide +kernel
theorem dX5_write_32 : decode cX5_write 32 = .ok (.lreturn, 1) := by decide +kernel
theorem dX5_write_33 : decode cX5_write 33 = .ok (.iload_n 2, 1) := by decide +kernel
theorem dX5_write_34 : decode cX5_write 34 = .ok (.iconst 0, 1) := by decide +kernel
theorem dX5_write_35 : decode cX5_write 35 = .ok (.aload_n 0, 1) := by decide +kernel
theorem dX5_write_36 : decode cX5_write 36 = .ok (.getfield 28, 3) := by decide +kernel
theorem dX5_write_39 : decode cX5_write 39 = .ok (.iload_n 1, 1) := by decide +kernel
theorem dX5_write_40 : decode cX5_write 40 = .ok (.iaload, 1) := by decide +kernel
theorem dX5_write_41 : decode cX5_write 41 = .ok (.iconst 1, 1) := by decide +kernel
theorem dX5_write_42 : decode cX5_write 42 = .ok (.isub, 1) := by decide +kernel
theorem dX5_write_43 : decode cX5_write 43 = .ok (.invokestatic 49, 3) := by decide +kernel
theorem dX5_write_46 : decode cX5_write 46 = .ok (.ifCond .ne 11, 3) := by decide +kernel
theorem dX5_write_49 : decode cX5_write 49 = .ok (.aload_n 0, 1) := by decide +kernel
theorem dX5_write_50 : decode cX5_write 50 = .ok (.ldc 48, 2) := by decide +kernel
theorem dX5_write_52 : decode cX5_write 52 = .ok (.invokevirtual 57, 3) := by decide +kernel
theorem dX5_write_55 : decode cX5_write 55 = .ok (.i2l, 1) := by decide +kernel
theorem dX5_write_56 : decode cX5_write 56 = .ok (.lreturn, 1) := by decide +kernel
theorem dX5_write_57 : decode cX5_write 57 = .ok (.aload_n 0, 1) := by decide +kernel
theorem dX5_write_58 : decode cX5_write 58 = .ok (.getfield 31, 3) := by decide +kernel
theorem dX5_write_61 : decode cX5_write 61 = .ok (.bipush 40, 2) := by decide +kernel
theorem dX5_write_63 : decode cX5_write 63 = .ok (.iload_n 1, 1) := by decide +kernel
theorem dX5_write_64 : decode cX5_write 64 = .ok (.imul, 1) := by decide +kernel
theorem dX5_write_65 : decode cX5_write 65 = .ok (.iload_n 2, 1) := by decide +kernel
theorem dX5_write_66 : decode cX5_write 66 = .ok (.iadd, 1) := by decide +kernel
theorem dX5_write_67 : decode cX5_write 67 = .ok (.laload, 1) := by decide +kernel
theorem dX5_write_68 : decode cX5_write 68 = .ok (.lstore 5, 2) := by decide +kernel
theorem dX5_write_70 : decode cX5_write 70 = .ok (.aload_n 0, 1) := by decide +kernel
theorem dX5_write_71 : decode cX5_write 71 = .ok (.getfield 31, 3) := by decide +kernel
theorem dX5_write_74 : decode cX5_write 74 = .ok (.bipush 40, 2) := by decide +kernel
theorem dX5_write_76 : decode cX5_write 76 = .ok (.iload_n 1, 1) := by decide +kernel
theorem dX5_write_77 : decode cX5_write 77 = .ok (.imul, 1) := by decide +kernel
theorem dX5_write_78 : decode cX5_write 78 = .ok (.iload_n 2, 1) := by decide +kernel
theorem dX5_write_79 : decode cX5_write 79 = .ok (.iadd, 1) := by decide +kernel
theorem dX5_write_80 : decode cX5_write 80 = .ok (.aload_n 0, 1) := by decide +kernel
theorem dX5_write_81 : decode cX5_write 81 = .ok (.getfield 25, 3) := by decide +kernel
theorem dX5_write_84 : decode cX5_write 84 = .ok (.iload_n 1, 1) := by decide +kernel
theorem dX5_write_85 : decode cX5_write 85 = .ok (.iaload, 1) := by decide +kernel
theorem dX5_write_86 : decode cX5_write 86 = .ok (.lload_n 3, 1) := by decide +kernel
theorem dX5_write_87 : decode cX5_write 87 = .ok (.invokestatic 274, 3) := by decide +kernel
theorem dX5_write_90 : decode cX5_write 90 = .ok (.lastore, 1) := by decide +kernel
theorem dX5_write_91 : decode cX5_write 91 = .ok (.lload 5, 2) := by decide +kernel
theorem dX5_write_93 : decode cX5_write 93 = .ok (.lreturn, 1) := by decide +kernel
theorem dX5_isPart__0 : decode cX5_isPart_ 0 = .ok (.iload_n 2, 1) := by decide +kernel
theorem dX5_isPart__1 : decode cX5_isPart_ 1 = .ok (.ifCond .lt 33, 3) := by decide +kernel
theorem dX5_isPart__4 : decode cX5_isPart_ 4 = .ok (.iload_n 3, 1) := by decide +kernel
theorem dX5_isPart__5 : decode cX5_isPart_ 5 = .ok (.ifCond .lt 29, 3) := by decide +kernel
theorem dX5_isPart__8 : decode cX5_isPart_ 8 = .ok (.iload_n 3, 1) := by decide +kernel
theorem dX5_isPart__9 : decode cX5_isPart_ 9 = .ok (.aload_n 0, 1) := by decide +kernel
theorem dX5_isPart__10 : decode cX5_isPart_ 10 = .ok (.getfield 28, 3) := by decide +kernel
theorem dX5_isPart__13 : decode cX5_isPart_ 13 = .ok (.iload_n 1, 1) := by decide +kernel
theorem dX5_isPart__14 : decode cX5_isPart_ 14 = .ok (.iaload, 1) := by decide +kernel
theorem dX5_isPart__15 : decode cX5_isPart_ 15 = .ok (.if_icmp .gt 19, 3) := by decide +kernel
theorem dX5_isPart__18 : decode cX5_isPart_ 18 = .ok (.iload_n 2, 1) := by decide +kernel
theorem dX5_isPart__19 : decode cX5_isPart_ 19 = .ok (.aload_n 0, 1) := by decide +kernel
theorem dX5_isPart__20 : decode cX5_isPart_ 20 = .ok (.getfield 28, 3) := by decide +kernel
theorem dX5_isPart__23 : decode cX5_isPart_ 23 = .ok (.iload_n 1, 1) := by decide +kernel
theorem dX5_isPart__24 : decode cX5_isPart_ 24 = .ok (.iaload, 1) := by decide +kernel
theorem dX5_isPart__25 : decode cX5_isPart_ 25 = .ok (.iload_n 3, 1) := by decide +kernel
theorem dX5_isPart__26 : decode cX5_isPart_ 26 = .ok (.isub, 1) := by decide +kernel
theorem dX5_isPart__27 : decode cX5_isPart_ 27 = .ok (.if_icmp .gt 7, 3) := by decide +kernel
theorem dX5_isPart__30 : decode cX5_isPart_ 30 = .ok (.iconst 1, 1) := by decide +kernel
theorem dX5_isPart__31 : decode cX5_isPart_ 31 = .ok (.goto 4, 3) := by decide +kernel
theorem dX5_isPart__34 : decode cX5_isPart_ 34 = .ok (.iconst 0, 1) := by decide +kernel
theorem dX5_isPart__35 : decode cX5_isPart_ 35 = .ok (.ireturn, 1) := by decide +kernel
theorem dX5_copy_0 : decode cX5_copy 0 = .ok (.iload_n 1, 1) := by decide +kernel
theorem dX5_copy_1 : decode cX5_copy 1 = .ok (.invokestatic 269, 3) := by decide +kernel
theorem dX5_copy_4 : decode cX5_copy 4 = .ok (.ifCond .eq 10, 3) := by decide +kernel
theorem dX5_copy_7 : decode cX5_copy 7 = .ok (.iload_n 3, 1) := by decide +kernel
theorem dX5_copy_8 : decode cX5_copy 8 = .ok (.invokestatic 269, 3) := by decide +kernel
theorem dX5_copy_11 : decode cX5_copy 11 = .ok (.ifCond .ne 10, 3) := by decide +kernel
theorem dX5_copy_14 : decode cX5_copy 14 = .ok (.aload_n 0, 1) := by decide +kernel
theorem dX5_copy_15 : decode cX5_copy 15 = .ok (.ldc 48, 2) := by decide +kernel
theorem dX5_copy_17 : decode cX5_copy 17 = .ok (.invokevirtual 57, 3) := by decide +kernel
theorem dX5_copy_20 : decode cX5_copy 20 = .ok (.ireturn, 1) := by decide +kernel
theorem dX5_copy_21 : decode cX5_copy 21 = .ok (.aload_n 0, 1) := by decide +kernel
theorem dX5_copy_22 : decode cX5_copy 22 = .ok (.getfield 25, 3) := by decide +kernel
theorem dX5_copy_25 : decode cX5_copy 25 = .ok (.iload_n 1, 1) := by decide +kernel
theorem dX5_copy_26 : decode cX5_copy 26 = .ok (.iaload, 1) := by decide +kernel
theorem dX5_copy_27 : decode cX5_copy 27 = .ok (.ifCond .eq 12, 3) := by decide +kernel
theorem dX5_copy_30 : decode cX5_copy 30 = .ok (.aload_n 0, 1) := by decide +kernel
theorem dX5_copy_31 : decode cX5_copy 31 = .ok (.getfield 25, 3) := by decide +kernel
theorem dX5_copy_34 : decode cX5_copy 34 = .ok (.iload_n 3, 1) := by decide +kernel
theorem dX5_copy_35 : decode cX5_copy 35 = .ok (.iaload, 1) := by decide +kernel
theorem dX5_copy_36 : decode cX5_copy 36 = .ok (.ifCond .ne 11, 3) := by decide +kernel
theorem dX5_copy_39 : decode cX5_copy 39 = .ok (.aload_n 0, 1) := by decide +kernel
theorem dX5_copy_40 : decode cX5_copy 40 = .ok (.ldc_w 273, 3) := by decide +kernel
theorem dX5_copy_43 : decode cX5_copy 43 = .ok (.invokevirtual 57, 3) := by decide +kernel
theorem dX5_copy_46 : decode cX5_copy 46 = .ok (.ireturn, 1) := by decide +kernel
theorem dX5_copy_47 : decode cX5_copy 47 = .ok (.aload_n 0, 1) := by decide +kernel
theorem dX5_copy_48 : decode cX5_copy 48 = .ok (.getfield 25, 3) := by decide +kernel
theorem dX5_copy_51 : decode cX5_copy 51 = .ok (.iload_n 1, 1) := by decide +kernel
theorem dX5_copy_52 : decode cX5_copy 52 = .ok (.iaload, 1) := by decide +kernel
theorem dX5_copy_53 : decode cX5_copy 53 = .ok (.aload_n 0, 1) := by decide +kernel
theorem dX5_copy_54 : decode cX5_copy 54 = .ok (.getfield 25, 3) := by decide +kernel
theorem dX5_copy_57 : decode cX5_copy 57 = .ok (.iload_n 3, 1) := by decide +kernel
theorem dX5_copy_58 : decode cX5_copy 58 = .ok (.iaload, 1) := by decide +kernel
theorem dX5_copy_59 : decode cX5_copy 59 = .ok (.if_icmp .eq 10, 3) := by decide +kernel
theorem dX5_copy_62 : decode cX5_copy 62 = .ok (.aload_n 0, 1) := by decide +kernel
theorem dX5_copy_63 : decode cX5_copy 63 = .ok (.ldc 122, 2) := by decide +kernel
theorem dX5_copy_65 : decode cX5_copy 65 = .ok (.invokevirtual 57, 3) := by decide +kernel
theorem dX5_copy_68 : decode cX5_copy 68 = .ok (.ireturn, 1) := by decide +kernel
theorem dX5_copy_69 : decode cX5_copy 69 = .ok (.aload_n 0, 1) := by decide +kernel
theorem dX5_copy_70 : decode cX5_copy 70 = .ok (.iload_n 1, 1) := by decide +kernel
theorem dX5_copy_71 : decode cX5_copy 71 = .ok (.iload_n 2, 1) := by decide +kernel
theorem dX5_copy_72 : decode cX5_copy 72 = .ok (.iload 5, 2) := by decide +kernel
theorem dX5_copy_74 : decode cX5_copy 74 = .ok (.invokevirtual 278, 3) := by decide +kernel
theorem dX5_copy_77 : decode cX5_copy 77 = .ok (.ifCond .eq 15, 3) := by decide +kernel
theorem dX5_copy_80 : decode cX5_copy 80 = .ok (.aload_n 0, 1) := by decide +kernel
theorem dX5_copy_81 : decode cX5_copy 81 = .ok (.iload_n 3, 1) := by decide +kernel
theorem dX5_copy_82 : decode cX5_copy 82 = .ok (.iload 4, 2) := by decide +kernel
theorem dX5_copy_84 : decode cX5_copy 84 = .ok (.iload 5, 2) := by decide +kernel
theorem dX5_copy_86 : decode cX5_copy 86 = .ok (.invokevirtual 278, 3) := by decide +kernel
theorem dX5_copy_89 : decode cX5_copy 89 = .ok (.ifCond .ne 10, 3) := by decide +kernel
theorem dX5_copy_92 : decode cX5_copy 92 = .ok (.aload_n 0, 1) := by decide +kernel
theorem dX5_copy_93 : decode cX5_copy 93 = .ok (.ldc 48, 2) := by decide +kernel
theorem dX5_copy_95 : decode cX5_copy 95 = .ok (.invokevirtual 57, 3) := by decide +kernel
theorem dX5_copy_98 : decode cX5_copy 98 = .ok (.ireturn, 1) := by decide +kernel
theorem dX5_copy_99 : decode cX5_copy 99 = .ok (.iconst 0, 1) := by decide +kernel
theorem dX5_copy_100 : decode cX5_copy 100 = .ok (.istore 6, 2) := by decide +kernel
theorem dX5_copy_102 : decode cX5_copy 102 = .ok (.iload 6, 2) := by decide +kernel
theorem dX5_copy_104 : decode cX5_copy 104 = .ok (.iload 5, 2) := by decide +kernel
theorem dX5_copy_106 : decode cX5_copy 106 = .ok (.if_icmp .ge 30, 3) := by decide +kernel
theorem dX5_copy_109 : decode cX5_copy 109 = .ok (.aload_n 0, 1) := by decide +kernel
theorem dX5_copy_110 : decode cX5_copy 110 = .ok (.getfield 35, 3) := by decide +kernel
theorem dX5_copy_113 : decode cX5_copy 113 = .ok (.iload 6, 2) := by decide +kernel
theorem dX5_copy_115 : decode cX5_copy 115 = .ok (.aload_n 0, 1) := by decide +kernel
theorem dX5_copy_116 : decode cX5_copy 116 = .ok (.getfield 31, 3) := by decide +kernel
theorem dX5_copy_119 : decode cX5_copy 119 = .ok (.bipush 40, 2) := by decide +kernel
theorem dX5_copy_121 : decode cX5_copy 121 = .ok (.iload_n 1, 1) := by decide +kernel
theorem dX5_copy_122 : decode cX5_copy 122 = .ok (.imul, 1) := by decide +kernel
theorem dX5_copy_123 : decode cX5_copy 123 = .ok (.iload_n 2, 1) := by decide +kernel
theorem dX5_copy_124 : decode cX5_copy 124 = .ok (.iadd, 1) := by decide +kernel
theorem dX5_copy_125 : decode cX5_copy 125 = .ok (.iload 6, 2) := by decide +kernel
theorem dX5_copy_127 : decode cX5_copy 127 = .ok (.iadd, 1) := by decide +kernel
theorem dX5_copy_128 : decode cX5_copy 128 = .ok (.laload, 1) := by decide +kernel
theorem dX5_copy_129 : decode cX5_copy 129 = .ok (.lastore, 1) := by decide +kernel
theorem dX5_copy_130 : decode cX5_copy 130 = .ok (.iinc 6 1, 3) := by decide +kernel
theorem dX5_copy_133 : decode cX5_copy 133 = .ok (.goto (-31), 3) := by decide +kernel
theorem dX5_copy_136 : decode cX5_copy 136 = .ok (.iconst 0, 1) := by decide +kernel
theorem dX5_copy_137 : decode cX5_copy 137 = .ok (.istore 6, 2) := by decide +kernel
theorem dX5_copy_139 : decode cX5_copy 139 = .ok (.iload 6, 2) := by decide +kernel
theorem dX5_copy_141 : decode cX5_copy 141 = .ok (.iload 5, 2) := by decide +kernel
theorem dX5_copy_143 : decode cX5_copy 143 = .ok (.if_icmp .ge 31, 3) := by decide +kernel
theorem dX5_copy_146 : decode cX5_copy 146 = .ok (.aload_n 0, 1) := by decide +kernel
theorem dX5_copy_147 : decode cX5_copy 147 = .ok (.getfield 31, 3) := by decide +kernel
theorem dX5_copy_150 : decode cX5_copy 150 = .ok (.bipush 40, 2) := by decide +kernel
theorem dX5_copy_152 : decode cX5_copy 152 = .ok (.iload_n 3, 1) := by decide +kernel
theorem dX5_copy_153 : decode cX5_copy 153 = .ok (.imul, 1) := by decide +kernel
theorem dX5_copy_154 : decode cX5_copy 154 = .ok (.iload 4, 2) := by decide +kernel
theorem dX5_copy_156 : decode cX5_copy 156 = .ok (.iadd, 1) := by decide +kernel
theorem dX5_copy_157 : decode cX5_copy 157 = .ok (.iload 6, 2) := by decide +kernel
theorem dX5_copy_159 : decode cX5_copy 159 = .ok (.iadd, 1) := by decide +kernel
theorem dX5_copy_160 : decode cX5_copy 160 = .ok (.aload_n 0, 1) := by decide +kernel
theorem dX5_copy_161 : decode cX5_copy 161 = .ok (.getfield 35, 3) := by decide +kernel
theorem dX5_copy_164 : decode cX5_copy 164 = .ok (.iload 6, 2) := by decide +kernel
theorem dX5_copy_166 : decode cX5_copy 166 = .ok (.laload, 1) := by decide +kernel
theorem dX5_copy_167 : decode cX5_copy 167 = .ok (.lastore, 1) := by decide +kernel
theorem dX5_copy_168 : decode cX5_copy 168 = .ok (.iinc 6 1, 3) := by decide +kernel
theorem dX5_copy_171 : decode cX5_copy 171 = .ok (.goto (-32), 3) := by decide +kernel
theorem dX5_copy_174 : decode cX5_copy 174 = .ok (.iload 5, 2) := by decide +kernel
theorem dX5_copy_176 : decode cX5_copy 176 = .ok (.ireturn, 1) := by decide +kernel
theorem dX5_badSheet_0 : decode cX5_badSheet 0 = .ok (.iload_n 1, 1) := by decide +kernel
theorem dX5_badSheet_1 : decode cX5_badSheet 1 = .ok (.invokestatic 269, 3) := by decide +kernel
theorem dX5_badSheet_4 : decode cX5_badSheet 4 = .ok (.ifCond .ne 8, 3) := by decide +kernel
theorem dX5_badSheet_7 : decode cX5_badSheet 7 = .ok (.ldc 48, 2) := by decide +kernel
theorem dX5_badSheet_9 : decode cX5_badSheet 9 = .ok (.goto 19, 3) := by decide +kernel
theorem dX5_badSheet_12 : decode cX5_badSheet 12 = .ok (.aload_n 0, 1) := by decide +kernel
theorem dX5_badSheet_13 : decode cX5_badSheet 13 = .ok (.getfield 25, 3) := by decide +kernel
theorem dX5_badSheet_16 : decode cX5_badSheet 16 = .ok (.iload_n 1, 1) := by decide +kernel
theorem dX5_badSheet_17 : decode cX5_badSheet 17 = .ok (.iaload, 1) := by decide +kernel
theorem dX5_badSheet_18 : decode cX5_badSheet 18 = .ok (.ifCond .ne 9, 3) := by decide +kernel
theorem dX5_badSheet_21 : decode cX5_badSheet 21 = .ok (.ldc_w 273, 3) := by decide +kernel
theorem dX5_badSheet_24 : decode cX5_badSheet 24 = .ok (.goto 4, 3) := by decide +kernel
theorem dX5_badSheet_27 : decode cX5_badSheet 27 = .ok (.iconst 0, 1) := by decide +kernel
theorem dX5_badSheet_28 : decode cX5_badSheet 28 = .ok (.ireturn, 1) := by decide +kernel
theorem dX5_lays_0 : decode cX5_lays 0 = .ok (.aload_n 0, 1) := by decide +kernel
theorem dX5_lays_1 : decode cX5_lays 1 = .ok (.iload_n 1, 1) := by decide +kernel
theorem dX5_lays_2 : decode cX5_lays 2 = .ok (.invokevirtual 280, 3) := by decide +kernel
theorem dX5_lays_5 : decode cX5_lays 5 = .ok (.istore_n 2, 1) := by decide +kernel
theorem dX5_lays_6 : decode cX5_lays 6 = .ok (.iload_n 2, 1) := by decide +kernel
theorem dX5_lays_7 : decode cX5_lays 7 = .ok (.ifCond .eq 9, 3) := by decide +kernel
theorem dX5_lays_10 : decode cX5_lays 10 = .ok (.aload_n 0, 1) := by decide +kernel
theorem dX5_lays_11 : decode cX5_lays 11 = .ok (.iload_n 2, 1) := by decide +kernel
theorem dX5_lays_12 : decode cX5_lays 12 = .ok (.invokevirtual 57, 3) := by decide +kernel
theorem dX5_lays_15 : decode cX5_lays 15 = .ok (.ireturn, 1) := by decide +kernel
theorem dX5_lays_16 : decode cX5_lays 16 = .ok (.iconst 0, 1) := by decide +kernel
theorem dX5_lays_17 : decode cX5_lays 17 = .ok (.istore_n 3, 1) := by decide +kernel
theorem dX5_lays_18 : decode cX5_lays 18 = .ok (.iconst 0, 1) := by decide +kernel
theorem dX5_lays_19 : decode cX5_lays 19 = .ok (.istore 4, 2) := by decide +kernel
theorem dX5_lays_21 : decode cX5_lays 21 = .ok (.iload 4, 2) := by decide +kernel
theorem dX5_lays_23 : decode cX5_lays 23 = .ok (.aload_n 0, 1) := by decide +kernel
theorem dX5_lays_24 : decode cX5_lays 24 = .ok (.getfield 28, 3) := by decide +kernel
theorem dX5_lays_27 : decode cX5_lays 27 = .ok (.iload_n 1, 1) := by decide +kernel
theorem dX5_lays_28 : decode cX5_lays 28 = .ok (.iaload, 1) := by decide +kernel
theorem dX5_lays_29 : decode cX5_lays 29 = .ok (.if_icmp .ge 59, 3) := by decide +kernel
theorem dX5_lays_32 : decode cX5_lays 32 = .ok (.iload 4, 2) := by decide +kernel
theorem dX5_lays_34 : decode cX5_lays 34 = .ok (.bipush 8, 2) := by decide +kernel
theorem dX5_lays_36 : decode cX5_lays 36 = .ok (.if_icmp .ge 52, 3) := by decide +kernel
theorem dX5_lays_39 : decode cX5_lays 39 = .ok (.aload_n 0, 1) := by decide +kernel
theorem dX5_lays_40 : decode cX5_lays 40 = .ok (.getfield 31, 3) := by decide +kernel
theorem dX5_lays_43 : decode cX5_lays 43 = .ok (.bipush 40, 2) := by decide +kernel
theorem dX5_lays_45 : decode cX5_lays 45 = .ok (.iload_n 1, 1) := by decide +kernel
theorem dX5_lays_46 : decode cX5_lays 46 = .ok (.imul, 1) := by decide +kernel
theorem dX5_lays_47 : decode cX5_lays 47 = .ok (.iload 4, 2) := by decide +kernel
theorem dX5_lays_49 : decode cX5_lays 49 = .ok (.iadd, 1) := by decide +kernel
theorem dX5_lays_50 : decode cX5_lays 50 = .ok (.laload, 1) := by decide +kernel
theorem dX5_lays_51 : decode cX5_lays 51 = .ok (.lstore 5, 2) := by decide +kernel
theorem dX5_lays_53 : decode cX5_lays 53 = .ok (.lload 5, 2) := by decide +kernel
theorem dX5_lays_55 : decode cX5_lays 55 = .ok (.lconst 0, 1) := by decide +kernel
theorem dX5_lays_56 : decode cX5_lays 56 = .ok (.lcmp, 1) := by decide +kernel
theorem dX5_lays_57 : decode cX5_lays 57 = .ok (.ifCond .lt 25, 3) := by decide +kernel
theorem dX5_lays_60 : decode cX5_lays 60 = .ok (.lload 5, 2) := by decide +kernel
theorem dX5_lays_62 : decode cX5_lays 62 = .ok (.ldc2_w 283, 3) := by decide +kernel
theorem dX5_lays_65 : decode cX5_lays 65 = .ok (.lcmp, 1) := by decide +kernel
theorem dX5_lays_66 : decode cX5_lays 66 = .ok (.ifCond .gt 16, 3) := by decide +kernel
theorem dX5_lays_69 : decode cX5_lays 69 = .ok (.aload_n 0, 1) := by decide +kernel
theorem dX5_lays_70 : decode cX5_lays 70 = .ok (.iload 4, 2) := by decide +kernel
theorem dX5_lays_72 : decode cX5_lays 72 = .ok (.iconst 1, 1) := by decide +kernel
theorem dX5_lays_73 : decode cX5_lays 73 = .ok (.lload 5, 2) := by decide +kernel
theorem dX5_lays_75 : decode cX5_lays 75 = .ok (.l2i, 1) := by decide +kernel
theorem dX5_lays_76 : decode cX5_lays 76 = .ok (.invokevirtual 44, 3) := by decide +kernel
theorem dX5_lays_79 : decode cX5_lays 79 = .ok (.iinc 3 1, 3) := by decide +kernel
theorem dX5_lays_82 : decode cX5_lays 82 = .ok (.iinc 4 1, 3) := by decide +kernel
theorem dX5_lays_85 : decode cX5_lays 85 = .ok (.goto (-64), 3) := by decide +kernel
theorem dX5_lays_88 : decode cX5_lays 88 = .ok (.iload_n 3, 1) := by decide +kernel
theorem dX5_lays_89 : decode cX5_lays 89 = .ok (.ireturn, 1) := by decide +kernel
theorem dX5_book_0 : decode cX5_book 0 = .ok (.aload_n 0, 1) := by decide +kernel
theorem dX5_book_1 : decode cX5_book 1 = .ok (.iload_n 1, 1) := by decide +kernel
theorem dX5_book_2 : decode cX5_book 2 = .ok (.invokevirtual 280, 3) := by decide +kernel
theorem dX5_book_5 : decode cX5_book 5 = .ok (.istore_n 3, 1) := by decide +kernel
theorem dX5_book_6 : decode cX5_book 6 = .ok (.iload_n 3, 1) := by decide +kernel
theorem dX5_book_7 : decode cX5_book 7 = .ok (.ifCond .eq 9, 3) := by decide +kernel
theorem dX5_book_10 : decode cX5_book 10 = .ok (.aload_n 0, 1) := by decide +kernel
theorem dX5_book_11 : decode cX5_book 11 = .ok (.iload_n 3, 1) := by decide +kernel
theorem dX5_book_12 : decode cX5_book 12 = .ok (.invokevirtual 57, 3) := by decide +kernel
theorem dX5_book_15 : decode cX5_book 15 = .ok (.ireturn, 1) := by decide +kernel
theorem dX5_book_16 : decode cX5_book 16 = .ok (.iload_n 2, 1) := by decide +kernel
theorem dX5_book_17 : decode cX5_book 17 = .ok (.invokestatic 61, 3) := by decide +kernel
theorem dX5_book_20 : decode cX5_book 20 = .ok (.ifCond .ne 10, 3) := by decide +kernel
theorem dX5_book_23 : decode cX5_book 23 = .ok (.aload_n 0, 1) := by decide +kernel
theorem dX5_book_24 : decode cX5_book 24 = .ok (.ldc 48, 2) := by decide +kernel
theorem dX5_book_26 : decode cX5_book 26 = .ok (.invokevirtual 57, 3) := by decide +kernel
theorem dX5_book_29 : decode cX5_book 29 = .ok (.ireturn, 1) := by decide +kernel
theorem dX5_book_30 : decode cX5_book 30 = .ok (.aload_n 0, 1) := by decide +kernel
theorem dX5_book_31 : decode cX5_book 31 = .ok (.iconst 1, 1) := by decide +kernel
theorem dX5_book_32 : decode cX5_book 32 = .ok (.aload_n 0, 1) := by decide +kernel
theorem dX5_book_33 : decode cX5_book 33 = .ok (.getfield 16, 3) := by decide +kernel
theorem dX5_book_36 : decode cX5_book 36 = .ok (.invokevirtual 147, 3) := by decide +kernel
theorem dX5_book_39 : decode cX5_book 39 = .ok (.iconst 0, 1) := by decide +kernel
theorem dX5_book_40 : decode cX5_book 40 = .ok (.istore 4, 2) := by decide +kernel
theorem dX5_book_42 : decode cX5_book 42 = .ok (.iload 4, 2) := by decide +kernel
theorem dX5_book_44 : decode cX5_book 44 = .ok (.aload_n 0, 1) := by decide +kernel
theorem dX5_book_45 : decode cX5_book 45 = .ok (.getfield 28, 3) := by decide +kernel
theorem dX5_book_48 : decode cX5_book 48 = .ok (.iload_n 1, 1) := by decide +kernel
theorem dX5_book_49 : decode cX5_book 49 = .ok (.iaload, 1) := by decide +kernel
theorem dX5_book_50 : decode cX5_book 50 = .ok (.if_icmp .ge 41, 3) := by decide +kernel
theorem dX5_book_53 : decode cX5_book 53 = .ok (.aload_n 0, 1) := by decide +kernel
theorem dX5_book_54 : decode cX5_book 54 = .ok (.getfield 31, 3) := by decide +kernel
theorem dX5_book_57 : decode cX5_book 57 = .ok (.bipush 40, 2) := by decide +kernel
theorem dX5_book_59 : decode cX5_book 59 = .ok (.iload_n 1, 1) := by decide +kernel
theorem dX5_book_60 : decode cX5_book 60 = .ok (.imul, 1) := by decide +kernel
theorem dX5_book_61 : decode cX5_book 61 = .ok (.iload 4, 2) := by decide +kernel
theorem dX5_book_63 : decode cX5_book 63 = .ok (.iadd, 1) := by decide +kernel
theorem dX5_book_64 : decode cX5_book 64 = .ok (.aload_n 0, 1) := by decide +kernel
theorem dX5_book_65 : decode cX5_book 65 = .ok (.getfield 25, 3) := by decide +kernel
theorem dX5_book_68 : decode cX5_book 68 = .ok (.iload_n 1, 1) := by decide +kernel
theorem dX5_book_69 : decode cX5_book 69 = .ok (.iaload, 1) := by decide +kernel
theorem dX5_book_70 : decode cX5_book 70 = .ok (.aload_n 0, 1) := by decide +kernel
theorem dX5_book_71 : decode cX5_book 71 = .ok (.iload_n 2, 1) := by decide +kernel
theorem dX5_book_72 : decode cX5_book 72 = .ok (.iconst 1, 1) := by decide +kernel
theorem dX5_book_73 : decode cX5_book 73 = .ok (.invokevirtual 71, 3) := by decide +kernel
theorem dX5_book_76 : decode cX5_book 76 = .ok (.i2l, 1) := by decide +kernel
theorem dX5_book_77 : decode cX5_book 77 = .ok (.invokestatic 274, 3) := by decide +kernel
theorem dX5_book_80 : decode cX5_book 80 = .ok (.lastore, 1) := by decide +kernel
theorem dX5_book_81 : decode cX5_book 81 = .ok (.aload_n 0, 1) := by decide +kernel
theorem dX5_book_82 : decode cX5_book 82 = .ok (.invokevirtual 139, 3) := by decide +kernel
theorem dX5_book_85 : decode cX5_book 85 = .ok (.iinc 4 1, 3) := by decide +kernel
theorem dX5_book_88 : decode cX5_book 88 = .ok (.goto (-46), 3) := by decide +kernel
theorem dX5_book_91 : decode cX5_book 91 = .ok (.aload_n 0, 1) := by decide +kernel
theorem dX5_book_92 : decode cX5_book 92 = .ok (.iconst 0, 1) := by decide +kernel
theorem dX5_book_93 : decode cX5_book 93 = .ok (.aload_n 0, 1) := by decide +kernel
theorem dX5_book_94 : decode cX5_book 94 = .ok (.getfield 16, 3) := by decide +kernel
theorem dX5_book_97 : decode cX5_book 97 = .ok (.invokevirtual 147, 3) := by decide +kernel
theorem dX5_book_100 : decode cX5_book 100 = .ok (.aload_n 0, 1) := by decide +kernel
theorem dX5_book_101 : decode cX5_book 101 = .ok (.getfield 28, 3) := by decide +kernel
theorem dX5_book_104 : decode cX5_book 104 = .ok (.iload_n 1, 1) := by decide +kernel
theorem dX5_book_105 : decode cX5_book 105 = .ok (.iaload, 1) := by decide +kernel
theorem dX5_book_106 : decode cX5_book 106 = .ok (.ireturn, 1) := by decide +kernel
theorem dX5_isSo_0 : decode cX5_isSo 0 = .ok (.iconst 1, 1) := by decide +kernel
theorem dX5_isSo_1 : decode cX5_isSo 1 = .ok (.istore_n 3, 1) := by decide +kernel
theorem dX5_isSo_2 : decode cX5_isSo 2 = .ok (.iconst 0, 1) := by decide +kernel
theorem dX5_isSo_3 : decode cX5_isSo 3 = .ok (.istore 4, 2) := by decide +kernel
theorem dX5_isSo_5 : decode cX5_isSo 5 = .ok (.iload 4, 2) := by decide +kernel
theorem dX5_isSo_7 : decode cX5_isSo 7 = .ok (.aload_n 0, 1) := by decide +kernel
theorem dX5_isSo_8 : decode cX5_isSo 8 = .ok (.getfield 28, 3) := by decide +kernel
theorem dX5_isSo_11 : decode cX5_isSo 11 = .ok (.iload_n 1, 1) := by decide +kernel
theorem dX5_isSo_12 : decode cX5_isSo 12 = .ok (.iaload, 1) := by decide +kernel
theorem dX5_isSo_13 : decode cX5_isSo 13 = .ok (.if_icmp .ge 46, 3) := by decide +kernel
theorem dX5_isSo_16 : decode cX5_isSo 16 = .ok (.iload_n 3, 1) := by decide +kernel
theorem dX5_isSo_17 : decode cX5_isSo 17 = .ok (.ifCond .eq 42, 3) := by decide +kernel
theorem dX5_isSo_20 : decode cX5_isSo 20 = .ok (.aload_n 0, 1) := by decide +kernel
theorem dX5_isSo_21 : decode cX5_isSo 21 = .ok (.getfield 31, 3) := by decide +kernel
theorem dX5_isSo_24 : decode cX5_isSo 24 = .ok (.bipush 40, 2) := by decide +kernel
theorem dX5_isSo_26 : decode cX5_isSo 26 = .ok (.iload_n 1, 1) := by decide +kernel
theorem dX5_isSo_27 : decode cX5_isSo 27 = .ok (.imul, 1) := by decide +kernel
theorem dX5_isSo_28 : decode cX5_isSo 28 = .ok (.iload 4, 2) := by decide +kernel
theorem dX5_isSo_30 : decode cX5_isSo 30 = .ok (.iadd, 1) := by decide +kernel
theorem dX5_isSo_31 : decode cX5_isSo 31 = .ok (.laload, 1) := by decide +kernel
theorem dX5_isSo_32 : decode cX5_isSo 32 = .ok (.aload_n 0, 1) := by decide +kernel
theorem dX5_isSo_33 : decode cX5_isSo 33 = .ok (.iload_n 2, 1) := by decide +kernel
theorem dX5_isSo_34 : decode cX5_isSo 34 = .ok (.iconst 1, 1) := by decide +kernel
theorem dX5_isSo_35 : decode cX5_isSo 35 = .ok (.invokevirtual 71, 3) := by decide +kernel
theorem dX5_isSo_38 : decode cX5_isSo 38 = .ok (.i2l, 1) := by decide +kernel
theorem dX5_isSo_39 : decode cX5_isSo 39 = .ok (.lcmp, 1) := by decide +kernel
theorem dX5_isSo_40 : decode cX5_isSo 40 = .ok (.ifCond .ne 7, 3) := by decide +kernel
theorem dX5_isSo_43 : decode cX5_isSo 43 = .ok (.iconst 1, 1) := by decide +kernel
theorem dX5_isSo_44 : decode cX5_isSo 44 = .ok (.goto 4, 3) := by decide +kernel
theorem dX5_isSo_47 : decode cX5_isSo 47 = .ok (.iconst 0, 1) := by decide +kernel
theorem dX5_isSo_48 : decode cX5_isSo 48 = .ok (.istore_n 3, 1) := by decide +kernel
theorem dX5_isSo_49 : decode cX5_isSo 49 = .ok (.aload_n 0, 1) := by decide +kernel
theorem dX5_isSo_50 : decode cX5_isSo 50 = .ok (.invokevirtual 139, 3) := by decide +kernel
theorem dX5_isSo_53 : decode cX5_isSo 53 = .ok (.iinc 4 1, 3) := by decide +kernel
theorem dX5_isSo_56 : decode cX5_isSo 56 = .ok (.goto (-51), 3) := by decide +kernel
theorem dX5_isSo_59 : decode cX5_isSo 59 = .ok (.iload_n 3, 1) := by decide +kernel
theorem dX5_isSo_60 : decode cX5_isSo 60 = .ok (.ireturn, 1) := by decide +kernel
theorem dX5_read_0 : decode cX5_read 0 = .ok (.aload_n 0, 1) := by decide +kernel
theorem dX5_read_1 : decode cX5_read 1 = .ok (.iload_n 1, 1) := by decide +kernel
theorem dX5_read_2 : decode cX5_read 2 = .ok (.invokevirtual 280, 3) := by decide +kernel
theorem dX5_read_5 : decode cX5_read 5 = .ok (.istore 4, 2) := by decide +kernel
theorem dX5_read_7 : decode cX5_read 7 = .ok (.iload 4, 2) := by decide +kernel
theorem dX5_read_9 : decode cX5_read 9 = .ok (.ifCond .eq 10, 3) := by decide +kernel
theorem dX5_read_12 : decode cX5_read 12 = .ok (.aload_n 0, 1) := by decide +kernel
theorem dX5_read_13 : decode cX5_read 13 = .ok (.iload 4, 2) := by decide +kernel
theorem dX5_read_15 : decode cX5_read 15 = .ok (.invokevirtual 57, 3) := by decide +kernel
theorem dX5_read_18 : decode cX5_read 18 = .ok (.ireturn, 1) := by decide +kernel
theorem dX5_read_19 : decode cX5_read 19 = .ok (.iload_n 2, 1) := by decide +kernel
theorem dX5_read_20 : decode cX5_read 20 = .ok (.invokestatic 61, 3) := by decide +kernel
theorem dX5_read_23 : decode cX5_read 23 = .ok (.ifCond .eq 11, 3) := by decide +kernel
theorem dX5_read_26 : decode cX5_read 26 = .ok (.aload_n 0, 1) := by decide +kernel
theorem dX5_read_27 : decode cX5_read 27 = .ok (.iload_n 3, 1) := by decide +kernel
theorem dX5_read_28 : decode cX5_read 28 = .ok (.invokevirtual 103, 3) := by decide +kernel
theorem dX5_read_31 : decode cX5_read 31 = .ok (.ifCond .ne 10, 3) := by decide +kernel
theorem dX5_read_34 : decode cX5_read 34 = .ok (.aload_n 0, 1) := by decide +kernel
theorem dX5_read_35 : decode cX5_read 35 = .ok (.ldc 48, 2) := by decide +kernel
theorem dX5_read_37 : decode cX5_read 37 = .ok (.invokevirtual 57, 3) := by decide +kernel
theorem dX5_read_40 : decode cX5_read 40 = .ok (.ireturn, 1) := by decide +kernel
theorem dX5_read_41 : decode cX5_read 41 = .ok (.iconst 0, 1) := by decide +kernel
theorem dX5_read_42 : decode cX5_read 42 = .ok (.istore 5, 2) := by decide +kernel
theorem dX5_read_44 : decode cX5_read 44 = .ok (.aload_n 0, 1) := by decide +kernel
theorem dX5_read_45 : decode cX5_read 45 = .ok (.iconst 1, 1) := by decide +kernel
theorem dX5_read_46 : decode cX5_read 46 = .ok (.aload_n 0, 1) := by decide +kernel
theorem dX5_read_47 : decode cX5_read 47 = .ok (.getfield 19, 3) := by decide +kernel
theorem dX5_read_50 : decode cX5_read 50 = .ok (.invokevirtual 147, 3) := by decide +kernel
theorem dX5_read_53 : decode cX5_read 53 = .ok (.iconst 0, 1) := by decide +kernel
theorem dX5_read_54 : decode cX5_read 54 = .ok (.istore 6, 2) := by decide +kernel
theorem dX5_read_56 : decode cX5_read 56 = .ok (.iload 6, 2) := by decide +kernel
theorem dX5_read_58 : decode cX5_read 58 = .ok (.bipush 48, 2) := by decide +kernel
theorem dX5_read_60 : decode cX5_read 60 = .ok (.if_icmp .ge 59, 3) := by decide +kernel
theorem dX5_read_63 : decode cX5_read 63 = .ok (.aload_n 0, 1) := by decide +kernel
theorem dX5_read_64 : decode cX5_read 64 = .ok (.iload_n 3, 1) := by decide +kernel
theorem dX5_read_65 : decode cX5_read 65 = .ok (.iconst 0, 1) := by decide +kernel
theorem dX5_read_66 : decode cX5_read 66 = .ok (.iload 6, 2) := by decide +kernel
theorem dX5_read_68 : decode cX5_read 68 = .ok (.bipush 8, 2) := by decide +kernel
theorem dX5_read_70 : decode cX5_read 70 = .ok (.idiv, 1) := by decide +kernel
theorem dX5_read_71 : decode cX5_read 71 = .ok (.invokevirtual 93, 3) := by decide +kernel
theorem dX5_read_74 : decode cX5_read 74 = .ok (.aload_n 0, 1) := by decide +kernel
theorem dX5_read_75 : decode cX5_read 75 = .ok (.iload_n 3, 1) := by decide +kernel
theorem dX5_read_76 : decode cX5_read 76 = .ok (.iconst 3, 1) := by decide +kernel
theorem dX5_read_77 : decode cX5_read 77 = .ok (.iload 6, 2) := by decide +kernel
theorem dX5_read_79 : decode cX5_read 79 = .ok (.bipush 8, 2) := by decide +kernel
theorem dX5_read_81 : decode cX5_read 81 = .ok (.irem, 1) := by decide +kernel
theorem dX5_read_82 : decode cX5_read 82 = .ok (.invokevirtual 93, 3) := by decide +kernel
theorem dX5_read_85 : decode cX5_read 85 = .ok (.iload 5, 2) := by decide +kernel
theorem dX5_read_87 : decode cX5_read 87 = .ok (.aload_n 0, 1) := by decide +kernel
theorem dX5_read_88 : decode cX5_read 88 = .ok (.iload_n 1, 1) := by decide +kernel
theorem dX5_read_89 : decode cX5_read 89 = .ok (.iload_n 2, 1) := by decide +kernel
theorem dX5_read_90 : decode cX5_read 90 = .ok (.invokevirtual 285, 3) := by decide +kernel
theorem dX5_read_93 : decode cX5_read 93 = .ok (.ifCond .eq 7, 3) := by decide +kernel
theorem dX5_read_96 : decode cX5_read 96 = .ok (.iconst 1, 1) := by decide +kernel
theorem dX5_read_97 : decode cX5_read 97 = .ok (.goto 4, 3) := by decide +kernel
theorem dX5_read_100 : decode cX5_read 100 = .ok (.iconst 0, 1) := by decide +kernel
theorem dX5_read_101 : decode cX5_read 101 = .ok (.iadd, 1) := by decide +kernel
theorem dX5_read_102 : decode cX5_read 102 = .ok (.istore 5, 2) := by decide +kernel
theorem dX5_read_104 : decode cX5_read 104 = .ok (.aload_n 0, 1) := by decide +kernel
theorem dX5_read_105 : decode cX5_read 105 = .ok (.iconst 0, 1) := by decide +kernel
theorem dX5_read_106 : decode cX5_read 106 = .ok (.aload_n 0, 1) := by decide +kernel
theorem dX5_read_107 : decode cX5_read 107 = .ok (.getfield 19, 3) := by decide +kernel
theorem dX5_read_110 : decode cX5_read 110 = .ok (.invokevirtual 147, 3) := by decide +kernel
theorem dX5_read_113 : decode cX5_read 113 = .ok (.iinc 6 1, 3) := by decide +kernel
theorem dX5_read_116 : decode cX5_read 116 = .ok (.goto (-60), 3) := by decide +kernel
theorem dX5_read_119 : decode cX5_read 119 = .ok (.iload 5, 2) := by decide +kernel
theorem dX5_read_121 : decode cX5_read 121 = .ok (.ireturn, 1) := by decide +kernel
theorem dX5_moveAll_0 : decode cX5_moveAll 0 = .ok (.iconst 0, 1) := by decide +kernel
theorem dX5_moveAll_1 : decode cX5_moveAll 1 = .ok (.istore_n 3, 1) := by decide +kernel
theorem dX5_moveAll_2 : decode cX5_moveAll 2 = .ok (.iload_n 3, 1) := by decide +kernel
theorem dX5_moveAll_3 : decode cX5_moveAll 3 = .ok (.bipush 51, 2) := by decide +kernel
theorem dX5_moveAll_5 : decode cX5_moveAll 5 = .ok (.if_icmp .ge 34, 3) := by decide +kernel
theorem dX5_moveAll_8 : decode cX5_moveAll 8 = .ok (.iload_n 1, 1) := by decide +kernel
theorem dX5_moveAll_9 : decode cX5_moveAll 9 = .ok (.ifCond .eq 15, 3) := by decide +kernel
theorem dX5_moveAll_12 : decode cX5_moveAll 12 = .ok (.aload_n 2, 1) := by decide +kernel
theorem dX5_moveAll_13 : decode cX5_moveAll 13 = .ok (.iload_n 3, 1) := by decide +kernel
theorem dX5_moveAll_14 : decode cX5_moveAll 14 = .ok (.aload_n 0, 1) := by decide +kernel
theorem dX5_moveAll_15 : decode cX5_moveAll 15 = .ok (.getfield 7, 3) := by decide +kernel
theorem dX5_moveAll_18 : decode cX5_moveAll 18 = .ok (.iload_n 3, 1) := by decide +kernel
theorem dX5_moveAll_19 : decode cX5_moveAll 19 = .ok (.iaload, 1) := by decide +kernel
theorem dX5_moveAll_20 : decode cX5_moveAll 20 = .ok (.iastore, 1) := by decide +kernel
theorem dX5_moveAll_21 : decode cX5_moveAll 21 = .ok (.goto 12, 3) := by decide +kernel
theorem dX5_moveAll_24 : decode cX5_moveAll 24 = .ok (.aload_n 0, 1) := by decide +kernel
theorem dX5_moveAll_25 : decode cX5_moveAll 25 = .ok (.getfield 7, 3) := by decide +kernel
theorem dX5_moveAll_28 : decode cX5_moveAll 28 = .ok (.iload_n 3, 1) := by decide +kernel
theorem dX5_moveAll_29 : decode cX5_moveAll 29 = .ok (.aload_n 2, 1) := by decide +kernel
theorem dX5_moveAll_30 : decode cX5_moveAll 30 = .ok (.iload_n 3, 1) := by decide +kernel
theorem dX5_moveAll_31 : decode cX5_moveAll 31 = .ok (.iaload, 1) := by decide +kernel
theorem dX5_moveAll_32 : decode cX5_moveAll 32 = .ok (.iastore, 1) := by decide +kernel
theorem dX5_moveAll_33 : decode cX5_moveAll 33 = .ok (.iinc 3 1, 3) := by decide +kernel
theorem dX5_moveAll_36 : decode cX5_moveAll 36 = .ok (.goto (-34), 3) := by decide +kernel
theorem dX5_moveAll_39 : decode cX5_moveAll 39 = .ok (.return_, 1) := by decide +kernel
theorem dX5_image_0 : decode cX5_image 0 = .ok (.aload_n 0, 1) := by decide +kernel
theorem dX5_image_1 : decode cX5_image 1 = .ok (.iconst 1, 1) := by decide +kernel
theorem dX5_image_2 : decode cX5_image 2 = .ok (.aload_n 0, 1) := by decide +kernel
theorem dX5_image_3 : decode cX5_image 3 = .ok (.getfield 38, 3) := by decide +kernel
theorem dX5_image_6 : decode cX5_image 6 = .ok (.invokevirtual 147, 3) := by decide +kernel
theorem dX5_image_9 : decode cX5_image 9 = .ok (.aload_n 0, 1) := by decide +kernel
theorem dX5_image_10 : decode cX5_image 10 = .ok (.iconst 1, 1) := by decide +kernel
theorem dX5_image_11 : decode cX5_image 11 = .ok (.putfield 288, 3) := by decide +kernel
theorem dX5_image_14 : decode cX5_image 14 = .ok (.iconst 1, 1) := by decide +kernel
theorem dX5_image_15 : decode cX5_image 15 = .ok (.ireturn, 1) := by decide +kernel
theorem dX5_undo_0 : decode cX5_undo 0 = .ok (.aload_n 0, 1) := by decide +kernel
theorem dX5_undo_1 : decode cX5_undo 1 = .ok (.getfield 288, 3) := by decide +kernel
theorem dX5_undo_4 : decode cX5_undo 4 = .ok (.ifCond .ne 10, 3) := by decide +kernel
theorem dX5_undo_7 : decode cX5_undo 7 = .ok (.aload_n 0, 1) := by decide +kernel
theorem dX5_undo_8 : decode cX5_undo 8 = .ok (.ldc 154, 2) := by decide +kernel
theorem dX5_undo_10 : decode cX5_undo 10 = .ok (.invokevirtual 57, 3) := by decide +kernel
theorem dX5_undo_13 : decode cX5_undo 13 = .ok (.ireturn, 1) := by decide +kernel
theorem dX5_undo_14 : decode cX5_undo 14 = .ok (.aload_n 0, 1) := by decide +kernel
theorem dX5_undo_15 : decode cX5_undo 15 = .ok (.iconst 0, 1) := by decide +kernel
theorem dX5_undo_16 : decode cX5_undo 16 = .ok (.aload_n 0, 1) := by decide +kernel
theorem dX5_undo_17 : decode cX5_undo 17 = .ok (.getfield 38, 3) := by decide +kernel
theorem dX5_undo_20 : decode cX5_undo 20 = .ok (.invokevirtual 147, 3) := by decide +kernel
theorem dX5_undo_23 : decode cX5_undo 23 = .ok (.aload_n 0, 1) := by decide +kernel
theorem dX5_undo_24 : decode cX5_undo 24 = .ok (.getfield 7, 3) := by decide +kernel
theorem dX5_undo_27 : decode cX5_undo 27 = .ok (.iconst 2, 1) := by decide +kernel
theorem dX5_undo_28 : decode cX5_undo 28 = .ok (.iaload, 1) := by decide +kernel
theorem dX5_undo_29 : decode cX5_undo 29 = .ok (.ireturn, 1) := by decide +kernel
theorem dX5_tear_0 : decode cX5_tear 0 = .ok (.aload_n 0, 1) := by decide +kernel
theorem dX5_tear_1 : decode cX5_tear 1 = .ok (.getfield 288, 3) := by decide +kernel
theorem dX5_tear_4 : decode cX5_tear 4 = .ok (.ifCond .eq 7, 3) := by decide +kernel
theorem dX5_tear_7 : decode cX5_tear 7 = .ok (.iconst 1, 1) := by decide +kernel
theorem dX5_tear_8 : decode cX5_tear 8 = .ok (.goto 4, 3) := by decide +kernel
theorem dX5_tear_11 : decode cX5_tear 11 = .ok (.iconst 0, 1) := by decide +kernel
theorem dX5_tear_12 : decode cX5_tear 12 = .ok (.istore_n 1, 1) := by decide +kernel
theorem dX5_tear_13 : decode cX5_tear 13 = .ok (.aload_n 0, 1) := by decide +kernel
theorem dX5_tear_14 : decode cX5_tear 14 = .ok (.iconst 0, 1) := by decide +kernel
theorem dX5_tear_15 : decode cX5_tear 15 = .ok (.putfield 288, 3) := by decide +kernel
theorem dX5_tear_18 : decode cX5_tear 18 = .ok (.iload_n 1, 1) := by decide +kernel
theorem dX5_tear_19 : decode cX5_tear 19 = .ok (.ireturn, 1) := by decide +kernel
theorem dX5_grimeOfAll_0 : decode cX5_grimeOfAll 0 = .ok (.iconst 0, 1) := by decide +kernel
theorem dX5_grimeOfAll_1 : decode cX5_grimeOfAll 1 = .ok (.istore_n 1, 1) := by decide +kernel
theorem dX5_grimeOfAll_2 : decode cX5_grimeOfAll 2 = .ok (.iconst 0, 1) := by decide +kernel
theorem dX5_grimeOfAll_3 : decode cX5_grimeOfAll 3 = .ok (.istore_n 2, 1) := by decide +kernel
theorem dX5_grimeOfAll_4 : decode cX5_grimeOfAll 4 = .ok (.iload_n 2, 1) := by decide +kernel
theorem dX5_grimeOfAll_5 : decode cX5_grimeOfAll 5 = .ok (.aload_n 0, 1) := by decide +kernel
theorem dX5_grimeOfAll_6 : decode cX5_grimeOfAll 6 = .ok (.getfield 7, 3) := by decide +kernel
theorem dX5_grimeOfAll_9 : decode cX5_grimeOfAll 9 = .ok (.iconst 2, 1) := by decide +kernel
theorem dX5_grimeOfAll_10 : decode cX5_grimeOfAll 10 = .ok (.iaload, 1) := by decide +kernel
theorem dX5_grimeOfAll_11 : decode cX5_grimeOfAll 11 = .ok (.if_icmp .ge 18, 3) := by decide +kernel
theorem dX5_grimeOfAll_14 : decode cX5_grimeOfAll 14 = .ok (.iload_n 1, 1) := by decide +kernel
theorem dX5_grimeOfAll_15 : decode cX5_grimeOfAll 15 = .ok (.aload_n 0, 1) := by decide +kernel
theorem dX5_grimeOfAll_16 : decode cX5_grimeOfAll 16 = .ok (.iload_n 2, 1) := by decide +kernel
theorem dX5_grimeOfAll_17 : decode cX5_grimeOfAll 17 = .ok (.iconst 2, 1) := by decide +kernel
theorem dX5_grimeOfAll_18 : decode cX5_grimeOfAll 18 = .ok (.invokevirtual 65, 3) := by decide +kernel
theorem dX5_grimeOfAll_21 : decode cX5_grimeOfAll 21 = .ok (.iadd, 1) := by decide +kernel
theorem dX5_grimeOfAll_22 : decode cX5_grimeOfAll 22 = .ok (.istore_n 1, 1) := by decide +kernel
theorem dX5_grimeOfAll_23 : decode cX5_grimeOfAll 23 = .ok (.iinc 2 1, 3) := by decide +kernel
theorem dX5_grimeOfAll_26 : decode cX5_grimeOfAll 26 = .ok (.goto (-22), 3) := by decide +kernel
theorem dX5_grimeOfAll_29 : decode cX5_grimeOfAll 29 = .ok (.iload_n 1, 1) := by decide +kernel
theorem dX5_grimeOfAll_30 : decode cX5_grimeOfAll 30 = .ok (.ireturn, 1) := by decide +kernel
theorem dX5_count_0 : decode cX5_count 0 = .ok (.iload_n 1, 1) := by decide +kernel
theorem dX5_count_1 : decode cX5_count 1 = .ok (.tableswitch 53 0 3 #[31, 38, 43, 48], 31) := by decide +kernel
theorem dX5_count_32 : decode cX5_count 32 = .ok (.aload_n 0, 1) := by decide +kernel
theorem dX5_count_33 : decode cX5_count 33 = .ok (.getfield 7, 3) := by decide +kernel
theorem dX5_count_36 : decode cX5_count 36 = .ok (.iconst 2, 1) := by decide +kernel
theorem dX5_count_37 : decode cX5_count 37 = .ok (.iaload, 1) := by decide +kernel
theorem dX5_count_38 : decode cX5_count 38 = .ok (.ireturn, 1) := by decide +kernel
theorem dX5_count_39 : decode cX5_count 39 = .ok (.aload_n 0, 1) := by decide +kernel
theorem dX5_count_40 : decode cX5_count 40 = .ok (.getfield 174, 3) := by decide +kernel
theorem dX5_count_43 : decode cX5_count 43 = .ok (.ireturn, 1) := by decide +kernel
theorem dX5_count_44 : decode cX5_count 44 = .ok (.aload_n 0, 1) := by decide +kernel
theorem dX5_count_45 : decode cX5_count 45 = .ok (.invokevirtual 161, 3) := by decide +kernel
theorem dX5_count_48 : decode cX5_count 48 = .ok (.ireturn, 1) := by decide +kernel
theorem dX5_count_49 : decode cX5_count 49 = .ok (.aload_n 0, 1) := by decide +kernel
theorem dX5_count_50 : decode cX5_count 50 = .ok (.invokevirtual 291, 3) := by decide +kernel
theorem dX5_count_53 : decode cX5_count 53 = .ok (.ireturn, 1) := by decide +kernel
theorem dX5_count_54 : decode cX5_count 54 = .ok (.aload_n 0, 1) := by decide +kernel
theorem dX5_count_55 : decode cX5_count 55 = .ok (.ldc 48, 2) := by decide +kernel
theorem dX5_count_57 : decode cX5_count 57 = .ok (.invokevirtual 57, 3) := by decide +kernel
theorem dX5_count_60 : decode cX5_count 60 = .ok (.ireturn, 1) := by decide +kernel
theorem dX5_status_0 : decode cX5_status 0 = .ok (.iload_n 1, 1) := by decide +kernel
theorem dX5_status_1 : decode cX5_status 1 = .ok (.iconst (-1), 1) := by decide +kernel
theorem dX5_status_2 : decode cX5_status 2 = .ok (.bipush 6, 2) := by decide +kernel
theorem dX5_status_4 : decode cX5_status 4 = .ok (.invokestatic 49, 3) := by decide +kernel
theorem dX5_status_7 : decode cX5_status 7 = .ok (.ifCond .ne 10, 3) := by decide +kernel
theorem dX5_status_10 : decode cX5_status 10 = .ok (.aload_n 0, 1) := by decide +kernel
theorem dX5_status_11 : decode cX5_status 11 = .ok (.ldc 48, 2) := by decide +kernel
theorem dX5_status_13 : decode cX5_status 13 = .ok (.invokevirtual 57, 3) := by decide +kernel
theorem dX5_status_16 : decode cX5_status 16 = .ok (.ireturn, 1) := by decide +kernel
theorem dX5_status_17 : decode cX5_status 17 = .ok (.iconst 0, 1) := by decide +kernel
theorem dX5_status_18 : decode cX5_status 18 = .ok (.istore_n 2, 1) := by decide +kernel
theorem dX5_status_19 : decode cX5_status 19 = .ok (.iconst 0, 1) := by decide +kernel
theorem dX5_status_20 : decode cX5_status 20 = .ok (.istore_n 3, 1) := by decide +kernel
theorem dX5_status_21 : decode cX5_status 21 = .ok (.iload_n 3, 1) := by decide +kernel
theorem dX5_status_22 : decode cX5_status 22 = .ok (.bipush 7, 2) := by decide +kernel
theorem dX5_status_24 : decode cX5_status 24 = .ok (.if_icmp .ge 18, 3) := by decide +kernel
theorem dX5_status_27 : decode cX5_status 27 = .ok (.iload_n 2, 1) := by decide +kernel
theorem dX5_status_28 : decode cX5_status 28 = .ok (.aload_n 0, 1) := by decide +kernel
theorem dX5_status_29 : decode cX5_status 29 = .ok (.getfield 13, 3) := by decide +kernel
theorem dX5_status_32 : decode cX5_status 32 = .ok (.iload_n 3, 1) := by decide +kernel
theorem dX5_status_33 : decode cX5_status 33 = .ok (.iaload, 1) := by decide +kernel
theorem dX5_status_34 : decode cX5_status 34 = .ok (.iadd, 1) := by decide +kernel
theorem dX5_status_35 : decode cX5_status 35 = .ok (.istore_n 2, 1) := by decide +kernel
theorem dX5_status_36 : decode cX5_status 36 = .ok (.iinc 3 1, 3) := by decide +kernel
theorem dX5_status_39 : decode cX5_status 39 = .ok (.goto (-18), 3) := by decide +kernel
theorem dX5_status_42 : decode cX5_status 42 = .ok (.iload_n 1, 1) := by decide +kernel
theorem dX5_status_43 : decode cX5_status 43 = .ok (.ifCond .ge 7, 3) := by decide +kernel
theorem dX5_status_46 : decode cX5_status 46 = .ok (.iload_n 2, 1) := by decide +kernel
theorem dX5_status_47 : decode cX5_status 47 = .ok (.goto 17, 3) := by decide +kernel
theorem dX5_status_50 : decode cX5_status 50 = .ok (.aload_n 0, 1) := by decide +kernel
theorem dX5_status_51 : decode cX5_status 51 = .ok (.getfield 13, 3) := by decide +kernel
theorem dX5_status_54 : decode cX5_status 54 = .ok (.iload_n 1, 1) := by decide +kernel
theorem dX5_status_55 : decode cX5_status 55 = .ok (.ifCond .ge 7, 3) := by decide +kernel
theorem dX5_status_58 : decode cX5_status 58 = .ok (.iconst 0, 1) := by decide +kernel
theorem dX5_status_59 : decode cX5_status 59 = .ok (.goto 4, 3) := by decide +kernel
theorem dX5_status_62 : decode cX5_status 62 = .ok (.iload_n 1, 1) := by decide +kernel
theorem dX5_status_63 : decode cX5_status 63 = .ok (.iaload, 1) := by decide +kernel
theorem dX5_status_64 : decode cX5_status 64 = .ok (.ireturn, 1) := by decide +kernel
end
section
theorem dL_law_0 : decode cL_law 0 = .ok (.new 7, 3) := by decide +kernel
theorem dL_law_3 : decode cL_law 3 = .ok (.dup, 1) := by decide +kernel
theorem dL_law_4 : decode cL_law 4 = .ok (.invokespecial 9, 3) := by decide +kernel
theorem dL_law_7 : decode cL_law 7 = .ok (.astore_n 1, 1) := by decide +kernel
theorem dL_law_8 : decode cL_law 8 = .ok (.new 10, 3) := by decide +kernel
theorem dL_law_11 : decode cL_law 11 = .ok (.dup, 1) := by decide +kernel
theorem dL_law_12 : decode cL_law 12 = .ok (.invokespecial 12, 3) := by decide +kernel
theorem dL_law_15 : decode cL_law 15 = .ok (.astore_n 2, 1) := by decide +kernel
theorem dL_law_16 : decode cL_law 16 = .ok (.iconst 0, 1) := by decide +kernel
theorem dL_law_17 : decode cL_law 17 = .ok (.istore_n 3, 1) := by decide +kernel
theorem dL_law_18 : decode cL_law 18 = .ok (.iload_n 3, 1) := by decide +kernel
theorem dL_law_19 : decode cL_law 19 = .ok (.aload_n 0, 1) := by decide +kernel
theorem dL_law_20 : decode cL_law 20 = .ok (.arraylength, 1) := by decide +kernel
theorem dL_law_21 : decode cL_law 21 = .ok (.bipush 6, 2) := by decide +kernel
theorem dL_law_23 : decode cL_law 23 = .ok (.isub, 1) := by decide +kernel
theorem dL_law_24 : decode cL_law 24 = .ok (.if_icmp .gt 1384, 3) := by decide +kernel
theorem dL_law_27 : decode cL_law 27 = .ok (.aload_n 0, 1) := by decide +kernel
theorem dL_law_28 : decode cL_law 28 = .ok (.iload_n 3, 1) := by decide +kernel
theorem dL_law_29 : decode cL_law 29 = .ok (.iaload, 1) := by decide +kernel
theorem dL_law_30 : decode cL_law 30 = .ok (.bipush 63, 2) := by decide +kernel
theorem dL_law_32 : decode cL_law 32 = .ok (.iand, 1) := by decide +kernel
theorem dL_law_33 : decode cL_law 33 = .ok (.tableswitch 1369 0 38 #[171, 194, 237, 270, 293, 316, 349, 392, 425, 458, 491, 514, 537, 560, 603, 646, 669, 702, 735, 768, 801, 834, 857, 900, 923, 946, 979, 992, 1005, 1048, 1122, 1185, 1208, 1241, 1284, 1297, 1310, 1323, 1346], 171) := by decide +kernel
theorem dL_law_204 : decode cL_law 204 = .ok (.aload_n 1, 1) := by decide +kernel
theorem dL_law_205 : decode cL_law 205 = .ok (.aload_n 0, 1) := by decide +kernel
theorem dL_law_206 : decode cL_law 206 = .ok (.iload_n 3, 1) := by decide +kernel
theorem dL_law_207 : decode cL_law 207 = .ok (.iconst 1, 1) := by decide +kernel
theorem dL_law_208 : decode cL_law 208 = .ok (.iadd, 1) := by decide +kernel
theorem dL_law_209 : decode cL_law 209 = .ok (.iaload, 1) := by decide +kernel
theorem dL_law_210 : decode cL_law 210 = .ok (.invokevirtual 13, 3) := by decide +kernel
theorem dL_law_213 : decode cL_law 213 = .ok (.aload_n 2, 1) := by decide +kernel
theorem dL_law_214 : decode cL_law 214 = .ok (.aload_n 0, 1) := by decide +kernel
theorem dL_law_215 : decode cL_law 215 = .ok (.iload_n 3, 1) := by decide +kernel
theorem dL_law_216 : decode cL_law 216 = .ok (.iconst 1, 1) := by decide +kernel
theorem dL_law_217 : decode cL_law 217 = .ok (.iadd, 1) := by decide +kernel
theorem dL_law_218 : decode cL_law 218 = .ok (.iaload, 1) := by decide +kernel
theorem dL_law_219 : decode cL_law 219 = .ok (.invokevirtual 17, 3) := by decide +kernel
theorem dL_law_222 : decode cL_law 222 = .ok (.if_icmp .eq 1180, 3) := by decide +kernel
theorem dL_law_225 : decode cL_law 225 = .ok (.iconst 0, 1) := by decide +kernel
theorem dL_law_226 : decode cL_law 226 = .ok (.ireturn, 1) := by decide +kernel
theorem dL_law_227 : decode cL_law 227 = .ok (.aload_n 1, 1) := by decide +kernel
theorem dL_law_228 : decode cL_law 228 = .ok (.aload_n 0, 1) := by decide +kernel
theorem dL_law_229 : decode cL_law 229 = .ok (.iload_n 3, 1) := by decide +kernel
theorem dL_law_230 : decode cL_law 230 = .ok (.iconst 1, 1) := by decide +kernel
theorem dL_law_231 : decode cL_law 231 = .ok (.iadd, 1) := by decide +kernel
theorem dL_law_232 : decode cL_law 232 = .ok (.iaload, 1) := by decide +kernel
theorem dL_law_233 : decode cL_law 233 = .ok (.aload_n 0, 1) := by decide +kernel
theorem dL_law_234 : decode cL_law 234 = .ok (.iload_n 3, 1) := by decide +kernel
theorem dL_law_235 : decode cL_law 235 = .ok (.iconst 2, 1) := by decide +kernel
theorem dL_law_236 : decode cL_law 236 = .ok (.iadd, 1) := by decide +kernel
theorem dL_law_237 : decode cL_law 237 = .ok (.iaload, 1) := by decide +kernel
theorem dL_law_238 : decode cL_law 238 = .ok (.aload_n 0, 1) := by decide +kernel
theorem dL_law_239 : decode cL_law 239 = .ok (.iload_n 3, 1) := by decide +kernel
theorem dL_law_240 : decode cL_law 240 = .ok (.iconst 3, 1) := by decide +kernel
theorem dL_law_241 : decode cL_law 241 = .ok (.iadd, 1) := by decide +kernel
theorem dL_law_242 : decode cL_law 242 = .ok (.iaload, 1) := by decide +kernel
theorem dL_law_243 : decode cL_law 243 = .ok (.invokevirtual 18, 3) := by decide +kernel
theorem dL_law_246 : decode cL_law 246 = .ok (.aload_n 2, 1) := by decide +kernel
theorem dL_law_247 : decode cL_law 247 = .ok (.aload_n 0, 1) := by decide +kernel
theorem dL_law_248 : decode cL_law 248 = .ok (.iload_n 3, 1) := by decide +kernel
theorem dL_law_249 : decode cL_law 249 = .ok (.iconst 1, 1) := by decide +kernel
theorem dL_law_250 : decode cL_law 250 = .ok (.iadd, 1) := by decide +kernel
theorem dL_law_251 : decode cL_law 251 = .ok (.iaload, 1) := by decide +kernel
theorem dL_law_252 : decode cL_law 252 = .ok (.aload_n 0, 1) := by decide +kernel
theorem dL_law_253 : decode cL_law 253 = .ok (.iload_n 3, 1) := by decide +kernel
theorem dL_law_254 : decode cL_law 254 = .ok (.iconst 2, 1) := by decide +kernel
theorem dL_law_255 : decode cL_law 255 = .ok (.iadd, 1) := by decide +kernel
theorem dL_law_256 : decode cL_law 256 = .ok (.iaload, 1) := by decide +kernel
theorem dL_law_257 : decode cL_law 257 = .ok (.aload_n 0, 1) := by decide +kernel
theorem dL_law_258 : decode cL_law 258 = .ok (.iload_n 3, 1) := by decide +kernel
theorem dL_law_259 : decode cL_law 259 = .ok (.iconst 3, 1) := by decide +kernel
theorem dL_law_260 : decode cL_law 260 = .ok (.iadd, 1) := by decide +kernel
theorem dL_law_261 : decode cL_law 261 = .ok (.iaload, 1) := by decide +kernel
theorem dL_law_262 : decode cL_law 262 = .ok (.invokevirtual 22, 3) := by decide +kernel
theorem dL_law_265 : decode cL_law 265 = .ok (.if_icmp .eq 1137, 3) := by decide +kernel
theorem dL_law_268 : decode cL_law 268 = .ok (.iconst 0, 1) := by decide +kernel
theorem dL_law_269 : decode cL_law 269 = .ok (.ireturn, 1) := by decide +kernel
theorem dL_law_270 : decode cL_law 270 = .ok (.aload_n 1, 1) := by decide +kernel
theorem dL_law_271 : decode cL_law 271 = .ok (.aload_n 0, 1) := by decide +kernel
theorem dL_law_272 : decode cL_law 272 = .ok (.iload_n 3, 1) := by decide +kernel
theorem dL_law_273 : decode cL_law 273 = .ok (.iconst 1, 1) := by decide +kernel
theorem dL_law_274 : decode cL_law 274 = .ok (.iadd, 1) := by decide +kernel
theorem dL_law_275 : decode cL_law 275 = .ok (.iaload, 1) := by decide +kernel
theorem dL_law_276 : decode cL_law 276 = .ok (.aload_n 0, 1) := by decide +kernel
theorem dL_law_277 : decode cL_law 277 = .ok (.iload_n 3, 1) := by decide +kernel
theorem dL_law_278 : decode cL_law 278 = .ok (.iconst 2, 1) := by decide +kernel
theorem dL_law_279 : decode cL_law 279 = .ok (.iadd, 1) := by decide +kernel
theorem dL_law_280 : decode cL_law 280 = .ok (.iaload, 1) := by decide +kernel
theorem dL_law_281 : decode cL_law 281 = .ok (.invokevirtual 23, 3) := by decide +kernel
theorem dL_law_284 : decode cL_law 284 = .ok (.aload_n 2, 1) := by decide +kernel
theorem dL_law_285 : decode cL_law 285 = .ok (.aload_n 0, 1) := by decide +kernel
theorem dL_law_286 : decode cL_law 286 = .ok (.iload_n 3, 1) := by decide +kernel
theorem dL_law_287 : decode cL_law 287 = .ok (.iconst 1, 1) := by decide +kernel
theorem dL_law_288 : decode cL_law 288 = .ok (.iadd, 1) := by decide +kernel
theorem dL_law_289 : decode cL_law 289 = .ok (.iaload, 1) := by decide +kernel
theorem dL_law_290 : decode cL_law 290 = .ok (.aload_n 0, 1) := by decide +kernel
theorem dL_law_291 : decode cL_law 291 = .ok (.iload_n 3, 1) := by decide +kernel
theorem dL_law_292 : decode cL_law 292 = .ok (.iconst 2, 1) := by decide +kernel
theorem dL_law_293 : decode cL_law 293 = .ok (.iadd, 1) := by decide +kernel
theorem dL_law_294 : decode cL_law 294 = .ok (.iaload, 1) := by decide +kernel
theorem dL_law_295 : decode cL_law 295 = .ok (.invokevirtual 27, 3) := by decide +kernel
theorem dL_law_298 : decode cL_law 298 = .ok (.if_icmp .eq 1104, 3) := by decide +kernel
theorem dL_law_301 : decode cL_law 301 = .ok (.iconst 0, 1) := by decide +kernel
theorem dL_law_302 : decode cL_law 302 = .ok (.ireturn, 1) := by decide +kernel
theorem dL_law_303 : decode cL_law 303 = .ok (.aload_n 1, 1) := by decide +kernel
theorem dL_law_304 : decode cL_law 304 = .ok (.aload_n 0, 1) := by decide +kernel
theorem dL_law_305 : decode cL_law 305 = .ok (.iload_n 3, 1) := by decide +kernel
theorem dL_law_306 : decode cL_law 306 = .ok (.iconst 1, 1) := by decide +kernel
theorem dL_law_307 : decode cL_law 307 = .ok (.iadd, 1) := by decide +kernel
theorem dL_law_308 : decode cL_law 308 = .ok (.iaload, 1) := by decide +kernel
theorem dL_law_309 : decode cL_law 309 = .ok (.invokevirtual 28, 3) := by decide +kernel
theorem dL_law_312 : decode cL_law 312 = .ok (.aload_n 2, 1) := by decide +kernel
theorem dL_law_313 : decode cL_law 313 = .ok (.aload_n 0, 1) := by decide +kernel
theorem dL_law_314 : decode cL_law 314 = .ok (.iload_n 3, 1) := by decide +kernel
theorem dL_law_315 : decode cL_law 315 = .ok (.iconst 1, 1) := by decide +kernel
theorem dL_law_316 : decode cL_law 316 = .ok (.iadd, 1) := by decide +kernel
theorem dL_law_317 : decode cL_law 317 = .ok (.iaload, 1) := by decide +kernel
theorem dL_law_318 : decode cL_law 318 = .ok (.invokevirtual 31, 3) := by decide +kernel
theorem dL_law_321 : decode cL_law 321 = .ok (.if_icmp .eq 1081, 3) := by decide +kernel
theorem dL_law_324 : decode cL_law 324 = .ok (.iconst 0, 1) := by decide +kernel
theorem dL_law_325 : decode cL_law 325 = .ok (.ireturn, 1) := by decide +kernel
theorem dL_law_326 : decode cL_law 326 = .ok (.aload_n 1, 1) := by decide +kernel
theorem dL_law_327 : decode cL_law 327 = .ok (.aload_n 0, 1) := by decide +kernel
theorem dL_law_328 : decode cL_law 328 = .ok (.iload_n 3, 1) := by decide +kernel
theorem dL_law_329 : decode cL_law 329 = .ok (.iconst 1, 1) := by decide +kernel
theorem dL_law_330 : decode cL_law 330 = .ok (.iadd, 1) := by decide +kernel
theorem dL_law_331 : decode cL_law 331 = .ok (.iaload, 1) := by decide +kernel
theorem dL_law_332 : decode cL_law 332 = .ok (.invokevirtual 32, 3) := by decide +kernel
theorem dL_law_335 : decode cL_law 335 = .ok (.aload_n 2, 1) := by decide +kernel
theorem dL_law_336 : decode cL_law 336 = .ok (.aload_n 0, 1) := by decide +kernel
theorem dL_law_337 : decode cL_law 337 = .ok (.iload_n 3, 1) := by decide +kernel
theorem dL_law_338 : decode cL_law 338 = .ok (.iconst 1, 1) := by decide +kernel
theorem dL_law_339 : decode cL_law 339 = .ok (.iadd, 1) := by decide +kernel
theorem dL_law_340 : decode cL_law 340 = .ok (.iaload, 1) := by decide +kernel
theorem dL_law_341 : decode cL_law 341 = .ok (.invokevirtual 35, 3) := by decide +kernel
theorem dL_law_344 : decode cL_law 344 = .ok (.if_icmp .eq 1058, 3) := by decide +kernel
theorem dL_law_347 : decode cL_law 347 = .ok (.iconst 0, 1) := by decide +kernel
theorem dL_law_348 : decode cL_law 348 = .ok (.ireturn, 1) := by decide +kernel
theorem dL_law_349 : decode cL_law 349 = .ok (.aload_n 1, 1) := by decide +kernel
theorem dL_law_350 : decode cL_law 350 = .ok (.aload_n 0, 1) := by decide +kernel
theorem dL_law_351 : decode cL_law 351 = .ok (.iload_n 3, 1) := by decide +kernel
theorem dL_law_352 : decode cL_law 352 = .ok (.iconst 1, 1) := by decide +kernel
theorem dL_law_353 : decode cL_law 353 = .ok (.iadd, 1) := by decide +kernel
theorem dL_law_354 : decode cL_law 354 = .ok (.iaload, 1) := by decide +kernel
theorem dL_law_355 : decode cL_law 355 = .ok (.aload_n 0, 1) := by decide +kernel
theorem dL_law_356 : decode cL_law 356 = .ok (.iload_n 3, 1) := by decide +kernel
theorem dL_law_357 : decode cL_law 357 = .ok (.iconst 2, 1) := by decide +kernel
theorem dL_law_358 : decode cL_law 358 = .ok (.iadd, 1) := by decide +kernel
theorem dL_law_359 : decode cL_law 359 = .ok (.iaload, 1) := by decide +kernel
theorem dL_law_360 : decode cL_law 360 = .ok (.invokevirtual 36, 3) := by decide +kernel
theorem dL_law_363 : decode cL_law 363 = .ok (.aload_n 2, 1) := by decide +kernel
theorem dL_law_364 : decode cL_law 364 = .ok (.aload_n 0, 1) := by decide +kernel
theorem dL_law_365 : decode cL_law 365 = .ok (.iload_n 3, 1) := by decide +kernel
theorem dL_law_366 : decode cL_law 366 = .ok (.iconst 1, 1) := by decide +kernel
theorem dL_law_367 : decode cL_law 367 = .ok (.iadd, 1) := by decide +kernel
theorem dL_law_368 : decode cL_law 368 = .ok (.iaload, 1) := by decide +kernel
theorem dL_law_369 : decode cL_law 369 = .ok (.aload_n 0, 1) := by decide +kernel
theorem dL_law_370 : decode cL_law 370 = .ok (.iload_n 3, 1) := by decide +kernel
theorem dL_law_371 : decode cL_law 371 = .ok (.iconst 2, 1) := by decide +kernel
theorem dL_law_372 : decode cL_law 372 = .ok (.iadd, 1) := by decide +kernel
theorem dL_law_373 : decode cL_law 373 = .ok (.iaload, 1) := by decide +kernel
theorem dL_law_374 : decode cL_law 374 = .ok (.invokevirtual 39, 3) := by decide +kernel
theorem dL_law_377 : decode cL_law 377 = .ok (.if_icmp .eq 1025, 3) := by decide +kernel
theorem dL_law_380 : decode cL_law 380 = .ok (.iconst 0, 1) := by decide +kernel
theorem dL_law_381 : decode cL_law 381 = .ok (.ireturn, 1) := by decide +kernel
theorem dL_law_382 : decode cL_law 382 = .ok (.aload_n 1, 1) := by decide +kernel
theorem dL_law_383 : decode cL_law 383 = .ok (.aload_n 0, 1) := by decide +kernel
theorem dL_law_384 : decode cL_law 384 = .ok (.iload_n 3, 1) := by decide +kernel
theorem dL_law_385 : decode cL_law 385 = .ok (.iconst 1, 1) := by decide +kernel
theorem dL_law_386 : decode cL_law 386 = .ok (.iadd, 1) := by decide +kernel
theorem dL_law_387 : decode cL_law 387 = .ok (.iaload, 1) := by decide +kernel
theorem dL_law_388 : decode cL_law 388 = .ok (.aload_n 0, 1) := by decide +kernel
theorem dL_law_389 : decode cL_law 389 = .ok (.iload_n 3, 1) := by decide +kernel
theorem dL_law_390 : decode cL_law 390 = .ok (.iconst 2, 1) := by decide +kernel
theorem dL_law_391 : decode cL_law 391 = .ok (.iadd, 1) := by decide +kernel
theorem dL_law_392 : decode cL_law 392 = .ok (.iaload, 1) := by decide +kernel
theorem dL_law_393 : decode cL_law 393 = .ok (.aload_n 0, 1) := by decide +kernel
theorem dL_law_394 : decode cL_law 394 = .ok (.iload_n 3, 1) := by decide +kernel
theorem dL_law_395 : decode cL_law 395 = .ok (.iconst 3, 1) := by decide +kernel
theorem dL_law_396 : decode cL_law 396 = .ok (.iadd, 1) := by decide +kernel
theorem dL_law_397 : decode cL_law 397 = .ok (.iaload, 1) := by decide +kernel
theorem dL_law_398 : decode cL_law 398 = .ok (.invokevirtual 40, 3) := by decide +kernel
theorem dL_law_401 : decode cL_law 401 = .ok (.aload_n 2, 1) := by decide +kernel
theorem dL_law_402 : decode cL_law 402 = .ok (.aload_n 0, 1) := by decide +kernel
theorem dL_law_403 : decode cL_law 403 = .ok (.iload_n 3, 1) := by decide +kernel
theorem dL_law_404 : decode cL_law 404 = .ok (.iconst 1, 1) := by decide +kernel
theorem dL_law_405 : decode cL_law 405 = .ok (.iadd, 1) := by decide +kernel
theorem dL_law_406 : decode cL_law 406 = .ok (.iaload, 1) := by decide +kernel
theorem dL_law_407 : decode cL_law 407 = .ok (.aload_n 0, 1) := by decide +kernel
theorem dL_law_408 : decode cL_law 408 = .ok (.iload_n 3, 1) := by decide +kernel
theorem dL_law_409 : decode cL_law 409 = .ok (.iconst 2, 1) := by decide +kernel
theorem dL_law_410 : decode cL_law 410 = .ok (.iadd, 1) := by decide +kernel
theorem dL_law_411 : decode cL_law 411 = .ok (.iaload, 1) := by decide +kernel
theorem dL_law_412 : decode cL_law 412 = .ok (.aload_n 0, 1) := by decide +kernel
theorem dL_law_413 : decode cL_law 413 = .ok (.iload_n 3, 1) := by decide +kernel
theorem dL_law_414 : decode cL_law 414 = .ok (.iconst 3, 1) := by decide +kernel
theorem dL_law_415 : decode cL_law 415 = .ok (.iadd, 1) := by decide +kernel
theorem dL_law_416 : decode cL_law 416 = .ok (.iaload, 1) := by decide +kernel
theorem dL_law_417 : decode cL_law 417 = .ok (.invokevirtual 43, 3) := by decide +kernel
theorem dL_law_420 : decode cL_law 420 = .ok (.if_icmp .eq 982, 3) := by decide +kernel
theorem dL_law_423 : decode cL_law 423 = .ok (.iconst 0, 1) := by decide +kernel
theorem dL_law_424 : decode cL_law 424 = .ok (.ireturn, 1) := by decide +kernel
theorem dL_law_425 : decode cL_law 425 = .ok (.aload_n 1, 1) := by decide +kernel
theorem dL_law_426 : decode cL_law 426 = .ok (.aload_n 0, 1) := by decide +kernel
theorem dL_law_427 : decode cL_law 427 = .ok (.iload_n 3, 1) := by decide +kernel
theorem dL_law_428 : decode cL_law 428 = .ok (.iconst 1, 1) := by decide +kernel
theorem dL_law_429 : decode cL_law 429 = .ok (.iadd, 1) := by decide +kernel
theorem dL_law_430 : decode cL_law 430 = .ok (.iaload, 1) := by decide +kernel
theorem dL_law_431 : decode cL_law 431 = .ok (.aload_n 0, 1) := by decide +kernel
theorem dL_law_432 : decode cL_law 432 = .ok (.iload_n 3, 1) := by decide +kernel
theorem dL_law_433 : decode cL_law 433 = .ok (.iconst 2, 1) := by decide +kernel
theorem dL_law_434 : decode cL_law 434 = .ok (.iadd, 1) := by decide +kernel
theorem dL_law_435 : decode cL_law 435 = .ok (.iaload, 1) := by decide +kernel
theorem dL_law_436 : decode cL_law 436 = .ok (.invokevirtual 44, 3) := by decide +kernel
theorem dL_law_439 : decode cL_law 439 = .ok (.aload_n 2, 1) := by decide +kernel
theorem dL_law_440 : decode cL_law 440 = .ok (.aload_n 0, 1) := by decide +kernel
theorem dL_law_441 : decode cL_law 441 = .ok (.iload_n 3, 1) := by decide +kernel
theorem dL_law_442 : decode cL_law 442 = .ok (.iconst 1, 1) := by decide +kernel
theorem dL_law_443 : decode cL_law 443 = .ok (.iadd, 1) := by decide +kernel
theorem dL_law_444 : decode cL_law 444 = .ok (.iaload, 1) := by decide +kernel
theorem dL_law_445 : decode cL_law 445 = .ok (.aload_n 0, 1) := by decide +kernel
theorem dL_law_446 : decode cL_law 446 = .ok (.iload_n 3, 1) := by decide +kernel
theorem dL_law_447 : decode cL_law 447 = .ok (.iconst 2, 1) := by decide +kernel
theorem dL_law_448 : decode cL_law 448 = .ok (.iadd, 1) := by decide +kernel
theorem dL_law_449 : decode cL_law 449 = .ok (.iaload, 1) := by decide +kernel
theorem dL_law_450 : decode cL_law 450 = .ok (.invokevirtual 47, 3) := by decide +kernel
theorem dL_law_453 : decode cL_law 453 = .ok (.if_icmp .eq 949, 3) := by decide +kernel
theorem dL_law_456 : decode cL_law 456 = .ok (.iconst 0, 1) := by decide +kernel
theorem dL_law_457 : decode cL_law 457 = .ok (.ireturn, 1) := by decide +kernel
theorem dL_law_458 : decode cL_law 458 = .ok (.aload_n 1, 1) := by decide +kernel
theorem dL_law_459 : decode cL_law 459 = .ok (.aload_n 0, 1) := by decide +kernel
theorem dL_law_460 : decode cL_law 460 = .ok (.iload_n 3, 1) := by decide +kernel
theorem dL_law_461 : decode cL_law 461 = .ok (.iconst 1, 1) := by decide +kernel
theorem dL_law_462 : decode cL_law 462 = .ok (.iadd, 1) := by decide +kernel
theorem dL_law_463 : decode cL_law 463 = .ok (.iaload, 1) := by decide +kernel
theorem dL_law_464 : decode cL_law 464 = .ok (.aload_n 0, 1) := by decide +kernel
theorem dL_law_465 : decode cL_law 465 = .ok (.iload_n 3, 1) := by decide +kernel
theorem dL_law_466 : decode cL_law 466 = .ok (.iconst 2, 1) := by decide +kernel
theorem dL_law_467 : decode cL_law 467 = .ok (.iadd, 1) := by decide +kernel
theorem dL_law_468 : decode cL_law 468 = .ok (.iaload, 1) := by decide +kernel
theorem dL_law_469 : decode cL_law 469 = .ok (.invokevirtual 48, 3) := by decide +kernel
theorem dL_law_472 : decode cL_law 472 = .ok (.aload_n 2, 1) := by decide +kernel
theorem dL_law_473 : decode cL_law 473 = .ok (.aload_n 0, 1) := by decide +kernel
theorem dL_law_474 : decode cL_law 474 = .ok (.iload_n 3, 1) := by decide +kernel
theorem dL_law_475 : decode cL_law 475 = .ok (.iconst 1, 1) := by decide +kernel
theorem dL_law_476 : decode cL_law 476 = .ok (.iadd, 1) := by decide +kernel
theorem dL_law_477 : decode cL_law 477 = .ok (.iaload, 1) := by decide +kernel
theorem dL_law_478 : decode cL_law 478 = .ok (.aload_n 0, 1) := by decide +kernel
theorem dL_law_479 : decode cL_law 479 = .ok (.iload_n 3, 1) := by decide +kernel
theorem dL_law_480 : decode cL_law 480 = .ok (.iconst 2, 1) := by decide +kernel
theorem dL_law_481 : decode cL_law 481 = .ok (.iadd, 1) := by decide +kernel
theorem dL_law_482 : decode cL_law 482 = .ok (.iaload, 1) := by decide +kernel
theorem dL_law_483 : decode cL_law 483 = .ok (.invokevirtual 51, 3) := by decide +kernel
theorem dL_law_486 : decode cL_law 486 = .ok (.if_icmp .eq 916, 3) := by decide +kernel
theorem dL_law_489 : decode cL_law 489 = .ok (.iconst 0, 1) := by decide +kernel
theorem dL_law_490 : decode cL_law 490 = .ok (.ireturn, 1) := by decide +kernel
theorem dL_law_491 : decode cL_law 491 = .ok (.aload_n 1, 1) := by decide +kernel
theorem dL_law_492 : decode cL_law 492 = .ok (.aload_n 0, 1) := by decide +kernel
theorem dL_law_493 : decode cL_law 493 = .ok (.iload_n 3, 1) := by decide +kernel
theorem dL_law_494 : decode cL_law 494 = .ok (.iconst 1, 1) := by decide +kernel
theorem dL_law_495 : decode cL_law 495 = .ok (.iadd, 1) := by decide +kernel
theorem dL_law_496 : decode cL_law 496 = .ok (.iaload, 1) := by decide +kernel
theorem dL_law_497 : decode cL_law 497 = .ok (.aload_n 0, 1) := by decide +kernel
theorem dL_law_498 : decode cL_law 498 = .ok (.iload_n 3, 1) := by decide +kernel
theorem dL_law_499 : decode cL_law 499 = .ok (.iconst 2, 1) := by decide +kernel
theorem dL_law_500 : decode cL_law 500 = .ok (.iadd, 1) := by decide +kernel
theorem dL_law_501 : decode cL_law 501 = .ok (.iaload, 1) := by decide +kernel
theorem dL_law_502 : decode cL_law 502 = .ok (.invokevirtual 52, 3) := by decide +kernel
theorem dL_law_505 : decode cL_law 505 = .ok (.aload_n 2, 1) := by decide +kernel
theorem dL_law_506 : decode cL_law 506 = .ok (.aload_n 0, 1) := by decide +kernel
theorem dL_law_507 : decode cL_law 507 = .ok (.iload_n 3, 1) := by decide +kernel
theorem dL_law_508 : decode cL_law 508 = .ok (.iconst 1, 1) := by decide +kernel
theorem dL_law_509 : decode cL_law 509 = .ok (.iadd, 1) := by decide +kernel
theorem dL_law_510 : decode cL_law 510 = .ok (.iaload, 1) := by decide +kernel
theorem dL_law_511 : decode cL_law 511 = .ok (.aload_n 0, 1) := by decide +kernel
theorem dL_law_512 : decode cL_law 512 = .ok (.iload_n 3, 1) := by decide +kernel
theorem dL_law_513 : decode cL_law 513 = .ok (.iconst 2, 1) := by decide +kernel
theorem dL_law_514 : decode cL_law 514 = .ok (.iadd, 1) := by decide +kernel
theorem dL_law_515 : decode cL_law 515 = .ok (.iaload, 1) := by decide +kernel
theorem dL_law_516 : decode cL_law 516 = .ok (.invokevirtual 55, 3) := by decide +kernel
theorem dL_law_519 : decode cL_law 519 = .ok (.if_icmp .eq 883, 3) := by decide +kernel
theorem dL_law_522 : decode cL_law 522 = .ok (.iconst 0, 1) := by decide +kernel
theorem dL_law_523 : decode cL_law 523 = .ok (.ireturn, 1) := by decide +kernel
theorem dL_law_524 : decode cL_law 524 = .ok (.aload_n 1, 1) := by decide +kernel
theorem dL_law_525 : decode cL_law 525 = .ok (.aload_n 0, 1) := by decide +kernel
theorem dL_law_526 : decode cL_law 526 = .ok (.iload_n 3, 1) := by decide +kernel
theorem dL_law_527 : decode cL_law 527 = .ok (.iconst 1, 1) := by decide +kernel
theorem dL_law_528 : decode cL_law 528 = .ok (.iadd, 1) := by decide +kernel
theorem dL_law_529 : decode cL_law 529 = .ok (.iaload, 1) := by decide +kernel
theorem dL_law_530 : decode cL_law 530 = .ok (.invokevirtual 56, 3) := by decide +kernel
theorem dL_law_533 : decode cL_law 533 = .ok (.aload_n 2, 1) := by decide +kernel
theorem dL_law_534 : decode cL_law 534 = .ok (.aload_n 0, 1) := by decide +kernel
theorem dL_law_535 : decode cL_law 535 = .ok (.iload_n 3, 1) := by decide +kernel
theorem dL_law_536 : decode cL_law 536 = .ok (.iconst 1, 1) := by decide +kernel
theorem dL_law_537 : decode cL_law 537 = .ok (.iadd, 1) := by decide +kernel
theorem dL_law_538 : decode cL_law 538 = .ok (.iaload, 1) := by decide +kernel
theorem dL_law_539 : decode cL_law 539 = .ok (.invokevirtual 59, 3) := by decide +kernel
theorem dL_law_542 : decode cL_law 542 = .ok (.if_icmp .eq 860, 3) := by decide +kernel
theorem dL_law_545 : decode cL_law 545 = .ok (.iconst 0, 1) := by decide +kernel
theorem dL_law_546 : decode cL_law 546 = .ok (.ireturn, 1) := by decide +kernel
theorem dL_law_547 : decode cL_law 547 = .ok (.aload_n 1, 1) := by decide +kernel
theorem dL_law_548 : decode cL_law 548 = .ok (.aload_n 0, 1) := by decide +kernel
theorem dL_law_549 : decode cL_law 549 = .ok (.iload_n 3, 1) := by decide +kernel
theorem dL_law_550 : decode cL_law 550 = .ok (.iconst 1, 1) := by decide +kernel
theorem dL_law_551 : decode cL_law 551 = .ok (.iadd, 1) := by decide +kernel
theorem dL_law_552 : decode cL_law 552 = .ok (.iaload, 1) := by decide +kernel
theorem dL_law_553 : decode cL_law 553 = .ok (.invokevirtual 60, 3) := by decide +kernel
theorem dL_law_556 : decode cL_law 556 = .ok (.aload_n 2, 1) := by decide +kernel
theorem dL_law_557 : decode cL_law 557 = .ok (.aload_n 0, 1) := by decide +kernel
theorem dL_law_558 : decode cL_law 558 = .ok (.iload_n 3, 1) := by decide +kernel
theorem dL_law_559 : decode cL_law 559 = .ok (.iconst 1, 1) := by decide +kernel
theorem dL_law_560 : decode cL_law 560 = .ok (.iadd, 1) := by decide +kernel
theorem dL_law_561 : decode cL_law 561 = .ok (.iaload, 1) := by decide +kernel
theorem dL_law_562 : decode cL_law 562 = .ok (.invokevirtual 63, 3) := by decide +kernel
theorem dL_law_565 : decode cL_law 565 = .ok (.if_icmp .eq 837, 3) := by decide +kernel
theorem dL_law_568 : decode cL_law 568 = .ok (.iconst 0, 1) := by decide +kernel
theorem dL_law_569 : decode cL_law 569 = .ok (.ireturn, 1) := by decide +kernel
theorem dL_law_570 : decode cL_law 570 = .ok (.aload_n 1, 1) := by decide +kernel
theorem dL_law_571 : decode cL_law 571 = .ok (.aload_n 0, 1) := by decide +kernel
theorem dL_law_572 : decode cL_law 572 = .ok (.iload_n 3, 1) := by decide +kernel
theorem dL_law_573 : decode cL_law 573 = .ok (.iconst 1, 1) := by decide +kernel
theorem dL_law_574 : decode cL_law 574 = .ok (.iadd, 1) := by decide +kernel
theorem dL_law_575 : decode cL_law 575 = .ok (.iaload, 1) := by decide +kernel
theorem dL_law_576 : decode cL_law 576 = .ok (.invokevirtual 64, 3) := by decide +kernel
theorem dL_law_579 : decode cL_law 579 = .ok (.aload_n 2, 1) := by decide +kernel
theorem dL_law_580 : decode cL_law 580 = .ok (.aload_n 0, 1) := by decide +kernel
theorem dL_law_581 : decode cL_law 581 = .ok (.iload_n 3, 1) := by decide +kernel
theorem dL_law_582 : decode cL_law 582 = .ok (.iconst 1, 1) := by decide +kernel
theorem dL_law_583 : decode cL_law 583 = .ok (.iadd, 1) := by decide +kernel
theorem dL_law_584 : decode cL_law 584 = .ok (.iaload, 1) := by decide +kernel
theorem dL_law_585 : decode cL_law 585 = .ok (.invokevirtual 67, 3) := by decide +kernel
theorem dL_law_588 : decode cL_law 588 = .ok (.if_icmp .eq 814, 3) := by decide +kernel
theorem dL_law_591 : decode cL_law 591 = .ok (.iconst 0, 1) := by decide +kernel
theorem dL_law_592 : decode cL_law 592 = .ok (.ireturn, 1) := by decide +kernel
theorem dL_law_593 : decode cL_law 593 = .ok (.aload_n 1, 1) := by decide +kernel
theorem dL_law_594 : decode cL_law 594 = .ok (.aload_n 0, 1) := by decide +kernel
theorem dL_law_595 : decode cL_law 595 = .ok (.iload_n 3, 1) := by decide +kernel
theorem dL_law_596 : decode cL_law 596 = .ok (.iconst 1, 1) := by decide +kernel
theorem dL_law_597 : decode cL_law 597 = .ok (.iadd, 1) := by decide +kernel
theorem dL_law_598 : decode cL_law 598 = .ok (.iaload, 1) := by decide +kernel
theorem dL_law_599 : decode cL_law 599 = .ok (.aload_n 0, 1) := by decide +kernel
theorem dL_law_600 : decode cL_law 600 = .ok (.iload_n 3, 1) := by decide +kernel
theorem dL_law_601 : decode cL_law 601 = .ok (.iconst 2, 1) := by decide +kernel
theorem dL_law_602 : decode cL_law 602 = .ok (.iadd, 1) := by decide +kernel
theorem dL_law_603 : decode cL_law 603 = .ok (.iaload, 1) := by decide +kernel
theorem dL_law_604 : decode cL_law 604 = .ok (.aload_n 0, 1) := by decide +kernel
theorem dL_law_605 : decode cL_law 605 = .ok (.iload_n 3, 1) := by decide +kernel
theorem dL_law_606 : decode cL_law 606 = .ok (.iconst 3, 1) := by decide +kernel
theorem dL_law_607 : decode cL_law 607 = .ok (.iadd, 1) := by decide +kernel
theorem dL_law_608 : decode cL_law 608 = .ok (.iaload, 1) := by decide +kernel
theorem dL_law_609 : decode cL_law 609 = .ok (.invokevirtual 68, 3) := by decide +kernel
theorem dL_law_612 : decode cL_law 612 = .ok (.aload_n 2, 1) := by decide +kernel
theorem dL_law_613 : decode cL_law 613 = .ok (.aload_n 0, 1) := by decide +kernel
theorem dL_law_614 : decode cL_law 614 = .ok (.iload_n 3, 1) := by decide +kernel
theorem dL_law_615 : decode cL_law 615 = .ok (.iconst 1, 1) := by decide +kernel
theorem dL_law_616 : decode cL_law 616 = .ok (.iadd, 1) := by decide +kernel
theorem dL_law_617 : decode cL_law 617 = .ok (.iaload, 1) := by decide +kernel
theorem dL_law_618 : decode cL_law 618 = .ok (.aload_n 0, 1) := by decide +kernel
theorem dL_law_619 : decode cL_law 619 = .ok (.iload_n 3, 1) := by decide +kernel
theorem dL_law_620 : decode cL_law 620 = .ok (.iconst 2, 1) := by decide +kernel
theorem dL_law_621 : decode cL_law 621 = .ok (.iadd, 1) := by decide +kernel
theorem dL_law_622 : decode cL_law 622 = .ok (.iaload, 1) := by decide +kernel
theorem dL_law_623 : decode cL_law 623 = .ok (.aload_n 0, 1) := by decide +kernel
theorem dL_law_624 : decode cL_law 624 = .ok (.iload_n 3, 1) := by decide +kernel
theorem dL_law_625 : decode cL_law 625 = .ok (.iconst 3, 1) := by decide +kernel
theorem dL_law_626 : decode cL_law 626 = .ok (.iadd, 1) := by decide +kernel
theorem dL_law_627 : decode cL_law 627 = .ok (.iaload, 1) := by decide +kernel
theorem dL_law_628 : decode cL_law 628 = .ok (.invokevirtual 71, 3) := by decide +kernel
theorem dL_law_631 : decode cL_law 631 = .ok (.if_icmp .eq 771, 3) := by decide +kernel
theorem dL_law_634 : decode cL_law 634 = .ok (.iconst 0, 1) := by decide +kernel
theorem dL_law_635 : decode cL_law 635 = .ok (.ireturn, 1) := by decide +kernel
theorem dL_law_636 : decode cL_law 636 = .ok (.aload_n 1, 1) := by decide +kernel
theorem dL_law_637 : decode cL_law 637 = .ok (.aload_n 0, 1) := by decide +kernel
theorem dL_law_638 : decode cL_law 638 = .ok (.iload_n 3, 1) := by decide +kernel
theorem dL_law_639 : decode cL_law 639 = .ok (.iconst 1, 1) := by decide +kernel
theorem dL_law_640 : decode cL_law 640 = .ok (.iadd, 1) := by decide +kernel
theorem dL_law_641 : decode cL_law 641 = .ok (.iaload, 1) := by decide +kernel
theorem dL_law_642 : decode cL_law 642 = .ok (.aload_n 0, 1) := by decide +kernel
theorem dL_law_643 : decode cL_law 643 = .ok (.iload_n 3, 1) := by decide +kernel
theorem dL_law_644 : decode cL_law 644 = .ok (.iconst 2, 1) := by decide +kernel
theorem dL_law_645 : decode cL_law 645 = .ok (.iadd, 1) := by decide +kernel
theorem dL_law_646 : decode cL_law 646 = .ok (.iaload, 1) := by decide +kernel
theorem dL_law_647 : decode cL_law 647 = .ok (.aload_n 0, 1) := by decide +kernel
theorem dL_law_648 : decode cL_law 648 = .ok (.iload_n 3, 1) := by decide +kernel
theorem dL_law_649 : decode cL_law 649 = .ok (.iconst 3, 1) := by decide +kernel
theorem dL_law_650 : decode cL_law 650 = .ok (.iadd, 1) := by decide +kernel
theorem dL_law_651 : decode cL_law 651 = .ok (.iaload, 1) := by decide +kernel
theorem dL_law_652 : decode cL_law 652 = .ok (.invokevirtual 72, 3) := by decide +kernel
theorem dL_law_655 : decode cL_law 655 = .ok (.aload_n 2, 1) := by decide +kernel
theorem dL_law_656 : decode cL_law 656 = .ok (.aload_n 0, 1) := by decide +kernel
theorem dL_law_657 : decode cL_law 657 = .ok (.iload_n 3, 1) := by decide +kernel
theorem dL_law_658 : decode cL_law 658 = .ok (.iconst 1, 1) := by decide +kernel
theorem dL_law_659 : decode cL_law 659 = .ok (.iadd, 1) := by decide +kernel
theorem dL_law_660 : decode cL_law 660 = .ok (.iaload, 1) := by decide +kernel
theorem dL_law_661 : decode cL_law 661 = .ok (.aload_n 0, 1) := by decide +kernel
theorem dL_law_662 : decode cL_law 662 = .ok (.iload_n 3, 1) := by decide +kernel
theorem dL_law_663 : decode cL_law 663 = .ok (.iconst 2, 1) := by decide +kernel
theorem dL_law_664 : decode cL_law 664 = .ok (.iadd, 1) := by decide +kernel
theorem dL_law_665 : decode cL_law 665 = .ok (.iaload, 1) := by decide +kernel
theorem dL_law_666 : decode cL_law 666 = .ok (.aload_n 0, 1) := by decide +kernel
theorem dL_law_667 : decode cL_law 667 = .ok (.iload_n 3, 1) := by decide +kernel
theorem dL_law_668 : decode cL_law 668 = .ok (.iconst 3, 1) := by decide +kernel
theorem dL_law_669 : decode cL_law 669 = .ok (.iadd, 1) := by decide +kernel
theorem dL_law_670 : decode cL_law 670 = .ok (.iaload, 1) := by decide +kernel
theorem dL_law_671 : decode cL_law 671 = .ok (.invokevirtual 75, 3) := by decide +kernel
theorem dL_law_674 : decode cL_law 674 = .ok (.if_icmp .eq 728, 3) := by decide +kernel
theorem dL_law_677 : decode cL_law 677 = .ok (.iconst 0, 1) := by decide +kernel
theorem dL_law_678 : decode cL_law 678 = .ok (.ireturn, 1) := by decide +kernel
theorem dL_law_679 : decode cL_law 679 = .ok (.aload_n 1, 1) := by decide +kernel
theorem dL_law_680 : decode cL_law 680 = .ok (.aload_n 0, 1) := by decide +kernel
theorem dL_law_681 : decode cL_law 681 = .ok (.iload_n 3, 1) := by decide +kernel
theorem dL_law_682 : decode cL_law 682 = .ok (.iconst 1, 1) := by decide +kernel
theorem dL_law_683 : decode cL_law 683 = .ok (.iadd, 1) := by decide +kernel
theorem dL_law_684 : decode cL_law 684 = .ok (.iaload, 1) := by decide +kernel
theorem dL_law_685 : decode cL_law 685 = .ok (.invokevirtual 76, 3) := by decide +kernel
theorem dL_law_688 : decode cL_law 688 = .ok (.aload_n 2, 1) := by decide +kernel
theorem dL_law_689 : decode cL_law 689 = .ok (.aload_n 0, 1) := by decide +kernel
theorem dL_law_690 : decode cL_law 690 = .ok (.iload_n 3, 1) := by decide +kernel
theorem dL_law_691 : decode cL_law 691 = .ok (.iconst 1, 1) := by decide +kernel
theorem dL_law_692 : decode cL_law 692 = .ok (.iadd, 1) := by decide +kernel
theorem dL_law_693 : decode cL_law 693 = .ok (.iaload, 1) := by decide +kernel
theorem dL_law_694 : decode cL_law 694 = .ok (.invokevirtual 79, 3) := by decide +kernel
theorem dL_law_697 : decode cL_law 697 = .ok (.if_icmp .eq 705, 3) := by decide +kernel
theorem dL_law_700 : decode cL_law 700 = .ok (.iconst 0, 1) := by decide +kernel
theorem dL_law_701 : decode cL_law 701 = .ok (.ireturn, 1) := by decide +kernel
theorem dL_law_702 : decode cL_law 702 = .ok (.aload_n 1, 1) := by decide +kernel
theorem dL_law_703 : decode cL_law 703 = .ok (.aload_n 0, 1) := by decide +kernel
theorem dL_law_704 : decode cL_law 704 = .ok (.iload_n 3, 1) := by decide +kernel
theorem dL_law_705 : decode cL_law 705 = .ok (.iconst 1, 1) := by decide +kernel
theorem dL_law_706 : decode cL_law 706 = .ok (.iadd, 1) := by decide +kernel
theorem dL_law_707 : decode cL_law 707 = .ok (.iaload, 1) := by decide +kernel
theorem dL_law_708 : decode cL_law 708 = .ok (.aload_n 0, 1) := by decide +kernel
theorem dL_law_709 : decode cL_law 709 = .ok (.iload_n 3, 1) := by decide +kernel
theorem dL_law_710 : decode cL_law 710 = .ok (.iconst 2, 1) := by decide +kernel
theorem dL_law_711 : decode cL_law 711 = .ok (.iadd, 1) := by decide +kernel
theorem dL_law_712 : decode cL_law 712 = .ok (.iaload, 1) := by decide +kernel
theorem dL_law_713 : decode cL_law 713 = .ok (.invokevirtual 80, 3) := by decide +kernel
theorem dL_law_716 : decode cL_law 716 = .ok (.aload_n 2, 1) := by decide +kernel
theorem dL_law_717 : decode cL_law 717 = .ok (.aload_n 0, 1) := by decide +kernel
theorem dL_law_718 : decode cL_law 718 = .ok (.iload_n 3, 1) := by decide +kernel
theorem dL_law_719 : decode cL_law 719 = .ok (.iconst 1, 1) := by decide +kernel
theorem dL_law_720 : decode cL_law 720 = .ok (.iadd, 1) := by decide +kernel
theorem dL_law_721 : decode cL_law 721 = .ok (.iaload, 1) := by decide +kernel
theorem dL_law_722 : decode cL_law 722 = .ok (.aload_n 0, 1) := by decide +kernel
theorem dL_law_723 : decode cL_law 723 = .ok (.iload_n 3, 1) := by decide +kernel
theorem dL_law_724 : decode cL_law 724 = .ok (.iconst 2, 1) := by decide +kernel
theorem dL_law_725 : decode cL_law 725 = .ok (.iadd, 1) := by decide +kernel
theorem dL_law_726 : decode cL_law 726 = .ok (.iaload, 1) := by decide +kernel
theorem dL_law_727 : decode cL_law 727 = .ok (.invokevirtual 83, 3) := by decide +kernel
theorem dL_law_730 : decode cL_law 730 = .ok (.if_icmp .eq 672, 3) := by decide +kernel
theorem dL_law_733 : decode cL_law 733 = .ok (.iconst 0, 1) := by decide +kernel
theorem dL_law_734 : decode cL_law 734 = .ok (.ireturn, 1) := by decide +kernel
theorem dL_law_735 : decode cL_law 735 = .ok (.aload_n 1, 1) := by decide +kernel
theorem dL_law_736 : decode cL_law 736 = .ok (.aload_n 0, 1) := by decide +kernel
theorem dL_law_737 : decode cL_law 737 = .ok (.iload_n 3, 1) := by decide +kernel
theorem dL_law_738 : decode cL_law 738 = .ok (.iconst 1, 1) := by decide +kernel
theorem dL_law_739 : decode cL_law 739 = .ok (.iadd, 1) := by decide +kernel
theorem dL_law_740 : decode cL_law 740 = .ok (.iaload, 1) := by decide +kernel
theorem dL_law_741 : decode cL_law 741 = .ok (.aload_n 0, 1) := by decide +kernel
theorem dL_law_742 : decode cL_law 742 = .ok (.iload_n 3, 1) := by decide +kernel
theorem dL_law_743 : decode cL_law 743 = .ok (.iconst 2, 1) := by decide +kernel
theorem dL_law_744 : decode cL_law 744 = .ok (.iadd, 1) := by decide +kernel
theorem dL_law_745 : decode cL_law 745 = .ok (.iaload, 1) := by decide +kernel
theorem dL_law_746 : decode cL_law 746 = .ok (.invokevirtual 84, 3) := by decide +kernel
theorem dL_law_749 : decode cL_law 749 = .ok (.aload_n 2, 1) := by decide +kernel
theorem dL_law_750 : decode cL_law 750 = .ok (.aload_n 0, 1) := by decide +kernel
theorem dL_law_751 : decode cL_law 751 = .ok (.iload_n 3, 1) := by decide +kernel
theorem dL_law_752 : decode cL_law 752 = .ok (.iconst 1, 1) := by decide +kernel
theorem dL_law_753 : decode cL_law 753 = .ok (.iadd, 1) := by decide +kernel
theorem dL_law_754 : decode cL_law 754 = .ok (.iaload, 1) := by decide +kernel
theorem dL_law_755 : decode cL_law 755 = .ok (.aload_n 0, 1) := by decide +kernel
theorem dL_law_756 : decode cL_law 756 = .ok (.iload_n 3, 1) := by decide +kernel
theorem dL_law_757 : decode cL_law 757 = .ok (.iconst 2, 1) := by decide +kernel
theorem dL_law_758 : decode cL_law 758 = .ok (.iadd, 1) := by decide +kernel
theorem dL_law_759 : decode cL_law 759 = .ok (.iaload, 1) := by decide +kernel
theorem dL_law_760 : decode cL_law 760 = .ok (.invokevirtual 87, 3) := by decide +kernel
theorem dL_law_763 : decode cL_law 763 = .ok (.if_icmp .eq 639, 3) := by decide +kernel
theorem dL_law_766 : decode cL_law 766 = .ok (.iconst 0, 1) := by decide +kernel
theorem dL_law_767 : decode cL_law 767 = .ok (.ireturn, 1) := by decide +kernel
theorem dL_law_768 : decode cL_law 768 = .ok (.aload_n 1, 1) := by decide +kernel
theorem dL_law_769 : decode cL_law 769 = .ok (.aload_n 0, 1) := by decide +kernel
theorem dL_law_770 : decode cL_law 770 = .ok (.iload_n 3, 1) := by decide +kernel
theorem dL_law_771 : decode cL_law 771 = .ok (.iconst 1, 1) := by decide +kernel
theorem dL_law_772 : decode cL_law 772 = .ok (.iadd, 1) := by decide +kernel
theorem dL_law_773 : decode cL_law 773 = .ok (.iaload, 1) := by decide +kernel
theorem dL_law_774 : decode cL_law 774 = .ok (.aload_n 0, 1) := by decide +kernel
theorem dL_law_775 : decode cL_law 775 = .ok (.iload_n 3, 1) := by decide +kernel
theorem dL_law_776 : decode cL_law 776 = .ok (.iconst 2, 1) := by decide +kernel
theorem dL_law_777 : decode cL_law 777 = .ok (.iadd, 1) := by decide +kernel
theorem dL_law_778 : decode cL_law 778 = .ok (.iaload, 1) := by decide +kernel
theorem dL_law_779 : decode cL_law 779 = .ok (.invokevirtual 88, 3) := by decide +kernel
theorem dL_law_782 : decode cL_law 782 = .ok (.aload_n 2, 1) := by decide +kernel
theorem dL_law_783 : decode cL_law 783 = .ok (.aload_n 0, 1) := by decide +kernel
theorem dL_law_784 : decode cL_law 784 = .ok (.iload_n 3, 1) := by decide +kernel
theorem dL_law_785 : decode cL_law 785 = .ok (.iconst 1, 1) := by decide +kernel
theorem dL_law_786 : decode cL_law 786 = .ok (.iadd, 1) := by decide +kernel
theorem dL_law_787 : decode cL_law 787 = .ok (.iaload, 1) := by decide +kernel
theorem dL_law_788 : decode cL_law 788 = .ok (.aload_n 0, 1) := by decide +kernel
theorem dL_law_789 : decode cL_law 789 = .ok (.iload_n 3, 1) := by decide +kernel
theorem dL_law_790 : decode cL_law 790 = .ok (.iconst 2, 1) := by decide +kernel
theorem dL_law_791 : decode cL_law 791 = .ok (.iadd, 1) := by decide +kernel
theorem dL_law_792 : decode cL_law 792 = .ok (.iaload, 1) := by decide +kernel
theorem dL_law_793 : decode cL_law 793 = .ok (.invokevirtual 91, 3) := by decide +kernel
theorem dL_law_796 : decode cL_law 796 = .ok (.if_icmp .eq 606, 3) := by decide +kernel
theorem dL_law_799 : decode cL_law 799 = .ok (.iconst 0, 1) := by decide +kernel
theorem dL_law_800 : decode cL_law 800 = .ok (.ireturn, 1) := by decide +kernel
theorem dL_law_801 : decode cL_law 801 = .ok (.aload_n 1, 1) := by decide +kernel
theorem dL_law_802 : decode cL_law 802 = .ok (.aload_n 0, 1) := by decide +kernel
theorem dL_law_803 : decode cL_law 803 = .ok (.iload_n 3, 1) := by decide +kernel
theorem dL_law_804 : decode cL_law 804 = .ok (.iconst 1, 1) := by decide +kernel
theorem dL_law_805 : decode cL_law 805 = .ok (.iadd, 1) := by decide +kernel
theorem dL_law_806 : decode cL_law 806 = .ok (.iaload, 1) := by decide +kernel
theorem dL_law_807 : decode cL_law 807 = .ok (.aload_n 0, 1) := by decide +kernel
theorem dL_law_808 : decode cL_law 808 = .ok (.iload_n 3, 1) := by decide +kernel
theorem dL_law_809 : decode cL_law 809 = .ok (.iconst 2, 1) := by decide +kernel
theorem dL_law_810 : decode cL_law 810 = .ok (.iadd, 1) := by decide +kernel
theorem dL_law_811 : decode cL_law 811 = .ok (.iaload, 1) := by decide +kernel
theorem dL_law_812 : decode cL_law 812 = .ok (.invokevirtual 92, 3) := by decide +kernel
theorem dL_law_815 : decode cL_law 815 = .ok (.aload_n 2, 1) := by decide +kernel
theorem dL_law_816 : decode cL_law 816 = .ok (.aload_n 0, 1) := by decide +kernel
theorem dL_law_817 : decode cL_law 817 = .ok (.iload_n 3, 1) := by decide +kernel
theorem dL_law_818 : decode cL_law 818 = .ok (.iconst 1, 1) := by decide +kernel
theorem dL_law_819 : decode cL_law 819 = .ok (.iadd, 1) := by decide +kernel
theorem dL_law_820 : decode cL_law 820 = .ok (.iaload, 1) := by decide +kernel
theorem dL_law_821 : decode cL_law 821 = .ok (.aload_n 0, 1) := by decide +kernel
theorem dL_law_822 : decode cL_law 822 = .ok (.iload_n 3, 1) := by decide +kernel
theorem dL_law_823 : decode cL_law 823 = .ok (.iconst 2, 1) := by decide +kernel
theorem dL_law_824 : decode cL_law 824 = .ok (.iadd, 1) := by decide +kernel
theorem dL_law_825 : decode cL_law 825 = .ok (.iaload, 1) := by decide +kernel
theorem dL_law_826 : decode cL_law 826 = .ok (.invokevirtual 95, 3) := by decide +kernel
theorem dL_law_829 : decode cL_law 829 = .ok (.if_icmp .eq 573, 3) := by decide +kernel
theorem dL_law_832 : decode cL_law 832 = .ok (.iconst 0, 1) := by decide +kernel
theorem dL_law_833 : decode cL_law 833 = .ok (.ireturn, 1) := by decide +kernel
theorem dL_law_834 : decode cL_law 834 = .ok (.aload_n 1, 1) := by decide +kernel
theorem dL_law_835 : decode cL_law 835 = .ok (.aload_n 0, 1) := by decide +kernel
theorem dL_law_836 : decode cL_law 836 = .ok (.iload_n 3, 1) := by decide +kernel
theorem dL_law_837 : decode cL_law 837 = .ok (.iconst 1, 1) := by decide +kernel
theorem dL_law_838 : decode cL_law 838 = .ok (.iadd, 1) := by decide +kernel
theorem dL_law_839 : decode cL_law 839 = .ok (.iaload, 1) := by decide +kernel
theorem dL_law_840 : decode cL_law 840 = .ok (.aload_n 0, 1) := by decide +kernel
theorem dL_law_841 : decode cL_law 841 = .ok (.iload_n 3, 1) := by decide +kernel
theorem dL_law_842 : decode cL_law 842 = .ok (.iconst 2, 1) := by decide +kernel
theorem dL_law_843 : decode cL_law 843 = .ok (.iadd, 1) := by decide +kernel
theorem dL_law_844 : decode cL_law 844 = .ok (.iaload, 1) := by decide +kernel
theorem dL_law_845 : decode cL_law 845 = .ok (.invokevirtual 96, 3) := by decide +kernel
theorem dL_law_848 : decode cL_law 848 = .ok (.aload_n 2, 1) := by decide +kernel
theorem dL_law_849 : decode cL_law 849 = .ok (.aload_n 0, 1) := by decide +kernel
theorem dL_law_850 : decode cL_law 850 = .ok (.iload_n 3, 1) := by decide +kernel
theorem dL_law_851 : decode cL_law 851 = .ok (.iconst 1, 1) := by decide +kernel
theorem dL_law_852 : decode cL_law 852 = .ok (.iadd, 1) := by decide +kernel
theorem dL_law_853 : decode cL_law 853 = .ok (.iaload, 1) := by decide +kernel
theorem dL_law_854 : decode cL_law 854 = .ok (.aload_n 0, 1) := by decide +kernel
theorem dL_law_855 : decode cL_law 855 = .ok (.iload_n 3, 1) := by decide +kernel
theorem dL_law_856 : decode cL_law 856 = .ok (.iconst 2, 1) := by decide +kernel
theorem dL_law_857 : decode cL_law 857 = .ok (.iadd, 1) := by decide +kernel
theorem dL_law_858 : decode cL_law 858 = .ok (.iaload, 1) := by decide +kernel
theorem dL_law_859 : decode cL_law 859 = .ok (.invokevirtual 99, 3) := by decide +kernel
theorem dL_law_862 : decode cL_law 862 = .ok (.if_icmp .eq 540, 3) := by decide +kernel
theorem dL_law_865 : decode cL_law 865 = .ok (.iconst 0, 1) := by decide +kernel
theorem dL_law_866 : decode cL_law 866 = .ok (.ireturn, 1) := by decide +kernel
theorem dL_law_867 : decode cL_law 867 = .ok (.aload_n 1, 1) := by decide +kernel
theorem dL_law_868 : decode cL_law 868 = .ok (.aload_n 0, 1) := by decide +kernel
theorem dL_law_869 : decode cL_law 869 = .ok (.iload_n 3, 1) := by decide +kernel
theorem dL_law_870 : decode cL_law 870 = .ok (.iconst 1, 1) := by decide +kernel
theorem dL_law_871 : decode cL_law 871 = .ok (.iadd, 1) := by decide +kernel
theorem dL_law_872 : decode cL_law 872 = .ok (.iaload, 1) := by decide +kernel
theorem dL_law_873 : decode cL_law 873 = .ok (.invokevirtual 100, 3) := by decide +kernel
theorem dL_law_876 : decode cL_law 876 = .ok (.aload_n 2, 1) := by decide +kernel
theorem dL_law_877 : decode cL_law 877 = .ok (.aload_n 0, 1) := by decide +kernel
theorem dL_law_878 : decode cL_law 878 = .ok (.iload_n 3, 1) := by decide +kernel
theorem dL_law_879 : decode cL_law 879 = .ok (.iconst 1, 1) := by decide +kernel
theorem dL_law_880 : decode cL_law 880 = .ok (.iadd, 1) := by decide +kernel
theorem dL_law_881 : decode cL_law 881 = .ok (.iaload, 1) := by decide +kernel
theorem dL_law_882 : decode cL_law 882 = .ok (.invokevirtual 103, 3) := by decide +kernel
theorem dL_law_885 : decode cL_law 885 = .ok (.if_icmp .eq 517, 3) := by decide +kernel
theorem dL_law_888 : decode cL_law 888 = .ok (.iconst 0, 1) := by decide +kernel
theorem dL_law_889 : decode cL_law 889 = .ok (.ireturn, 1) := by decide +kernel
theorem dL_law_890 : decode cL_law 890 = .ok (.aload_n 1, 1) := by decide +kernel
theorem dL_law_891 : decode cL_law 891 = .ok (.aload_n 0, 1) := by decide +kernel
theorem dL_law_892 : decode cL_law 892 = .ok (.iload_n 3, 1) := by decide +kernel
theorem dL_law_893 : decode cL_law 893 = .ok (.iconst 1, 1) := by decide +kernel
theorem dL_law_894 : decode cL_law 894 = .ok (.iadd, 1) := by decide +kernel
theorem dL_law_895 : decode cL_law 895 = .ok (.iaload, 1) := by decide +kernel
theorem dL_law_896 : decode cL_law 896 = .ok (.aload_n 0, 1) := by decide +kernel
theorem dL_law_897 : decode cL_law 897 = .ok (.iload_n 3, 1) := by decide +kernel
theorem dL_law_898 : decode cL_law 898 = .ok (.iconst 2, 1) := by decide +kernel
theorem dL_law_899 : decode cL_law 899 = .ok (.iadd, 1) := by decide +kernel
theorem dL_law_900 : decode cL_law 900 = .ok (.iaload, 1) := by decide +kernel
theorem dL_law_901 : decode cL_law 901 = .ok (.aload_n 0, 1) := by decide +kernel
theorem dL_law_902 : decode cL_law 902 = .ok (.iload_n 3, 1) := by decide +kernel
theorem dL_law_903 : decode cL_law 903 = .ok (.iconst 3, 1) := by decide +kernel
theorem dL_law_904 : decode cL_law 904 = .ok (.iadd, 1) := by decide +kernel
theorem dL_law_905 : decode cL_law 905 = .ok (.iaload, 1) := by decide +kernel
theorem dL_law_906 : decode cL_law 906 = .ok (.invokevirtual 104, 3) := by decide +kernel
theorem dL_law_909 : decode cL_law 909 = .ok (.aload_n 2, 1) := by decide +kernel
theorem dL_law_910 : decode cL_law 910 = .ok (.aload_n 0, 1) := by decide +kernel
theorem dL_law_911 : decode cL_law 911 = .ok (.iload_n 3, 1) := by decide +kernel
theorem dL_law_912 : decode cL_law 912 = .ok (.iconst 1, 1) := by decide +kernel
theorem dL_law_913 : decode cL_law 913 = .ok (.iadd, 1) := by decide +kernel
theorem dL_law_914 : decode cL_law 914 = .ok (.iaload, 1) := by decide +kernel
theorem dL_law_915 : decode cL_law 915 = .ok (.aload_n 0, 1) := by decide +kernel
theorem dL_law_916 : decode cL_law 916 = .ok (.iload_n 3, 1) := by decide +kernel
theorem dL_law_917 : decode cL_law 917 = .ok (.iconst 2, 1) := by decide +kernel
theorem dL_law_918 : decode cL_law 918 = .ok (.iadd, 1) := by decide +kernel
theorem dL_law_919 : decode cL_law 919 = .ok (.iaload, 1) := by decide +kernel
theorem dL_law_920 : decode cL_law 920 = .ok (.aload_n 0, 1) := by decide +kernel
theorem dL_law_921 : decode cL_law 921 = .ok (.iload_n 3, 1) := by decide +kernel
theorem dL_law_922 : decode cL_law 922 = .ok (.iconst 3, 1) := by decide +kernel
theorem dL_law_923 : decode cL_law 923 = .ok (.iadd, 1) := by decide +kernel
theorem dL_law_924 : decode cL_law 924 = .ok (.iaload, 1) := by decide +kernel
theorem dL_law_925 : decode cL_law 925 = .ok (.invokevirtual 107, 3) := by decide +kernel
theorem dL_law_928 : decode cL_law 928 = .ok (.if_icmp .eq 474, 3) := by decide +kernel
theorem dL_law_931 : decode cL_law 931 = .ok (.iconst 0, 1) := by decide +kernel
theorem dL_law_932 : decode cL_law 932 = .ok (.ireturn, 1) := by decide +kernel
theorem dL_law_933 : decode cL_law 933 = .ok (.aload_n 1, 1) := by decide +kernel
theorem dL_law_934 : decode cL_law 934 = .ok (.aload_n 0, 1) := by decide +kernel
theorem dL_law_935 : decode cL_law 935 = .ok (.iload_n 3, 1) := by decide +kernel
theorem dL_law_936 : decode cL_law 936 = .ok (.iconst 1, 1) := by decide +kernel
theorem dL_law_937 : decode cL_law 937 = .ok (.iadd, 1) := by decide +kernel
theorem dL_law_938 : decode cL_law 938 = .ok (.iaload, 1) := by decide +kernel
theorem dL_law_939 : decode cL_law 939 = .ok (.invokevirtual 108, 3) := by decide +kernel
theorem dL_law_942 : decode cL_law 942 = .ok (.aload_n 2, 1) := by decide +kernel
theorem dL_law_943 : decode cL_law 943 = .ok (.aload_n 0, 1) := by decide +kernel
theorem dL_law_944 : decode cL_law 944 = .ok (.iload_n 3, 1) := by decide +kernel
theorem dL_law_945 : decode cL_law 945 = .ok (.iconst 1, 1) := by decide +kernel
theorem dL_law_946 : decode cL_law 946 = .ok (.iadd, 1) := by decide +kernel
theorem dL_law_947 : decode cL_law 947 = .ok (.iaload, 1) := by decide +kernel
theorem dL_law_948 : decode cL_law 948 = .ok (.invokevirtual 111, 3) := by decide +kernel
theorem dL_law_951 : decode cL_law 951 = .ok (.if_icmp .eq 451, 3) := by decide +kernel
theorem dL_law_954 : decode cL_law 954 = .ok (.iconst 0, 1) := by decide +kernel
theorem dL_law_955 : decode cL_law 955 = .ok (.ireturn, 1) := by decide +kernel
theorem dL_law_956 : decode cL_law 956 = .ok (.aload_n 1, 1) := by decide +kernel
theorem dL_law_957 : decode cL_law 957 = .ok (.aload_n 0, 1) := by decide +kernel
theorem dL_law_958 : decode cL_law 958 = .ok (.iload_n 3, 1) := by decide +kernel
theorem dL_law_959 : decode cL_law 959 = .ok (.iconst 1, 1) := by decide +kernel
theorem dL_law_960 : decode cL_law 960 = .ok (.iadd, 1) := by decide +kernel
theorem dL_law_961 : decode cL_law 961 = .ok (.iaload, 1) := by decide +kernel
theorem dL_law_962 : decode cL_law 962 = .ok (.invokevirtual 112, 3) := by decide +kernel
theorem dL_law_965 : decode cL_law 965 = .ok (.aload_n 2, 1) := by decide +kernel
theorem dL_law_966 : decode cL_law 966 = .ok (.aload_n 0, 1) := by decide +kernel
theorem dL_law_967 : decode cL_law 967 = .ok (.iload_n 3, 1) := by decide +kernel
theorem dL_law_968 : decode cL_law 968 = .ok (.iconst 1, 1) := by decide +kernel
theorem dL_law_969 : decode cL_law 969 = .ok (.iadd, 1) := by decide +kernel
theorem dL_law_970 : decode cL_law 970 = .ok (.iaload, 1) := by decide +kernel
theorem dL_law_971 : decode cL_law 971 = .ok (.invokevirtual 115, 3) := by decide +kernel
theorem dL_law_974 : decode cL_law 974 = .ok (.if_icmp .eq 428, 3) := by decide +kernel
theorem dL_law_977 : decode cL_law 977 = .ok (.iconst 0, 1) := by decide +kernel
theorem dL_law_978 : decode cL_law 978 = .ok (.ireturn, 1) := by decide +kernel
theorem dL_law_979 : decode cL_law 979 = .ok (.aload_n 1, 1) := by decide +kernel
theorem dL_law_980 : decode cL_law 980 = .ok (.aload_n 0, 1) := by decide +kernel
theorem dL_law_981 : decode cL_law 981 = .ok (.iload_n 3, 1) := by decide +kernel
theorem dL_law_982 : decode cL_law 982 = .ok (.iconst 1, 1) := by decide +kernel
theorem dL_law_983 : decode cL_law 983 = .ok (.iadd, 1) := by decide +kernel
theorem dL_law_984 : decode cL_law 984 = .ok (.iaload, 1) := by decide +kernel
theorem dL_law_985 : decode cL_law 985 = .ok (.aload_n 0, 1) := by decide +kernel
theorem dL_law_986 : decode cL_law 986 = .ok (.iload_n 3, 1) := by decide +kernel
theorem dL_law_987 : decode cL_law 987 = .ok (.iconst 2, 1) := by decide +kernel
theorem dL_law_988 : decode cL_law 988 = .ok (.iadd, 1) := by decide +kernel
theorem dL_law_989 : decode cL_law 989 = .ok (.iaload, 1) := by decide +kernel
theorem dL_law_990 : decode cL_law 990 = .ok (.invokevirtual 116, 3) := by decide +kernel
theorem dL_law_993 : decode cL_law 993 = .ok (.aload_n 2, 1) := by decide +kernel
theorem dL_law_994 : decode cL_law 994 = .ok (.aload_n 0, 1) := by decide +kernel
theorem dL_law_995 : decode cL_law 995 = .ok (.iload_n 3, 1) := by decide +kernel
theorem dL_law_996 : decode cL_law 996 = .ok (.iconst 1, 1) := by decide +kernel
theorem dL_law_997 : decode cL_law 997 = .ok (.iadd, 1) := by decide +kernel
theorem dL_law_998 : decode cL_law 998 = .ok (.iaload, 1) := by decide +kernel
theorem dL_law_999 : decode cL_law 999 = .ok (.aload_n 0, 1) := by decide +kernel
theorem dL_law_1000 : decode cL_law 1000 = .ok (.iload_n 3, 1) := by decide +kernel
theorem dL_law_1001 : decode cL_law 1001 = .ok (.iconst 2, 1) := by decide +kernel
theorem dL_law_1002 : decode cL_law 1002 = .ok (.iadd, 1) := by decide +kernel
theorem dL_law_1003 : decode cL_law 1003 = .ok (.iaload, 1) := by decide +kernel
theorem dL_law_1004 : decode cL_law 1004 = .ok (.invokevirtual 119, 3) := by decide +kernel
theorem dL_law_1007 : decode cL_law 1007 = .ok (.if_icmp .eq 395, 3) := by decide +kernel
theorem dL_law_1010 : decode cL_law 1010 = .ok (.iconst 0, 1) := by decide +kernel
theorem dL_law_1011 : decode cL_law 1011 = .ok (.ireturn, 1) := by decide +kernel
theorem dL_law_1012 : decode cL_law 1012 = .ok (.aload_n 1, 1) := by decide +kernel
theorem dL_law_1013 : decode cL_law 1013 = .ok (.invokevirtual 120, 3) := by decide +kernel
theorem dL_law_1016 : decode cL_law 1016 = .ok (.aload_n 2, 1) := by decide +kernel
theorem dL_law_1017 : decode cL_law 1017 = .ok (.invokevirtual 124, 3) := by decide +kernel
theorem dL_law_1020 : decode cL_law 1020 = .ok (.if_icmp .eq 382, 3) := by decide +kernel
theorem dL_law_1023 : decode cL_law 1023 = .ok (.iconst 0, 1) := by decide +kernel
theorem dL_law_1024 : decode cL_law 1024 = .ok (.ireturn, 1) := by decide +kernel
theorem dL_law_1025 : decode cL_law 1025 = .ok (.aload_n 1, 1) := by decide +kernel
theorem dL_law_1026 : decode cL_law 1026 = .ok (.invokevirtual 125, 3) := by decide +kernel
theorem dL_law_1029 : decode cL_law 1029 = .ok (.aload_n 2, 1) := by decide +kernel
theorem dL_law_1030 : decode cL_law 1030 = .ok (.invokevirtual 128, 3) := by decide +kernel
theorem dL_law_1033 : decode cL_law 1033 = .ok (.if_icmp .eq 369, 3) := by decide +kernel
theorem dL_law_1036 : decode cL_law 1036 = .ok (.iconst 0, 1) := by decide +kernel
theorem dL_law_1037 : decode cL_law 1037 = .ok (.ireturn, 1) := by decide +kernel
theorem dL_law_1038 : decode cL_law 1038 = .ok (.aload_n 1, 1) := by decide +kernel
theorem dL_law_1039 : decode cL_law 1039 = .ok (.aload_n 0, 1) := by decide +kernel
theorem dL_law_1040 : decode cL_law 1040 = .ok (.iload_n 3, 1) := by decide +kernel
theorem dL_law_1041 : decode cL_law 1041 = .ok (.iconst 1, 1) := by decide +kernel
theorem dL_law_1042 : decode cL_law 1042 = .ok (.iadd, 1) := by decide +kernel
theorem dL_law_1043 : decode cL_law 1043 = .ok (.iaload, 1) := by decide +kernel
theorem dL_law_1044 : decode cL_law 1044 = .ok (.aload_n 0, 1) := by decide +kernel
theorem dL_law_1045 : decode cL_law 1045 = .ok (.iload_n 3, 1) := by decide +kernel
theorem dL_law_1046 : decode cL_law 1046 = .ok (.iconst 2, 1) := by decide +kernel
theorem dL_law_1047 : decode cL_law 1047 = .ok (.iadd, 1) := by decide +kernel
theorem dL_law_1048 : decode cL_law 1048 = .ok (.iaload, 1) := by decide +kernel
theorem dL_law_1049 : decode cL_law 1049 = .ok (.aload_n 0, 1) := by decide +kernel
theorem dL_law_1050 : decode cL_law 1050 = .ok (.iload_n 3, 1) := by decide +kernel
theorem dL_law_1051 : decode cL_law 1051 = .ok (.iconst 3, 1) := by decide +kernel
theorem dL_law_1052 : decode cL_law 1052 = .ok (.iadd, 1) := by decide +kernel
theorem dL_law_1053 : decode cL_law 1053 = .ok (.iaload, 1) := by decide +kernel
theorem dL_law_1054 : decode cL_law 1054 = .ok (.invokevirtual 129, 3) := by decide +kernel
theorem dL_law_1057 : decode cL_law 1057 = .ok (.aload_n 2, 1) := by decide +kernel
theorem dL_law_1058 : decode cL_law 1058 = .ok (.aload_n 0, 1) := by decide +kernel
theorem dL_law_1059 : decode cL_law 1059 = .ok (.iload_n 3, 1) := by decide +kernel
theorem dL_law_1060 : decode cL_law 1060 = .ok (.iconst 1, 1) := by decide +kernel
theorem dL_law_1061 : decode cL_law 1061 = .ok (.iadd, 1) := by decide +kernel
theorem dL_law_1062 : decode cL_law 1062 = .ok (.iaload, 1) := by decide +kernel
theorem dL_law_1063 : decode cL_law 1063 = .ok (.aload_n 0, 1) := by decide +kernel
theorem dL_law_1064 : decode cL_law 1064 = .ok (.iload_n 3, 1) := by decide +kernel
theorem dL_law_1065 : decode cL_law 1065 = .ok (.iconst 2, 1) := by decide +kernel
theorem dL_law_1066 : decode cL_law 1066 = .ok (.iadd, 1) := by decide +kernel
theorem dL_law_1067 : decode cL_law 1067 = .ok (.iaload, 1) := by decide +kernel
theorem dL_law_1068 : decode cL_law 1068 = .ok (.aload_n 0, 1) := by decide +kernel
theorem dL_law_1069 : decode cL_law 1069 = .ok (.iload_n 3, 1) := by decide +kernel
theorem dL_law_1070 : decode cL_law 1070 = .ok (.iconst 3, 1) := by decide +kernel
theorem dL_law_1071 : decode cL_law 1071 = .ok (.iadd, 1) := by decide +kernel
theorem dL_law_1072 : decode cL_law 1072 = .ok (.iaload, 1) := by decide +kernel
theorem dL_law_1073 : decode cL_law 1073 = .ok (.invokevirtual 132, 3) := by decide +kernel
theorem dL_law_1076 : decode cL_law 1076 = .ok (.if_icmp .eq 326, 3) := by decide +kernel
theorem dL_law_1079 : decode cL_law 1079 = .ok (.iconst 0, 1) := by decide +kernel
theorem dL_law_1080 : decode cL_law 1080 = .ok (.ireturn, 1) := by decide +kernel
theorem dL_law_1081 : decode cL_law 1081 = .ok (.aload_n 1, 1) := by decide +kernel
theorem dL_law_1082 : decode cL_law 1082 = .ok (.aload_n 0, 1) := by decide +kernel
theorem dL_law_1083 : decode cL_law 1083 = .ok (.iload_n 3, 1) := by decide +kernel
theorem dL_law_1084 : decode cL_law 1084 = .ok (.iconst 1, 1) := by decide +kernel
theorem dL_law_1085 : decode cL_law 1085 = .ok (.iadd, 1) := by decide +kernel
theorem dL_law_1086 : decode cL_law 1086 = .ok (.iaload, 1) := by decide +kernel
theorem dL_law_1087 : decode cL_law 1087 = .ok (.aload_n 0, 1) := by decide +kernel
theorem dL_law_1088 : decode cL_law 1088 = .ok (.iload_n 3, 1) := by decide +kernel
theorem dL_law_1089 : decode cL_law 1089 = .ok (.iconst 2, 1) := by decide +kernel
theorem dL_law_1090 : decode cL_law 1090 = .ok (.iadd, 1) := by decide +kernel
theorem dL_law_1091 : decode cL_law 1091 = .ok (.iaload, 1) := by decide +kernel
theorem dL_law_1092 : decode cL_law 1092 = .ok (.aload_n 0, 1) := by decide +kernel
theorem dL_law_1093 : decode cL_law 1093 = .ok (.iload_n 3, 1) := by decide +kernel
theorem dL_law_1094 : decode cL_law 1094 = .ok (.iconst 3, 1) := by decide +kernel
theorem dL_law_1095 : decode cL_law 1095 = .ok (.iadd, 1) := by decide +kernel
theorem dL_law_1096 : decode cL_law 1096 = .ok (.iaload, 1) := by decide +kernel
theorem dL_law_1097 : decode cL_law 1097 = .ok (.i2l, 1) := by decide +kernel
theorem dL_law_1098 : decode cL_law 1098 = .ok (.bipush 32, 2) := by decide +kernel
theorem dL_law_1100 : decode cL_law 1100 = .ok (.lshl, 1) := by decide +kernel
theorem dL_law_1101 : decode cL_law 1101 = .ok (.aload_n 0, 1) := by decide +kernel
theorem dL_law_1102 : decode cL_law 1102 = .ok (.iload_n 3, 1) := by decide +kernel
theorem dL_law_1103 : decode cL_law 1103 = .ok (.iconst 4, 1) := by decide +kernel
theorem dL_law_1104 : decode cL_law 1104 = .ok (.iadd, 1) := by decide +kernel
theorem dL_law_1105 : decode cL_law 1105 = .ok (.iaload, 1) := by decide +kernel
theorem dL_law_1106 : decode cL_law 1106 = .ok (.i2l, 1) := by decide +kernel
theorem dL_law_1107 : decode cL_law 1107 = .ok (.ldc2_w 133, 3) := by decide +kernel
theorem dL_law_1110 : decode cL_law 1110 = .ok (.land, 1) := by decide +kernel
theorem dL_law_1111 : decode cL_law 1111 = .ok (.lor, 1) := by decide +kernel
theorem dL_law_1112 : decode cL_law 1112 = .ok (.invokevirtual 135, 3) := by decide +kernel
theorem dL_law_1115 : decode cL_law 1115 = .ok (.aload_n 2, 1) := by decide +kernel
theorem dL_law_1116 : decode cL_law 1116 = .ok (.aload_n 0, 1) := by decide +kernel
theorem dL_law_1117 : decode cL_law 1117 = .ok (.iload_n 3, 1) := by decide +kernel
theorem dL_law_1118 : decode cL_law 1118 = .ok (.iconst 1, 1) := by decide +kernel
theorem dL_law_1119 : decode cL_law 1119 = .ok (.iadd, 1) := by decide +kernel
theorem dL_law_1120 : decode cL_law 1120 = .ok (.iaload, 1) := by decide +kernel
theorem dL_law_1121 : decode cL_law 1121 = .ok (.aload_n 0, 1) := by decide +kernel
theorem dL_law_1122 : decode cL_law 1122 = .ok (.iload_n 3, 1) := by decide +kernel
theorem dL_law_1123 : decode cL_law 1123 = .ok (.iconst 2, 1) := by decide +kernel
theorem dL_law_1124 : decode cL_law 1124 = .ok (.iadd, 1) := by decide +kernel
theorem dL_law_1125 : decode cL_law 1125 = .ok (.iaload, 1) := by decide +kernel
theorem dL_law_1126 : decode cL_law 1126 = .ok (.aload_n 0, 1) := by decide +kernel
theorem dL_law_1127 : decode cL_law 1127 = .ok (.iload_n 3, 1) := by decide +kernel
theorem dL_law_1128 : decode cL_law 1128 = .ok (.iconst 3, 1) := by decide +kernel
theorem dL_law_1129 : decode cL_law 1129 = .ok (.iadd, 1) := by decide +kernel
theorem dL_law_1130 : decode cL_law 1130 = .ok (.iaload, 1) := by decide +kernel
theorem dL_law_1131 : decode cL_law 1131 = .ok (.i2l, 1) := by decide +kernel
theorem dL_law_1132 : decode cL_law 1132 = .ok (.bipush 32, 2) := by decide +kernel
theorem dL_law_1134 : decode cL_law 1134 = .ok (.lshl, 1) := by decide +kernel
theorem dL_law_1135 : decode cL_law 1135 = .ok (.aload_n 0, 1) := by decide +kernel
theorem dL_law_1136 : decode cL_law 1136 = .ok (.iload_n 3, 1) := by decide +kernel
theorem dL_law_1137 : decode cL_law 1137 = .ok (.iconst 4, 1) := by decide +kernel
theorem dL_law_1138 : decode cL_law 1138 = .ok (.iadd, 1) := by decide +kernel
theorem dL_law_1139 : decode cL_law 1139 = .ok (.iaload, 1) := by decide +kernel
theorem dL_law_1140 : decode cL_law 1140 = .ok (.i2l, 1) := by decide +kernel
theorem dL_law_1141 : decode cL_law 1141 = .ok (.ldc2_w 133, 3) := by decide +kernel
theorem dL_law_1144 : decode cL_law 1144 = .ok (.land, 1) := by decide +kernel
theorem dL_law_1145 : decode cL_law 1145 = .ok (.lor, 1) := by decide +kernel
theorem dL_law_1146 : decode cL_law 1146 = .ok (.invokevirtual 139, 3) := by decide +kernel
theorem dL_law_1149 : decode cL_law 1149 = .ok (.lcmp, 1) := by decide +kernel
theorem dL_law_1150 : decode cL_law 1150 = .ok (.ifCond .eq 252, 3) := by decide +kernel
theorem dL_law_1153 : decode cL_law 1153 = .ok (.iconst 0, 1) := by decide +kernel
theorem dL_law_1154 : decode cL_law 1154 = .ok (.ireturn, 1) := by decide +kernel
theorem dL_law_1155 : decode cL_law 1155 = .ok (.aload_n 1, 1) := by decide +kernel
theorem dL_law_1156 : decode cL_law 1156 = .ok (.aload_n 0, 1) := by decide +kernel
theorem dL_law_1157 : decode cL_law 1157 = .ok (.iload_n 3, 1) := by decide +kernel
theorem dL_law_1158 : decode cL_law 1158 = .ok (.iconst 1, 1) := by decide +kernel
theorem dL_law_1159 : decode cL_law 1159 = .ok (.iadd, 1) := by decide +kernel
theorem dL_law_1160 : decode cL_law 1160 = .ok (.iaload, 1) := by decide +kernel
theorem dL_law_1161 : decode cL_law 1161 = .ok (.aload_n 0, 1) := by decide +kernel
theorem dL_law_1162 : decode cL_law 1162 = .ok (.iload_n 3, 1) := by decide +kernel
theorem dL_law_1163 : decode cL_law 1163 = .ok (.iconst 2, 1) := by decide +kernel
theorem dL_law_1164 : decode cL_law 1164 = .ok (.iadd, 1) := by decide +kernel
theorem dL_law_1165 : decode cL_law 1165 = .ok (.iaload, 1) := by decide +kernel
theorem dL_law_1166 : decode cL_law 1166 = .ok (.aload_n 0, 1) := by decide +kernel
theorem dL_law_1167 : decode cL_law 1167 = .ok (.iload_n 3, 1) := by decide +kernel
theorem dL_law_1168 : decode cL_law 1168 = .ok (.iconst 3, 1) := by decide +kernel
theorem dL_law_1169 : decode cL_law 1169 = .ok (.iadd, 1) := by decide +kernel
theorem dL_law_1170 : decode cL_law 1170 = .ok (.iaload, 1) := by decide +kernel
theorem dL_law_1171 : decode cL_law 1171 = .ok (.aload_n 0, 1) := by decide +kernel
theorem dL_law_1172 : decode cL_law 1172 = .ok (.iload_n 3, 1) := by decide +kernel
theorem dL_law_1173 : decode cL_law 1173 = .ok (.iconst 4, 1) := by decide +kernel
theorem dL_law_1174 : decode cL_law 1174 = .ok (.iadd, 1) := by decide +kernel
theorem dL_law_1175 : decode cL_law 1175 = .ok (.iaload, 1) := by decide +kernel
theorem dL_law_1176 : decode cL_law 1176 = .ok (.aload_n 0, 1) := by decide +kernel
theorem dL_law_1177 : decode cL_law 1177 = .ok (.iload_n 3, 1) := by decide +kernel
theorem dL_law_1178 : decode cL_law 1178 = .ok (.iconst 5, 1) := by decide +kernel
theorem dL_law_1179 : decode cL_law 1179 = .ok (.iadd, 1) := by decide +kernel
theorem dL_law_1180 : decode cL_law 1180 = .ok (.iaload, 1) := by decide +kernel
theorem dL_law_1181 : decode cL_law 1181 = .ok (.invokevirtual 140, 3) := by decide +kernel
theorem dL_law_1184 : decode cL_law 1184 = .ok (.aload_n 2, 1) := by decide +kernel
theorem dL_law_1185 : decode cL_law 1185 = .ok (.aload_n 0, 1) := by decide +kernel
theorem dL_law_1186 : decode cL_law 1186 = .ok (.iload_n 3, 1) := by decide +kernel
theorem dL_law_1187 : decode cL_law 1187 = .ok (.iconst 1, 1) := by decide +kernel
theorem dL_law_1188 : decode cL_law 1188 = .ok (.iadd, 1) := by decide +kernel
theorem dL_law_1189 : decode cL_law 1189 = .ok (.iaload, 1) := by decide +kernel
theorem dL_law_1190 : decode cL_law 1190 = .ok (.aload_n 0, 1) := by decide +kernel
theorem dL_law_1191 : decode cL_law 1191 = .ok (.iload_n 3, 1) := by decide +kernel
theorem dL_law_1192 : decode cL_law 1192 = .ok (.iconst 2, 1) := by decide +kernel
theorem dL_law_1193 : decode cL_law 1193 = .ok (.iadd, 1) := by decide +kernel
theorem dL_law_1194 : decode cL_law 1194 = .ok (.iaload, 1) := by decide +kernel
theorem dL_law_1195 : decode cL_law 1195 = .ok (.aload_n 0, 1) := by decide +kernel
theorem dL_law_1196 : decode cL_law 1196 = .ok (.iload_n 3, 1) := by decide +kernel
theorem dL_law_1197 : decode cL_law 1197 = .ok (.iconst 3, 1) := by decide +kernel
theorem dL_law_1198 : decode cL_law 1198 = .ok (.iadd, 1) := by decide +kernel
theorem dL_law_1199 : decode cL_law 1199 = .ok (.iaload, 1) := by decide +kernel
theorem dL_law_1200 : decode cL_law 1200 = .ok (.aload_n 0, 1) := by decide +kernel
theorem dL_law_1201 : decode cL_law 1201 = .ok (.iload_n 3, 1) := by decide +kernel
theorem dL_law_1202 : decode cL_law 1202 = .ok (.iconst 4, 1) := by decide +kernel
theorem dL_law_1203 : decode cL_law 1203 = .ok (.iadd, 1) := by decide +kernel
theorem dL_law_1204 : decode cL_law 1204 = .ok (.iaload, 1) := by decide +kernel
theorem dL_law_1205 : decode cL_law 1205 = .ok (.aload_n 0, 1) := by decide +kernel
theorem dL_law_1206 : decode cL_law 1206 = .ok (.iload_n 3, 1) := by decide +kernel
theorem dL_law_1207 : decode cL_law 1207 = .ok (.iconst 5, 1) := by decide +kernel
theorem dL_law_1208 : decode cL_law 1208 = .ok (.iadd, 1) := by decide +kernel
theorem dL_law_1209 : decode cL_law 1209 = .ok (.iaload, 1) := by decide +kernel
theorem dL_law_1210 : decode cL_law 1210 = .ok (.invokevirtual 144, 3) := by decide +kernel
theorem dL_law_1213 : decode cL_law 1213 = .ok (.if_icmp .eq 189, 3) := by decide +kernel
theorem dL_law_1216 : decode cL_law 1216 = .ok (.iconst 0, 1) := by decide +kernel
theorem dL_law_1217 : decode cL_law 1217 = .ok (.ireturn, 1) := by decide +kernel
theorem dL_law_1218 : decode cL_law 1218 = .ok (.aload_n 1, 1) := by decide +kernel
theorem dL_law_1219 : decode cL_law 1219 = .ok (.aload_n 0, 1) := by decide +kernel
theorem dL_law_1220 : decode cL_law 1220 = .ok (.iload_n 3, 1) := by decide +kernel
theorem dL_law_1221 : decode cL_law 1221 = .ok (.iconst 1, 1) := by decide +kernel
theorem dL_law_1222 : decode cL_law 1222 = .ok (.iadd, 1) := by decide +kernel
theorem dL_law_1223 : decode cL_law 1223 = .ok (.iaload, 1) := by decide +kernel
theorem dL_law_1224 : decode cL_law 1224 = .ok (.invokevirtual 145, 3) := by decide +kernel
theorem dL_law_1227 : decode cL_law 1227 = .ok (.aload_n 2, 1) := by decide +kernel
theorem dL_law_1228 : decode cL_law 1228 = .ok (.aload_n 0, 1) := by decide +kernel
theorem dL_law_1229 : decode cL_law 1229 = .ok (.iload_n 3, 1) := by decide +kernel
theorem dL_law_1230 : decode cL_law 1230 = .ok (.iconst 1, 1) := by decide +kernel
theorem dL_law_1231 : decode cL_law 1231 = .ok (.iadd, 1) := by decide +kernel
theorem dL_law_1232 : decode cL_law 1232 = .ok (.iaload, 1) := by decide +kernel
theorem dL_law_1233 : decode cL_law 1233 = .ok (.invokevirtual 148, 3) := by decide +kernel
theorem dL_law_1236 : decode cL_law 1236 = .ok (.if_icmp .eq 166, 3) := by decide +kernel
theorem dL_law_1239 : decode cL_law 1239 = .ok (.iconst 0, 1) := by decide +kernel
theorem dL_law_1240 : decode cL_law 1240 = .ok (.ireturn, 1) := by decide +kernel
theorem dL_law_1241 : decode cL_law 1241 = .ok (.aload_n 1, 1) := by decide +kernel
theorem dL_law_1242 : decode cL_law 1242 = .ok (.aload_n 0, 1) := by decide +kernel
theorem dL_law_1243 : decode cL_law 1243 = .ok (.iload_n 3, 1) := by decide +kernel
theorem dL_law_1244 : decode cL_law 1244 = .ok (.iconst 1, 1) := by decide +kernel
theorem dL_law_1245 : decode cL_law 1245 = .ok (.iadd, 1) := by decide +kernel
theorem dL_law_1246 : decode cL_law 1246 = .ok (.iaload, 1) := by decide +kernel
theorem dL_law_1247 : decode cL_law 1247 = .ok (.aload_n 0, 1) := by decide +kernel
theorem dL_law_1248 : decode cL_law 1248 = .ok (.iload_n 3, 1) := by decide +kernel
theorem dL_law_1249 : decode cL_law 1249 = .ok (.iconst 2, 1) := by decide +kernel
theorem dL_law_1250 : decode cL_law 1250 = .ok (.iadd, 1) := by decide +kernel
theorem dL_law_1251 : decode cL_law 1251 = .ok (.iaload, 1) := by decide +kernel
theorem dL_law_1252 : decode cL_law 1252 = .ok (.invokevirtual 149, 3) := by decide +kernel
theorem dL_law_1255 : decode cL_law 1255 = .ok (.aload_n 2, 1) := by decide +kernel
theorem dL_law_1256 : decode cL_law 1256 = .ok (.aload_n 0, 1) := by decide +kernel
theorem dL_law_1257 : decode cL_law 1257 = .ok (.iload_n 3, 1) := by decide +kernel
theorem dL_law_1258 : decode cL_law 1258 = .ok (.iconst 1, 1) := by decide +kernel
theorem dL_law_1259 : decode cL_law 1259 = .ok (.iadd, 1) := by decide +kernel
theorem dL_law_1260 : decode cL_law 1260 = .ok (.iaload, 1) := by decide +kernel
theorem dL_law_1261 : decode cL_law 1261 = .ok (.aload_n 0, 1) := by decide +kernel
theorem dL_law_1262 : decode cL_law 1262 = .ok (.iload_n 3, 1) := by decide +kernel
theorem dL_law_1263 : decode cL_law 1263 = .ok (.iconst 2, 1) := by decide +kernel
theorem dL_law_1264 : decode cL_law 1264 = .ok (.iadd, 1) := by decide +kernel
theorem dL_law_1265 : decode cL_law 1265 = .ok (.iaload, 1) := by decide +kernel
theorem dL_law_1266 : decode cL_law 1266 = .ok (.invokevirtual 152, 3) := by decide +kernel
theorem dL_law_1269 : decode cL_law 1269 = .ok (.if_icmp .eq 133, 3) := by decide +kernel
theorem dL_law_1272 : decode cL_law 1272 = .ok (.iconst 0, 1) := by decide +kernel
theorem dL_law_1273 : decode cL_law 1273 = .ok (.ireturn, 1) := by decide +kernel
theorem dL_law_1274 : decode cL_law 1274 = .ok (.aload_n 1, 1) := by decide +kernel
theorem dL_law_1275 : decode cL_law 1275 = .ok (.aload_n 0, 1) := by decide +kernel
theorem dL_law_1276 : decode cL_law 1276 = .ok (.iload_n 3, 1) := by decide +kernel
theorem dL_law_1277 : decode cL_law 1277 = .ok (.iconst 1, 1) := by decide +kernel
theorem dL_law_1278 : decode cL_law 1278 = .ok (.iadd, 1) := by decide +kernel
theorem dL_law_1279 : decode cL_law 1279 = .ok (.iaload, 1) := by decide +kernel
theorem dL_law_1280 : decode cL_law 1280 = .ok (.aload_n 0, 1) := by decide +kernel
theorem dL_law_1281 : decode cL_law 1281 = .ok (.iload_n 3, 1) := by decide +kernel
theorem dL_law_1282 : decode cL_law 1282 = .ok (.iconst 2, 1) := by decide +kernel
theorem dL_law_1283 : decode cL_law 1283 = .ok (.iadd, 1) := by decide +kernel
theorem dL_law_1284 : decode cL_law 1284 = .ok (.iaload, 1) := by decide +kernel
theorem dL_law_1285 : decode cL_law 1285 = .ok (.aload_n 0, 1) := by decide +kernel
theorem dL_law_1286 : decode cL_law 1286 = .ok (.iload_n 3, 1) := by decide +kernel
theorem dL_law_1287 : decode cL_law 1287 = .ok (.iconst 3, 1) := by decide +kernel
theorem dL_law_1288 : decode cL_law 1288 = .ok (.iadd, 1) := by decide +kernel
theorem dL_law_1289 : decode cL_law 1289 = .ok (.iaload, 1) := by decide +kernel
theorem dL_law_1290 : decode cL_law 1290 = .ok (.invokevirtual 153, 3) := by decide +kernel
theorem dL_law_1293 : decode cL_law 1293 = .ok (.aload_n 2, 1) := by decide +kernel
theorem dL_law_1294 : decode cL_law 1294 = .ok (.aload_n 0, 1) := by decide +kernel
theorem dL_law_1295 : decode cL_law 1295 = .ok (.iload_n 3, 1) := by decide +kernel
theorem dL_law_1296 : decode cL_law 1296 = .ok (.iconst 1, 1) := by decide +kernel
theorem dL_law_1297 : decode cL_law 1297 = .ok (.iadd, 1) := by decide +kernel
theorem dL_law_1298 : decode cL_law 1298 = .ok (.iaload, 1) := by decide +kernel
theorem dL_law_1299 : decode cL_law 1299 = .ok (.aload_n 0, 1) := by decide +kernel
theorem dL_law_1300 : decode cL_law 1300 = .ok (.iload_n 3, 1) := by decide +kernel
theorem dL_law_1301 : decode cL_law 1301 = .ok (.iconst 2, 1) := by decide +kernel
theorem dL_law_1302 : decode cL_law 1302 = .ok (.iadd, 1) := by decide +kernel
theorem dL_law_1303 : decode cL_law 1303 = .ok (.iaload, 1) := by decide +kernel
theorem dL_law_1304 : decode cL_law 1304 = .ok (.aload_n 0, 1) := by decide +kernel
theorem dL_law_1305 : decode cL_law 1305 = .ok (.iload_n 3, 1) := by decide +kernel
theorem dL_law_1306 : decode cL_law 1306 = .ok (.iconst 3, 1) := by decide +kernel
theorem dL_law_1307 : decode cL_law 1307 = .ok (.iadd, 1) := by decide +kernel
theorem dL_law_1308 : decode cL_law 1308 = .ok (.iaload, 1) := by decide +kernel
theorem dL_law_1309 : decode cL_law 1309 = .ok (.invokevirtual 156, 3) := by decide +kernel
theorem dL_law_1312 : decode cL_law 1312 = .ok (.if_icmp .eq 90, 3) := by decide +kernel
theorem dL_law_1315 : decode cL_law 1315 = .ok (.iconst 0, 1) := by decide +kernel
theorem dL_law_1316 : decode cL_law 1316 = .ok (.ireturn, 1) := by decide +kernel
theorem dL_law_1317 : decode cL_law 1317 = .ok (.aload_n 1, 1) := by decide +kernel
theorem dL_law_1318 : decode cL_law 1318 = .ok (.invokevirtual 157, 3) := by decide +kernel
theorem dL_law_1321 : decode cL_law 1321 = .ok (.aload_n 2, 1) := by decide +kernel
theorem dL_law_1322 : decode cL_law 1322 = .ok (.invokevirtual 160, 3) := by decide +kernel
theorem dL_law_1325 : decode cL_law 1325 = .ok (.if_icmp .eq 77, 3) := by decide +kernel
theorem dL_law_1328 : decode cL_law 1328 = .ok (.iconst 0, 1) := by decide +kernel
theorem dL_law_1329 : decode cL_law 1329 = .ok (.ireturn, 1) := by decide +kernel
theorem dL_law_1330 : decode cL_law 1330 = .ok (.aload_n 1, 1) := by decide +kernel
theorem dL_law_1331 : decode cL_law 1331 = .ok (.invokevirtual 161, 3) := by decide +kernel
theorem dL_law_1334 : decode cL_law 1334 = .ok (.aload_n 2, 1) := by decide +kernel
theorem dL_law_1335 : decode cL_law 1335 = .ok (.invokevirtual 164, 3) := by decide +kernel
theorem dL_law_1338 : decode cL_law 1338 = .ok (.if_icmp .eq 64, 3) := by decide +kernel
theorem dL_law_1341 : decode cL_law 1341 = .ok (.iconst 0, 1) := by decide +kernel
theorem dL_law_1342 : decode cL_law 1342 = .ok (.ireturn, 1) := by decide +kernel
theorem dL_law_1343 : decode cL_law 1343 = .ok (.aload_n 1, 1) := by decide +kernel
theorem dL_law_1344 : decode cL_law 1344 = .ok (.invokevirtual 165, 3) := by decide +kernel
theorem dL_law_1347 : decode cL_law 1347 = .ok (.aload_n 2, 1) := by decide +kernel
theorem dL_law_1348 : decode cL_law 1348 = .ok (.invokevirtual 168, 3) := by decide +kernel
theorem dL_law_1351 : decode cL_law 1351 = .ok (.if_icmp .eq 51, 3) := by decide +kernel
theorem dL_law_1354 : decode cL_law 1354 = .ok (.iconst 0, 1) := by decide +kernel
theorem dL_law_1355 : decode cL_law 1355 = .ok (.ireturn, 1) := by decide +kernel
theorem dL_law_1356 : decode cL_law 1356 = .ok (.aload_n 1, 1) := by decide +kernel
theorem dL_law_1357 : decode cL_law 1357 = .ok (.aload_n 0, 1) := by decide +kernel
theorem dL_law_1358 : decode cL_law 1358 = .ok (.iload_n 3, 1) := by decide +kernel
theorem dL_law_1359 : decode cL_law 1359 = .ok (.iconst 1, 1) := by decide +kernel
theorem dL_law_1360 : decode cL_law 1360 = .ok (.iadd, 1) := by decide +kernel
theorem dL_law_1361 : decode cL_law 1361 = .ok (.iaload, 1) := by decide +kernel
theorem dL_law_1362 : decode cL_law 1362 = .ok (.invokevirtual 169, 3) := by decide +kernel
theorem dL_law_1365 : decode cL_law 1365 = .ok (.aload_n 2, 1) := by decide +kernel
theorem dL_law_1366 : decode cL_law 1366 = .ok (.aload_n 0, 1) := by decide +kernel
theorem dL_law_1367 : decode cL_law 1367 = .ok (.iload_n 3, 1) := by decide +kernel
theorem dL_law_1368 : decode cL_law 1368 = .ok (.iconst 1, 1) := by decide +kernel
theorem dL_law_1369 : decode cL_law 1369 = .ok (.iadd, 1) := by decide +kernel
theorem dL_law_1370 : decode cL_law 1370 = .ok (.iaload, 1) := by decide +kernel
theorem dL_law_1371 : decode cL_law 1371 = .ok (.invokevirtual 172, 3) := by decide +kernel
theorem dL_law_1374 : decode cL_law 1374 = .ok (.if_icmp .eq 28, 3) := by decide +kernel
theorem dL_law_1377 : decode cL_law 1377 = .ok (.iconst 0, 1) := by decide +kernel
theorem dL_law_1378 : decode cL_law 1378 = .ok (.ireturn, 1) := by decide +kernel
theorem dL_law_1379 : decode cL_law 1379 = .ok (.aload_n 1, 1) := by decide +kernel
theorem dL_law_1380 : decode cL_law 1380 = .ok (.aload_n 0, 1) := by decide +kernel
theorem dL_law_1381 : decode cL_law 1381 = .ok (.iload_n 3, 1) := by decide +kernel
theorem dL_law_1382 : decode cL_law 1382 = .ok (.iconst 1, 1) := by decide +kernel
theorem dL_law_1383 : decode cL_law 1383 = .ok (.iadd, 1) := by decide +kernel
theorem dL_law_1384 : decode cL_law 1384 = .ok (.iaload, 1) := by decide +kernel
theorem dL_law_1385 : decode cL_law 1385 = .ok (.invokevirtual 173, 3) := by decide +kernel
theorem dL_law_1388 : decode cL_law 1388 = .ok (.aload_n 2, 1) := by decide +kernel
theorem dL_law_1389 : decode cL_law 1389 = .ok (.aload_n 0, 1) := by decide +kernel
theorem dL_law_1390 : decode cL_law 1390 = .ok (.iload_n 3, 1) := by decide +kernel
theorem dL_law_1391 : decode cL_law 1391 = .ok (.iconst 1, 1) := by decide +kernel
theorem dL_law_1392 : decode cL_law 1392 = .ok (.iadd, 1) := by decide +kernel
theorem dL_law_1393 : decode cL_law 1393 = .ok (.iaload, 1) := by decide +kernel
theorem dL_law_1394 : decode cL_law 1394 = .ok (.invokevirtual 176, 3) := by decide +kernel
theorem dL_law_1397 : decode cL_law 1397 = .ok (.if_icmp .eq 5, 3) := by decide +kernel
theorem dL_law_1400 : decode cL_law 1400 = .ok (.iconst 0, 1) := by decide +kernel
theorem dL_law_1401 : decode cL_law 1401 = .ok (.ireturn, 1) := by decide +kernel
theorem dL_law_1402 : decode cL_law 1402 = .ok (.iinc 3 6, 3) := by decide +kernel
theorem dL_law_1405 : decode cL_law 1405 = .ok (.goto (-1387), 3) := by decide +kernel
theorem dL_law_1408 : decode cL_law 1408 = .ok (.iconst 1, 1) := by decide +kernel
theorem dL_law_1409 : decode cL_law 1409 = .ok (.ireturn, 1) := by decide +kernel
end
section
/-! THE FRAME: a judgement zV over worlds as data (cells, locals, stack), rows of it, contracts zC, calls. -/
theorem zT_sub : ∀ w ∈ zT, w ∈ lw_tbl := fun _ h => (List.mem_filter.mp h).1
theorem zT_good {w : Cond} (h : w ∈ zT) : (w.onTables && w.keeps) = true ∨ ∃ ty, w = .arrayClass ty := good_of_word (List.mem_filter.mp h).2
theorem zT_goodIn (ws : List Cond) (h : ∀ w ∈ ws, w ∈ zT) (c0 : Cond) : GoodIn (c0 :: zT) ws := fun w hw => ⟨List.mem_cons_of_mem _ (h w hw), zT_good (h w hw)⟩
/-! worlds by members -/
theorem zz_Pm {D : va_G} {cl : List vw_C} {ws : va_W} {H : Heap} : va_P D cl ws H ↔ ∀ q ∈ ws, va_at D cl q H := by
  constructor
  · intro h q hq
    obtain ⟨i, hi⟩ := List.getElem?_of_mem hq
    exact h i q hi
  · intro h k q hk
    exact h q (List.mem_of_getElem? hk)
theorem zz_Dm {A : Nat → Prop} {ws : va_W} : va_D A ws ↔ (ws.map Prod.fst).Nodup ∧ ∀ q ∈ ws, A q.1 := by
  constructor
  · intro h
    refine ⟨?_, fun q hq => ?_⟩
    · rw [List.nodup_iff_pairwise_ne, List.pairwise_iff_getElem]
      intro i j hi hj hij he
      simp only [List.length_map] at hi hj
      have h1 := h.1 i j ws[i] ws[j] (List.getElem?_eq_getElem hi) (List.getElem?_eq_getElem hj) (by simpa using he)
      omega
    · obtain ⟨i, hi⟩ := List.getElem?_of_mem hq
      exact h.2 i q hi
  · intro h
    refine ⟨fun i j p q hi hj he => ?_, fun k q hk => h.2 q (List.mem_of_getElem? hk)⟩
    have h1 := List.pairwise_iff_getElem.mp (List.nodup_iff_pairwise_ne.mp h.1)
    obtain ⟨hi1, hi2⟩ := List.getElem?_eq_some_iff.mp hi
    obtain ⟨hj1, hj2⟩ := List.getElem?_eq_some_iff.mp hj
    rcases Nat.lt_trichotomy i j with hlt | heq | hgt
    · exact (h1 i j (by simpa using hi1) (by simpa using hj1) hlt (by simp [hi2, hj2, he])).elim
    · exact heq
    · exact (h1 j i (by simpa using hj1) (by simpa using hi1) hgt (by simp [hi2, hj2, he])).elim
theorem zz_Pp {D : va_G} {cl : List vw_C} {ws ws' : va_W} {H : Heap} (hp : ws.Perm ws') (h : va_P D cl ws H) : va_P D cl ws' H := zz_Pm.mpr fun q hq => zz_Pm.mp h q (hp.mem_iff.mpr hq)
theorem zz_Dp {A : Nat → Prop} {ws ws' : va_W} (hp : ws.Perm ws') (h : va_D A ws) : va_D A ws' := by
  have h1 := zz_Dm.mp h
  exact zz_Dm.mpr ⟨(hp.map Prod.fst).nodup h1.1, fun q hq => h1.2 q (hp.mem_iff.mpr hq)⟩
theorem zz_Am {ws : va_W} {sz q : Nat} : va_A ws sz q ↔ q ∈ ws.map Prod.fst ∨ sz ≤ q := by
  constructor
  · rintro (⟨k, e, h⟩ | h)
    · exact Or.inl (List.mem_map.mpr ⟨(q, e), List.mem_of_getElem? h, rfl⟩)
    · exact Or.inr h
  · rintro (h | h)
    · obtain ⟨x, hx, rfl⟩ := List.mem_map.mp h
      obtain ⟨i, hi⟩ := List.getElem?_of_mem hx
      exact Or.inl ⟨i, x.2, hi⟩
    · exact Or.inr h
/-- the frame rule: the callee's cells mid in front, the rest behind -/
theorem zz_frame {A : Nat → Prop} {D : va_G} {cl : List vw_C} {mid suf w1 : va_W} {H H1 : Heap} (hP : va_P D cl (mid ++ suf) H) (hD : va_D A (mid ++ suf))
    (hk : ∀ q : Nat, q < H.size → ¬ va_A mid H.size q → H1[q]? = H[q]?) (hF : ∀ q, va_A mid H.size q → A q) (hP1 : va_P D cl w1 H1) (hD1 : va_D (va_A mid H.size) w1) : va_P D cl (w1 ++ suf) H1 ∧ va_D A (w1 ++ suf) := by
  have hPm := zz_Pm.mp hP
  have hDm := zz_Dm.mp hD
  have hD1m := zz_Dm.mp hD1
  have hnd := hDm.1
  rw [List.map_append, List.nodup_append] at hnd
  have apart : ∀ q ∈ suf, q.1 < H.size ∧ ¬ va_A mid H.size q.1 := by
    intro q hq
    have hl := (hPm q (List.mem_append_right _ hq)).lt
    refine ⟨hl, fun h => ?_⟩
    rcases zz_Am.mp h with h | h
    · exact hnd.2.2 _ h _ (List.mem_map.mpr ⟨q, hq, rfl⟩) rfl
    · omega
  refine ⟨zz_Pm.mpr fun q hq => ?_, zz_Dm.mpr ⟨?_, fun q hq => ?_⟩⟩
  · rcases List.mem_append.mp hq with h | h
    · exact zz_Pm.mp hP1 q h
    · exact (hPm q (List.mem_append_right _ h)).kept (hk q.1 (apart q h).1 (apart q h).2)
  · rw [List.map_append, List.nodup_append]
    refine ⟨hD1m.1, hnd.2.1, fun a ha b hb hab => ?_⟩
    obtain ⟨x, hx, rfl⟩ := List.mem_map.mp ha
    obtain ⟨y, hy, rfl⟩ := List.mem_map.mp hb
    exact (apart y hy).2 (by rw [← hab]; exact hD1m.2 x hx)
  · rcases List.mem_append.mp hq with h | h
    · exact hF _ (hD1m.2 q h)
    · exact hDm.2 q (List.mem_append_right _ h)
theorem zz_freeA {A : Nat → Prop} {mid suf : va_W} {H0 H : Heap} {locs : List Loc} (hD : va_D A (mid ++ suf)) (hS : va_S A H0 H locs) (hA : ∀ q, H0.size ≤ q → A q) : ∀ q, va_A mid H.size q → A q := by
  intro q h
  rcases zz_Am.mp h with h | h
  · obtain ⟨x, hx, rfl⟩ := List.mem_map.mp h
    exact (zz_Dm.mp hD).2 x (List.mem_append_left _ hx)
  · exact hA q (Nat.le_trans hS.1 h)
/-! what every start knows: classes, array classes, the string constants, two statics -/
abbrev zz_Z : Type := va_G × (ClassId × ClassId × ClassId) × (Nat → Nat) × (Nat → Nat)
abbrev zz_B : Type := Launch × zz_Z
def zz_tys (K : ClassId × ClassId × ClassId) : List (ClassId × FieldType) := [(K.1, .int), (K.2.1, .long), (K.2.2, .object "DusterRounds$Sheet")]
def zz_txt : List String := ["duster", "hemmed", "glass", "wool", "wedding", "silk", "holds", "grime", "room", "dust", "has", "falls", "wash", ""]
def zz_pool : List Nat := [123, 125, 127, 129, 131, 133, 135, 137, 139, 141, 142, 144, 146, 148]
def zz_len : List Nat := [6, 6, 5, 4, 7, 4, 5, 5, 4, 4, 3, 5, 4, 0]
def zz_byt : List (List Int32) := [[100, 117, 115, 116, 101, 114], [104, 101, 109, 109, 101, 100], [103, 108, 97, 115, 115], [119, 111, 111, 108], [119, 101, 100, 100, 105, 110, 103], [115, 105, 108, 107], [104, 111, 108, 100, 115], [103, 114, 105, 109, 101], [114, 111, 111, 109], [100, 117, 115, 116], [104, 97, 115], [102, 97, 108, 108, 115], [119, 97, 115, 104], []]
def zz_E (z : zz_Z) (A : Nat → Prop) (U : State) (H : Heap) : Prop :=
  vk_S 14 zz_len zz_byt z.2.2.1 z.2.2.2 A U H ∧ (∀ k, k < 14 → vk_R "DusterRounds$Tape" (zz_pool.getD k 0) (zz_txt.getD k "") (z.2.2.1 k) U) ∧
  va_Z "java/lang/String" "COMPACT_STRINGS" "Z" (.int 1) A U H ∧ va_Zq "jdk/internal/util/Preconditions" "SIOOBE_FORMATTER" "Ljava/util/function/BiFunction;" A U H ∧
  va_Nw (.methodLinkNest "DusterRounds" 27 ⟨"DusterRounds$Tape", "<init>", "()V"⟩ "DusterRounds") U ∧ va_Nw (.methodLinkNest "DusterRounds" 46 ⟨"DusterRounds$Sheet", "<init>", "()V"⟩ "DusterRounds") U ∧ va_AO "DusterRounds$Sheet" U
theorem zz_E.warm {z : zz_Z} {A : Nat → Prop} {s U : State} {H : Heap} (hW : s.WarmedH U.vm) (h : zz_E z A s H) : zz_E z A U H :=
  ⟨vk_S.moved hW.alike h.1, fun k hk => vk_R.warm hW (h.2.1 k hk), va_Z.moved hW.alike h.2.2.1, va_Zq.moved hW.alike h.2.2.2.1, va_Nw.warmM hW h.2.2.2.2.1, va_Nw.warmM hW h.2.2.2.2.2.1, va_AO.moved hW.alike h.2.2.2.2.2.2⟩
theorem zz_E.same {z : zz_Z} {A : Nat → Prop} {s U : State} {H : Heap} (hv : U.vm = s.vm) (h : zz_E z A s H) : zz_E z A U H := by
  have ha : s.vm.Alike U.vm := by rw [hv]; exact Vm.Alike.refl _
  exact ⟨vk_S.moved ha h.1, fun k hk => vk_R.same hv (h.2.1 k hk), va_Z.moved ha h.2.2.1, va_Zq.moved ha h.2.2.2.1, va_Nw.same rfl hv.symm h.2.2.2.2.1, va_Nw.same rfl hv.symm h.2.2.2.2.2.1, va_AO.moved ha h.2.2.2.2.2.2⟩
theorem zz_E.kept {z : zz_Z} {A : Nat → Prop} {U : State} {H H1 : Heap} (h : zz_E z A U H) (hq : ∀ a : Nat, a < H.size → ¬ A a → H1[a]? = H[a]?) : zz_E z A U H1 :=
  ⟨vk_S.kept h.1 hq, h.2.1, va_Z.kept h.2.2.1 hq, va_Zq.kept h.2.2.2.1 hq, h.2.2.2.2⟩
theorem zz_E.narrow {z : zz_Z} {A B : Nat → Prop} {U : State} {H : Heap} (h : zz_E z A U H) (hAB : ∀ q, B q → A q) : zz_E z B U H :=
  ⟨vk_S.narrow h.1 hAB, h.2.1, va_Z.narrow h.2.2.1 hAB, va_Zq.narrow h.2.2.2.1 hAB, h.2.2.2.2⟩
/-! the judgement -/
abbrev zz_X : Type := (Program × Env × Room × State) × (MethodId × Array Value × List Frame × Method × Code) × ((State → Prop) × (Nat → Prop) × Nat × Nat)
def zV (β : zz_B) (nL : Nat) (Γ : zz_X) (ws : va_W) (pc : Nat) (lv : List (Nat × Value)) (st : List Value) : Prop :=
  match Γ with
  | ((p, e, R, s), (m, args, below, meth, c), (Q, A, nc, ns)) => ∀ (H : Heap) (locs : List Loc) (ls : Array Slot), va_P β.2.1 vwCl ws H → va_D A ws → va_S A s.heap H locs → lv_has ls nL lv → W p β.1 e R s m args below meth c H locs nc ns Q (F0 m pc ls st)
def zG (β : zz_B) (nL : Nat) (Γ : zz_X) (cc : ByteArray) (own : String) (fr lo : Nat) : Prop :=
  match Γ with
  | ((p, _, R, s), (m, args, _, meth, c), (_, A, nc, ns)) => p.tables.exec = Jvm.exec ∧ c.code = cc ∧ c.maxLocals = nL ∧ s.vm.findClass own = some m.cls ∧ (∀ w ∈ zT, w.before args s = true) ∧ va_K β.2.1 vwCl (zz_tys β.2.2.1) s ∧ meth.locks = false ∧ (∀ q, s.heap.size ≤ q → A q) ∧ (fr ≤ R.frames ∧ lo ≤ R.locals) ∧ (nc ≤ R.cells ∧ ns ≤ R.slots) ∧ zz_E β.2 A s s.heap
def zQ (z : zz_Z) (post : Option Value → va_W → Prop) (A : Nat → Prop) : Array Value → State → Outcome → State → Prop := fun _ st oc t => (∃ (r : Option Value) (w : va_W), oc = .returned r ∧ post r w ∧ va_P z.1 vwCl w t.heap ∧ va_D A w) ∧ va_F A st t
def zR (β : zz_B) (Γ : zz_X) (ret : Option FieldType) (post : Option Value → va_W → Prop) : Prop :=
  match Γ with
  | ((_, _, _, s), (_, args, below, meth, _), (Q, A, nc, ns)) => Q = MQ below (zQ β.2 post A) args s nc ns A ∧ meth.sig.returnType = ret
def zPc (z : zz_Z) (av : List Value) (ws : va_W) (sz : Nat) : Array Value → State → Prop := va_Pc av (fun U => U.heap.size = sz ∧ va_P z.1 vwCl ws U.heap ∧ va_K z.1 vwCl (zz_tys z.2.1) U ∧ va_D (fun _ => True) ws ∧ zz_E z (va_A ws sz) U U.heap)
abbrev zrm (fr lo : Nat) : Room := { frames := fr, cells := 0, slots := 0, locals := lo }
def zC (β : zz_B) (y : MethodName) (b : ByteArray) (n : Nat) (ret : Option FieldType) (fr lo : Nat) (av : List Value) (ws : va_W) (post : Option Value → va_W → Prop) : Prop :=
  ∀ sz, Met β.1 y (.code y b n ret :: zT) (zrm fr lo) (zPc β.2 av ws sz) (zQ β.2 post (va_A ws sz)) 0 0 (va_A ws sz)
theorem zPc.blind {z : zz_Z} {av : List Value} {ws : va_W} {sz : Nat} : FrameBlind (zPc z av ws sz) := by
  intro a U g mk q
  obtain ⟨q0, q1, qP, qK, qD, qE⟩ := q
  exact ⟨q0, q1, qP, va_K.moved (u := U) (U := U.calling g mk a) (Vm.Alike.refl U.vm) qK, qD, zz_E.same (s := U) (U := U.calling g mk a) rfl qE⟩
/-- a contract out of a walk -/
theorem zC.of {β : zz_B} {y : MethodName} {b : ByteArray} {n : Nat} {ret : Option FieldType} {fr lo : Nat} {av : List Value} {ws : va_W} {post : Option Value → va_W → Prop} (hy : plainName y.cls = true) (hn : (lg_sl av).length ≤ n)
    (body : ∀ Γ, zG β n Γ b y.cls fr lo → zR β Γ ret post → zV β n Γ ws 0 (lv_args 0 av) []) : zC β y b n ret fr lo av ws post := by
  intro sz
  refine Met.ofW (cc := b) (maxL := n) (ret := ret) hy rfl ?_
  intro p e s m args below meth c s₁ B hml hv
  obtain ⟨rfl, hsz, hP, hK, hD0, hE⟩ := hv
  subst hsz
  have hts := atoms_spec (ws := .code y b n ret :: zT) B.pre
  have hown : s.vm.findClass y.cls = some m.cls := findClass_of_methodNamed B.named
  have hD := hD0.self (sz := s.heap.size)
  have hl := lv_entry av (n := n) hn
  rw [lg_entry_eq]
  exact body ((p, e, zrm fr lo, s), (m, av.toArray, below, meth, c), (MQ below (zQ β.2 post (va_A ws s.heap.size)) av.toArray s 0 0 (va_A ws s.heap.size), va_A ws s.heap.size, 0, 0))
    ⟨B.exec, B.bytes, hml, hown, fun w h => hts w (List.mem_cons_of_mem _ h), hK, B.notSynchronized, fun q h => Or.inr h, ⟨Nat.le_refl _, Nat.le_refl _⟩, ⟨Nat.le_refl _, Nat.le_refl _⟩, hE⟩ ⟨rfl, B.returns⟩ s.heap [] _ hP hD va_S.rf hl
end
section
section ZRows
variable {β : zz_B} {n : Nat} {Γ : zz_X} {cc : ByteArray} {own : String} {fr lo : Nat} {ws : va_W} {pc : Nat} {lv : List (Nat × Value)} {rest : List Value}
theorem zv_iconst {z : Int} {v : Int32} (g : zG β n Γ cc own fr lo) (hd : decode cc pc = .ok (.iconst z, 1)) (hv : Int32.ofInt z = v) (k : zV β n Γ ws (pc + 1) lv (.int v :: rest)) : zV β n Γ ws pc lv (rest) := by
  obtain ⟨⟨p, e, R, s⟩, ⟨m, args, below, meth, c⟩, ⟨Q, A, nc, ns⟩⟩ := Γ
  obtain ⟨hx, hb, hml, hown, hts, hK, hlk, hA, ⟨hfr, hlo⟩, ⟨hnc, hns⟩, hE⟩ := g
  intro H locs ls hP hD hS hl
  exact lv_iconst hx hb hd hv (k H locs ls hP hD hS hl)
theorem zv_bipush {z : Int} {v : Int32} (g : zG β n Γ cc own fr lo) (hd : decode cc pc = .ok (.bipush z, 2)) (hv : (Int8.ofInt z).toInt32 = v) (k : zV β n Γ ws (pc + 2) lv (.int v :: rest)) : zV β n Γ ws pc lv (rest) := by
  obtain ⟨⟨p, e, R, s⟩, ⟨m, args, below, meth, c⟩, ⟨Q, A, nc, ns⟩⟩ := Γ
  obtain ⟨hx, hb, hml, hown, hts, hK, hlk, hA, ⟨hfr, hlo⟩, ⟨hnc, hns⟩, hE⟩ := g
  intro H locs ls hP hD hS hl
  exact lv_bipush hx hb hd hv (k H locs ls hP hD hS hl)
theorem zv_sipush {z : Int} {v : Int32} (g : zG β n Γ cc own fr lo) (hd : decode cc pc = .ok (.sipush z, 3)) (hv : (Int16.ofInt z).toInt32 = v) (k : zV β n Γ ws (pc + 3) lv (.int v :: rest)) : zV β n Γ ws pc lv (rest) := by
  obtain ⟨⟨p, e, R, s⟩, ⟨m, args, below, meth, c⟩, ⟨Q, A, nc, ns⟩⟩ := Γ
  obtain ⟨hx, hb, hml, hown, hts, hK, hlk, hA, ⟨hfr, hlo⟩, ⟨hnc, hns⟩, hE⟩ := g
  intro H locs ls hP hD hS hl
  exact lv_sipush hx hb hd hv (k H locs ls hP hD hS hl)
theorem zv_lconst {z : Fin 2} {v : Int64} (g : zG β n Γ cc own fr lo) (hd : decode cc pc = .ok (.lconst z, 1)) (hv : Int64.ofNat (z : Nat) = v) (k : zV β n Γ ws (pc + 1) lv (.long v :: rest)) : zV β n Γ ws pc lv (rest) := by
  obtain ⟨⟨p, e, R, s⟩, ⟨m, args, below, meth, c⟩, ⟨Q, A, nc, ns⟩⟩ := Γ
  obtain ⟨hx, hb, hml, hown, hts, hK, hlk, hA, ⟨hfr, hlo⟩, ⟨hnc, hns⟩, hE⟩ := g
  intro H locs ls hP hD hS hl
  exact lv_lconst hx hb hd hv (k H locs ls hP hD hS hl)
theorem zv_iadd {x y : Int32} (g : zG β n Γ cc own fr lo) (hd : decode cc pc = .ok (.iadd, 1)) (k : zV β n Γ ws (pc + 1) lv (.int (x + y) :: rest)) : zV β n Γ ws pc lv (.int y :: .int x :: rest) := by
  obtain ⟨⟨p, e, R, s⟩, ⟨m, args, below, meth, c⟩, ⟨Q, A, nc, ns⟩⟩ := Γ
  obtain ⟨hx, hb, hml, hown, hts, hK, hlk, hA, ⟨hfr, hlo⟩, ⟨hnc, hns⟩, hE⟩ := g
  intro H locs ls hP hD hS hl
  exact lv_iadd hx hb hd (k H locs ls hP hD hS hl)
theorem zv_isub {x y : Int32} (g : zG β n Γ cc own fr lo) (hd : decode cc pc = .ok (.isub, 1)) (k : zV β n Γ ws (pc + 1) lv (.int (x - y) :: rest)) : zV β n Γ ws pc lv (.int y :: .int x :: rest) := by
  obtain ⟨⟨p, e, R, s⟩, ⟨m, args, below, meth, c⟩, ⟨Q, A, nc, ns⟩⟩ := Γ
  obtain ⟨hx, hb, hml, hown, hts, hK, hlk, hA, ⟨hfr, hlo⟩, ⟨hnc, hns⟩, hE⟩ := g
  intro H locs ls hP hD hS hl
  exact lv_isub hx hb hd (k H locs ls hP hD hS hl)
theorem zv_imul {x y : Int32} (g : zG β n Γ cc own fr lo) (hd : decode cc pc = .ok (.imul, 1)) (k : zV β n Γ ws (pc + 1) lv (.int (x * y) :: rest)) : zV β n Γ ws pc lv (.int y :: .int x :: rest) := by
  obtain ⟨⟨p, e, R, s⟩, ⟨m, args, below, meth, c⟩, ⟨Q, A, nc, ns⟩⟩ := Γ
  obtain ⟨hx, hb, hml, hown, hts, hK, hlk, hA, ⟨hfr, hlo⟩, ⟨hnc, hns⟩, hE⟩ := g
  intro H locs ls hP hD hS hl
  exact lv_imul hx hb hd (k H locs ls hP hD hS hl)
theorem zv_iand {x y : Int32} (g : zG β n Γ cc own fr lo) (hd : decode cc pc = .ok (.iand, 1)) (k : zV β n Γ ws (pc + 1) lv (.int (x &&& y) :: rest)) : zV β n Γ ws pc lv (.int y :: .int x :: rest) := by
  obtain ⟨⟨p, e, R, s⟩, ⟨m, args, below, meth, c⟩, ⟨Q, A, nc, ns⟩⟩ := Γ
  obtain ⟨hx, hb, hml, hown, hts, hK, hlk, hA, ⟨hfr, hlo⟩, ⟨hnc, hns⟩, hE⟩ := g
  intro H locs ls hP hD hS hl
  exact lv_iand hx hb hd (k H locs ls hP hD hS hl)
theorem zv_ior {x y : Int32} (g : zG β n Γ cc own fr lo) (hd : decode cc pc = .ok (.ior, 1)) (k : zV β n Γ ws (pc + 1) lv (.int (x ||| y) :: rest)) : zV β n Γ ws pc lv (.int y :: .int x :: rest) := by
  obtain ⟨⟨p, e, R, s⟩, ⟨m, args, below, meth, c⟩, ⟨Q, A, nc, ns⟩⟩ := Γ
  obtain ⟨hx, hb, hml, hown, hts, hK, hlk, hA, ⟨hfr, hlo⟩, ⟨hnc, hns⟩, hE⟩ := g
  intro H locs ls hP hD hS hl
  exact lv_ior hx hb hd (k H locs ls hP hD hS hl)
theorem zv_ixor {x y : Int32} (g : zG β n Γ cc own fr lo) (hd : decode cc pc = .ok (.ixor, 1)) (k : zV β n Γ ws (pc + 1) lv (.int (x ^^^ y) :: rest)) : zV β n Γ ws pc lv (.int y :: .int x :: rest) := by
  obtain ⟨⟨p, e, R, s⟩, ⟨m, args, below, meth, c⟩, ⟨Q, A, nc, ns⟩⟩ := Γ
  obtain ⟨hx, hb, hml, hown, hts, hK, hlk, hA, ⟨hfr, hlo⟩, ⟨hnc, hns⟩, hE⟩ := g
  intro H locs ls hP hD hS hl
  exact lv_ixor hx hb hd (k H locs ls hP hD hS hl)
theorem zv_ishl {x y : Int32} (g : zG β n Γ cc own fr lo) (hd : decode cc pc = .ok (.ishl, 1)) (k : zV β n Γ ws (pc + 1) lv (.int (x <<< (y &&& 31)) :: rest)) : zV β n Γ ws pc lv (.int y :: .int x :: rest) := by
  obtain ⟨⟨p, e, R, s⟩, ⟨m, args, below, meth, c⟩, ⟨Q, A, nc, ns⟩⟩ := Γ
  obtain ⟨hx, hb, hml, hown, hts, hK, hlk, hA, ⟨hfr, hlo⟩, ⟨hnc, hns⟩, hE⟩ := g
  intro H locs ls hP hD hS hl
  exact lv_ishl hx hb hd (k H locs ls hP hD hS hl)
theorem zv_ishr {x y : Int32} (g : zG β n Γ cc own fr lo) (hd : decode cc pc = .ok (.ishr, 1)) (k : zV β n Γ ws (pc + 1) lv (.int (x >>> (y &&& 31)) :: rest)) : zV β n Γ ws pc lv (.int y :: .int x :: rest) := by
  obtain ⟨⟨p, e, R, s⟩, ⟨m, args, below, meth, c⟩, ⟨Q, A, nc, ns⟩⟩ := Γ
  obtain ⟨hx, hb, hml, hown, hts, hK, hlk, hA, ⟨hfr, hlo⟩, ⟨hnc, hns⟩, hE⟩ := g
  intro H locs ls hP hD hS hl
  exact lv_ishr hx hb hd (k H locs ls hP hD hS hl)
theorem zv_idiv {x y : Int32} (g : zG β n Γ cc own fr lo) (hd : decode cc pc = .ok (.idiv, 1)) (hne : ¬ y = 0) (k : zV β n Γ ws (pc + 1) lv (.int (x / y) :: rest)) : zV β n Γ ws pc lv (.int y :: .int x :: rest) := by
  obtain ⟨⟨p, e, R, s⟩, ⟨m, args, below, meth, c⟩, ⟨Q, A, nc, ns⟩⟩ := Γ
  obtain ⟨hx, hb, hml, hown, hts, hK, hlk, hA, ⟨hfr, hlo⟩, ⟨hnc, hns⟩, hE⟩ := g
  intro H locs ls hP hD hS hl
  exact lv_idiv hx hb hd hne (k H locs ls hP hD hS hl)
theorem zv_irem {x y : Int32} (g : zG β n Γ cc own fr lo) (hd : decode cc pc = .ok (.irem, 1)) (hne : ¬ y = 0) (k : zV β n Γ ws (pc + 1) lv (.int (x - x / y * y) :: rest)) : zV β n Γ ws pc lv (.int y :: .int x :: rest) := by
  obtain ⟨⟨p, e, R, s⟩, ⟨m, args, below, meth, c⟩, ⟨Q, A, nc, ns⟩⟩ := Γ
  obtain ⟨hx, hb, hml, hown, hts, hK, hlk, hA, ⟨hfr, hlo⟩, ⟨hnc, hns⟩, hE⟩ := g
  intro H locs ls hP hD hS hl
  exact lv_irem hx hb hd hne (k H locs ls hP hD hS hl)
theorem zv_ladd {x y : Int64} (g : zG β n Γ cc own fr lo) (hd : decode cc pc = .ok (.ladd, 1)) (k : zV β n Γ ws (pc + 1) lv (.long (x + y) :: rest)) : zV β n Γ ws pc lv (.long y :: .long x :: rest) := by
  obtain ⟨⟨p, e, R, s⟩, ⟨m, args, below, meth, c⟩, ⟨Q, A, nc, ns⟩⟩ := Γ
  obtain ⟨hx, hb, hml, hown, hts, hK, hlk, hA, ⟨hfr, hlo⟩, ⟨hnc, hns⟩, hE⟩ := g
  intro H locs ls hP hD hS hl
  exact lv_ladd hx hb hd (k H locs ls hP hD hS hl)
theorem zv_lsub {x y : Int64} (g : zG β n Γ cc own fr lo) (hd : decode cc pc = .ok (.lsub, 1)) (k : zV β n Γ ws (pc + 1) lv (.long (x - y) :: rest)) : zV β n Γ ws pc lv (.long y :: .long x :: rest) := by
  obtain ⟨⟨p, e, R, s⟩, ⟨m, args, below, meth, c⟩, ⟨Q, A, nc, ns⟩⟩ := Γ
  obtain ⟨hx, hb, hml, hown, hts, hK, hlk, hA, ⟨hfr, hlo⟩, ⟨hnc, hns⟩, hE⟩ := g
  intro H locs ls hP hD hS hl
  exact lv_lsub hx hb hd (k H locs ls hP hD hS hl)
theorem zv_lmul {x y : Int64} (g : zG β n Γ cc own fr lo) (hd : decode cc pc = .ok (.lmul, 1)) (k : zV β n Γ ws (pc + 1) lv (.long (x * y) :: rest)) : zV β n Γ ws pc lv (.long y :: .long x :: rest) := by
  obtain ⟨⟨p, e, R, s⟩, ⟨m, args, below, meth, c⟩, ⟨Q, A, nc, ns⟩⟩ := Γ
  obtain ⟨hx, hb, hml, hown, hts, hK, hlk, hA, ⟨hfr, hlo⟩, ⟨hnc, hns⟩, hE⟩ := g
  intro H locs ls hP hD hS hl
  exact lv_lmul hx hb hd (k H locs ls hP hD hS hl)
theorem zv_land {x y : Int64} (g : zG β n Γ cc own fr lo) (hd : decode cc pc = .ok (.land, 1)) (k : zV β n Γ ws (pc + 1) lv (.long (x &&& y) :: rest)) : zV β n Γ ws pc lv (.long y :: .long x :: rest) := by
  obtain ⟨⟨p, e, R, s⟩, ⟨m, args, below, meth, c⟩, ⟨Q, A, nc, ns⟩⟩ := Γ
  obtain ⟨hx, hb, hml, hown, hts, hK, hlk, hA, ⟨hfr, hlo⟩, ⟨hnc, hns⟩, hE⟩ := g
  intro H locs ls hP hD hS hl
  exact lv_land hx hb hd (k H locs ls hP hD hS hl)
theorem zv_lor {x y : Int64} (g : zG β n Γ cc own fr lo) (hd : decode cc pc = .ok (.lor, 1)) (k : zV β n Γ ws (pc + 1) lv (.long (x ||| y) :: rest)) : zV β n Γ ws pc lv (.long y :: .long x :: rest) := by
  obtain ⟨⟨p, e, R, s⟩, ⟨m, args, below, meth, c⟩, ⟨Q, A, nc, ns⟩⟩ := Γ
  obtain ⟨hx, hb, hml, hown, hts, hK, hlk, hA, ⟨hfr, hlo⟩, ⟨hnc, hns⟩, hE⟩ := g
  intro H locs ls hP hD hS hl
  exact lv_lor hx hb hd (k H locs ls hP hD hS hl)
theorem zv_lcmp {x y : Int64} (g : zG β n Γ cc own fr lo) (hd : decode cc pc = .ok (.lcmp, 1)) (k : zV β n Γ ws (pc + 1) lv (.int (lg_cmp x y) :: rest)) : zV β n Γ ws pc lv (.long y :: .long x :: rest) := by
  obtain ⟨⟨p, e, R, s⟩, ⟨m, args, below, meth, c⟩, ⟨Q, A, nc, ns⟩⟩ := Γ
  obtain ⟨hx, hb, hml, hown, hts, hK, hlk, hA, ⟨hfr, hlo⟩, ⟨hnc, hns⟩, hE⟩ := g
  intro H locs ls hP hD hS hl
  exact W.lcmp hx hb hd (k H locs ls hP hD hS hl)
theorem zv_lshl {x : Int64} {y : Int32} (g : zG β n Γ cc own fr lo) (hd : decode cc pc = .ok (.lshl, 1)) (k : zV β n Γ ws (pc + 1) lv (.long (x <<< (y.toInt64 &&& 63)) :: rest)) : zV β n Γ ws pc lv (.int y :: .long x :: rest) := by
  obtain ⟨⟨p, e, R, s⟩, ⟨m, args, below, meth, c⟩, ⟨Q, A, nc, ns⟩⟩ := Γ
  obtain ⟨hx, hb, hml, hown, hts, hK, hlk, hA, ⟨hfr, hlo⟩, ⟨hnc, hns⟩, hE⟩ := g
  intro H locs ls hP hD hS hl
  exact lv_lshl hx hb hd rfl (k H locs ls hP hD hS hl)
theorem zv_lshr {x : Int64} {y : Int32} (g : zG β n Γ cc own fr lo) (hd : decode cc pc = .ok (.lshr, 1)) (k : zV β n Γ ws (pc + 1) lv (.long (x >>> (y.toInt64 &&& 63)) :: rest)) : zV β n Γ ws pc lv (.int y :: .long x :: rest) := by
  obtain ⟨⟨p, e, R, s⟩, ⟨m, args, below, meth, c⟩, ⟨Q, A, nc, ns⟩⟩ := Γ
  obtain ⟨hx, hb, hml, hown, hts, hK, hlk, hA, ⟨hfr, hlo⟩, ⟨hnc, hns⟩, hE⟩ := g
  intro H locs ls hP hD hS hl
  exact lv_lshr hx hb hd rfl (k H locs ls hP hD hS hl)
theorem zv_iushr {x y : Int32} (g : zG β n Γ cc own fr lo) (hd : decode cc pc = .ok (.iushr, 1)) (k : zV β n Γ ws (pc + 1) lv (.int (x.toUInt32 >>> (y.toUInt32 &&& Int32.toUInt32 31)).toInt32 :: rest)) : zV β n Γ ws pc lv (.int y :: .int x :: rest) := by
  obtain ⟨⟨p, e, R, s⟩, ⟨m, args, below, meth, c⟩, ⟨Q, A, nc, ns⟩⟩ := Γ
  obtain ⟨hx, hb, hml, hown, hts, hK, hlk, hA, ⟨hfr, hlo⟩, ⟨hnc, hns⟩, hE⟩ := g
  intro H locs ls hP hD hS hl
  exact lv_iushr hx hb hd rfl (k H locs ls hP hD hS hl)
theorem zv_i2l {x : Int32} (g : zG β n Γ cc own fr lo) (hd : decode cc pc = .ok (.i2l, 1)) (k : zV β n Γ ws (pc + 1) lv (.long x.toInt64 :: rest)) : zV β n Γ ws pc lv (.int x :: rest) := by
  obtain ⟨⟨p, e, R, s⟩, ⟨m, args, below, meth, c⟩, ⟨Q, A, nc, ns⟩⟩ := Γ
  obtain ⟨hx, hb, hml, hown, hts, hK, hlk, hA, ⟨hfr, hlo⟩, ⟨hnc, hns⟩, hE⟩ := g
  intro H locs ls hP hD hS hl
  exact lv_i2l hx hb hd rfl (k H locs ls hP hD hS hl)
theorem zv_l2i {x : Int64} (g : zG β n Γ cc own fr lo) (hd : decode cc pc = .ok (.l2i, 1)) (k : zV β n Γ ws (pc + 1) lv (.int x.toInt32 :: rest)) : zV β n Γ ws pc lv (.long x :: rest) := by
  obtain ⟨⟨p, e, R, s⟩, ⟨m, args, below, meth, c⟩, ⟨Q, A, nc, ns⟩⟩ := Γ
  obtain ⟨hx, hb, hml, hown, hts, hK, hlk, hA, ⟨hfr, hlo⟩, ⟨hnc, hns⟩, hE⟩ := g
  intro H locs ls hP hD hS hl
  exact lv_l2i hx hb hd rfl (k H locs ls hP hD hS hl)
theorem zv_i2b {x : Int32} (g : zG β n Γ cc own fr lo) (hd : decode cc pc = .ok (.i2b, 1)) (k : zV β n Γ ws (pc + 1) lv (.int x.toInt8.toInt32 :: rest)) : zV β n Γ ws pc lv (.int x :: rest) := by
  obtain ⟨⟨p, e, R, s⟩, ⟨m, args, below, meth, c⟩, ⟨Q, A, nc, ns⟩⟩ := Γ
  obtain ⟨hx, hb, hml, hown, hts, hK, hlk, hA, ⟨hfr, hlo⟩, ⟨hnc, hns⟩, hE⟩ := g
  intro H locs ls hP hD hS hl
  exact lv_i2b hx hb hd rfl (k H locs ls hP hD hS hl)
theorem zv_i2s {x : Int32} (g : zG β n Γ cc own fr lo) (hd : decode cc pc = .ok (.i2s, 1)) (k : zV β n Γ ws (pc + 1) lv (.int x.toInt16.toInt32 :: rest)) : zV β n Γ ws pc lv (.int x :: rest) := by
  obtain ⟨⟨p, e, R, s⟩, ⟨m, args, below, meth, c⟩, ⟨Q, A, nc, ns⟩⟩ := Γ
  obtain ⟨hx, hb, hml, hown, hts, hK, hlk, hA, ⟨hfr, hlo⟩, ⟨hnc, hns⟩, hE⟩ := g
  intro H locs ls hP hD hS hl
  exact lv_i2s hx hb hd rfl (k H locs ls hP hD hS hl)
theorem zv_i2c {x : Int32} (g : zG β n Γ cc own fr lo) (hd : decode cc pc = .ok (.i2c, 1)) (k : zV β n Γ ws (pc + 1) lv (.int (x.toUInt32 % 65536).toInt32 :: rest)) : zV β n Γ ws pc lv (.int x :: rest) := by
  obtain ⟨⟨p, e, R, s⟩, ⟨m, args, below, meth, c⟩, ⟨Q, A, nc, ns⟩⟩ := Γ
  obtain ⟨hx, hb, hml, hown, hts, hK, hlk, hA, ⟨hfr, hlo⟩, ⟨hnc, hns⟩, hE⟩ := g
  intro H locs ls hP hD hS hl
  exact lv_i2c hx hb hd rfl (k H locs ls hP hD hS hl)
theorem zv_dup {v : Value} (g : zG β n Γ cc own fr lo) (hd : decode cc pc = .ok (.dup, 1)) (hv : v.category = 1) (k : zV β n Γ ws (pc + 1) lv (v :: v :: rest)) : zV β n Γ ws pc lv (v :: rest) := by
  obtain ⟨⟨p, e, R, s⟩, ⟨m, args, below, meth, c⟩, ⟨Q, A, nc, ns⟩⟩ := Γ
  obtain ⟨hx, hb, hml, hown, hts, hK, hlk, hA, ⟨hfr, hlo⟩, ⟨hnc, hns⟩, hE⟩ := g
  intro H locs ls hP hD hS hl
  exact lv_dup hx hb hd hv (k H locs ls hP hD hS hl)
theorem zv_pop {v : Value} (g : zG β n Γ cc own fr lo) (hd : decode cc pc = .ok (.pop, 1)) (hv : v.category = 1) (k : zV β n Γ ws (pc + 1) lv (rest)) : zV β n Γ ws pc lv (v :: rest) := by
  obtain ⟨⟨p, e, R, s⟩, ⟨m, args, below, meth, c⟩, ⟨Q, A, nc, ns⟩⟩ := Γ
  obtain ⟨hx, hb, hml, hown, hts, hK, hlk, hA, ⟨hfr, hlo⟩, ⟨hnc, hns⟩, hE⟩ := g
  intro H locs ls hP hD hS hl
  exact lv_pop hx hb hd hv (k H locs ls hP hD hS hl)
theorem zv_dup2 {v u : Value} (g : zG β n Γ cc own fr lo) (hd : decode cc pc = .ok (.dup2, 1)) (hv : v.category = 1) (hu : u.category = 1) (k : zV β n Γ ws (pc + 1) lv (v :: u :: v :: u :: rest)) : zV β n Γ ws pc lv (v :: u :: rest) := by
  obtain ⟨⟨p, e, R, s⟩, ⟨m, args, below, meth, c⟩, ⟨Q, A, nc, ns⟩⟩ := Γ
  obtain ⟨hx, hb, hml, hown, hts, hK, hlk, hA, ⟨hfr, hlo⟩, ⟨hnc, hns⟩, hE⟩ := g
  intro H locs ls hP hD hS hl
  exact lv_dup2_11 hx hb hd hv hu (k H locs ls hP hD hS hl)
theorem zv_iload_n {i : Fin 4} {j : Nat} {x : Int32} (g : zG β n Γ cc own fr lo) (hd : decode cc pc = .ok (.iload_n i, 1)) (q : Nat) (hq : lv[q]? = some (j, .int x)) (hi : (i : Nat) = j) (k : zV β n Γ ws (pc + 1) lv (.int x :: rest)) : zV β n Γ ws pc lv rest := by
  obtain ⟨⟨p, e, R, s⟩, ⟨m, args, below, meth, c⟩, ⟨Q, A, nc, ns⟩⟩ := Γ
  obtain ⟨hx, hb, hml, hown, hts, hK, hlk, hA, ⟨hfr, hlo⟩, ⟨hnc, hns⟩, hE⟩ := g
  intro H locs ls hP hD hS hl
  exact lv_iload_n hx hb hd hi (lv_at hl q hq) (k H locs ls hP hD hS hl)
theorem zv_iload {j : Nat} {x : Int32} (g : zG β n Γ cc own fr lo) (hd : decode cc pc = .ok (.iload j, 2)) (q : Nat) (hq : lv[q]? = some (j, .int x)) (k : zV β n Γ ws (pc + 2) lv (.int x :: rest)) : zV β n Γ ws pc lv rest := by
  obtain ⟨⟨p, e, R, s⟩, ⟨m, args, below, meth, c⟩, ⟨Q, A, nc, ns⟩⟩ := Γ
  obtain ⟨hx, hb, hml, hown, hts, hK, hlk, hA, ⟨hfr, hlo⟩, ⟨hnc, hns⟩, hE⟩ := g
  intro H locs ls hP hD hS hl
  exact lv_iload hx hb hd (lv_at hl q hq) (k H locs ls hP hD hS hl)
theorem zv_lload_n {i : Fin 4} {j : Nat} {x : Int64} (g : zG β n Γ cc own fr lo) (hd : decode cc pc = .ok (.lload_n i, 1)) (q : Nat) (hq : lv[q]? = some (j, .long x)) (hi : (i : Nat) = j) (k : zV β n Γ ws (pc + 1) lv (.long x :: rest)) : zV β n Γ ws pc lv rest := by
  obtain ⟨⟨p, e, R, s⟩, ⟨m, args, below, meth, c⟩, ⟨Q, A, nc, ns⟩⟩ := Γ
  obtain ⟨hx, hb, hml, hown, hts, hK, hlk, hA, ⟨hfr, hlo⟩, ⟨hnc, hns⟩, hE⟩ := g
  intro H locs ls hP hD hS hl
  exact lv_lload_n hx hb hd hi (lv_at hl q hq) (k H locs ls hP hD hS hl)
theorem zv_lload {j : Nat} {x : Int64} (g : zG β n Γ cc own fr lo) (hd : decode cc pc = .ok (.lload j, 2)) (q : Nat) (hq : lv[q]? = some (j, .long x)) (k : zV β n Γ ws (pc + 2) lv (.long x :: rest)) : zV β n Γ ws pc lv rest := by
  obtain ⟨⟨p, e, R, s⟩, ⟨m, args, below, meth, c⟩, ⟨Q, A, nc, ns⟩⟩ := Γ
  obtain ⟨hx, hb, hml, hown, hts, hK, hlk, hA, ⟨hfr, hlo⟩, ⟨hnc, hns⟩, hE⟩ := g
  intro H locs ls hP hD hS hl
  exact lv_lload hx hb hd (lv_at hl q hq) (k H locs ls hP hD hS hl)
theorem zv_aload_n {i : Fin 4} {j : Nat} {x : Nat} (g : zG β n Γ cc own fr lo) (hd : decode cc pc = .ok (.aload_n i, 1)) (q : Nat) (hq : lv[q]? = some (j, .ref x)) (hi : (i : Nat) = j) (k : zV β n Γ ws (pc + 1) lv (.ref x :: rest)) : zV β n Γ ws pc lv rest := by
  obtain ⟨⟨p, e, R, s⟩, ⟨m, args, below, meth, c⟩, ⟨Q, A, nc, ns⟩⟩ := Γ
  obtain ⟨hx, hb, hml, hown, hts, hK, hlk, hA, ⟨hfr, hlo⟩, ⟨hnc, hns⟩, hE⟩ := g
  intro H locs ls hP hD hS hl
  exact lv_aload_n hx hb hd hi (lv_at hl q hq) (k H locs ls hP hD hS hl)
theorem zv_aload {j : Nat} {x : Nat} (g : zG β n Γ cc own fr lo) (hd : decode cc pc = .ok (.aload j, 2)) (q : Nat) (hq : lv[q]? = some (j, .ref x)) (k : zV β n Γ ws (pc + 2) lv (.ref x :: rest)) : zV β n Γ ws pc lv rest := by
  obtain ⟨⟨p, e, R, s⟩, ⟨m, args, below, meth, c⟩, ⟨Q, A, nc, ns⟩⟩ := Γ
  obtain ⟨hx, hb, hml, hown, hts, hK, hlk, hA, ⟨hfr, hlo⟩, ⟨hnc, hns⟩, hE⟩ := g
  intro H locs ls hP hD hS hl
  exact lv_aload hx hb hd (lv_at hl q hq) (k H locs ls hP hD hS hl)
theorem zv_istore_n {i : Fin 4} {x : Int32} (j : Nat) (lv2 : List (Nat × Value)) (g : zG β n Γ cc own fr lo) (hd : decode cc pc = .ok (.istore_n i, 1)) (hi : (i : Nat) = j) (hn : j < n) (hv : (j, Value.int x) :: lv.filter (fun q => !(q.1 == j) && !(q.1 + 1 == j && q.2.category == 2)) = lv2) (k : zV β n Γ ws (pc + 1) lv2 rest) : zV β n Γ ws pc lv (.int x :: rest) := by
  obtain ⟨⟨p, e, R, s⟩, ⟨m, args, below, meth, c⟩, ⟨Q, A, nc, ns⟩⟩ := Γ
  obtain ⟨hx, hb, hml, hown, hts, hK, hlk, hA, ⟨hfr, hlo⟩, ⟨hnc, hns⟩, hE⟩ := g
  intro H locs ls hP hD hS hl
  exact lv_istore_n hx hb hd hi hl hn hv (fun ls2 hl2 => k H locs ls2 hP hD hS hl2)
theorem zv_istore {x : Int32} {j : Nat} (lv2 : List (Nat × Value)) (g : zG β n Γ cc own fr lo) (hd : decode cc pc = .ok (.istore j, 2)) (hn : j < n) (hv : (j, Value.int x) :: lv.filter (fun q => !(q.1 == j) && !(q.1 + 1 == j && q.2.category == 2)) = lv2) (k : zV β n Γ ws (pc + 2) lv2 rest) : zV β n Γ ws pc lv (.int x :: rest) := by
  obtain ⟨⟨p, e, R, s⟩, ⟨m, args, below, meth, c⟩, ⟨Q, A, nc, ns⟩⟩ := Γ
  obtain ⟨hx, hb, hml, hown, hts, hK, hlk, hA, ⟨hfr, hlo⟩, ⟨hnc, hns⟩, hE⟩ := g
  intro H locs ls hP hD hS hl
  exact lv_istore hx hb hd hl hn hv (fun ls2 hl2 => k H locs ls2 hP hD hS hl2)
theorem zv_lstore_n {i : Fin 4} {x : Int64} (j : Nat) (lv2 : List (Nat × Value)) (g : zG β n Γ cc own fr lo) (hd : decode cc pc = .ok (.lstore_n i, 1)) (hi : (i : Nat) = j) (hn : j + 1 < n) (hv : (j, Value.long x) :: lv.filter (fun q => !(q.1 == j) && (!(q.1 == j + 1) && !(q.1 + 1 == j && q.2.category == 2))) = lv2) (k : zV β n Γ ws (pc + 1) lv2 rest) : zV β n Γ ws pc lv (.long x :: rest) := by
  obtain ⟨⟨p, e, R, s⟩, ⟨m, args, below, meth, c⟩, ⟨Q, A, nc, ns⟩⟩ := Γ
  obtain ⟨hx, hb, hml, hown, hts, hK, hlk, hA, ⟨hfr, hlo⟩, ⟨hnc, hns⟩, hE⟩ := g
  intro H locs ls hP hD hS hl
  exact lv_lstore_n hx hb hd hi hl hn hv (fun ls2 hl2 => k H locs ls2 hP hD hS hl2)
theorem zv_lstore {x : Int64} {j : Nat} (lv2 : List (Nat × Value)) (g : zG β n Γ cc own fr lo) (hd : decode cc pc = .ok (.lstore j, 2)) (hn : j + 1 < n) (hv : (j, Value.long x) :: lv.filter (fun q => !(q.1 == j) && (!(q.1 == j + 1) && !(q.1 + 1 == j && q.2.category == 2))) = lv2) (k : zV β n Γ ws (pc + 2) lv2 rest) : zV β n Γ ws pc lv (.long x :: rest) := by
  obtain ⟨⟨p, e, R, s⟩, ⟨m, args, below, meth, c⟩, ⟨Q, A, nc, ns⟩⟩ := Γ
  obtain ⟨hx, hb, hml, hown, hts, hK, hlk, hA, ⟨hfr, hlo⟩, ⟨hnc, hns⟩, hE⟩ := g
  intro H locs ls hP hD hS hl
  exact lv_lstore hx hb hd hl hn hv (fun ls2 hl2 => k H locs ls2 hP hD hS hl2)
theorem zv_astore_n {i : Fin 4} {x : Nat} (j : Nat) (lv2 : List (Nat × Value)) (g : zG β n Γ cc own fr lo) (hd : decode cc pc = .ok (.astore_n i, 1)) (hi : (i : Nat) = j) (hn : j < n) (hv : (j, Value.ref x) :: lv.filter (fun q => !(q.1 == j) && !(q.1 + 1 == j && q.2.category == 2)) = lv2) (k : zV β n Γ ws (pc + 1) lv2 rest) : zV β n Γ ws pc lv (.ref x :: rest) := by
  obtain ⟨⟨p, e, R, s⟩, ⟨m, args, below, meth, c⟩, ⟨Q, A, nc, ns⟩⟩ := Γ
  obtain ⟨hx, hb, hml, hown, hts, hK, hlk, hA, ⟨hfr, hlo⟩, ⟨hnc, hns⟩, hE⟩ := g
  intro H locs ls hP hD hS hl
  exact lv_astore_n hx hb hd hi hl hn hv (fun ls2 hl2 => k H locs ls2 hP hD hS hl2)
theorem zv_astore {x : Nat} {j : Nat} (lv2 : List (Nat × Value)) (g : zG β n Γ cc own fr lo) (hd : decode cc pc = .ok (.astore j, 2)) (hn : j < n) (hv : (j, Value.ref x) :: lv.filter (fun q => !(q.1 == j) && !(q.1 + 1 == j && q.2.category == 2)) = lv2) (k : zV β n Γ ws (pc + 2) lv2 rest) : zV β n Γ ws pc lv (.ref x :: rest) := by
  obtain ⟨⟨p, e, R, s⟩, ⟨m, args, below, meth, c⟩, ⟨Q, A, nc, ns⟩⟩ := Γ
  obtain ⟨hx, hb, hml, hown, hts, hK, hlk, hA, ⟨hfr, hlo⟩, ⟨hnc, hns⟩, hE⟩ := g
  intro H locs ls hP hD hS hl
  exact lv_astore hx hb hd hl hn hv (fun ls2 hl2 => k H locs ls2 hP hD hS hl2)
theorem zv_iinc {j : Nat} {z : Int} {x : Int32} (v : Int32) (lv2 : List (Nat × Value)) (g : zG β n Γ cc own fr lo) (hd : decode cc pc = .ok (.iinc j z, 3)) (q : Nat) (hq : lv[q]? = some (j, .int x)) (hz : Int32.ofInt z = v) (hn : j < n) (hv : (j, Value.int (x + v)) :: lv.filter (fun q => !(q.1 == j) && !(q.1 + 1 == j && q.2.category == 2)) = lv2) (k : zV β n Γ ws (pc + 3) lv2 rest) : zV β n Γ ws pc lv rest := by
  obtain ⟨⟨p, e, R, s⟩, ⟨m, args, below, meth, c⟩, ⟨Q, A, nc, ns⟩⟩ := Γ
  obtain ⟨hx, hb, hml, hown, hts, hK, hlk, hA, ⟨hfr, hlo⟩, ⟨hnc, hns⟩, hE⟩ := g
  intro H locs ls hP hD hS hl
  exact lv_iinc hx hb hd hl hq (by rw [hz]) hn hv (fun ls2 hl2 => k H locs ls2 hP hD hS hl2)
theorem zv_if_eq {x : Int32} (t : Nat) {z : Int} (g : zG β n Γ cc own fr lo) (hd : decode cc pc = .ok (.ifCond .eq z, 3)) (ht : (pc : Int) + z = (t : Int)) (kt : x = 0 → zV β n Γ ws t lv rest) (kf : ¬ x = 0 → zV β n Γ ws (pc + 3) lv rest) : zV β n Γ ws pc lv (.int x :: rest) := by
  obtain ⟨⟨p, e, R, s⟩, ⟨m, args, below, meth, c⟩, ⟨Q, A, nc, ns⟩⟩ := Γ
  obtain ⟨hx, hb, hml, hown, hts, hK, hlk, hA, ⟨hfr, hlo⟩, ⟨hnc, hns⟩, hE⟩ := g
  intro H locs ls hP hD hS hl
  exact lv_if_eq hx hb hd ht (fun h => kt h H locs ls hP hD hS hl) (fun h => kf h H locs ls hP hD hS hl)
theorem zv_icmp_eq {x y : Int32} (t : Nat) {z : Int} (g : zG β n Γ cc own fr lo) (hd : decode cc pc = .ok (.if_icmp .eq z, 3)) (ht : (pc : Int) + z = (t : Int)) (kt : x = y → zV β n Γ ws t lv rest) (kf : ¬ x = y → zV β n Γ ws (pc + 3) lv rest) : zV β n Γ ws pc lv (.int y :: .int x :: rest) := by
  obtain ⟨⟨p, e, R, s⟩, ⟨m, args, below, meth, c⟩, ⟨Q, A, nc, ns⟩⟩ := Γ
  obtain ⟨hx, hb, hml, hown, hts, hK, hlk, hA, ⟨hfr, hlo⟩, ⟨hnc, hns⟩, hE⟩ := g
  intro H locs ls hP hD hS hl
  exact lv_icmp_eq hx hb hd ht (fun h => kt h H locs ls hP hD hS hl) (fun h => kf h H locs ls hP hD hS hl)
theorem zv_if_ne {x : Int32} (t : Nat) {z : Int} (g : zG β n Γ cc own fr lo) (hd : decode cc pc = .ok (.ifCond .ne z, 3)) (ht : (pc : Int) + z = (t : Int)) (kt : ¬ x = 0 → zV β n Γ ws t lv rest) (kf : x = 0 → zV β n Γ ws (pc + 3) lv rest) : zV β n Γ ws pc lv (.int x :: rest) := by
  obtain ⟨⟨p, e, R, s⟩, ⟨m, args, below, meth, c⟩, ⟨Q, A, nc, ns⟩⟩ := Γ
  obtain ⟨hx, hb, hml, hown, hts, hK, hlk, hA, ⟨hfr, hlo⟩, ⟨hnc, hns⟩, hE⟩ := g
  intro H locs ls hP hD hS hl
  exact lv_if_ne hx hb hd ht (fun h => kt h H locs ls hP hD hS hl) (fun h => kf h H locs ls hP hD hS hl)
theorem zv_icmp_ne {x y : Int32} (t : Nat) {z : Int} (g : zG β n Γ cc own fr lo) (hd : decode cc pc = .ok (.if_icmp .ne z, 3)) (ht : (pc : Int) + z = (t : Int)) (kt : ¬ x = y → zV β n Γ ws t lv rest) (kf : x = y → zV β n Γ ws (pc + 3) lv rest) : zV β n Γ ws pc lv (.int y :: .int x :: rest) := by
  obtain ⟨⟨p, e, R, s⟩, ⟨m, args, below, meth, c⟩, ⟨Q, A, nc, ns⟩⟩ := Γ
  obtain ⟨hx, hb, hml, hown, hts, hK, hlk, hA, ⟨hfr, hlo⟩, ⟨hnc, hns⟩, hE⟩ := g
  intro H locs ls hP hD hS hl
  exact lv_icmp_ne hx hb hd ht (fun h => kt h H locs ls hP hD hS hl) (fun h => kf h H locs ls hP hD hS hl)
theorem zv_if_lt {x : Int32} (t : Nat) {z : Int} (g : zG β n Γ cc own fr lo) (hd : decode cc pc = .ok (.ifCond .lt z, 3)) (ht : (pc : Int) + z = (t : Int)) (kt : x < 0 → zV β n Γ ws t lv rest) (kf : ¬ x < 0 → zV β n Γ ws (pc + 3) lv rest) : zV β n Γ ws pc lv (.int x :: rest) := by
  obtain ⟨⟨p, e, R, s⟩, ⟨m, args, below, meth, c⟩, ⟨Q, A, nc, ns⟩⟩ := Γ
  obtain ⟨hx, hb, hml, hown, hts, hK, hlk, hA, ⟨hfr, hlo⟩, ⟨hnc, hns⟩, hE⟩ := g
  intro H locs ls hP hD hS hl
  exact lv_if_lt hx hb hd ht (fun h => kt h H locs ls hP hD hS hl) (fun h => kf h H locs ls hP hD hS hl)
theorem zv_icmp_lt {x y : Int32} (t : Nat) {z : Int} (g : zG β n Γ cc own fr lo) (hd : decode cc pc = .ok (.if_icmp .lt z, 3)) (ht : (pc : Int) + z = (t : Int)) (kt : x < y → zV β n Γ ws t lv rest) (kf : ¬ x < y → zV β n Γ ws (pc + 3) lv rest) : zV β n Γ ws pc lv (.int y :: .int x :: rest) := by
  obtain ⟨⟨p, e, R, s⟩, ⟨m, args, below, meth, c⟩, ⟨Q, A, nc, ns⟩⟩ := Γ
  obtain ⟨hx, hb, hml, hown, hts, hK, hlk, hA, ⟨hfr, hlo⟩, ⟨hnc, hns⟩, hE⟩ := g
  intro H locs ls hP hD hS hl
  exact lv_icmp_lt hx hb hd ht (fun h => kt h H locs ls hP hD hS hl) (fun h => kf h H locs ls hP hD hS hl)
theorem zv_if_ge {x : Int32} (t : Nat) {z : Int} (g : zG β n Γ cc own fr lo) (hd : decode cc pc = .ok (.ifCond .ge z, 3)) (ht : (pc : Int) + z = (t : Int)) (kt : 0 ≤ x → zV β n Γ ws t lv rest) (kf : ¬ 0 ≤ x → zV β n Γ ws (pc + 3) lv rest) : zV β n Γ ws pc lv (.int x :: rest) := by
  obtain ⟨⟨p, e, R, s⟩, ⟨m, args, below, meth, c⟩, ⟨Q, A, nc, ns⟩⟩ := Γ
  obtain ⟨hx, hb, hml, hown, hts, hK, hlk, hA, ⟨hfr, hlo⟩, ⟨hnc, hns⟩, hE⟩ := g
  intro H locs ls hP hD hS hl
  exact lv_if_ge hx hb hd ht (fun h => kt h H locs ls hP hD hS hl) (fun h => kf h H locs ls hP hD hS hl)
theorem zv_icmp_ge {x y : Int32} (t : Nat) {z : Int} (g : zG β n Γ cc own fr lo) (hd : decode cc pc = .ok (.if_icmp .ge z, 3)) (ht : (pc : Int) + z = (t : Int)) (kt : y ≤ x → zV β n Γ ws t lv rest) (kf : ¬ y ≤ x → zV β n Γ ws (pc + 3) lv rest) : zV β n Γ ws pc lv (.int y :: .int x :: rest) := by
  obtain ⟨⟨p, e, R, s⟩, ⟨m, args, below, meth, c⟩, ⟨Q, A, nc, ns⟩⟩ := Γ
  obtain ⟨hx, hb, hml, hown, hts, hK, hlk, hA, ⟨hfr, hlo⟩, ⟨hnc, hns⟩, hE⟩ := g
  intro H locs ls hP hD hS hl
  exact lv_icmp_ge hx hb hd ht (fun h => kt h H locs ls hP hD hS hl) (fun h => kf h H locs ls hP hD hS hl)
theorem zv_if_gt {x : Int32} (t : Nat) {z : Int} (g : zG β n Γ cc own fr lo) (hd : decode cc pc = .ok (.ifCond .gt z, 3)) (ht : (pc : Int) + z = (t : Int)) (kt : 0 < x → zV β n Γ ws t lv rest) (kf : ¬ 0 < x → zV β n Γ ws (pc + 3) lv rest) : zV β n Γ ws pc lv (.int x :: rest) := by
  obtain ⟨⟨p, e, R, s⟩, ⟨m, args, below, meth, c⟩, ⟨Q, A, nc, ns⟩⟩ := Γ
  obtain ⟨hx, hb, hml, hown, hts, hK, hlk, hA, ⟨hfr, hlo⟩, ⟨hnc, hns⟩, hE⟩ := g
  intro H locs ls hP hD hS hl
  exact lv_if_gt hx hb hd ht (fun h => kt h H locs ls hP hD hS hl) (fun h => kf h H locs ls hP hD hS hl)
theorem zv_icmp_gt {x y : Int32} (t : Nat) {z : Int} (g : zG β n Γ cc own fr lo) (hd : decode cc pc = .ok (.if_icmp .gt z, 3)) (ht : (pc : Int) + z = (t : Int)) (kt : y < x → zV β n Γ ws t lv rest) (kf : ¬ y < x → zV β n Γ ws (pc + 3) lv rest) : zV β n Γ ws pc lv (.int y :: .int x :: rest) := by
  obtain ⟨⟨p, e, R, s⟩, ⟨m, args, below, meth, c⟩, ⟨Q, A, nc, ns⟩⟩ := Γ
  obtain ⟨hx, hb, hml, hown, hts, hK, hlk, hA, ⟨hfr, hlo⟩, ⟨hnc, hns⟩, hE⟩ := g
  intro H locs ls hP hD hS hl
  exact lv_icmp_gt hx hb hd ht (fun h => kt h H locs ls hP hD hS hl) (fun h => kf h H locs ls hP hD hS hl)
theorem zv_if_le {x : Int32} (t : Nat) {z : Int} (g : zG β n Γ cc own fr lo) (hd : decode cc pc = .ok (.ifCond .le z, 3)) (ht : (pc : Int) + z = (t : Int)) (kt : x ≤ 0 → zV β n Γ ws t lv rest) (kf : ¬ x ≤ 0 → zV β n Γ ws (pc + 3) lv rest) : zV β n Γ ws pc lv (.int x :: rest) := by
  obtain ⟨⟨p, e, R, s⟩, ⟨m, args, below, meth, c⟩, ⟨Q, A, nc, ns⟩⟩ := Γ
  obtain ⟨hx, hb, hml, hown, hts, hK, hlk, hA, ⟨hfr, hlo⟩, ⟨hnc, hns⟩, hE⟩ := g
  intro H locs ls hP hD hS hl
  exact lv_if_le hx hb hd ht (fun h => kt h H locs ls hP hD hS hl) (fun h => kf h H locs ls hP hD hS hl)
theorem zv_icmp_le {x y : Int32} (t : Nat) {z : Int} (g : zG β n Γ cc own fr lo) (hd : decode cc pc = .ok (.if_icmp .le z, 3)) (ht : (pc : Int) + z = (t : Int)) (kt : x ≤ y → zV β n Γ ws t lv rest) (kf : ¬ x ≤ y → zV β n Γ ws (pc + 3) lv rest) : zV β n Γ ws pc lv (.int y :: .int x :: rest) := by
  obtain ⟨⟨p, e, R, s⟩, ⟨m, args, below, meth, c⟩, ⟨Q, A, nc, ns⟩⟩ := Γ
  obtain ⟨hx, hb, hml, hown, hts, hK, hlk, hA, ⟨hfr, hlo⟩, ⟨hnc, hns⟩, hE⟩ := g
  intro H locs ls hP hD hS hl
  exact lv_icmp_le hx hb hd ht (fun h => kt h H locs ls hP hD hS hl) (fun h => kf h H locs ls hP hD hS hl)
theorem zv_tblIn {x : Int32} (k0 : Int32) (t : Nat) {dflt lo0 hi0 off : Int} {offs : Array Int} {len : Nat} (g : zG β n Γ cc own fr lo) (hd : decode cc pc = .ok (.tableswitch dflt lo0 hi0 offs, len)) (hxk : x = k0) (h1 : ¬ k0.toInt < lo0) (h2 : ¬ hi0 < k0.toInt) (ho : offs[(k0.toInt - lo0).toNat]? = some off) (ht : (pc : Int) + off = (t : Int)) (k : zV β n Γ ws t lv rest) : zV β n Γ ws pc lv (.int x :: rest) := by
  subst hxk
  obtain ⟨⟨p, e, R, s⟩, ⟨m, args, below, meth, c⟩, ⟨Q, A, nc, ns⟩⟩ := Γ
  obtain ⟨hx, hb, hml, hown, hts, hK, hlk, hA, ⟨hfr, hlo⟩, ⟨hnc, hns⟩, hE⟩ := g
  intro H locs ls hP hD hS hl
  exact lv_tableIn hx hb hd h1 h2 ho ht (k H locs ls hP hD hS hl)
theorem zv_tblOut {x : Int32} (t : Nat) {dflt lo0 hi0 : Int} {offs : Array Int} {len : Nat} (g : zG β n Γ cc own fr lo) (hd : decode cc pc = .ok (.tableswitch dflt lo0 hi0 offs, len)) (h : x.toInt < lo0 ∨ hi0 < x.toInt) (ht : (pc : Int) + dflt = (t : Int)) (k : zV β n Γ ws t lv rest) : zV β n Γ ws pc lv (.int x :: rest) := by
  obtain ⟨⟨p, e, R, s⟩, ⟨m, args, below, meth, c⟩, ⟨Q, A, nc, ns⟩⟩ := Γ
  obtain ⟨hx, hb, hml, hown, hts, hK, hlk, hA, ⟨hfr, hlo⟩, ⟨hnc, hns⟩, hE⟩ := g
  intro H locs ls hP hD hS hl
  exact lv_tableOut hx hb hd h ht (k H locs ls hP hD hS hl)
theorem zv_lkp {x : Int32} (t : Nat) {dflt off : Int} {ps : Array (Int × Int)} {len : Nat} (g : zG β n Γ cc own fr lo) (hd : decode cc pc = .ok (.lookupswitch dflt ps, len)) (hp : (ps.toList.zip (ps.toList.drop 1)).all (fun (a, next) => a.1 < next.1) = true) (ho : Op.lookupswitch.offset ps.toList dflt x.toInt = off) (ht : (pc : Int) + off = (t : Int)) (k : zV β n Γ ws t lv rest) : zV β n Γ ws pc lv (.int x :: rest) := by
  obtain ⟨⟨p, e, R, s⟩, ⟨m, args, below, meth, c⟩, ⟨Q, A, nc, ns⟩⟩ := Γ
  obtain ⟨hx, hb, hml, hown, hts, hK, hlk, hA, ⟨hfr, hlo⟩, ⟨hnc, hns⟩, hE⟩ := g
  intro H locs ls hP hD hS hl
  exact lv_lookup hx hb hd hp ho ht (k H locs ls hP hD hS hl)
theorem zv_goto (t : Nat) (g : zG β n Γ cc own fr lo) {z : Int} (hd : decode cc pc = .ok (.goto z, 3)) (ht : (pc : Int) + z = (t : Int)) (k : zV β n Γ ws t lv rest) : zV β n Γ ws pc lv rest := by
  obtain ⟨⟨p, e, R, s⟩, ⟨m, args, below, meth, c⟩, ⟨Q, A, nc, ns⟩⟩ := Γ
  obtain ⟨hx, hb, hml, hown, hts, hK, hlk, hA, ⟨hfr, hlo⟩, ⟨hnc, hns⟩, hE⟩ := g
  intro H locs ls hP hD hS hl
  exact lv_goto hx hb hd ht (k H locs ls hP hD hS hl)
theorem zv_ldc {i : Nat} {v : Int32} (g : zG β n Γ cc own fr lo) (hw : Cond.constant own i v ∈ zT) (hd : decode cc pc = .ok (.ldc i, 2)) (k : zV β n Γ ws (pc + 2) lv (.int v :: rest)) : zV β n Γ ws pc lv rest := by
  obtain ⟨⟨p, e, R, s⟩, ⟨m, args, below, meth, c⟩, ⟨Q, A, nc, ns⟩⟩ := Γ
  obtain ⟨hx, hb, hml, hown, hts, hK, hlk, hA, ⟨hfr, hlo⟩, ⟨hnc, hns⟩, hE⟩ := g
  intro H locs ls hP hD hS hl
  exact lv_ldc hx hb hown (hts _ hw) hd (k H locs ls hP hD hS hl)
theorem zv_ldcw {i : Nat} {v : Int32} (g : zG β n Γ cc own fr lo) (hw : Cond.constant own i v ∈ zT) (hd : decode cc pc = .ok (.ldc_w i, 3)) (k : zV β n Γ ws (pc + 3) lv (.int v :: rest)) : zV β n Γ ws pc lv rest := by
  obtain ⟨⟨p, e, R, s⟩, ⟨m, args, below, meth, c⟩, ⟨Q, A, nc, ns⟩⟩ := Γ
  obtain ⟨hx, hb, hml, hown, hts, hK, hlk, hA, ⟨hfr, hlo⟩, ⟨hnc, hns⟩, hE⟩ := g
  intro H locs ls hP hD hS hl
  exact lv_ldcw hx hb hown (hts _ hw) hd (k H locs ls hP hD hS hl)
theorem zv_ldc2 {i : Nat} {v : Int64} (g : zG β n Γ cc own fr lo) (hw : Cond.constantLong own i v ∈ zT) (hd : decode cc pc = .ok (.ldc2_w i, 3)) (k : zV β n Γ ws (pc + 3) lv (.long v :: rest)) : zV β n Γ ws pc lv rest := by
  obtain ⟨⟨p, e, R, s⟩, ⟨m, args, below, meth, c⟩, ⟨Q, A, nc, ns⟩⟩ := Γ
  obtain ⟨hx, hb, hml, hown, hts, hK, hlk, hA, ⟨hfr, hlo⟩, ⟨hnc, hns⟩, hE⟩ := g
  intro H locs ls hP hD hS hl
  exact lv_ldc2 hx hb hown (hts _ hw) hd (k H locs ls hP hD hS hl)
theorem zv_topi {x : Int32} (k : ∀ y : Int32, y = x → zV β n Γ ws pc lv (.int y :: rest)) : zV β n Γ ws pc lv (.int x :: rest) := k x rfl
theorem zv_topl {x : Int64} (k : ∀ y : Int64, y = x → zV β n Γ ws pc lv (.long y :: rest)) : zV β n Γ ws pc lv (.long x :: rest) := k x rfl
theorem zv_sub (ks : List Nat) {lv2 : List (Nat × Value)} (hk : lv_pick lv ks = lv2) (k : zV β n Γ ws pc lv2 rest) : zV β n Γ ws pc lv rest := by
  obtain ⟨⟨p, e, R, s⟩, ⟨m, args, below, meth, c⟩, ⟨Q, A, nc, ns⟩⟩ := Γ
  intro H locs ls hP hD hS hl
  exact k H locs ls hP hD hS (lv_sub hl ks hk)
theorem zv_perm {ws2 : va_W} (hp : ws.Perm ws2) (k : zV β n Γ ws2 pc lv rest) : zV β n Γ ws pc lv rest := by
  obtain ⟨⟨p, e, R, s⟩, ⟨m, args, below, meth, c⟩, ⟨Q, A, nc, ns⟩⟩ := Γ
  intro H locs ls hP hD hS hl
  exact k H locs ls (zz_Pp hp hP) (zz_Dp hp hD) hS hl
/-- a field that class own names by i: field k of class ci -/
def zz_FL (own : String) (i ci k : Nat) (C : String) (T : u_T) (N : Nat) : Prop := (∀ w ∈ u_ws C T N, w ∈ zT) ∧ vwCl[ci]? = some (C, T, N) ∧ k < N ∧ Cond.fieldLink own i (T k).1 (T k).2.1 (T k).2.2.1 ∈ zT
def zz_FP (own : String) (i ci k : Nat) (C : String) (T : u_T) (N : Nat) (ty : Nat → FieldType) : Prop := zz_FL own i ci k C T N ∧ (∀ k, k < N → parseFieldDescriptor (T k).2.2.1 = some (ty k)) ∧ (∀ a, a < N → ∀ b, b < N → a ≠ b → (T a).2.1 ≠ (T b).2.1) ∧ (T k).2.2.2 = false
theorem zv_get {C : String} {T : u_T} {N i ci k a : Nat} {fs : List Value} {v : Value} (g : zG β n Γ cc own fr lo) (hF : zz_FL own i ci k C T N) (q : Nat) (he : ws[q]? = some (a, .inr (ci, fs))) (hv : fs[k]? = some v) (hd : decode cc pc = .ok (.getfield i, 3)) (kk : zV β n Γ ws (pc + 3) lv (v :: rest)) : zV β n Γ ws pc lv (.ref a :: rest) := by
  obtain ⟨⟨p, e, R, s⟩, ⟨m, args, below, meth, c⟩, ⟨Q, A, nc, ns⟩⟩ := Γ
  obtain ⟨hx, hb, hml, hown, hts, hK, hlk, hA, ⟨hfr, hlo⟩, ⟨hnc, hns⟩, hE⟩ := g
  intro H locs ls hP hD hS hl
  exact va_get (D := β.2.1) (cl := vwCl) hx hb hts hF.1 hown hK hP q he hF.2.1 k hF.2.2.1 (hts _ hF.2.2.2) (fun _ h9 => h9) hv hd (kk H locs ls hP hD hS hl)
theorem zv_put {C : String} {T : u_T} {N i ci k a : Nat} {ty : Nat → FieldType} {fs : List Value} {v : Value} (ws2 : va_W) (g : zG β n Γ cc own fr lo) (hF : zz_FP own i ci k C T N ty) (q : Nat) (he : ws[q]? = some (a, .inr (ci, fs))) (hn : narrow (ty k) v = v) (hfit : fits (ty k) v = true) (hl0 : k < fs.length) (hw : ws.set q (a, .inr (ci, fs.set k v)) = ws2) (hd : decode cc pc = .ok (.putfield i, 3)) (kk : zV β n Γ ws2 (pc + 3) lv rest) : zV β n Γ ws pc lv (v :: .ref a :: rest) := by
  obtain ⟨⟨p, e, R, s⟩, ⟨m, args, below, meth, c⟩, ⟨Q, A, nc, ns⟩⟩ := Γ
  obtain ⟨hx, hb, hml, hown, hts, hK, hlk, hA, ⟨hfr, hlo⟩, ⟨hnc, hns⟩, hE⟩ := g
  intro H locs ls hP hD hS hl
  exact va_put (D := β.2.1) (cl := vwCl) hx hb hts hF.1.1 ty hF.2.1 hF.2.2.1 hown hK hP hD hS q he hF.1.2.1 k hF.1.2.2.1 (hts _ hF.1.2.2.2) (fun _ h9 => h9) hF.2.2.2 (hF.2.1 k hF.1.2.2.1) hn hfit hl0 hd (fun H1 locs1 hP1 hD1 hS1 => kk H1 locs1 ls (hw ▸ hP1) (hw ▸ hD1) hS1 hl)
theorem zv_iald {a N : Nat} {f : Nat → Int32} {i : Int32} (g : zG β n Γ cc own fr lo) (q : Nat) (ha : ws[q]? = some (a, .inl (β.2.2.1.1, N, .inl f))) (hin : vp_in i N) (hd : decode cc pc = .ok (.iaload, 1)) (k : zV β n Γ ws (pc + 1) lv (.int (f i.toNatClampNeg) :: rest)) : zV β n Γ ws pc lv (.int i :: .ref a :: rest) := by
  obtain ⟨⟨p, e, R, s⟩, ⟨m, args, below, meth, c⟩, ⟨Q, A, nc, ns⟩⟩ := Γ
  obtain ⟨hx, hb, hml, hown, hts, hK, hlk, hA, ⟨hfr, hlo⟩, ⟨hnc, hns⟩, hE⟩ := g
  intro H locs ls hP hD hS hl
  exact va_iald (D := β.2.1) (cl := vwCl) hx hb hK hP q 0 ha rfl hin hd (k H locs ls hP hD hS hl)
theorem zv_ials {a N : Nat} {f : Nat → Int32} {i : Int32} {x : Int32} (ws2 : va_W) (g : zG β n Γ cc own fr lo) (q : Nat) (ha : ws[q]? = some (a, .inl (β.2.2.1.1, N, .inl f))) (hin : vp_in i N) (hw : ws.set q (a, .inl (β.2.2.1.1, N, .inl (upd f i.toNatClampNeg x))) = ws2) (hd : decode cc pc = .ok (.iastore, 1)) (k : zV β n Γ ws2 (pc + 1) lv rest) : zV β n Γ ws pc lv (.int x :: .int i :: .ref a :: rest) := by
  obtain ⟨⟨p, e, R, s⟩, ⟨m, args, below, meth, c⟩, ⟨Q, A, nc, ns⟩⟩ := Γ
  obtain ⟨hx, hb, hml, hown, hts, hK, hlk, hA, ⟨hfr, hlo⟩, ⟨hnc, hns⟩, hE⟩ := g
  intro H locs ls hP hD hS hl
  exact va_iast (D := β.2.1) (cl := vwCl) hx hb hK hP hD hS q 0 ha rfl hin hd (fun H1 locs1 hP1 hD1 hS1 => k H1 locs1 ls (hw ▸ hP1) (hw ▸ hD1) hS1 hl)
theorem zv_lald {a N : Nat} {f : Nat → Int64} {i : Int32} (g : zG β n Γ cc own fr lo) (q : Nat) (ha : ws[q]? = some (a, .inl (β.2.2.1.2.1, N, .inr (.inl f)))) (hin : vp_in i N) (hd : decode cc pc = .ok (.laload, 1)) (k : zV β n Γ ws (pc + 1) lv (.long (f i.toNatClampNeg) :: rest)) : zV β n Γ ws pc lv (.int i :: .ref a :: rest) := by
  obtain ⟨⟨p, e, R, s⟩, ⟨m, args, below, meth, c⟩, ⟨Q, A, nc, ns⟩⟩ := Γ
  obtain ⟨hx, hb, hml, hown, hts, hK, hlk, hA, ⟨hfr, hlo⟩, ⟨hnc, hns⟩, hE⟩ := g
  intro H locs ls hP hD hS hl
  exact va_lald (D := β.2.1) (cl := vwCl) hx hb hK hP q 1 ha rfl hin hd (k H locs ls hP hD hS hl)
theorem zv_lals {a N : Nat} {f : Nat → Int64} {i : Int32} {x : Int64} (ws2 : va_W) (g : zG β n Γ cc own fr lo) (q : Nat) (ha : ws[q]? = some (a, .inl (β.2.2.1.2.1, N, .inr (.inl f)))) (hin : vp_in i N) (hw : ws.set q (a, .inl (β.2.2.1.2.1, N, .inr (.inl (vp_updL f i.toNatClampNeg x)))) = ws2) (hd : decode cc pc = .ok (.lastore, 1)) (k : zV β n Γ ws2 (pc + 1) lv rest) : zV β n Γ ws pc lv (.long x :: .int i :: .ref a :: rest) := by
  obtain ⟨⟨p, e, R, s⟩, ⟨m, args, below, meth, c⟩, ⟨Q, A, nc, ns⟩⟩ := Γ
  obtain ⟨hx, hb, hml, hown, hts, hK, hlk, hA, ⟨hfr, hlo⟩, ⟨hnc, hns⟩, hE⟩ := g
  intro H locs ls hP hD hS hl
  exact va_last (D := β.2.1) (cl := vwCl) hx hb hK hP hD hS q 1 ha rfl hin hd (fun H1 locs1 hP1 hD1 hS1 => k H1 locs1 ls (hw ▸ hP1) (hw ▸ hD1) hS1 hl)
theorem zv_aald {a N : Nat} {f : Nat → Option Nat} {i : Int32} (g : zG β n Γ cc own fr lo) (q : Nat) (ha : ws[q]? = some (a, .inl (β.2.2.1.2.2, N, .inr (.inr (.inr (.inr f)))))) (hin : vp_in i N) (hd : decode cc pc = .ok (.aaload, 1)) (k : zV β n Γ ws (pc + 1) lv (va_rf (f i.toNatClampNeg) :: rest)) : zV β n Γ ws pc lv (.int i :: .ref a :: rest) := by
  obtain ⟨⟨p, e, R, s⟩, ⟨m, args, below, meth, c⟩, ⟨Q, A, nc, ns⟩⟩ := Γ
  obtain ⟨hx, hb, hml, hown, hts, hK, hlk, hA, ⟨hfr, hlo⟩, ⟨hnc, hns⟩, hE⟩ := g
  intro H locs ls hP hD hS hl
  exact va_aldq (D := β.2.1) (cl := vwCl) (C := "DusterRounds$Sheet") hx hb hK hP q 2 ha rfl hin hd (k H locs ls hP hD hS hl)
theorem zv_ifnull {x : Nat} {z : Int} (g : zG β n Γ cc own fr lo) (hd : decode cc pc = .ok (.ifnull z, 3)) (k : zV β n Γ ws (pc + 3) lv rest) : zV β n Γ ws pc lv (.ref x :: rest) := by
  obtain ⟨⟨p, e, R, s⟩, ⟨m, args, below, meth, c⟩, ⟨Q, A, nc, ns⟩⟩ := Γ
  obtain ⟨hx, hb, hml, hown, hts, hK, hlk, hA, ⟨hfr, hlo⟩, ⟨hnc, hns⟩, hE⟩ := g
  intro H locs ls hP hD hS hl
  exact lv_ifnull hx hb hd (k H locs ls hP hD hS hl)
theorem zv_ifnullN (t : Nat) {z : Int} (g : zG β n Γ cc own fr lo) (hd : decode cc pc = .ok (.ifnull z, 3)) (ht : (pc : Int) + z = (t : Int)) (k : zV β n Γ ws t lv rest) : zV β n Γ ws pc lv (.null :: rest) := by
  obtain ⟨⟨p, e, R, s⟩, ⟨m, args, below, meth, c⟩, ⟨Q, A, nc, ns⟩⟩ := Γ
  obtain ⟨hx, hb, hml, hown, hts, hK, hlk, hA, ⟨hfr, hlo⟩, ⟨hnc, hns⟩, hE⟩ := g
  intro H locs ls hP hD hS hl
  exact lv_ifnullN hx hb hd ht (k H locs ls hP hD hS hl)
theorem zv_ifnonnull (t : Nat) {x : Nat} {z : Int} (g : zG β n Γ cc own fr lo) (hd : decode cc pc = .ok (.ifnonnull z, 3)) (ht : (pc : Int) + z = (t : Int)) (k : zV β n Γ ws t lv rest) : zV β n Γ ws pc lv (.ref x :: rest) := by
  obtain ⟨⟨p, e, R, s⟩, ⟨m, args, below, meth, c⟩, ⟨Q, A, nc, ns⟩⟩ := Γ
  obtain ⟨hx, hb, hml, hown, hts, hK, hlk, hA, ⟨hfr, hlo⟩, ⟨hnc, hns⟩, hE⟩ := g
  intro H locs ls hP hD hS hl
  exact lv_ifnonnull hx hb hd ht (k H locs ls hP hD hS hl)
theorem zv_ifnonnullN {z : Int} (g : zG β n Γ cc own fr lo) (hd : decode cc pc = .ok (.ifnonnull z, 3)) (k : zV β n Γ ws (pc + 3) lv rest) : zV β n Γ ws pc lv (.null :: rest) := by
  obtain ⟨⟨p, e, R, s⟩, ⟨m, args, below, meth, c⟩, ⟨Q, A, nc, ns⟩⟩ := Γ
  obtain ⟨hx, hb, hml, hown, hts, hK, hlk, hA, ⟨hfr, hlo⟩, ⟨hnc, hns⟩, hE⟩ := g
  intro H locs ls hP hD hS hl
  exact lv_ifnonnullN hx hb hd (k H locs ls hP hD hS hl)
theorem zv_iret {v : Int32} {post : Option Value → va_W → Prop} (g : zG β n Γ cc own fr lo) (hR : zR β Γ (some .int) post) (hd : decode cc pc = .ok (.ireturn, 1)) (hp : post (some (.int v)) ws) : zV β n Γ ws pc lv [.int v] := by
  obtain ⟨⟨p, e, R, s⟩, ⟨m, args, below, meth, c⟩, ⟨Q, A, nc, ns⟩⟩ := Γ
  obtain ⟨hx, hb, hml, hown, hts, hK, hlk, hA, ⟨hfr, hlo⟩, ⟨hnc, hns⟩, hE⟩ := g
  intro H locs ls hP hD hS hl
  obtain ⟨hQ, hr⟩ := hR
  subst hQ
  exact W.iret hx hb hr (fun t ht hW => ⟨⟨_, ws, rfl, hp, by rw [ht]; exact hP, hD⟩, hS.F ht⟩) hS.2.2 hd hlk
theorem zv_zret {v : Int32} {ty : FieldType} {post : Option Value → va_W → Prop} (g : zG β n Γ cc own fr lo) (hR : zR β Γ (some ty) post) (hn : narrow ty (.int v) = .int v) (hd : decode cc pc = .ok (.ireturn, 1)) (hp : post (some (.int v)) ws) : zV β n Γ ws pc lv [.int v] := by
  obtain ⟨⟨p, e, R, s⟩, ⟨m, args, below, meth, c⟩, ⟨Q, A, nc, ns⟩⟩ := Γ
  obtain ⟨hx, hb, hml, hown, hts, hK, hlk, hA, ⟨hfr, hlo⟩, ⟨hnc, hns⟩, hE⟩ := g
  intro H locs ls hP hD hS hl
  obtain ⟨hQ, hr⟩ := hR
  subst hQ
  exact W.zret hx hb hr hn (fun t ht hW => ⟨⟨_, ws, rfl, hp, by rw [ht]; exact hP, hD⟩, hS.F ht⟩) hS.2.2 hd hlk
theorem zv_lret {v : Int64} {post : Option Value → va_W → Prop} (g : zG β n Γ cc own fr lo) (hR : zR β Γ (some .long) post) (hd : decode cc pc = .ok (.lreturn, 1)) (hp : post (some (.long v)) ws) : zV β n Γ ws pc lv [.long v] := by
  obtain ⟨⟨p, e, R, s⟩, ⟨m, args, below, meth, c⟩, ⟨Q, A, nc, ns⟩⟩ := Γ
  obtain ⟨hx, hb, hml, hown, hts, hK, hlk, hA, ⟨hfr, hlo⟩, ⟨hnc, hns⟩, hE⟩ := g
  intro H locs ls hP hD hS hl
  obtain ⟨hQ, hr⟩ := hR
  subst hQ
  exact W.lret hx hb hr (fun t ht hW => ⟨⟨_, ws, rfl, hp, by rw [ht]; exact hP, hD⟩, hS.F ht⟩) hS.2.2 hd hlk
theorem zv_vret {post : Option Value → va_W → Prop} (g : zG β n Γ cc own fr lo) (hR : zR β Γ none post) (hd : decode cc pc = .ok (.return_, 1)) (hp : post none ws) : zV β n Γ ws pc lv [] := by
  obtain ⟨⟨p, e, R, s⟩, ⟨m, args, below, meth, c⟩, ⟨Q, A, nc, ns⟩⟩ := Γ
  obtain ⟨hx, hb, hml, hown, hts, hK, hlk, hA, ⟨hfr, hlo⟩, ⟨hnc, hns⟩, hE⟩ := g
  intro H locs ls hP hD hS hl
  obtain ⟨hQ, hr⟩ := hR
  subst hQ
  exact W.vret hx hb hr (fun t ht hW => ⟨⟨_, ws, rfl, hp, by rw [ht]; exact hP, hD⟩, hS.F ht⟩) hS.2.2 hd hlk
theorem zv_aret {v : Value} {rt : FieldType} {post : Option Value → va_W → Prop} (g : zG β n Γ cc own fr lo) (hR : zR β Γ (some rt) post) (hrt : (∃ n, rt = .object n) ∨ ∃ t, rt = .array t) (hv : v = .null ∨ ∃ a, v = .ref a) (hd : decode cc pc = .ok (.areturn, 1)) (hp : post (some (v)) ws) : zV β n Γ ws pc lv [v] := by
  obtain ⟨⟨p, e, R, s⟩, ⟨m, args, below, meth, c⟩, ⟨Q, A, nc, ns⟩⟩ := Γ
  obtain ⟨hx, hb, hml, hown, hts, hK, hlk, hA, ⟨hfr, hlo⟩, ⟨hnc, hns⟩, hE⟩ := g
  intro H locs ls hP hD hS hl
  obtain ⟨hQ, hr⟩ := hR
  subst hQ
  exact W.aret hx hb hr hrt hv (fun t ht hW => ⟨⟨_, ws, rfl, hp, by rw [ht]; exact hP, hD⟩, hS.F ht⟩) hS.2.2 hd hlk
/-- a call by a class own at i of method y -/
def zz_CB (own : String) (i : Nat) (y : MethodName) (b : ByteArray) (nl : Nat) (ret : Option FieldType) (np : Nat) : Prop := Cond.methodLink own i y ∈ zT ∧ Cond.initialized y.cls ∈ zT ∧ Cond.code y b nl ret ∈ zT ∧ (y.cls ≠ "java/lang/invoke/MethodHandle" ∧ y.cls ≠ "java/lang/invoke/VarHandle" ∧ (parseMethodDescriptor y.desc).map (fun d => d.parameters.length) = some np)
def zz_CV (own : String) (i : Nat) (y : MethodName) (b : ByteArray) (nl : Nat) (ret : Option FieldType) (np : Nat) : Prop := zz_CB own i y b nl ret np ∧ Cond.instanceMethod y ∈ zT ∧ Cond.selects y.cls y y ∈ zT
def zz_CS (own : String) (i : Nat) (y : MethodName) (b : ByteArray) (nl : Nat) (ret : Option FieldType) (np : Nat) : Prop := zz_CB own i y b nl ret np ∧ Cond.static y ∈ zT
theorem zz_callB {i : Nat} {y : MethodName} {b : ByteArray} {nl np : Nat} {ret : Option FieldType} {R : Room} {s : State} {args : Array Value} {fr2 lo2 : Nat} (hts : ∀ w ∈ zT, w.before args s = true) (h : zz_CB own i y b nl ret np) (hfr : fr2 + 1 ≤ R.frames) (hlo : 8 + (nl + 11) + lo2 ≤ R.locals) : CallB R s args own i y b nl ret (.code y b nl ret :: zT) (zrm fr2 lo2) 0 0 np :=
  callB_of (Ts := zT) np hts (fun w hw => by
    rcases List.mem_cons.mp hw with rfl | hw
    · exact ⟨h.2.2.1, zT_good h.2.2.1⟩
    · exact ⟨hw, zT_good hw⟩) rfl rfl rfl (hts _ h.2.1) (hts _ h.1) h.2.2.2 ⟨hfr, hlo⟩
theorem zz_pre {z : zz_Z} {A : Nat → Prop} {s U : State} {H : Heap} {locs : List Loc} {av : List Value} {wc suf : va_W} (hU : U.heap = H) (hW : s.WarmedH U.vm) (hK : va_K z.1 vwCl (zz_tys z.2.1) s) (hP : va_P z.1 vwCl (wc ++ suf) H) (hD : va_D A (wc ++ suf)) (hS : va_S A s.heap H locs) (hA : ∀ q, s.heap.size ≤ q → A q) (hE : zz_E z A s s.heap) : zPc z av wc H.size av.toArray U := by
  refine ⟨rfl, by rw [hU], ?_, va_K.moved hW.alike hK, ?_, ?_⟩
  · rw [hU]
    exact zz_Pm.mpr fun q hq => zz_Pm.mp hP q (List.mem_append_left _ hq)
  · have h1 := zz_Dm.mp hD
    refine zz_Dm.mpr ⟨?_, fun _ _ => trivial⟩
    have h2 := h1.1
    rw [List.map_append, List.nodup_append] at h2
    exact h2.1
  · rw [hU]
    exact ((hE.kept hS.2.1).narrow (zz_freeA hD hS hA)).warm hW
theorem zz_back {z : zz_Z} {A : Nat → Prop} {p : Program} {l : Launch} {e : Env} {R : Room} {s : State} {m : MethodId} {args : Array Value} {below : List Frame} {meth : Method} {c : Code} {H : Heap} {locs : List Loc} {nc ns : Nat} {Q : State → Prop} {ls : Array Slot} {st : List Value} {a : Array Value} {post : Option Value → va_W → Prop} {wc suf : va_W} {n : Nat} {β : zz_B} (hz : β = (l, z))
    (hr : va_Run p l e R s m args below meth c H locs nc ns 0 0 (F0 m pc ls st) rest (zQ z post (va_A wc H.size) a) (va_A wc H.size)) (hP : va_P z.1 vwCl (wc ++ suf) H) (hD : va_D A (wc ++ suf)) (hS : va_S A s.heap H locs) (hA : ∀ q, s.heap.size ≤ q → A q) (hl : lv_has ls n lv)
    (kk : ∀ (r : Option Value) (w : va_W), post r w → zV β n ((p, e, R, s), (m, args, below, meth, c), (Q, A, nc, ns)) (w ++ suf) (pc + 3) lv (r.toList ++ rest)) : W p l e R s m args below meth c H locs nc ns Q (F0 m pc ls st) := by
  subst hz
  intro T hT X
  obtain ⟨v, st₀, t, T', L, h0, X', hL, e1, e2, ⟨⟨r, w, hv, hp, hP1, hD1⟩, hzz, hk⟩, stp⟩ := hr T hT X
  cases hv
  rw [h0] at hzz hk
  have hF := zz_freeA hD hS hA
  obtain ⟨hP2, hD2⟩ := zz_frame (H1 := T'.heap) hP hD (fun q h1 h2 => by rw [e1]; exact hk q h1 h2) hF (by rw [e1]; exact hP1) hD1
  obtain ⟨t2, a1, b1⟩ := kk v w hp T'.heap (locs ++ L) ls hP2 hD2
    ⟨Nat.le_trans hS.1 (by rw [e1]; exact hzz), fun q h1 h2 => by rw [e1, hk q (Nat.lt_of_lt_of_le h1 hS.1) (fun z => h2 (hF q z))]; exact hS.2.1 q h1 h2, fun q hq => by
      rcases List.mem_append.mp hq with h | h
      · exact hS.2.2 q h
      · exact hF _ (hL q h)⟩ hl T' rfl X'
  exact ⟨t2, stp t2 a1, b1⟩
theorem zv_callV {i : Nat} {y : MethodName} {b : ByteArray} {nl np fr2 lo2 : Nat} {ret : Option FieldType} {b0 : Nat} {As st : List Value} {wc suf : va_W} {post : Option Value → va_W → Prop} (g : zG β n Γ cc own fr lo) (hw : zz_CV own i y b nl ret np) (hc : zC β y b nl ret fr2 lo2 (.ref b0 :: As) wc post) (hfr : fr2 + 1 ≤ fr) (hlo : 8 + (nl + 11) + lo2 ≤ lo) (hp : ws.Perm (wc ++ suf))
    {q ci : Nat} {fs : List Value} {qc : vw_C} (he : wc[q]? = some (b0, .inr (ci, fs))) (hcl : vwCl[ci]? = some qc) (hcy : y.cls = qc.1) (hn : As.length = np) (hst : st = As.reverse ++ .ref b0 :: rest) (hrs : (rest.map fun v => v.category).sum ≤ 8) (hd : decode cc pc = .ok (.invokevirtual i, 3))
    (kk : ∀ (r : Option Value) (w : va_W), post r w → zV β n Γ (w ++ suf) (pc + 3) lv (r.toList ++ rest)) : zV β n Γ ws pc lv st := by
  refine zv_perm hp ?_
  obtain ⟨l, z⟩ := β
  obtain ⟨⟨p, e, R, s⟩, ⟨m, args, below, meth, c⟩, ⟨Q, A, nc, ns⟩⟩ := Γ
  obtain ⟨hx, hb, hml, hown, hts, hK, hlk, hA, ⟨hfr0, hlo0⟩, ⟨hnc, hns⟩, hE⟩ := g
  intro H locs ls hP hD hS hl
  have hPc : va_P z.1 vwCl wc H := zz_Pm.mpr fun q hq => zz_Pm.mp hP q (List.mem_append_left _ hq)
  refine zz_back (z := z) (post := post) (wc := wc) (suf := suf) (a := (Value.ref b0 :: As).toArray) rfl ?_ hP hD hS hA hl kk
  exact va_runV (C := y.cls) (As := As) (rest := rest) (n := np) (bytes := b) (maxL := nl) (ret := ret) ⟨hx, hb, hml, hown, hts⟩ (hc H.size) ⟨zz_callB hts hw.1 (Nat.le_trans hfr hfr0) (Nat.le_trans hlo hlo0), hts _ hw.2.1, hts _ hw.2.2⟩
    ⟨zPc.blind, by rw [hcy]; exact va_recv hK hPc hcl he, fun U hU hW => zz_pre hU hW hK hP hD hS hA hE⟩ rfl hn hl.1 hst (lv_room hrs) hd ⟨hnc, hns⟩
theorem zv_callS {i : Nat} {y : MethodName} {b : ByteArray} {nl np fr2 lo2 : Nat} {ret : Option FieldType} {As st : List Value} {wc suf : va_W} {post : Option Value → va_W → Prop} (g : zG β n Γ cc own fr lo) (hw : zz_CS own i y b nl ret np) (hc : zC β y b nl ret fr2 lo2 As wc post) (hfr : fr2 + 1 ≤ fr) (hlo : 8 + (nl + 11) + lo2 ≤ lo) (hp : ws.Perm (wc ++ suf))
    (hn : As.length = np) (hst : st = As.reverse ++ rest) (hrs : (rest.map fun v => v.category).sum ≤ 8) (hd : decode cc pc = .ok (.invokestatic i, 3))
    (kk : ∀ (r : Option Value) (w : va_W), post r w → zV β n Γ (w ++ suf) (pc + 3) lv (r.toList ++ rest)) : zV β n Γ ws pc lv st := by
  refine zv_perm hp ?_
  obtain ⟨l, z⟩ := β
  obtain ⟨⟨p, e, R, s⟩, ⟨m, args, below, meth, c⟩, ⟨Q, A, nc, ns⟩⟩ := Γ
  obtain ⟨hx, hb, hml, hown, hts, hK, hlk, hA, ⟨hfr0, hlo0⟩, ⟨hnc, hns⟩, hE⟩ := g
  intro H locs ls hP hD hS hl
  refine zz_back (z := z) (post := post) (wc := wc) (suf := suf) (a := As.toArray) rfl ?_ hP hD hS hA hl kk
  exact va_runS (As := As) (rest := rest) (n := np) (bytes := b) (maxL := nl) (ret := ret) ⟨hx, hb, hml, hown, hts⟩ (hc H.size) ⟨zz_callB hts hw.1 (Nat.le_trans hfr hfr0) (Nat.le_trans hlo hlo0), hts _ hw.2⟩
    ⟨zPc.blind, fun U hU hW => zz_pre hU hW hK hP hD hS hA hE⟩ rfl hn hl.1 hst (lv_room hrs) hd ⟨hnc, hns⟩
def zz_CM (own : String) (i : Nat) (y : MethodName) (b : ByteArray) : Prop := Cond.methodLink own i y ∈ zT ∧ Cond.static y ∈ zT ∧ Cond.initialized "java/lang/Math" ∈ zT ∧ Cond.code y b 2 (some .int) ∈ zT
theorem zv_min {i : Nat} {x y : Int32} (g : zG β n Γ cc own fr lo) (hw : zz_CM own i Lib.Math.min.name Lib.Math.min.code) (hfr1 : 1 ≤ fr) (hlo1 : 21 ≤ lo) (hrs : (rest.map fun v => v.category).sum ≤ 8) (hd : decode cc pc = .ok (.invokestatic i, 3)) (k : zV β n Γ ws (pc + 3) lv (.int (if y < x then y else x) :: rest)) : zV β n Γ ws pc lv (.int y :: .int x :: rest) := by
  obtain ⟨⟨p, e, R, s⟩, ⟨m, args, below, meth, c⟩, ⟨Q, A, nc, ns⟩⟩ := Γ
  obtain ⟨hx, hb, hml, hown, hts, hK, hlk, hA, ⟨hfr, hlo⟩, ⟨hnc, hns⟩, hE⟩ := g
  intro H locs ls hP hD hS hl
  exact va_mmin hx hb (by rw [hml]; exact hl.1.symm) hown (hts _ hw.1) (hts _ hw.2.1) (hts _ hw.2.2.1) (hts _ hw.2.2.2) (Nat.le_trans hfr1 hfr) (by omega) hnc hns hd (k H locs ls hP hD hS hl)
theorem zv_max {i : Nat} {x y : Int32} (g : zG β n Γ cc own fr lo) (hw : zz_CM own i Lib.Math.max.name Lib.Math.max.code) (hfr1 : 1 ≤ fr) (hlo1 : 21 ≤ lo) (hrs : (rest.map fun v => v.category).sum ≤ 8) (hd : decode cc pc = .ok (.invokestatic i, 3)) (k : zV β n Γ ws (pc + 3) lv (.int (if x < y then y else x) :: rest)) : zV β n Γ ws pc lv (.int y :: .int x :: rest) := by
  obtain ⟨⟨p, e, R, s⟩, ⟨m, args, below, meth, c⟩, ⟨Q, A, nc, ns⟩⟩ := Γ
  obtain ⟨hx, hb, hml, hown, hts, hK, hlk, hA, ⟨hfr, hlo⟩, ⟨hnc, hns⟩, hE⟩ := g
  intro H locs ls hP hD hS hl
  exact va_mmax hx hb (by rw [hml]; exact hl.1.symm) hown (hts _ hw.1) (hts _ hw.2.1) (hts _ hw.2.2.1) (hts _ hw.2.2.2) (Nat.le_trans hfr1 hfr) (by omega) hnc hns hd (k H locs ls hP hD hS hl)
def zz_CA (own : String) (i : Nat) : Prop := Cond.methodLink own i arraycopyName ∈ zT ∧ Cond.native arraycopyName ∈ zT ∧ Cond.static arraycopyName ∈ zT ∧ Cond.initialized "java/lang/System" ∈ zT
theorem zv_copyi {i : Nat} {a0 a n0 n1 : Nat} {f h : Nat → Int32} {sp dp m0 : Int32} (ws2 : va_W) (g : zG β n Γ cc own fr lo) (hw : zz_CA own i) (q0 q1 : Nat) (ha0 : ws[q0]? = some (a0, .inl (β.2.2.1.1, n0, .inl f))) (ha1 : ws[q1]? = some (a, .inl (β.2.2.1.1, n1, .inl h))) (h1 : ¬ sp < 0) (h2 : ¬ dp < 0) (h3 : ¬ m0 < 0) (h4 : sp.toNatClampNeg + m0.toNatClampNeg ≤ n0) (h5 : dp.toNatClampNeg + m0.toNatClampNeg ≤ n1) (hw2 : ws.set q1 (a, .inl (β.2.2.1.1, n1, .inl (va_cpy f h sp.toNatClampNeg dp.toNatClampNeg m0.toNatClampNeg))) = ws2) (hfr1 : 1 ≤ fr) (hlo1 : 60 ≤ lo) (hrs : (rest.map fun v => v.category).sum ≤ 8) (hd : decode cc pc = .ok (.invokestatic i, 3)) (k : zV β n Γ ws2 (pc + 3) lv rest) : zV β n Γ ws pc lv (.int m0 :: .int dp :: .ref a :: .int sp :: .ref a0 :: rest) := by
  obtain ⟨⟨p, e, R, s⟩, ⟨m, args, below, meth, c⟩, ⟨Q, A, nc, ns⟩⟩ := Γ
  obtain ⟨hx, hb, hml, hown, hts, hK, hlk, hA, ⟨hfr, hlo⟩, ⟨hnc, hns⟩, hE⟩ := g
  intro H locs ls hP hD hS hl
  exact va_copyi (D := β.2.1) (cl := vwCl) (ty := .int) hx hb (by rw [hml]; exact hl.1.symm) hown (hts _ hw.1) (hts _ hw.2.1) (hts _ hw.2.2.1) (hts _ hw.2.2.2) hK hP hD hS q0 q1 0 0 ha0 ha1 rfl rfl rfl h1 h2 h3 h4 h5 (fun _ _ => rfl) (Nat.le_trans hfr1 hfr) (Nat.le_trans (Nat.add_le_add_right hrs _) (Nat.le_trans (by decide) (Nat.le_trans hlo1 hlo))) hd (fun H1 locs1 hP1 hD1 hS1 => k H1 locs1 ls (hw2 ▸ hP1) (hw2 ▸ hD1) hS1 hl)
theorem zv_copyl {i : Nat} {a0 a n0 n1 : Nat} {f h : Nat → Int64} {sp dp m0 : Int32} (ws2 : va_W) (g : zG β n Γ cc own fr lo) (hw : zz_CA own i) (q0 q1 : Nat) (ha0 : ws[q0]? = some (a0, .inl (β.2.2.1.2.1, n0, .inr (.inl f)))) (ha1 : ws[q1]? = some (a, .inl (β.2.2.1.2.1, n1, .inr (.inl h)))) (h1 : ¬ sp < 0) (h2 : ¬ dp < 0) (h3 : ¬ m0 < 0) (h4 : sp.toNatClampNeg + m0.toNatClampNeg ≤ n0) (h5 : dp.toNatClampNeg + m0.toNatClampNeg ≤ n1) (hw2 : ws.set q1 (a, .inl (β.2.2.1.2.1, n1, .inr (.inl (va_cpy f h sp.toNatClampNeg dp.toNatClampNeg m0.toNatClampNeg)))) = ws2) (hfr1 : 1 ≤ fr) (hlo1 : 60 ≤ lo) (hrs : (rest.map fun v => v.category).sum ≤ 8) (hd : decode cc pc = .ok (.invokestatic i, 3)) (k : zV β n Γ ws2 (pc + 3) lv rest) : zV β n Γ ws pc lv (.int m0 :: .int dp :: .ref a :: .int sp :: .ref a0 :: rest) := by
  obtain ⟨⟨p, e, R, s⟩, ⟨m, args, below, meth, c⟩, ⟨Q, A, nc, ns⟩⟩ := Γ
  obtain ⟨hx, hb, hml, hown, hts, hK, hlk, hA, ⟨hfr, hlo⟩, ⟨hnc, hns⟩, hE⟩ := g
  intro H locs ls hP hD hS hl
  exact va_copyl (D := β.2.1) (cl := vwCl) (ty := .long) hx hb (by rw [hml]; exact hl.1.symm) hown (hts _ hw.1) (hts _ hw.2.1) (hts _ hw.2.2.1) (hts _ hw.2.2.2) hK hP hD hS q0 q1 1 1 ha0 ha1 rfl rfl rfl h1 h2 h3 h4 h5 (fun _ _ => rfl) (Nat.le_trans hfr1 hfr) (Nat.le_trans (Nat.add_le_add_right hrs _) (Nat.le_trans (by decide) (Nat.le_trans hlo1 hlo))) hd (fun H1 locs1 hP1 hD1 hS1 => k H1 locs1 ls (hw2 ▸ hP1) (hw2 ▸ hD1) hS1 hl)
end ZRows
end
