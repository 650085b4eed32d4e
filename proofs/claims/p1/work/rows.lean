section
-- ===== PART A: goes FIRST, ahead of the names: the tables' words, and 'selects' of the private methods out of them =====
/-- a private method of a class that the tables say can be made, by its rows of tables_1 -/
def lw_okq (q : MethodName × Nat) : Prop := (q.1.cls ≠ "java/lang/invoke/MethodHandle" ∧ q.1.cls ≠ "java/lang/invoke/VarHandle") ∧ Cond.instantiable q.1.cls q.2 ∈ tables_1 ∧ Cond.privateMethod q.1 ∈ tables_1 ∧ Cond.instanceMethod q.1 ∈ tables_1
theorem lw_p0 : lw_okq (⟨"SameAfter", "slotAt", "(I)LSameAfter$Row;"⟩, 8) := ⟨⟨by decide +kernel, by decide +kernel⟩, List.mem_of_getElem? (i := 21) (by decide +kernel), List.mem_of_getElem? (i := 466) (by decide +kernel), List.mem_of_getElem? (i := 467) (by decide +kernel)⟩
theorem lw_p1 : lw_okq (⟨"SameAfter$Reader", "begin", "(LSameAfter$Row;LSameAfter$Rule;I)V"⟩, 17) := ⟨⟨by decide +kernel, by decide +kernel⟩, List.mem_of_getElem? (i := 55) (by decide +kernel), List.mem_of_getElem? (i := 479) (by decide +kernel), List.mem_of_getElem? (i := 480) (by decide +kernel)⟩
theorem lw_p2 : lw_okq (⟨"SameAfter$Tape", "takeLetters", "()V"⟩, 6) := ⟨⟨by decide +kernel, by decide +kernel⟩, List.mem_of_getElem? (i := 61) (by decide +kernel), List.mem_of_getElem? (i := 505) (by decide +kernel), List.mem_of_getElem? (i := 506) (by decide +kernel)⟩
theorem lw_p3 : lw_okq (⟨"SameAfter$Tape", "isText", "(Ljava/lang/String;)Z"⟩, 6) := ⟨⟨by decide +kernel, by decide +kernel⟩, List.mem_of_getElem? (i := 61) (by decide +kernel), List.mem_of_getElem? (i := 510) (by decide +kernel), List.mem_of_getElem? (i := 511) (by decide +kernel)⟩
theorem lw_p4 : lw_okq (⟨"SameAfter$Tape", "takeDigits", "()V"⟩, 6) := ⟨⟨by decide +kernel, by decide +kernel⟩, List.mem_of_getElem? (i := 61) (by decide +kernel), List.mem_of_getElem? (i := 569) (by decide +kernel), List.mem_of_getElem? (i := 570) (by decide +kernel)⟩
theorem lw_p5 : lw_okq (⟨"SameAfter$Tape", "takeSign", "(IZ)V"⟩, 6) := ⟨⟨by decide +kernel, by decide +kernel⟩, List.mem_of_getElem? (i := 61) (by decide +kernel), List.mem_of_getElem? (i := 573) (by decide +kernel), List.mem_of_getElem? (i := 574) (by decide +kernel)⟩
theorem lw_p6 : lw_okq (⟨"SameAfter$Reader", "takeBehindThen", "()V"⟩, 17) := ⟨⟨by decide +kernel, by decide +kernel⟩, List.mem_of_getElem? (i := 55) (by decide +kernel), List.mem_of_getElem? (i := 580) (by decide +kernel), List.mem_of_getElem? (i := 581) (by decide +kernel)⟩
theorem lw_p7 : lw_okq (⟨"SameAfter$Reader", "takeStatement", "()V"⟩, 17) := ⟨⟨by decide +kernel, by decide +kernel⟩, List.mem_of_getElem? (i := 55) (by decide +kernel), List.mem_of_getElem? (i := 588) (by decide +kernel), List.mem_of_getElem? (i := 589) (by decide +kernel)⟩
theorem lw_p8 : lw_okq (⟨"SameAfter$Reader", "closeBlock", "()V"⟩, 17) := ⟨⟨by decide +kernel, by decide +kernel⟩, List.mem_of_getElem? (i := 55) (by decide +kernel), List.mem_of_getElem? (i := 592) (by decide +kernel), List.mem_of_getElem? (i := 593) (by decide +kernel)⟩
theorem lw_p9 : lw_okq (⟨"SameAfter$Reader", "refuse", "(I)V"⟩, 17) := ⟨⟨by decide +kernel, by decide +kernel⟩, List.mem_of_getElem? (i := 55) (by decide +kernel), List.mem_of_getElem? (i := 596) (by decide +kernel), List.mem_of_getElem? (i := 597) (by decide +kernel)⟩
theorem lw_p10 : lw_okq (⟨"SameAfter$Reader", "beginStatement", "(I)V"⟩, 17) := ⟨⟨by decide +kernel, by decide +kernel⟩, List.mem_of_getElem? (i := 55) (by decide +kernel), List.mem_of_getElem? (i := 600) (by decide +kernel), List.mem_of_getElem? (i := 601) (by decide +kernel)⟩
theorem lw_p11 : lw_okq (⟨"SameAfter$Reader", "beginExpression", "(I)V"⟩, 17) := ⟨⟨by decide +kernel, by decide +kernel⟩, List.mem_of_getElem? (i := 55) (by decide +kernel), List.mem_of_getElem? (i := 604) (by decide +kernel), List.mem_of_getElem? (i := 605) (by decide +kernel)⟩
theorem lw_p12 : lw_okq (⟨"SameAfter$Reader", "takeElseBrace", "()V"⟩, 17) := ⟨⟨by decide +kernel, by decide +kernel⟩, List.mem_of_getElem? (i := 55) (by decide +kernel), List.mem_of_getElem? (i := 608) (by decide +kernel), List.mem_of_getElem? (i := 609) (by decide +kernel)⟩
theorem lw_p13 : lw_okq (⟨"SameAfter$Reader", "openBlock", "(I)V"⟩, 17) := ⟨⟨by decide +kernel, by decide +kernel⟩, List.mem_of_getElem? (i := 55) (by decide +kernel), List.mem_of_getElem? (i := 612) (by decide +kernel), List.mem_of_getElem? (i := 613) (by decide +kernel)⟩
theorem lw_p14 : lw_okq (⟨"SameAfter$Reader", "open", "(I)Z"⟩, 17) := ⟨⟨by decide +kernel, by decide +kernel⟩, List.mem_of_getElem? (i := 55) (by decide +kernel), List.mem_of_getElem? (i := 616) (by decide +kernel), List.mem_of_getElem? (i := 617) (by decide +kernel)⟩
theorem lw_p15 : lw_okq (⟨"SameAfter$Reader", "takeSetSign", "()V"⟩, 17) := ⟨⟨by decide +kernel, by decide +kernel⟩, List.mem_of_getElem? (i := 55) (by decide +kernel), List.mem_of_getElem? (i := 620) (by decide +kernel), List.mem_of_getElem? (i := 621) (by decide +kernel)⟩
def lw_privs_1 : List (MethodName × Nat) := [(⟨"SameAfter", "slotAt", "(I)LSameAfter$Row;"⟩, 8), (⟨"SameAfter$Reader", "begin", "(LSameAfter$Row;LSameAfter$Rule;I)V"⟩, 17), (⟨"SameAfter$Tape", "takeLetters", "()V"⟩, 6), (⟨"SameAfter$Tape", "isText", "(Ljava/lang/String;)Z"⟩, 6), (⟨"SameAfter$Tape", "takeDigits", "()V"⟩, 6), (⟨"SameAfter$Tape", "takeSign", "(IZ)V"⟩, 6), (⟨"SameAfter$Reader", "takeBehindThen", "()V"⟩, 17), (⟨"SameAfter$Reader", "takeStatement", "()V"⟩, 17), (⟨"SameAfter$Reader", "closeBlock", "()V"⟩, 17), (⟨"SameAfter$Reader", "refuse", "(I)V"⟩, 17), (⟨"SameAfter$Reader", "beginStatement", "(I)V"⟩, 17), (⟨"SameAfter$Reader", "beginExpression", "(I)V"⟩, 17), (⟨"SameAfter$Reader", "takeElseBrace", "()V"⟩, 17), (⟨"SameAfter$Reader", "openBlock", "(I)V"⟩, 17), (⟨"SameAfter$Reader", "open", "(I)Z"⟩, 17), (⟨"SameAfter$Reader", "takeSetSign", "()V"⟩, 17)]
theorem lw_r1 : ∀ q ∈ lw_privs_1, lw_okq q := List.forall_mem_cons.mpr ⟨lw_p0, List.forall_mem_cons.mpr ⟨lw_p1, List.forall_mem_cons.mpr ⟨lw_p2, List.forall_mem_cons.mpr ⟨lw_p3, List.forall_mem_cons.mpr ⟨lw_p4, List.forall_mem_cons.mpr ⟨lw_p5, List.forall_mem_cons.mpr ⟨lw_p6, List.forall_mem_cons.mpr ⟨lw_p7, List.forall_mem_cons.mpr ⟨lw_p8, List.forall_mem_cons.mpr ⟨lw_p9, List.forall_mem_cons.mpr ⟨lw_p10, List.forall_mem_cons.mpr ⟨lw_p11, List.forall_mem_cons.mpr ⟨lw_p12, List.forall_mem_cons.mpr ⟨lw_p13, List.forall_mem_cons.mpr ⟨lw_p14, List.forall_mem_cons.mpr ⟨lw_p15, fun _ h => absurd h List.not_mem_nil⟩⟩⟩⟩⟩⟩⟩⟩⟩⟩⟩⟩⟩⟩⟩⟩
theorem lw_p16 : lw_okq (⟨"SameAfter$Reader", "takeSemicolon", "()V"⟩, 17) := ⟨⟨by decide +kernel, by decide +kernel⟩, List.mem_of_getElem? (i := 55) (by decide +kernel), List.mem_of_getElem? (i := 624) (by decide +kernel), List.mem_of_getElem? (i := 625) (by decide +kernel)⟩
theorem lw_p17 : lw_okq (⟨"SameAfter$Reader", "takeOperand", "()V"⟩, 17) := ⟨⟨by decide +kernel, by decide +kernel⟩, List.mem_of_getElem? (i := 55) (by decide +kernel), List.mem_of_getElem? (i := 628) (by decide +kernel), List.mem_of_getElem? (i := 629) (by decide +kernel)⟩
theorem lw_p18 : lw_okq (⟨"SameAfter$Reader", "takeNumber", "()V"⟩, 17) := ⟨⟨by decide +kernel, by decide +kernel⟩, List.mem_of_getElem? (i := 55) (by decide +kernel), List.mem_of_getElem? (i := 632) (by decide +kernel), List.mem_of_getElem? (i := 633) (by decide +kernel)⟩
theorem lw_p19 : lw_okq (⟨"SameAfter$Reader", "countThing", "()Z"⟩, 17) := ⟨⟨by decide +kernel, by decide +kernel⟩, List.mem_of_getElem? (i := 55) (by decide +kernel), List.mem_of_getElem? (i := 636) (by decide +kernel), List.mem_of_getElem? (i := 637) (by decide +kernel)⟩
theorem lw_p20 : lw_okq (⟨"SameAfter$Reader", "takeLetter", "()V"⟩, 17) := ⟨⟨by decide +kernel, by decide +kernel⟩, List.mem_of_getElem? (i := 55) (by decide +kernel), List.mem_of_getElem? (i := 640) (by decide +kernel), List.mem_of_getElem? (i := 641) (by decide +kernel)⟩
theorem lw_p21 : lw_okq (⟨"SameAfter$Reader", "takeBehindOperand", "()V"⟩, 17) := ⟨⟨by decide +kernel, by decide +kernel⟩, List.mem_of_getElem? (i := 55) (by decide +kernel), List.mem_of_getElem? (i := 648) (by decide +kernel), List.mem_of_getElem? (i := 649) (by decide +kernel)⟩
theorem lw_p22 : lw_okq (⟨"SameAfter$Reader", "takeOperation", "(I)V"⟩, 17) := ⟨⟨by decide +kernel, by decide +kernel⟩, List.mem_of_getElem? (i := 55) (by decide +kernel), List.mem_of_getElem? (i := 652) (by decide +kernel), List.mem_of_getElem? (i := 653) (by decide +kernel)⟩
theorem lw_p23 : lw_okq (⟨"SameAfter$Reader", "endExpression", "(I)V"⟩, 17) := ⟨⟨by decide +kernel, by decide +kernel⟩, List.mem_of_getElem? (i := 55) (by decide +kernel), List.mem_of_getElem? (i := 663) (by decide +kernel), List.mem_of_getElem? (i := 664) (by decide +kernel)⟩
theorem lw_p24 : lw_okq (⟨"SameAfter$Flow", "number", "()V"⟩, 14) := ⟨⟨by decide +kernel, by decide +kernel⟩, List.mem_of_getElem? (i := 153) (by decide +kernel), List.mem_of_getElem? (i := 739) (by decide +kernel), List.mem_of_getElem? (i := 740) (by decide +kernel)⟩
theorem lw_p25 : lw_okq (⟨"SameAfter$Flow", "begin", "(II)V"⟩, 14) := ⟨⟨by decide +kernel, by decide +kernel⟩, List.mem_of_getElem? (i := 153) (by decide +kernel), List.mem_of_getElem? (i := 748) (by decide +kernel), List.mem_of_getElem? (i := 749) (by decide +kernel)⟩
theorem lw_p26 : lw_okq (⟨"SameAfter$Flow", "link", "()V"⟩, 14) := ⟨⟨by decide +kernel, by decide +kernel⟩, List.mem_of_getElem? (i := 153) (by decide +kernel), List.mem_of_getElem? (i := 763) (by decide +kernel), List.mem_of_getElem? (i := 764) (by decide +kernel)⟩
theorem lw_p27 : lw_okq (⟨"SameAfter$Flow", "linkAt", "(III)I"⟩, 14) := ⟨⟨by decide +kernel, by decide +kernel⟩, List.mem_of_getElem? (i := 153) (by decide +kernel), List.mem_of_getElem? (i := 770) (by decide +kernel), List.mem_of_getElem? (i := 771) (by decide +kernel)⟩
theorem lw_p28 : lw_okq (⟨"SameAfter$Flow", "settle", "()V"⟩, 14) := ⟨⟨by decide +kernel, by decide +kernel⟩, List.mem_of_getElem? (i := 153) (by decide +kernel), List.mem_of_getElem? (i := 774) (by decide +kernel), List.mem_of_getElem? (i := 775) (by decide +kernel)⟩
theorem lw_p29 : lw_okq (⟨"SameAfter$Machine", "doStatement", "(I)I"⟩, 7) := ⟨⟨by decide +kernel, by decide +kernel⟩, List.mem_of_getElem? (i := 147) (by decide +kernel), List.mem_of_getElem? (i := 794) (by decide +kernel), List.mem_of_getElem? (i := 795) (by decide +kernel)⟩
theorem lw_p30 : lw_okq (⟨"SameAfter$Judge", "note", "(II)V"⟩, 6) := ⟨⟨by decide +kernel, by decide +kernel⟩, List.mem_of_getElem? (i := 330) (by decide +kernel), List.mem_of_getElem? (i := 835) (by decide +kernel), List.mem_of_getElem? (i := 836) (by decide +kernel)⟩
theorem lw_p31 : lw_okq (⟨"SameAfter$Judge", "placeThatDiffers", "()I"⟩, 6) := ⟨⟨by decide +kernel, by decide +kernel⟩, List.mem_of_getElem? (i := 330) (by decide +kernel), List.mem_of_getElem? (i := 839) (by decide +kernel), List.mem_of_getElem? (i := 840) (by decide +kernel)⟩
def lw_privs_2 : List (MethodName × Nat) := [(⟨"SameAfter$Reader", "takeSemicolon", "()V"⟩, 17), (⟨"SameAfter$Reader", "takeOperand", "()V"⟩, 17), (⟨"SameAfter$Reader", "takeNumber", "()V"⟩, 17), (⟨"SameAfter$Reader", "countThing", "()Z"⟩, 17), (⟨"SameAfter$Reader", "takeLetter", "()V"⟩, 17), (⟨"SameAfter$Reader", "takeBehindOperand", "()V"⟩, 17), (⟨"SameAfter$Reader", "takeOperation", "(I)V"⟩, 17), (⟨"SameAfter$Reader", "endExpression", "(I)V"⟩, 17), (⟨"SameAfter$Flow", "number", "()V"⟩, 14), (⟨"SameAfter$Flow", "begin", "(II)V"⟩, 14), (⟨"SameAfter$Flow", "link", "()V"⟩, 14), (⟨"SameAfter$Flow", "linkAt", "(III)I"⟩, 14), (⟨"SameAfter$Flow", "settle", "()V"⟩, 14), (⟨"SameAfter$Machine", "doStatement", "(I)I"⟩, 7), (⟨"SameAfter$Judge", "note", "(II)V"⟩, 6), (⟨"SameAfter$Judge", "placeThatDiffers", "()I"⟩, 6)]
theorem lw_r2 : ∀ q ∈ lw_privs_2, lw_okq q := List.forall_mem_cons.mpr ⟨lw_p16, List.forall_mem_cons.mpr ⟨lw_p17, List.forall_mem_cons.mpr ⟨lw_p18, List.forall_mem_cons.mpr ⟨lw_p19, List.forall_mem_cons.mpr ⟨lw_p20, List.forall_mem_cons.mpr ⟨lw_p21, List.forall_mem_cons.mpr ⟨lw_p22, List.forall_mem_cons.mpr ⟨lw_p23, List.forall_mem_cons.mpr ⟨lw_p24, List.forall_mem_cons.mpr ⟨lw_p25, List.forall_mem_cons.mpr ⟨lw_p26, List.forall_mem_cons.mpr ⟨lw_p27, List.forall_mem_cons.mpr ⟨lw_p28, List.forall_mem_cons.mpr ⟨lw_p29, List.forall_mem_cons.mpr ⟨lw_p30, List.forall_mem_cons.mpr ⟨lw_p31, fun _ h => absurd h List.not_mem_nil⟩⟩⟩⟩⟩⟩⟩⟩⟩⟩⟩⟩⟩⟩⟩⟩
theorem lw_p32 : lw_okq (⟨"SameAfter", "ruleAt", "(I)LSameAfter$Rule;"⟩, 8) := ⟨⟨by decide +kernel, by decide +kernel⟩, List.mem_of_getElem? (i := 21) (by decide +kernel), List.mem_of_getElem? (i := 857) (by decide +kernel), List.mem_of_getElem? (i := 858) (by decide +kernel)⟩
theorem lw_p33 : lw_okq (⟨"SameAfter$Proof", "hasForm", "(LSameAfter$Row;)Z"⟩, 7) := ⟨⟨by decide +kernel, by decide +kernel⟩, List.mem_of_getElem? (i := 242) (by decide +kernel), List.mem_of_getElem? (i := 865) (by decide +kernel), List.mem_of_getElem? (i := 866) (by decide +kernel)⟩
theorem lw_p34 : lw_okq (⟨"SameAfter$Proof", "mostTimes", "(LSameAfter$Row;I)I"⟩, 7) := ⟨⟨by decide +kernel, by decide +kernel⟩, List.mem_of_getElem? (i := 242) (by decide +kernel), List.mem_of_getElem? (i := 869) (by decide +kernel), List.mem_of_getElem? (i := 870) (by decide +kernel)⟩
theorem lw_p35 : lw_okq (⟨"SameAfter$Proof", "multiplyOut", "(LSameAfter$Row;)V"⟩, 7) := ⟨⟨by decide +kernel, by decide +kernel⟩, List.mem_of_getElem? (i := 242) (by decide +kernel), List.mem_of_getElem? (i := 876) (by decide +kernel), List.mem_of_getElem? (i := 877) (by decide +kernel)⟩
theorem lw_p36 : lw_okq (⟨"SameAfter$Proof", "beginForm", "([II)V"⟩, 7) := ⟨⟨by decide +kernel, by decide +kernel⟩, List.mem_of_getElem? (i := 242) (by decide +kernel), List.mem_of_getElem? (i := 880) (by decide +kernel), List.mem_of_getElem? (i := 881) (by decide +kernel)⟩
theorem lw_p37 : lw_okq (⟨"SameAfter$Proof", "multiply", "([I[I)V"⟩, 7) := ⟨⟨by decide +kernel, by decide +kernel⟩, List.mem_of_getElem? (i := 242) (by decide +kernel), List.mem_of_getElem? (i := 885) (by decide +kernel), List.mem_of_getElem? (i := 886) (by decide +kernel)⟩
theorem lw_p38 : lw_okq (⟨"SameAfter$Proof", "addMultiple", "(II[I)V"⟩, 7) := ⟨⟨by decide +kernel, by decide +kernel⟩, List.mem_of_getElem? (i := 242) (by decide +kernel), List.mem_of_getElem? (i := 889) (by decide +kernel), List.mem_of_getElem? (i := 890) (by decide +kernel)⟩
theorem lw_p39 : lw_okq (⟨"SameAfter$Proof", "addUp", "([I[II)V"⟩, 7) := ⟨⟨by decide +kernel, by decide +kernel⟩, List.mem_of_getElem? (i := 242) (by decide +kernel), List.mem_of_getElem? (i := 895) (by decide +kernel), List.mem_of_getElem? (i := 896) (by decide +kernel)⟩
theorem lw_p40 : lw_okq (⟨"SameAfter$Proof", "tryOne", "(LSameAfter$Rule;III)V"⟩, 7) := ⟨⟨by decide +kernel, by decide +kernel⟩, List.mem_of_getElem? (i := 242) (by decide +kernel), List.mem_of_getElem? (i := 905) (by decide +kernel), List.mem_of_getElem? (i := 906) (by decide +kernel)⟩
theorem lw_p41 : lw_okq (⟨"SameAfter$Proof", "valueOf", "(LSameAfter$Row;)I"⟩, 7) := ⟨⟨by decide +kernel, by decide +kernel⟩, List.mem_of_getElem? (i := 242) (by decide +kernel), List.mem_of_getElem? (i := 909) (by decide +kernel), List.mem_of_getElem? (i := 910) (by decide +kernel)⟩
theorem lw_p42 : lw_okq (⟨"SameAfter$Rule", "matches", "(LSameAfter$Row;I)Z"⟩, 5) := ⟨⟨by decide +kernel, by decide +kernel⟩, List.mem_of_getElem? (i := 281) (by decide +kernel), List.mem_of_getElem? (i := 922) (by decide +kernel), List.mem_of_getElem? (i := 923) (by decide +kernel)⟩
theorem lw_p43 : lw_okq (⟨"SameAfter$Rule", "bind", "(LSameAfter$Row;III)Z"⟩, 5) := ⟨⟨by decide +kernel, by decide +kernel⟩, List.mem_of_getElem? (i := 281) (by decide +kernel), List.mem_of_getElem? (i := 931) (by decide +kernel), List.mem_of_getElem? (i := 932) (by decide +kernel)⟩
theorem lw_p44 : lw_okq (⟨"SameAfter$Rule", "lengthOfRight", "()I"⟩, 5) := ⟨⟨by decide +kernel, by decide +kernel⟩, List.mem_of_getElem? (i := 281) (by decide +kernel), List.mem_of_getElem? (i := 952) (by decide +kernel), List.mem_of_getElem? (i := 953) (by decide +kernel)⟩
theorem lw_p45 : lw_okq (⟨"SameAfter$Acts", "foldOperations", "(LSameAfter$Row;)V"⟩, 2) := ⟨⟨by decide +kernel, by decide +kernel⟩, List.mem_of_getElem? (i := 310) (by decide +kernel), List.mem_of_getElem? (i := 990) (by decide +kernel), List.mem_of_getElem? (i := 991) (by decide +kernel)⟩
theorem lw_p46 : lw_okq (⟨"SameAfter$Acts", "foldBranch", "(LSameAfter$Row;IZ)V"⟩, 2) := ⟨⟨by decide +kernel, by decide +kernel⟩, List.mem_of_getElem? (i := 310) (by decide +kernel), List.mem_of_getElem? (i := 1007) (by decide +kernel), List.mem_of_getElem? (i := 1008) (by decide +kernel)⟩
theorem lw_p47 : lw_okq (⟨"SameAfter$Acts", "copyBehind", "(LSameAfter$Row;III)V"⟩, 2) := ⟨⟨by decide +kernel, by decide +kernel⟩, List.mem_of_getElem? (i := 310) (by decide +kernel), List.mem_of_getElem? (i := 1049) (by decide +kernel), List.mem_of_getElem? (i := 1050) (by decide +kernel)⟩
def lw_privs_3 : List (MethodName × Nat) := [(⟨"SameAfter", "ruleAt", "(I)LSameAfter$Rule;"⟩, 8), (⟨"SameAfter$Proof", "hasForm", "(LSameAfter$Row;)Z"⟩, 7), (⟨"SameAfter$Proof", "mostTimes", "(LSameAfter$Row;I)I"⟩, 7), (⟨"SameAfter$Proof", "multiplyOut", "(LSameAfter$Row;)V"⟩, 7), (⟨"SameAfter$Proof", "beginForm", "([II)V"⟩, 7), (⟨"SameAfter$Proof", "multiply", "([I[I)V"⟩, 7), (⟨"SameAfter$Proof", "addMultiple", "(II[I)V"⟩, 7), (⟨"SameAfter$Proof", "addUp", "([I[II)V"⟩, 7), (⟨"SameAfter$Proof", "tryOne", "(LSameAfter$Rule;III)V"⟩, 7), (⟨"SameAfter$Proof", "valueOf", "(LSameAfter$Row;)I"⟩, 7), (⟨"SameAfter$Rule", "matches", "(LSameAfter$Row;I)Z"⟩, 5), (⟨"SameAfter$Rule", "bind", "(LSameAfter$Row;III)Z"⟩, 5), (⟨"SameAfter$Rule", "lengthOfRight", "()I"⟩, 5), (⟨"SameAfter$Acts", "foldOperations", "(LSameAfter$Row;)V"⟩, 2), (⟨"SameAfter$Acts", "foldBranch", "(LSameAfter$Row;IZ)V"⟩, 2), (⟨"SameAfter$Acts", "copyBehind", "(LSameAfter$Row;III)V"⟩, 2)]
theorem lw_r3 : ∀ q ∈ lw_privs_3, lw_okq q := List.forall_mem_cons.mpr ⟨lw_p32, List.forall_mem_cons.mpr ⟨lw_p33, List.forall_mem_cons.mpr ⟨lw_p34, List.forall_mem_cons.mpr ⟨lw_p35, List.forall_mem_cons.mpr ⟨lw_p36, List.forall_mem_cons.mpr ⟨lw_p37, List.forall_mem_cons.mpr ⟨lw_p38, List.forall_mem_cons.mpr ⟨lw_p39, List.forall_mem_cons.mpr ⟨lw_p40, List.forall_mem_cons.mpr ⟨lw_p41, List.forall_mem_cons.mpr ⟨lw_p42, List.forall_mem_cons.mpr ⟨lw_p43, List.forall_mem_cons.mpr ⟨lw_p44, List.forall_mem_cons.mpr ⟨lw_p45, List.forall_mem_cons.mpr ⟨lw_p46, List.forall_mem_cons.mpr ⟨lw_p47, fun _ h => absurd h List.not_mem_nil⟩⟩⟩⟩⟩⟩⟩⟩⟩⟩⟩⟩⟩⟩⟩⟩
theorem lw_p48 : lw_okq (⟨"SameAfter$Passes", "applyRule", "(LSameAfter$Rule;)Z"⟩, 10) := ⟨⟨by decide +kernel, by decide +kernel⟩, List.mem_of_getElem? (i := 274) (by decide +kernel), List.mem_of_getElem? (i := 1074) (by decide +kernel), List.mem_of_getElem? (i := 1075) (by decide +kernel)⟩
theorem lw_p49 : lw_okq (⟨"SameAfter$Passes", "madeWrong", "(LSameAfter$Row;)Z"⟩, 10) := ⟨⟨by decide +kernel, by decide +kernel⟩, List.mem_of_getElem? (i := 274) (by decide +kernel), List.mem_of_getElem? (i := 1095) (by decide +kernel), List.mem_of_getElem? (i := 1096) (by decide +kernel)⟩
theorem lw_p50 : lw_okq (⟨"SameAfter$Registers", "count", "(I)V"⟩, 5) := ⟨⟨by decide +kernel, by decide +kernel⟩, List.mem_of_getElem? (i := 397) (by decide +kernel), List.mem_of_getElem? (i := 1127) (by decide +kernel), List.mem_of_getElem? (i := 1128) (by decide +kernel)⟩
theorem lw_p51 : lw_okq (⟨"SameAfter$Registers", "noteClashes", "(II)V"⟩, 5) := ⟨⟨by decide +kernel, by decide +kernel⟩, List.mem_of_getElem? (i := 397) (by decide +kernel), List.mem_of_getElem? (i := 1137) (by decide +kernel), List.mem_of_getElem? (i := 1138) (by decide +kernel)⟩
theorem lw_p52 : lw_okq (⟨"SameAfter$Registers", "deal", "(III)Z"⟩, 5) := ⟨⟨by decide +kernel, by decide +kernel⟩, List.mem_of_getElem? (i := 397) (by decide +kernel), List.mem_of_getElem? (i := 1147) (by decide +kernel), List.mem_of_getElem? (i := 1148) (by decide +kernel)⟩
theorem lw_p53 : lw_okq (⟨"SameAfter$Registers", "isFree", "(II)Z"⟩, 5) := ⟨⟨by decide +kernel, by decide +kernel⟩, List.mem_of_getElem? (i := 397) (by decide +kernel), List.mem_of_getElem? (i := 1151) (by decide +kernel), List.mem_of_getElem? (i := 1152) (by decide +kernel)⟩
theorem lw_p54 : lw_okq (⟨"SameAfter$Registers", "comingsOf", "(I)I"⟩, 5) := ⟨⟨by decide +kernel, by decide +kernel⟩, List.mem_of_getElem? (i := 397) (by decide +kernel), List.mem_of_getElem? (i := 1168) (by decide +kernel), List.mem_of_getElem? (i := 1169) (by decide +kernel)⟩
theorem lw_p55 : lw_okq (⟨"SameAfterModel", "ends", "()V"⟩, 56) := ⟨⟨by decide +kernel, by decide +kernel⟩, List.mem_of_getElem? (i := 1178) (by decide +kernel), List.mem_of_getElem? (i := 1372) (by decide +kernel), List.mem_of_getElem? (i := 1373) (by decide +kernel)⟩
theorem lw_p56 : lw_okq (⟨"SameAfterModel", "begins", "(ZI)V"⟩, 56) := ⟨⟨by decide +kernel, by decide +kernel⟩, List.mem_of_getElem? (i := 1178) (by decide +kernel), List.mem_of_getElem? (i := 1376) (by decide +kernel), List.mem_of_getElem? (i := 1377) (by decide +kernel)⟩
theorem lw_p57 : lw_okq (⟨"SameAfterModel", "next0", "()V"⟩, 56) := ⟨⟨by decide +kernel, by decide +kernel⟩, List.mem_of_getElem? (i := 1178) (by decide +kernel), List.mem_of_getElem? (i := 1380) (by decide +kernel), List.mem_of_getElem? (i := 1381) (by decide +kernel)⟩
theorem lw_p58 : lw_okq (⟨"SameAfterModel", "see", "(I)I"⟩, 56) := ⟨⟨by decide +kernel, by decide +kernel⟩, List.mem_of_getElem? (i := 1178) (by decide +kernel), List.mem_of_getElem? (i := 1384) (by decide +kernel), List.mem_of_getElem? (i := 1385) (by decide +kernel)⟩
theorem lw_p59 : lw_okq (⟨"SameAfterModel", "word", "()I"⟩, 56) := ⟨⟨by decide +kernel, by decide +kernel⟩, List.mem_of_getElem? (i := 1178) (by decide +kernel), List.mem_of_getElem? (i := 1391) (by decide +kernel), List.mem_of_getElem? (i := 1392) (by decide +kernel)⟩
theorem lw_p60 : lw_okq (⟨"SameAfterModel", "is", "(Ljava/lang/String;)Z"⟩, 56) := ⟨⟨by decide +kernel, by decide +kernel⟩, List.mem_of_getElem? (i := 1178) (by decide +kernel), List.mem_of_getElem? (i := 1396) (by decide +kernel), List.mem_of_getElem? (i := 1397) (by decide +kernel)⟩
theorem lw_p61 : lw_okq (⟨"SameAfterModel", "statement", "()Z"⟩, 56) := ⟨⟨by decide +kernel, by decide +kernel⟩, List.mem_of_getElem? (i := 1178) (by decide +kernel), List.mem_of_getElem? (i := 1409) (by decide +kernel), List.mem_of_getElem? (i := 1410) (by decide +kernel)⟩
theorem lw_p62 : lw_okq (⟨"SameAfterModel", "bad", "(I)Z"⟩, 56) := ⟨⟨by decide +kernel, by decide +kernel⟩, List.mem_of_getElem? (i := 1178) (by decide +kernel), List.mem_of_getElem? (i := 1413) (by decide +kernel), List.mem_of_getElem? (i := 1414) (by decide +kernel)⟩
theorem lw_p63 : lw_okq (⟨"SameAfterModel", "write", "(I)V"⟩, 56) := ⟨⟨by decide +kernel, by decide +kernel⟩, List.mem_of_getElem? (i := 1178) (by decide +kernel), List.mem_of_getElem? (i := 1417) (by decide +kernel), List.mem_of_getElem? (i := 1418) (by decide +kernel)⟩
def lw_privs_4 : List (MethodName × Nat) := [(⟨"SameAfter$Passes", "applyRule", "(LSameAfter$Rule;)Z"⟩, 10), (⟨"SameAfter$Passes", "madeWrong", "(LSameAfter$Row;)Z"⟩, 10), (⟨"SameAfter$Registers", "count", "(I)V"⟩, 5), (⟨"SameAfter$Registers", "noteClashes", "(II)V"⟩, 5), (⟨"SameAfter$Registers", "deal", "(III)Z"⟩, 5), (⟨"SameAfter$Registers", "isFree", "(II)Z"⟩, 5), (⟨"SameAfter$Registers", "comingsOf", "(I)I"⟩, 5), (⟨"SameAfterModel", "ends", "()V"⟩, 56), (⟨"SameAfterModel", "begins", "(ZI)V"⟩, 56), (⟨"SameAfterModel", "next0", "()V"⟩, 56), (⟨"SameAfterModel", "see", "(I)I"⟩, 56), (⟨"SameAfterModel", "word", "()I"⟩, 56), (⟨"SameAfterModel", "is", "(Ljava/lang/String;)Z"⟩, 56), (⟨"SameAfterModel", "statement", "()Z"⟩, 56), (⟨"SameAfterModel", "bad", "(I)Z"⟩, 56), (⟨"SameAfterModel", "write", "(I)V"⟩, 56)]
theorem lw_r4 : ∀ q ∈ lw_privs_4, lw_okq q := List.forall_mem_cons.mpr ⟨lw_p48, List.forall_mem_cons.mpr ⟨lw_p49, List.forall_mem_cons.mpr ⟨lw_p50, List.forall_mem_cons.mpr ⟨lw_p51, List.forall_mem_cons.mpr ⟨lw_p52, List.forall_mem_cons.mpr ⟨lw_p53, List.forall_mem_cons.mpr ⟨lw_p54, List.forall_mem_cons.mpr ⟨lw_p55, List.forall_mem_cons.mpr ⟨lw_p56, List.forall_mem_cons.mpr ⟨lw_p57, List.forall_mem_cons.mpr ⟨lw_p58, List.forall_mem_cons.mpr ⟨lw_p59, List.forall_mem_cons.mpr ⟨lw_p60, List.forall_mem_cons.mpr ⟨lw_p61, List.forall_mem_cons.mpr ⟨lw_p62, List.forall_mem_cons.mpr ⟨lw_p63, fun _ h => absurd h List.not_mem_nil⟩⟩⟩⟩⟩⟩⟩⟩⟩⟩⟩⟩⟩⟩⟩⟩
theorem lw_p64 : lw_okq (⟨"SameAfterModel", "need", "(I)Z"⟩, 56) := ⟨⟨by decide +kernel, by decide +kernel⟩, List.mem_of_getElem? (i := 1178) (by decide +kernel), List.mem_of_getElem? (i := 1421) (by decide +kernel), List.mem_of_getElem? (i := 1422) (by decide +kernel)⟩
theorem lw_p65 : lw_okq (⟨"SameAfterModel", "sumUp", "()Z"⟩, 56) := ⟨⟨by decide +kernel, by decide +kernel⟩, List.mem_of_getElem? (i := 1178) (by decide +kernel), List.mem_of_getElem? (i := 1425) (by decide +kernel), List.mem_of_getElem? (i := 1426) (by decide +kernel)⟩
theorem lw_p66 : lw_okq (⟨"SameAfterModel", "product", "()Z"⟩, 56) := ⟨⟨by decide +kernel, by decide +kernel⟩, List.mem_of_getElem? (i := 1178) (by decide +kernel), List.mem_of_getElem? (i := 1429) (by decide +kernel), List.mem_of_getElem? (i := 1430) (by decide +kernel)⟩
theorem lw_p67 : lw_okq (⟨"SameAfterModel", "unit", "()Z"⟩, 56) := ⟨⟨by decide +kernel, by decide +kernel⟩, List.mem_of_getElem? (i := 1178) (by decide +kernel), List.mem_of_getElem? (i := 1433) (by decide +kernel), List.mem_of_getElem? (i := 1434) (by decide +kernel)⟩
theorem lw_p68 : lw_okq (⟨"SameAfterModel", "opens", "(I)Z"⟩, 56) := ⟨⟨by decide +kernel, by decide +kernel⟩, List.mem_of_getElem? (i := 1178) (by decide +kernel), List.mem_of_getElem? (i := 1437) (by decide +kernel), List.mem_of_getElem? (i := 1438) (by decide +kernel)⟩
theorem lw_p69 : lw_okq (⟨"SameAfterModel", "closes", "(I)Z"⟩, 56) := ⟨⟨by decide +kernel, by decide +kernel⟩, List.mem_of_getElem? (i := 1178) (by decide +kernel), List.mem_of_getElem? (i := 1441) (by decide +kernel), List.mem_of_getElem? (i := 1442) (by decide +kernel)⟩
theorem lw_p70 : lw_okq (⟨"SameAfterModel", "counts", "()Z"⟩, 56) := ⟨⟨by decide +kernel, by decide +kernel⟩, List.mem_of_getElem? (i := 1178) (by decide +kernel), List.mem_of_getElem? (i := 1445) (by decide +kernel), List.mem_of_getElem? (i := 1446) (by decide +kernel)⟩
theorem lw_p71 : lw_okq (⟨"SameAfterModel", "ahead", "(II)V"⟩, 56) := ⟨⟨by decide +kernel, by decide +kernel⟩, List.mem_of_getElem? (i := 1178) (by decide +kernel), List.mem_of_getElem? (i := 1449) (by decide +kernel), List.mem_of_getElem? (i := 1450) (by decide +kernel)⟩
theorem lw_p72 : lw_okq (⟨"SameAfterModel", "asks", "()Z"⟩, 56) := ⟨⟨by decide +kernel, by decide +kernel⟩, List.mem_of_getElem? (i := 1178) (by decide +kernel), List.mem_of_getElem? (i := 1453) (by decide +kernel), List.mem_of_getElem? (i := 1454) (by decide +kernel)⟩
theorem lw_p73 : lw_okq (⟨"SameAfterModel", "block", "()Z"⟩, 56) := ⟨⟨by decide +kernel, by decide +kernel⟩, List.mem_of_getElem? (i := 1178) (by decide +kernel), List.mem_of_getElem? (i := 1457) (by decide +kernel), List.mem_of_getElem? (i := 1458) (by decide +kernel)⟩
theorem lw_p74 : lw_okq (⟨"SameAfterModel", "otherwise", "()Z"⟩, 56) := ⟨⟨by decide +kernel, by decide +kernel⟩, List.mem_of_getElem? (i := 1178) (by decide +kernel), List.mem_of_getElem? (i := 1461) (by decide +kernel), List.mem_of_getElem? (i := 1462) (by decide +kernel)⟩
theorem lw_p75 : lw_okq (⟨"SameAfterModel", "turns", "()V"⟩, 56) := ⟨⟨by decide +kernel, by decide +kernel⟩, List.mem_of_getElem? (i := 1178) (by decide +kernel), List.mem_of_getElem? (i := 1465) (by decide +kernel), List.mem_of_getElem? (i := 1466) (by decide +kernel)⟩
theorem lw_p76 : lw_okq (⟨"SameAfterModel", "puts", "(I)V"⟩, 56) := ⟨⟨by decide +kernel, by decide +kernel⟩, List.mem_of_getElem? (i := 1178) (by decide +kernel), List.mem_of_getElem? (i := 1469) (by decide +kernel), List.mem_of_getElem? (i := 1470) (by decide +kernel)⟩
theorem lw_p77 : lw_okq (⟨"SameAfterModel", "statements", "()I"⟩, 56) := ⟨⟨by decide +kernel, by decide +kernel⟩, List.mem_of_getElem? (i := 1178) (by decide +kernel), List.mem_of_getElem? (i := 1473) (by decide +kernel), List.mem_of_getElem? (i := 1474) (by decide +kernel)⟩
theorem lw_p78 : lw_okq (⟨"SameAfterModel", "takes", "(I)V"⟩, 56) := ⟨⟨by decide +kernel, by decide +kernel⟩, List.mem_of_getElem? (i := 1178) (by decide +kernel), List.mem_of_getElem? (i := 1496) (by decide +kernel), List.mem_of_getElem? (i := 1497) (by decide +kernel)⟩
theorem lw_p79 : lw_okq (⟨"SameAfterModel", "parts", "()I"⟩, 56) := ⟨⟨by decide +kernel, by decide +kernel⟩, List.mem_of_getElem? (i := 1178) (by decide +kernel), List.mem_of_getElem? (i := 1500) (by decide +kernel), List.mem_of_getElem? (i := 1501) (by decide +kernel)⟩
def lw_privs_5 : List (MethodName × Nat) := [(⟨"SameAfterModel", "need", "(I)Z"⟩, 56), (⟨"SameAfterModel", "sumUp", "()Z"⟩, 56), (⟨"SameAfterModel", "product", "()Z"⟩, 56), (⟨"SameAfterModel", "unit", "()Z"⟩, 56), (⟨"SameAfterModel", "opens", "(I)Z"⟩, 56), (⟨"SameAfterModel", "closes", "(I)Z"⟩, 56), (⟨"SameAfterModel", "counts", "()Z"⟩, 56), (⟨"SameAfterModel", "ahead", "(II)V"⟩, 56), (⟨"SameAfterModel", "asks", "()Z"⟩, 56), (⟨"SameAfterModel", "block", "()Z"⟩, 56), (⟨"SameAfterModel", "otherwise", "()Z"⟩, 56), (⟨"SameAfterModel", "turns", "()V"⟩, 56), (⟨"SameAfterModel", "puts", "(I)V"⟩, 56), (⟨"SameAfterModel", "statements", "()I"⟩, 56), (⟨"SameAfterModel", "takes", "(I)V"⟩, 56), (⟨"SameAfterModel", "parts", "()I"⟩, 56)]
theorem lw_r5 : ∀ q ∈ lw_privs_5, lw_okq q := List.forall_mem_cons.mpr ⟨lw_p64, List.forall_mem_cons.mpr ⟨lw_p65, List.forall_mem_cons.mpr ⟨lw_p66, List.forall_mem_cons.mpr ⟨lw_p67, List.forall_mem_cons.mpr ⟨lw_p68, List.forall_mem_cons.mpr ⟨lw_p69, List.forall_mem_cons.mpr ⟨lw_p70, List.forall_mem_cons.mpr ⟨lw_p71, List.forall_mem_cons.mpr ⟨lw_p72, List.forall_mem_cons.mpr ⟨lw_p73, List.forall_mem_cons.mpr ⟨lw_p74, List.forall_mem_cons.mpr ⟨lw_p75, List.forall_mem_cons.mpr ⟨lw_p76, List.forall_mem_cons.mpr ⟨lw_p77, List.forall_mem_cons.mpr ⟨lw_p78, List.forall_mem_cons.mpr ⟨lw_p79, fun _ h => absurd h List.not_mem_nil⟩⟩⟩⟩⟩⟩⟩⟩⟩⟩⟩⟩⟩⟩⟩⟩
theorem lw_p80 : lw_okq (⟨"SameAfterModel", "isPart", "(I)Z"⟩, 56) := ⟨⟨by decide +kernel, by decide +kernel⟩, List.mem_of_getElem? (i := 1178) (by decide +kernel), List.mem_of_getElem? (i := 1504) (by decide +kernel), List.mem_of_getElem? (i := 1505) (by decide +kernel)⟩
theorem lw_p81 : lw_okq (⟨"SameAfterModel", "liveFrom", "(II)I"⟩, 56) := ⟨⟨by decide +kernel, by decide +kernel⟩, List.mem_of_getElem? (i := 1178) (by decide +kernel), List.mem_of_getElem? (i := 1508) (by decide +kernel), List.mem_of_getElem? (i := 1509) (by decide +kernel)⟩
theorem lw_p82 : lw_okq (⟨"SameAfterModel", "isLast", "(I)Z"⟩, 56) := ⟨⟨by decide +kernel, by decide +kernel⟩, List.mem_of_getElem? (i := 1178) (by decide +kernel), List.mem_of_getElem? (i := 1512) (by decide +kernel), List.mem_of_getElem? (i := 1513) (by decide +kernel)⟩
theorem lw_p83 : lw_okq (⟨"SameAfterModel", "behind", "(I)I"⟩, 56) := ⟨⟨by decide +kernel, by decide +kernel⟩, List.mem_of_getElem? (i := 1178) (by decide +kernel), List.mem_of_getElem? (i := 1516) (by decide +kernel), List.mem_of_getElem? (i := 1517) (by decide +kernel)⟩
theorem lw_p84 : lw_okq (⟨"SameAfterModel", "endOf", "(I)I"⟩, 56) := ⟨⟨by decide +kernel, by decide +kernel⟩, List.mem_of_getElem? (i := 1178) (by decide +kernel), List.mem_of_getElem? (i := 1520) (by decide +kernel), List.mem_of_getElem? (i := 1521) (by decide +kernel)⟩
theorem lw_p85 : lw_okq (⟨"SameAfterModel", "body", "(I)I"⟩, 56) := ⟨⟨by decide +kernel, by decide +kernel⟩, List.mem_of_getElem? (i := 1178) (by decide +kernel), List.mem_of_getElem? (i := 1524) (by decide +kernel), List.mem_of_getElem? (i := 1525) (by decide +kernel)⟩
theorem lw_p86 : lw_okq (⟨"SameAfterModel", "liveAt", "(II)I"⟩, 56) := ⟨⟨by decide +kernel, by decide +kernel⟩, List.mem_of_getElem? (i := 1178) (by decide +kernel), List.mem_of_getElem? (i := 1528) (by decide +kernel), List.mem_of_getElem? (i := 1529) (by decide +kernel)⟩
theorem lw_p87 : lw_okq (⟨"SameAfterModel", "reads", "(II)I"⟩, 56) := ⟨⟨by decide +kernel, by decide +kernel⟩, List.mem_of_getElem? (i := 1178) (by decide +kernel), List.mem_of_getElem? (i := 1532) (by decide +kernel), List.mem_of_getElem? (i := 1533) (by decide +kernel)⟩
theorem lw_p88 : lw_okq (⟨"SameAfterModel", "close", "(I)I"⟩, 56) := ⟨⟨by decide +kernel, by decide +kernel⟩, List.mem_of_getElem? (i := 1178) (by decide +kernel), List.mem_of_getElem? (i := 1536) (by decide +kernel), List.mem_of_getElem? (i := 1537) (by decide +kernel)⟩
theorem lw_p89 : lw_okq (⟨"SameAfterModel", "runs", "(II)V"⟩, 56) := ⟨⟨by decide +kernel, by decide +kernel⟩, List.mem_of_getElem? (i := 1178) (by decide +kernel), List.mem_of_getElem? (i := 1544) (by decide +kernel), List.mem_of_getElem? (i := 1545) (by decide +kernel)⟩
theorem lw_p90 : lw_okq (⟨"SameAfterModel", "does", "(I)Z"⟩, 56) := ⟨⟨by decide +kernel, by decide +kernel⟩, List.mem_of_getElem? (i := 1178) (by decide +kernel), List.mem_of_getElem? (i := 1548) (by decide +kernel), List.mem_of_getElem? (i := 1549) (by decide +kernel)⟩
theorem lw_p91 : lw_okq (⟨"SameAfterModel", "doesOne", "(I)Z"⟩, 56) := ⟨⟨by decide +kernel, by decide +kernel⟩, List.mem_of_getElem? (i := 1178) (by decide +kernel), List.mem_of_getElem? (i := 1552) (by decide +kernel), List.mem_of_getElem? (i := 1553) (by decide +kernel)⟩
theorem lw_p92 : lw_okq (⟨"SameAfterModel", "step", "()Z"⟩, 56) := ⟨⟨by decide +kernel, by decide +kernel⟩, List.mem_of_getElem? (i := 1178) (by decide +kernel), List.mem_of_getElem? (i := 1556) (by decide +kernel), List.mem_of_getElem? (i := 1557) (by decide +kernel)⟩
theorem lw_p93 : lw_okq (⟨"SameAfterModel", "isSo", "(I)Z"⟩, 56) := ⟨⟨by decide +kernel, by decide +kernel⟩, List.mem_of_getElem? (i := 1178) (by decide +kernel), List.mem_of_getElem? (i := 1560) (by decide +kernel), List.mem_of_getElem? (i := 1561) (by decide +kernel)⟩
theorem lw_p94 : lw_okq (⟨"SameAfterModel", "worth", "()I"⟩, 56) := ⟨⟨by decide +kernel, by decide +kernel⟩, List.mem_of_getElem? (i := 1178) (by decide +kernel), List.mem_of_getElem? (i := 1564) (by decide +kernel), List.mem_of_getElem? (i := 1565) (by decide +kernel)⟩
theorem lw_p95 : lw_okq (⟨"SameAfterModel", "keeps", "()V"⟩, 56) := ⟨⟨by decide +kernel, by decide +kernel⟩, List.mem_of_getElem? (i := 1178) (by decide +kernel), List.mem_of_getElem? (i := 1575) (by decide +kernel), List.mem_of_getElem? (i := 1576) (by decide +kernel)⟩
def lw_privs_6 : List (MethodName × Nat) := [(⟨"SameAfterModel", "isPart", "(I)Z"⟩, 56), (⟨"SameAfterModel", "liveFrom", "(II)I"⟩, 56), (⟨"SameAfterModel", "isLast", "(I)Z"⟩, 56), (⟨"SameAfterModel", "behind", "(I)I"⟩, 56), (⟨"SameAfterModel", "endOf", "(I)I"⟩, 56), (⟨"SameAfterModel", "body", "(I)I"⟩, 56), (⟨"SameAfterModel", "liveAt", "(II)I"⟩, 56), (⟨"SameAfterModel", "reads", "(II)I"⟩, 56), (⟨"SameAfterModel", "close", "(I)I"⟩, 56), (⟨"SameAfterModel", "runs", "(II)V"⟩, 56), (⟨"SameAfterModel", "does", "(I)Z"⟩, 56), (⟨"SameAfterModel", "doesOne", "(I)Z"⟩, 56), (⟨"SameAfterModel", "step", "()Z"⟩, 56), (⟨"SameAfterModel", "isSo", "(I)Z"⟩, 56), (⟨"SameAfterModel", "worth", "()I"⟩, 56), (⟨"SameAfterModel", "keeps", "()V"⟩, 56)]
theorem lw_r6 : ∀ q ∈ lw_privs_6, lw_okq q := List.forall_mem_cons.mpr ⟨lw_p80, List.forall_mem_cons.mpr ⟨lw_p81, List.forall_mem_cons.mpr ⟨lw_p82, List.forall_mem_cons.mpr ⟨lw_p83, List.forall_mem_cons.mpr ⟨lw_p84, List.forall_mem_cons.mpr ⟨lw_p85, List.forall_mem_cons.mpr ⟨lw_p86, List.forall_mem_cons.mpr ⟨lw_p87, List.forall_mem_cons.mpr ⟨lw_p88, List.forall_mem_cons.mpr ⟨lw_p89, List.forall_mem_cons.mpr ⟨lw_p90, List.forall_mem_cons.mpr ⟨lw_p91, List.forall_mem_cons.mpr ⟨lw_p92, List.forall_mem_cons.mpr ⟨lw_p93, List.forall_mem_cons.mpr ⟨lw_p94, List.forall_mem_cons.mpr ⟨lw_p95, fun _ h => absurd h List.not_mem_nil⟩⟩⟩⟩⟩⟩⟩⟩⟩⟩⟩⟩⟩⟩⟩⟩
theorem lw_p96 : lw_okq (⟨"SameAfterModel", "compares", "()V"⟩, 56) := ⟨⟨by decide +kernel, by decide +kernel⟩, List.mem_of_getElem? (i := 1178) (by decide +kernel), List.mem_of_getElem? (i := 1579) (by decide +kernel), List.mem_of_getElem? (i := 1580) (by decide +kernel)⟩
theorem lw_p97 : lw_okq (⟨"SameAfterModel", "sameForms", "(I)I"⟩, 56) := ⟨⟨by decide +kernel, by decide +kernel⟩, List.mem_of_getElem? (i := 1178) (by decide +kernel), List.mem_of_getElem? (i := 1587) (by decide +kernel), List.mem_of_getElem? (i := 1588) (by decide +kernel)⟩
theorem lw_p98 : lw_okq (⟨"SameAfterModel", "forms", "(II)V"⟩, 56) := ⟨⟨by decide +kernel, by decide +kernel⟩, List.mem_of_getElem? (i := 1178) (by decide +kernel), List.mem_of_getElem? (i := 1591) (by decide +kernel), List.mem_of_getElem? (i := 1592) (by decide +kernel)⟩
theorem lw_p99 : lw_okq (⟨"SameAfterModel", "products", "(I)V"⟩, 56) := ⟨⟨by decide +kernel, by decide +kernel⟩, List.mem_of_getElem? (i := 1178) (by decide +kernel), List.mem_of_getElem? (i := 1595) (by decide +kernel), List.mem_of_getElem? (i := 1596) (by decide +kernel)⟩
theorem lw_p100 : lw_okq (⟨"SameAfterModel", "isAlike", "(I)Z"⟩, 56) := ⟨⟨by decide +kernel, by decide +kernel⟩, List.mem_of_getElem? (i := 1178) (by decide +kernel), List.mem_of_getElem? (i := 1599) (by decide +kernel), List.mem_of_getElem? (i := 1600) (by decide +kernel)⟩
theorem lw_p101 : lw_okq (⟨"SameAfterModel", "ruleWorth", "(I)I"⟩, 56) := ⟨⟨by decide +kernel, by decide +kernel⟩, List.mem_of_getElem? (i := 1178) (by decide +kernel), List.mem_of_getElem? (i := 1603) (by decide +kernel), List.mem_of_getElem? (i := 1604) (by decide +kernel)⟩
theorem lw_p102 : lw_okq (⟨"SameAfterModel", "matches", "(II)Z"⟩, 56) := ⟨⟨by decide +kernel, by decide +kernel⟩, List.mem_of_getElem? (i := 1178) (by decide +kernel), List.mem_of_getElem? (i := 1611) (by decide +kernel), List.mem_of_getElem? (i := 1612) (by decide +kernel)⟩
theorem lw_p103 : lw_okq (⟨"SameAfterModel", "fits", "(II)Z"⟩, 56) := ⟨⟨by decide +kernel, by decide +kernel⟩, List.mem_of_getElem? (i := 1178) (by decide +kernel), List.mem_of_getElem? (i := 1615) (by decide +kernel), List.mem_of_getElem? (i := 1616) (by decide +kernel)⟩
theorem lw_p104 : lw_okq (⟨"SameAfterModel", "sameParts", "(II)Z"⟩, 56) := ⟨⟨by decide +kernel, by decide +kernel⟩, List.mem_of_getElem? (i := 1178) (by decide +kernel), List.mem_of_getElem? (i := 1619) (by decide +kernel), List.mem_of_getElem? (i := 1620) (by decide +kernel)⟩
theorem lw_p105 : lw_okq (⟨"SameAfterModel", "match", "(II)I"⟩, 56) := ⟨⟨by decide +kernel, by decide +kernel⟩, List.mem_of_getElem? (i := 1178) (by decide +kernel), List.mem_of_getElem? (i := 1627) (by decide +kernel), List.mem_of_getElem? (i := 1628) (by decide +kernel)⟩
theorem lw_p106 : lw_okq (⟨"SameAfterModel", "applies", "(II)Z"⟩, 56) := ⟨⟨by decide +kernel, by decide +kernel⟩, List.mem_of_getElem? (i := 1178) (by decide +kernel), List.mem_of_getElem? (i := 1631) (by decide +kernel), List.mem_of_getElem? (i := 1632) (by decide +kernel)⟩
theorem lw_p107 : lw_okq (⟨"SameAfterModel", "writes", "(II)V"⟩, 56) := ⟨⟨by decide +kernel, by decide +kernel⟩, List.mem_of_getElem? (i := 1178) (by decide +kernel), List.mem_of_getElem? (i := 1635) (by decide +kernel), List.mem_of_getElem? (i := 1636) (by decide +kernel)⟩
theorem lw_p108 : lw_okq (⟨"SameAfterModel", "makes", "(I)Z"⟩, 56) := ⟨⟨by decide +kernel, by decide +kernel⟩, List.mem_of_getElem? (i := 1178) (by decide +kernel), List.mem_of_getElem? (i := 1654) (by decide +kernel), List.mem_of_getElem? (i := 1655) (by decide +kernel)⟩
theorem lw_p109 : lw_okq (⟨"SameAfterModel", "again", "(I)Z"⟩, 56) := ⟨⟨by decide +kernel, by decide +kernel⟩, List.mem_of_getElem? (i := 1178) (by decide +kernel), List.mem_of_getElem? (i := 1658) (by decide +kernel), List.mem_of_getElem? (i := 1659) (by decide +kernel)⟩
theorem lw_p110 : lw_okq (⟨"SameAfterModel", "foldAll", "(I)V"⟩, 56) := ⟨⟨by decide +kernel, by decide +kernel⟩, List.mem_of_getElem? (i := 1178) (by decide +kernel), List.mem_of_getElem? (i := 1662) (by decide +kernel), List.mem_of_getElem? (i := 1663) (by decide +kernel)⟩
theorem lw_p111 : lw_okq (⟨"SameAfterModel", "foldOne", "(I)V"⟩, 56) := ⟨⟨by decide +kernel, by decide +kernel⟩, List.mem_of_getElem? (i := 1178) (by decide +kernel), List.mem_of_getElem? (i := 1666) (by decide +kernel), List.mem_of_getElem? (i := 1667) (by decide +kernel)⟩
def lw_privs_7 : List (MethodName × Nat) := [(⟨"SameAfterModel", "compares", "()V"⟩, 56), (⟨"SameAfterModel", "sameForms", "(I)I"⟩, 56), (⟨"SameAfterModel", "forms", "(II)V"⟩, 56), (⟨"SameAfterModel", "products", "(I)V"⟩, 56), (⟨"SameAfterModel", "isAlike", "(I)Z"⟩, 56), (⟨"SameAfterModel", "ruleWorth", "(I)I"⟩, 56), (⟨"SameAfterModel", "matches", "(II)Z"⟩, 56), (⟨"SameAfterModel", "fits", "(II)Z"⟩, 56), (⟨"SameAfterModel", "sameParts", "(II)Z"⟩, 56), (⟨"SameAfterModel", "match", "(II)I"⟩, 56), (⟨"SameAfterModel", "applies", "(II)Z"⟩, 56), (⟨"SameAfterModel", "writes", "(II)V"⟩, 56), (⟨"SameAfterModel", "makes", "(I)Z"⟩, 56), (⟨"SameAfterModel", "again", "(I)Z"⟩, 56), (⟨"SameAfterModel", "foldAll", "(I)V"⟩, 56), (⟨"SameAfterModel", "foldOne", "(I)V"⟩, 56)]
theorem lw_r7 : ∀ q ∈ lw_privs_7, lw_okq q := List.forall_mem_cons.mpr ⟨lw_p96, List.forall_mem_cons.mpr ⟨lw_p97, List.forall_mem_cons.mpr ⟨lw_p98, List.forall_mem_cons.mpr ⟨lw_p99, List.forall_mem_cons.mpr ⟨lw_p100, List.forall_mem_cons.mpr ⟨lw_p101, List.forall_mem_cons.mpr ⟨lw_p102, List.forall_mem_cons.mpr ⟨lw_p103, List.forall_mem_cons.mpr ⟨lw_p104, List.forall_mem_cons.mpr ⟨lw_p105, List.forall_mem_cons.mpr ⟨lw_p106, List.forall_mem_cons.mpr ⟨lw_p107, List.forall_mem_cons.mpr ⟨lw_p108, List.forall_mem_cons.mpr ⟨lw_p109, List.forall_mem_cons.mpr ⟨lw_p110, List.forall_mem_cons.mpr ⟨lw_p111, fun _ h => absurd h List.not_mem_nil⟩⟩⟩⟩⟩⟩⟩⟩⟩⟩⟩⟩⟩⟩⟩⟩
theorem lw_p112 : lw_okq (⟨"SameAfterModel", "folds", "(I)Z"⟩, 56) := ⟨⟨by decide +kernel, by decide +kernel⟩, List.mem_of_getElem? (i := 1178) (by decide +kernel), List.mem_of_getElem? (i := 1670) (by decide +kernel), List.mem_of_getElem? (i := 1671) (by decide +kernel)⟩
theorem lw_p113 : lw_okq (⟨"SameAfterModel", "dead", "(Z)V"⟩, 56) := ⟨⟨by decide +kernel, by decide +kernel⟩, List.mem_of_getElem? (i := 1178) (by decide +kernel), List.mem_of_getElem? (i := 1674) (by decide +kernel), List.mem_of_getElem? (i := 1675) (by decide +kernel)⟩
theorem lw_p114 : lw_okq (⟨"SameAfterModel", "clears", "()V"⟩, 56) := ⟨⟨by decide +kernel, by decide +kernel⟩, List.mem_of_getElem? (i := 1178) (by decide +kernel), List.mem_of_getElem? (i := 1678) (by decide +kernel), List.mem_of_getElem? (i := 1679) (by decide +kernel)⟩
theorem lw_p115 : lw_okq (⟨"SameAfterModel", "marksHasty", "()V"⟩, 56) := ⟨⟨by decide +kernel, by decide +kernel⟩, List.mem_of_getElem? (i := 1178) (by decide +kernel), List.mem_of_getElem? (i := 1682) (by decide +kernel), List.mem_of_getElem? (i := 1683) (by decide +kernel)⟩
theorem lw_p116 : lw_okq (⟨"SameAfterModel", "drops", "(I)V"⟩, 56) := ⟨⟨by decide +kernel, by decide +kernel⟩, List.mem_of_getElem? (i := 1178) (by decide +kernel), List.mem_of_getElem? (i := 1686) (by decide +kernel), List.mem_of_getElem? (i := 1687) (by decide +kernel)⟩
theorem lw_p117 : lw_okq (⟨"SameAfterModel", "marks", "(II)V"⟩, 56) := ⟨⟨by decide +kernel, by decide +kernel⟩, List.mem_of_getElem? (i := 1178) (by decide +kernel), List.mem_of_getElem? (i := 1690) (by decide +kernel), List.mem_of_getElem? (i := 1691) (by decide +kernel)⟩
theorem lw_p118 : lw_okq (⟨"SameAfterModel", "copies", "(I)V"⟩, 56) := ⟨⟨by decide +kernel, by decide +kernel⟩, List.mem_of_getElem? (i := 1178) (by decide +kernel), List.mem_of_getElem? (i := 1694) (by decide +kernel), List.mem_of_getElem? (i := 1695) (by decide +kernel)⟩
theorem lw_p119 : lw_okq (⟨"SameAfterModel", "hastyCopy", "()V"⟩, 56) := ⟨⟨by decide +kernel, by decide +kernel⟩, List.mem_of_getElem? (i := 1178) (by decide +kernel), List.mem_of_getElem? (i := 1698) (by decide +kernel), List.mem_of_getElem? (i := 1699) (by decide +kernel)⟩
theorem lw_p120 : lw_okq (⟨"SameAfterModel", "copyFrom", "(III)V"⟩, 56) := ⟨⟨by decide +kernel, by decide +kernel⟩, List.mem_of_getElem? (i := 1178) (by decide +kernel), List.mem_of_getElem? (i := 1702) (by decide +kernel), List.mem_of_getElem? (i := 1703) (by decide +kernel)⟩
theorem lw_p121 : lw_okq (⟨"SameAfterModel", "sets", "(III)Z"⟩, 56) := ⟨⟨by decide +kernel, by decide +kernel⟩, List.mem_of_getElem? (i := 1178) (by decide +kernel), List.mem_of_getElem? (i := 1706) (by decide +kernel), List.mem_of_getElem? (i := 1707) (by decide +kernel)⟩
theorem lw_p122 : lw_okq (⟨"SameAfterModel", "replaces", "(IIII)V"⟩, 56) := ⟨⟨by decide +kernel, by decide +kernel⟩, List.mem_of_getElem? (i := 1178) (by decide +kernel), List.mem_of_getElem? (i := 1710) (by decide +kernel), List.mem_of_getElem? (i := 1711) (by decide +kernel)⟩
theorem lw_p123 : lw_okq (⟨"SameAfterModel", "unrolls", "(I)V"⟩, 56) := ⟨⟨by decide +kernel, by decide +kernel⟩, List.mem_of_getElem? (i := 1178) (by decide +kernel), List.mem_of_getElem? (i := 1714) (by decide +kernel), List.mem_of_getElem? (i := 1715) (by decide +kernel)⟩
theorem lw_p124 : lw_okq (⟨"SameAfterModel", "isSmall", "()Z"⟩, 56) := ⟨⟨by decide +kernel, by decide +kernel⟩, List.mem_of_getElem? (i := 1178) (by decide +kernel), List.mem_of_getElem? (i := 1718) (by decide +kernel), List.mem_of_getElem? (i := 1719) (by decide +kernel)⟩
theorem lw_p125 : lw_okq (⟨"SameAfterModel", "keepsWhole", "()V"⟩, 56) := ⟨⟨by decide +kernel, by decide +kernel⟩, List.mem_of_getElem? (i := 1178) (by decide +kernel), List.mem_of_getElem? (i := 1730) (by decide +kernel), List.mem_of_getElem? (i := 1731) (by decide +kernel)⟩
theorem lw_p126 : lw_okq (⟨"SameAfterModel", "isWrong", "(I)Z"⟩, 56) := ⟨⟨by decide +kernel, by decide +kernel⟩, List.mem_of_getElem? (i := 1178) (by decide +kernel), List.mem_of_getElem? (i := 1734) (by decide +kernel), List.mem_of_getElem? (i := 1735) (by decide +kernel)⟩
theorem lw_p127 : lw_okq (⟨"SameAfterModel", "cutsOne", "(I)Z"⟩, 56) := ⟨⟨by decide +kernel, by decide +kernel⟩, List.mem_of_getElem? (i := 1178) (by decide +kernel), List.mem_of_getElem? (i := 1738) (by decide +kernel), List.mem_of_getElem? (i := 1739) (by decide +kernel)⟩
def lw_privs_8 : List (MethodName × Nat) := [(⟨"SameAfterModel", "folds", "(I)Z"⟩, 56), (⟨"SameAfterModel", "dead", "(Z)V"⟩, 56), (⟨"SameAfterModel", "clears", "()V"⟩, 56), (⟨"SameAfterModel", "marksHasty", "()V"⟩, 56), (⟨"SameAfterModel", "drops", "(I)V"⟩, 56), (⟨"SameAfterModel", "marks", "(II)V"⟩, 56), (⟨"SameAfterModel", "copies", "(I)V"⟩, 56), (⟨"SameAfterModel", "hastyCopy", "()V"⟩, 56), (⟨"SameAfterModel", "copyFrom", "(III)V"⟩, 56), (⟨"SameAfterModel", "sets", "(III)Z"⟩, 56), (⟨"SameAfterModel", "replaces", "(IIII)V"⟩, 56), (⟨"SameAfterModel", "unrolls", "(I)V"⟩, 56), (⟨"SameAfterModel", "isSmall", "()Z"⟩, 56), (⟨"SameAfterModel", "keepsWhole", "()V"⟩, 56), (⟨"SameAfterModel", "isWrong", "(I)Z"⟩, 56), (⟨"SameAfterModel", "cutsOne", "(I)Z"⟩, 56)]
theorem lw_r8 : ∀ q ∈ lw_privs_8, lw_okq q := List.forall_mem_cons.mpr ⟨lw_p112, List.forall_mem_cons.mpr ⟨lw_p113, List.forall_mem_cons.mpr ⟨lw_p114, List.forall_mem_cons.mpr ⟨lw_p115, List.forall_mem_cons.mpr ⟨lw_p116, List.forall_mem_cons.mpr ⟨lw_p117, List.forall_mem_cons.mpr ⟨lw_p118, List.forall_mem_cons.mpr ⟨lw_p119, List.forall_mem_cons.mpr ⟨lw_p120, List.forall_mem_cons.mpr ⟨lw_p121, List.forall_mem_cons.mpr ⟨lw_p122, List.forall_mem_cons.mpr ⟨lw_p123, List.forall_mem_cons.mpr ⟨lw_p124, List.forall_mem_cons.mpr ⟨lw_p125, List.forall_mem_cons.mpr ⟨lw_p126, List.forall_mem_cons.mpr ⟨lw_p127, fun _ h => absurd h List.not_mem_nil⟩⟩⟩⟩⟩⟩⟩⟩⟩⟩⟩⟩⟩⟩⟩⟩
theorem lw_p128 : lw_okq (⟨"SameAfterModel", "takesWhole", "()V"⟩, 56) := ⟨⟨by decide +kernel, by decide +kernel⟩, List.mem_of_getElem? (i := 1178) (by decide +kernel), List.mem_of_getElem? (i := 1742) (by decide +kernel), List.mem_of_getElem? (i := 1743) (by decide +kernel)⟩
theorem lw_p129 : lw_okq (⟨"SameAfterModel", "clashIn", "(I)V"⟩, 56) := ⟨⟨by decide +kernel, by decide +kernel⟩, List.mem_of_getElem? (i := 1178) (by decide +kernel), List.mem_of_getElem? (i := 1750) (by decide +kernel), List.mem_of_getElem? (i := 1751) (by decide +kernel)⟩
theorem lw_p130 : lw_okq (⟨"SameAfterModel", "clashFrom", "(II)V"⟩, 56) := ⟨⟨by decide +kernel, by decide +kernel⟩, List.mem_of_getElem? (i := 1178) (by decide +kernel), List.mem_of_getElem? (i := 1754) (by decide +kernel), List.mem_of_getElem? (i := 1755) (by decide +kernel)⟩
theorem lw_p131 : lw_okq (⟨"SameAfterModel", "clashAll", "(I)V"⟩, 56) := ⟨⟨by decide +kernel, by decide +kernel⟩, List.mem_of_getElem? (i := 1178) (by decide +kernel), List.mem_of_getElem? (i := 1758) (by decide +kernel), List.mem_of_getElem? (i := 1759) (by decide +kernel)⟩
theorem lw_p132 : lw_okq (⟨"SameAfterModel", "clashSet", "(II)V"⟩, 56) := ⟨⟨by decide +kernel, by decide +kernel⟩, List.mem_of_getElem? (i := 1178) (by decide +kernel), List.mem_of_getElem? (i := 1762) (by decide +kernel), List.mem_of_getElem? (i := 1763) (by decide +kernel)⟩
theorem lw_p133 : lw_okq (⟨"SameAfterModel", "inRow", "()I"⟩, 56) := ⟨⟨by decide +kernel, by decide +kernel⟩, List.mem_of_getElem? (i := 1178) (by decide +kernel), List.mem_of_getElem? (i := 1766) (by decide +kernel), List.mem_of_getElem? (i := 1767) (by decide +kernel)⟩
theorem lw_p134 : lw_okq (⟨"SameAfterModel", "spills", "(II)I"⟩, 56) := ⟨⟨by decide +kernel, by decide +kernel⟩, List.mem_of_getElem? (i := 1178) (by decide +kernel), List.mem_of_getElem? (i := 1770) (by decide +kernel), List.mem_of_getElem? (i := 1771) (by decide +kernel)⟩
theorem lw_p135 : lw_okq (⟨"SameAfterModel", "timesOf", "(I)I"⟩, 56) := ⟨⟨by decide +kernel, by decide +kernel⟩, List.mem_of_getElem? (i := 1178) (by decide +kernel), List.mem_of_getElem? (i := 1774) (by decide +kernel), List.mem_of_getElem? (i := 1775) (by decide +kernel)⟩
theorem lw_p136 : lw_okq (⟨"SameAfterModel", "deals", "(II)Z"⟩, 56) := ⟨⟨by decide +kernel, by decide +kernel⟩, List.mem_of_getElem? (i := 1178) (by decide +kernel), List.mem_of_getElem? (i := 1778) (by decide +kernel), List.mem_of_getElem? (i := 1779) (by decide +kernel)⟩
theorem lw_p137 : lw_okq (⟨"SameAfterModel", "enough", "(I)I"⟩, 56) := ⟨⟨by decide +kernel, by decide +kernel⟩, List.mem_of_getElem? (i := 1178) (by decide +kernel), List.mem_of_getElem? (i := 1782) (by decide +kernel), List.mem_of_getElem? (i := 1783) (by decide +kernel)⟩
def lw_privs_9 : List (MethodName × Nat) := [(⟨"SameAfterModel", "takesWhole", "()V"⟩, 56), (⟨"SameAfterModel", "clashIn", "(I)V"⟩, 56), (⟨"SameAfterModel", "clashFrom", "(II)V"⟩, 56), (⟨"SameAfterModel", "clashAll", "(I)V"⟩, 56), (⟨"SameAfterModel", "clashSet", "(II)V"⟩, 56), (⟨"SameAfterModel", "inRow", "()I"⟩, 56), (⟨"SameAfterModel", "spills", "(II)I"⟩, 56), (⟨"SameAfterModel", "timesOf", "(I)I"⟩, 56), (⟨"SameAfterModel", "deals", "(II)Z"⟩, 56), (⟨"SameAfterModel", "enough", "(I)I"⟩, 56)]
theorem lw_r9 : ∀ q ∈ lw_privs_9, lw_okq q := List.forall_mem_cons.mpr ⟨lw_p128, List.forall_mem_cons.mpr ⟨lw_p129, List.forall_mem_cons.mpr ⟨lw_p130, List.forall_mem_cons.mpr ⟨lw_p131, List.forall_mem_cons.mpr ⟨lw_p132, List.forall_mem_cons.mpr ⟨lw_p133, List.forall_mem_cons.mpr ⟨lw_p134, List.forall_mem_cons.mpr ⟨lw_p135, List.forall_mem_cons.mpr ⟨lw_p136, List.forall_mem_cons.mpr ⟨lw_p137, fun _ h => absurd h List.not_mem_nil⟩⟩⟩⟩⟩⟩⟩⟩⟩⟩
def lw_privs : List (MethodName × Nat) := lw_privs_1 ++ (lw_privs_2 ++ (lw_privs_3 ++ (lw_privs_4 ++ (lw_privs_5 ++ (lw_privs_6 ++ (lw_privs_7 ++ (lw_privs_8 ++ (lw_privs_9))))))))
def lw_tbl : List Cond := k2_sels lw_privs ++ tables_1
theorem lw_privs_ok : ∀ q ∈ lw_privs, lw_okq q := by
  show ∀ q ∈ lw_privs_1 ++ (lw_privs_2 ++ (lw_privs_3 ++ (lw_privs_4 ++ (lw_privs_5 ++ (lw_privs_6 ++ (lw_privs_7 ++ (lw_privs_8 ++ (lw_privs_9)))))))), lw_okq q
  exact List.forall_mem_append.mpr ⟨lw_r1, List.forall_mem_append.mpr ⟨lw_r2, List.forall_mem_append.mpr ⟨lw_r3, List.forall_mem_append.mpr ⟨lw_r4, List.forall_mem_append.mpr ⟨lw_r5, List.forall_mem_append.mpr ⟨lw_r6, List.forall_mem_append.mpr ⟨lw_r7, List.forall_mem_append.mpr ⟨lw_r8, lw_r9⟩⟩⟩⟩⟩⟩⟩⟩
end
section
/-! ===== BEGIN words of one list among another's, by their places ===== -/
theorem goodIn_r {big : List Cond} (ws : List Cond) (ps : List Nat) (hp : ws = ps.filterMap (fun i => big[i]?)) (h : ws.all goodWord = true) : GoodIn big ws := by
  intro w hw
  have h1 := List.all_eq_true.mp h w hw
  rw [hp] at hw
  obtain ⟨i, -, hi⟩ := List.mem_filterMap.mp hw
  have hm : w ∈ big := by first | exact List.mem_of_getElem? hi | exact List.getElem?_mem hi
  exact ⟨hm, good_of_word h1⟩
theorem goodIn_app {big a b : List Cond} (ha : GoodIn big a) (hb : GoodIn big b) : GoodIn big (a ++ b) := fun w h => (List.mem_append.mp h).elim (ha w) (hb w)
theorem goodIn_ca {big a b : List Cond} {c : Cond} (ha : GoodIn big (c :: a)) (hb : GoodIn big b) : GoodIn big (c :: (a ++ b)) := fun w h => (List.mem_cons.mp h).elim (fun e => ha w (List.mem_cons.mpr (Or.inl e))) (fun h => (List.mem_append.mp h).elim (fun h => ha w (List.mem_cons.mpr (Or.inr h))) (hb w))
theorem goodIn_sub {big ws : List Cond} (hm : ∀ w ∈ ws, w ∈ big) (h : ws.all goodWord = true) : GoodIn big ws := fun w hw => ⟨hm w hw, good_of_word (List.all_eq_true.mp h w hw)⟩
/-! ===== END ===== -/

/-! ===== BEGIN new T[n][m]: the outer array a place, the inner ones among the pooled ===== -/
/-- f, but v at every address of l -/
def vr_up {α : Type} (f : Nat → α) (l : List Nat) (v : α) : Nat → α := fun a => if a ∈ l then v else f a
theorem vr_up_in {α : Type} {f : Nat → α} {l : List Nat} {v : α} {a : Nat} (h : a ∈ l) : vr_up f l v a = v := if_pos h
theorem vr_up_ne {α : Type} {f : Nat → α} {l : List Nat} {v : α} {a : Nat} (h : a ∉ l) : vr_up f l v a = f a := if_neg h
theorem vr_rows {L l : List Nat} {f : Nat → va_E} {e : va_E} (h : ∀ a, a ∈ l → a ∉ L) : va_pl L f ++ l.map (fun a => (a, e)) = va_pl (L ++ l) (vr_up f l e) := by
  unfold va_pl
  rw [List.map_append]
  congr 1
  · apply List.map_congr_left
    intro a ha
    rw [vr_up_ne (fun q => h a q ha)]
  · apply List.map_congr_left
    intro a ha
    rw [vr_up_in ha]
theorem vr_lay {X rows : va_W} {x : Nat × va_E} {pl : va_W} {D : va_G} {cl : List vw_C} {H : Heap} (hP : va_P D cl (((X ++ pl) ++ [x]) ++ rows) H) : va_P D cl ((X ++ [x]) ++ (pl ++ rows)) H := by
  rw [List.append_assoc (X ++ pl)] at hP
  have h := va_P.swap hP
  rw [← List.append_assoc X] at h
  have h2 := va_P.swap h
  rw [List.append_assoc (X ++ [x])] at h2
  exact h2
theorem vr_layD {X rows : va_W} {x : Nat × va_E} {pl : va_W} {A : Nat → Prop} (hD : va_D A (((X ++ pl) ++ [x]) ++ rows)) : va_D A ((X ++ [x]) ++ (pl ++ rows)) := by
  rw [List.append_assoc (X ++ pl)] at hD
  have h := va_D.swap hD
  rw [← List.append_assoc X] at h
  have h2 := va_D.swap h
  rw [List.append_assoc (X ++ [x])] at h2
  exact h2
theorem vr_outer (c : ClassId) (N h0 : Nat) : ∀ i : Nat, Jvm.Free.Multi.outerC c N h0 i = arrV c N (fun j => va_rf (if j < i then some (h0 + 1 + j) else none))
  | 0 => by
    show ({ cls := c, slots := Array.replicate N .null, vm := .none } : Cell) = _
    rw [arrV_new]
    refine congrArg (arrV c N) (funext fun j => ?_)
    simp [va_rf]
  | i + 1 => by
    show (Jvm.Free.Multi.outerC c N h0 i).setSlot i (.ref (h0 + 1 + i)) = _
    rw [vr_outer c N h0 i, arrV_store]
    refine congrArg (arrV c N) (funext fun j => ?_)
    by_cases e : j = i
    · subst e
      simp [updV, va_rf]
    · by_cases h : j < i
      · simp [updV, e, h, Nat.lt_succ_of_lt h]
      · simp [updV, e, h, show ¬ j < i + 1 by omega]
/-- an array class over arrays of ty (the kit's va_AO, for arrays of arrays) -/
def va_AOA (ty : FieldType) (U : State) : Prop := (Cond.arrayOver (.array ty)).before #[] U = true
theorem va_AOA.of {ty : FieldType} {A : Array Value} {U : State} (h : (Cond.arrayOver (.array ty)).before A U = true) : va_AOA ty U := h
theorem va_AOA.use {ty : FieldType} {A : Array Value} {U : State} (h : va_AOA ty U) : (Cond.arrayOver (.array ty)).before A U = true := h
section VGM
variable {p : Program} {l : Launch} {e : Env} {R : Room} {s : State} {m : MethodId} {args : Array Value} {below : List Frame} {meth : Method} {c : Code} {H : Heap} {locs : List Loc} {cells slots : Nat} {Q : State → Prop}
variable {cc : ByteArray} {pc : Nat} {ls : Array Slot} {rest : List Value} {D : va_G} {cl : List vw_C} {A : Nat → Prop} {a : Nat} {tys : List (ClassId × FieldType)} {ws : va_W} {H0 : Heap}
theorem va_mna {X : va_W} {L : List Nat} {f : Nat → va_E} {cc : ByteArray} (hexec : p.tables.exec = Jvm.exec) (hb : c.code = cc) {own : String} {index : Nat} {ty : FieldType} {cy : ClassId} (hown : s.vm.findClass own = some m.cls) (hclink : (Cond.classLink own index ("[" ++ (FieldType.array ty).toString)).before args s = true) (hover : va_AOA ty s) (harr : (Cond.arrayClass ty).before args s = true) (hcy : s.vm.findClass (FieldType.array ty).toString = some cy)
    (hK : va_K D cl tys s) (hP : va_P D cl (X ++ va_pl L f) H) (hD : va_D A (X ++ va_pl L f)) (hS : va_S A H0 H locs) (hA : ∀ q, H0.size ≤ q → A q) {n k : Int32} {N' K' : Nat} {z : vp_A} (hn : ¬ n < 0) (hk : ¬ k < 0) (hN : n.toNatClampNeg = N') (hM : k.toNatClampNeg = K')
    (hb1 : N' * 4 ≤ 536870912) (hb2 : K' * componentBytes ty ≤ 536870912) (hb3 : K' ≤ 536870912) (hdf : fits ty (defaultValue ty) = true) (hdd : (defaultValue ty).isDefault = true) (hcells : cells + (1 + N') ≤ R.cells) (hslots : slots + (N' + N' * K') ≤ R.slots) (hz : ∀ c : ClassId, Jvm.Free.Multi.innerC c K' (defaultValue ty) = vp_cell c z) (hdg : decode cc pc = .ok (.multianewarray index 2, 4))
    (kk : ∀ (q : Nat) (r : Nat → Nat) (cA : ClassId) (H1 : Heap), (∀ i j : Nat, i < N' → j < N' → r i = r j → i = j) → (∀ i : Nat, i < N' → r i ∉ L) → va_K D cl (tys ++ [(cA, .array ty)]) s →
      va_P D cl ((X ++ [(q, .inl (cA, N', .inr (.inr (.inr (.inr (fun i => if i < N' then some (r i) else none))))))]) ++ va_pl (L ++ (List.range N').map r) (vr_up f ((List.range N').map r) (.inl (cy, z)))) H1 → va_D A ((X ++ [(q, .inl (cA, N', .inr (.inr (.inr (.inr (fun i => if i < N' then some (r i) else none))))))]) ++ va_pl (L ++ (List.range N').map r) (vr_up f ((List.range N').map r) (.inl (cy, z)))) → va_S A H0 H1 locs →
      W p l e R s m args below meth c H1 locs (cells + 1 + N') (slots + N' + N' * K') Q (F0 m (pc + 4) ls (.ref q :: rest))) : W p l e R s m args below meth c H locs cells slots Q (F0 m pc ls (.int k :: .int n :: rest)) := by
  subst hN
  subst hM
  intro T hT Xs
  obtain ⟨vm₁, cA, comp, -, fA, fC, hO, -, X', step⟩ := Xs.multianewarray2F hexec hown hclink (va_AOA.use hover) harr (g := F0 m pc ls (.int k :: .int n :: rest)) rfl (by rw [hb]; exact hdg) rfl hn hk hb1 hb2 hb3 hdf hdd hcells hslots
  have ec : some cy = some comp := hcy.symm.trans fC
  cases ec
  generalize hF : Jvm.Free.Multi.fill (T.setVm vm₁) cA cy n.toNatClampNeg k.toNatClampNeg (defaultValue ty) n.toNatClampNeg = F at X' step
  have hTh : (T.setVm vm₁).heap = H := hT
  obtain ⟨f1, f2, -, -⟩ := Jvm.Free.Multi.fill_facts (T.setVm vm₁) cA cy n.toNatClampNeg k.toNatClampNeg (defaultValue ty) n.toNatClampNeg
  rw [hF, hTh] at f1 f2
  have hold : ∀ x : Nat, x < H.size → F.heap[x]? = H[x]? := fun x hx => by
    have := Jvm.Free.Multi.fill_old (T.setVm vm₁) cA cy n.toNatClampNeg k.toNatClampNeg (defaultValue ty) (a := x) (by rw [hTh]; exact hx) n.toNatClampNeg
    rw [hF, hTh] at this
    exact this
  have hrow : ∀ j : Nat, j < n.toNatClampNeg → F.heap[H.size + 1 + j]? = some (vp_cell cy z) := fun j hj => by
    have := Jvm.Free.Multi.fill_inner (T.setVm vm₁) cA cy n.toNatClampNeg k.toNatClampNeg (defaultValue ty) n.toNatClampNeg j hj
    rw [hF, hTh, hz] at this
    exact this
  have hout : Jvm.Free.Multi.outerC cA n.toNatClampNeg H.size n.toNatClampNeg = vp_cell cA (n.toNatClampNeg, .inr (.inr (.inr (.inr (fun i => if i < n.toNatClampNeg then some (H.size + 1 + i) else none))))) := by
    rw [vp_cell_q]
    exact vr_outer cA n.toNatClampNeg H.size n.toNatClampNeg
  rw [hout] at f2
  have hlt : ∀ a, a ∈ L → a < H.size := fun a ha => by
    obtain ⟨k9, hk9⟩ := va_pl_get (X := X) (f := f) ha
    exact (hP k9 _ hk9).lt
  have hnl : ∀ i : Nat, i < n.toNatClampNeg → H.size + 1 + i ∉ L := fun i _ h => by
    have := hlt _ h
    omega
  have hnm : ∀ a, a ∈ (List.range n.toNatClampNeg).map (fun i => H.size + 1 + i) → a ∉ L := fun a ha h => by
    obtain ⟨i, -, rfl⟩ := List.mem_map.mp ha
    have := hlt _ h
    omega
  have hP0 : va_P D cl (X ++ va_pl L f) F.heap := hP.kept (fun k9 x hx => hold x.1 ((hP k9 x hx).lt))
  have hP1 : va_P D cl ((X ++ va_pl L f) ++ [(H.size, .inl (cA, n.toNatClampNeg, .inr (.inr (.inr (.inr (fun i => if i < n.toNatClampNeg then some (H.size + 1 + i) else none))))))]) F.heap := hP0.app (fun k9 x hx => by
    have h0 : k9 < 1 := (List.getElem?_eq_some_iff.mp hx).1
    rw [show k9 = 0 by omega] at hx
    cases hx
    exact f2)
  have hP2 : va_P D cl (((X ++ va_pl L f) ++ [(H.size, .inl (cA, n.toNatClampNeg, .inr (.inr (.inr (.inr (fun i => if i < n.toNatClampNeg then some (H.size + 1 + i) else none))))))]) ++ ((List.range n.toNatClampNeg).map (fun i => H.size + 1 + i)).map (fun a => (a, .inl (cy, z)))) F.heap := hP1.app (fun k9 x hx => by
    obtain ⟨a, ha, rfl⟩ := List.mem_map.mp (List.mem_of_getElem? hx)
    obtain ⟨i, hi, rfl⟩ := List.mem_map.mp ha
    exact hrow i (List.mem_range.mp hi))
  have hD2 : va_D A (((X ++ va_pl L f) ++ [(H.size, .inl (cA, n.toNatClampNeg, .inr (.inr (.inr (.inr (fun i => if i < n.toNatClampNeg then some (H.size + 1 + i) else none))))))]) ++ ((List.range n.toNatClampNeg).map (fun i => H.size + 1 + i)).map (fun a => (a, .inl (cy, z)))) := by
    have hD1 := hD.push (e := .inl (cA, n.toNatClampNeg, .inr (.inr (.inr (.inr (fun i => if i < n.toNatClampNeg then some (H.size + 1 + i) else none)))))) hP rfl (hA _ hS.1)
    generalize hW1 : (X ++ va_pl L f) ++ [(H.size, .inl (cA, n.toNatClampNeg, .inr (.inr (.inr (.inr (fun i => if i < n.toNatClampNeg then some (H.size + 1 + i) else none))))))] = W1 at hD1 hP1 ⊢
    have hle : ∀ (k9 : Nat) (x : Nat × va_E), W1[k9]? = some x → x.1 ≤ H.size := fun k9 x hx => by
      rw [← hW1] at hx
      by_cases hl : k9 < (X ++ va_pl L f).length
      · rw [List.getElem?_append_left hl] at hx
        exact Nat.le_of_lt ((hP k9 x hx).lt)
      · rw [List.getElem?_append_right (by omega)] at hx
        have h0 : k9 - (X ++ va_pl L f).length < 1 := (List.getElem?_eq_some_iff.mp hx).1
        rw [show k9 - (X ++ va_pl L f).length = 0 by omega] at hx
        cases hx
        exact Nat.le_refl _
    have hr : ∀ (k9 : Nat) (x : Nat × va_E), (((List.range n.toNatClampNeg).map (fun i => H.size + 1 + i)).map (fun a => ((a, .inl (cy, z)) : Nat × va_E)))[k9]? = some x → x.1 = H.size + 1 + k9 := fun k9 x hx => by
      rw [List.getElem?_map, List.getElem?_map] at hx
      by_cases h9 : k9 < n.toNatClampNeg
      · rw [List.getElem?_range h9] at hx
        cases hx
        rfl
      · have hn0 : (List.range n.toNatClampNeg)[k9]? = none := List.getElem?_eq_none (by rw [List.length_range]; omega)
        rw [hn0] at hx
        cases hx
    refine ⟨fun i j x y hi hj hxy => ?_, fun k9 x hx => ?_⟩
    · by_cases h1 : i < W1.length <;> by_cases h2 : j < W1.length
      · rw [List.getElem?_append_left h1] at hi
        rw [List.getElem?_append_left h2] at hj
        exact hD1.1 i j x y hi hj hxy
      · rw [List.getElem?_append_left h1] at hi
        rw [List.getElem?_append_right (by omega)] at hj
        have := hle _ _ hi
        have := hr _ _ hj
        omega
      · rw [List.getElem?_append_right (by omega)] at hi
        rw [List.getElem?_append_left h2] at hj
        have := hle _ _ hj
        have := hr _ _ hi
        omega
      · rw [List.getElem?_append_right (by omega)] at hi hj
        have := hr _ _ hi
        have := hr _ _ hj
        omega
    · by_cases h1 : k9 < W1.length
      · rw [List.getElem?_append_left h1] at hx
        exact hD1.2 k9 x hx
      · rw [List.getElem?_append_right (by omega)] at hx
        have := hr _ _ hx
        exact hA _ (by have := hS.1; omega)
  have hAr : ArrOfT s cA (.array ty) := fun N9 z9 => by
    obtain ⟨-, k9, hk9, cm9, hkk9⟩ := (hO 0 0 0).1
    exact ⟨(fun q hq => by cases hq), k9, hk9, cm9, hkk9⟩
  have hK2 : va_K D cl (tys ++ [(cA, .array ty)]) s := ⟨hK.1, fun k9 x hx => by
    by_cases hl : k9 < tys.length
    · rw [List.getElem?_append_left hl] at hx
      exact hK.2 k9 x hx
    · rw [List.getElem?_append_right (by omega)] at hx
      have h0 : k9 - tys.length < 1 := (List.getElem?_eq_some_iff.mp hx).1
      rw [show k9 - tys.length = 0 by omega] at hx
      cases hx
      exact ⟨hAr, fA⟩⟩
  obtain ⟨t, a1, b1⟩ := kk H.size (fun i => H.size + 1 + i) cA F.heap (fun i j _ _ h => by have h9 : H.size + 1 + i = H.size + 1 + j := h; omega) hnl hK2 (by rw [← vr_rows hnm]; exact vr_lay hP2) (by rw [← vr_rows hnm]; exact vr_layD hD2) ⟨by rw [f1]; have := hS.1; omega, fun x h1 h2 => (hold x (Nat.lt_of_lt_of_le h1 hS.1)).trans (hS.2.1 x h1 h2), hS.2.2⟩ F rfl X'
  refine ⟨t, step t ?_, b1⟩
  have e : T.heap.size = H.size := by rw [hT]
  rw [e]
  exact a1
end VGM
/-! ===== END ===== -/

/-! ===== BEGIN printed: names, fields, word lists, decode rows ===== -/
def RX0 : String := "SameAfter$Acts"
def TX0 : u_T := fun k => match k with
  | 0 => ("SameAfter$Acts", "spare", "LSameAfter$Row;", true)
  | _ => ("SameAfter$Acts", "flow", "LSameAfter$Flow;", true)
def tyX0 : Nat → FieldType := fun k => match k with
  | 0 => .object "SameAfter$Row"
  | _ => .object "SameAfter$Flow"
abbrev wsX00 : List Cond := u_ws RX0 TX0 2
theorem nmX0 : ∀ a, a < 2 → ∀ b, b < 2 → a ≠ b → (TX0 a).2.1 ≠ (TX0 b).2.1 := by decide +kernel
theorem tyX0_ok : ∀ k, k < 2 → parseFieldDescriptor (TX0 k).2.2.1 = some (tyX0 k) := by decide +kernel
abbrev cX0_init : ByteArray := prog_2_method_1_code
def yX0_init : MethodName := ⟨RX0, "<init>", "()V"⟩
abbrev cX0_fold : ByteArray := prog_2_method_2_code
def yX0_fold : MethodName := ⟨RX0, "fold", "(LSameAfter$Row;)V"⟩
abbrev cX0_foldOperations : ByteArray := prog_2_method_3_code
def yX0_foldOperations : MethodName := ⟨RX0, "foldOperations", "(LSameAfter$Row;)V"⟩
abbrev cX0_foldBranch : ByteArray := prog_2_method_4_code
def yX0_foldBranch : MethodName := ⟨RX0, "foldBranch", "(LSameAfter$Row;IZ)V"⟩
abbrev cX0_dead : ByteArray := prog_2_method_5_code
def yX0_dead : MethodName := ⟨RX0, "dead", "(LSameAfter$Row;)V"⟩
abbrev cX0_hastyDead : ByteArray := prog_2_method_6_code
def yX0_hastyDead : MethodName := ⟨RX0, "hastyDead", "(LSameAfter$Row;)V"⟩
abbrev cX0_hastyCopy : ByteArray := prog_2_method_7_code
def yX0_hastyCopy : MethodName := ⟨RX0, "hastyCopy", "(LSameAfter$Row;)V"⟩
abbrev cX0_copyBehind : ByteArray := prog_2_method_8_code
def yX0_copyBehind : MethodName := ⟨RX0, "copyBehind", "(LSameAfter$Row;III)V"⟩
abbrev cX0_unroll : ByteArray := prog_2_method_9_code
def yX0_unroll : MethodName := ⟨RX0, "unroll", "(LSameAfter$Row;)V"⟩
def RX1 : String := "SameAfter$Flow"
def TX1 : u_T := fun k => match k with
  | 0 => ("SameAfter$Flow", "row", "LSameAfter$Row;", false)
  | 1 => ("SameAfter$Flow", "count", "I", false)
  | 2 => ("SameAfter$Flow", "place", "[I", true)
  | 3 => ("SameAfter$Flow", "kinds", "[I", true)
  | 4 => ("SameAfter$Flow", "from", "[I", true)
  | 5 => ("SameAfter$Flow", "to", "[I", true)
  | 6 => ("SameAfter$Flow", "yes", "[I", true)
  | 7 => ("SameAfter$Flow", "no", "[I", true)
  | 8 => ("SameAfter$Flow", "reads", "[I", true)
  | 9 => ("SameAfter$Flow", "sets", "[I", true)
  | 10 => ("SameAfter$Flow", "ahead", "[I", true)
  | 11 => ("SameAfter$Flow", "behindAll", "[I", true)
  | 12 => ("SameAfter$Flow", "open", "[I", true)
  | _ => ("SameAfter$Flow", "owner", "[I", true)
def tyX1 : Nat → FieldType := fun k => match k with
  | 0 => .object "SameAfter$Row"
  | 1 => .int
  | 2 => .array .int
  | 3 => .array .int
  | 4 => .array .int
  | 5 => .array .int
  | 6 => .array .int
  | 7 => .array .int
  | 8 => .array .int
  | 9 => .array .int
  | 10 => .array .int
  | 11 => .array .int
  | 12 => .array .int
  | _ => .array .int
abbrev wsX10 : List Cond := u_ws RX1 TX1 14
theorem nmX1 : ∀ a, a < 14 → ∀ b, b < 14 → a ≠ b → (TX1 a).2.1 ≠ (TX1 b).2.1 := by decide +kernel
theorem tyX1_ok : ∀ k, k < 14 → parseFieldDescriptor (TX1 k).2.2.1 = some (tyX1 k) := by decide +kernel
abbrev cX1_init : ByteArray := prog_3_method_1_code
def yX1_init : MethodName := ⟨RX1, "<init>", "()V"⟩
abbrev cX1_trace : ByteArray := prog_3_method_2_code
def yX1_trace : MethodName := ⟨RX1, "trace", "(LSameAfter$Row;)V"⟩
abbrev cX1_setBy : ByteArray := prog_3_method_3_code
def yX1_setBy : MethodName := ⟨RX1, "setBy", "(I)I"⟩
abbrev cX1_aheadOf : ByteArray := prog_3_method_4_code
def yX1_aheadOf : MethodName := ⟨RX1, "aheadOf", "(I)I"⟩
abbrev cX1_behind : ByteArray := prog_3_method_5_code
def yX1_behind : MethodName := ⟨RX1, "behind", "(I)I"⟩
abbrev cX1_isHere : ByteArray := prog_3_method_6_code
def yX1_isHere : MethodName := ⟨RX1, "isHere", "(I)Z"⟩
abbrev cX1_number : ByteArray := prog_3_method_7_code
def yX1_number : MethodName := ⟨RX1, "number", "()V"⟩
abbrev cX1_begin : ByteArray := prog_3_method_8_code
def yX1_begin : MethodName := ⟨RX1, "begin", "(II)V"⟩
abbrev cX1_link : ByteArray := prog_3_method_9_code
def yX1_link : MethodName := ⟨RX1, "link", "()V"⟩
abbrev cX1_linkAt : ByteArray := prog_3_method_10_code
def yX1_linkAt : MethodName := ⟨RX1, "linkAt", "(III)I"⟩
abbrev cX1_settle : ByteArray := prog_3_method_11_code
def yX1_settle : MethodName := ⟨RX1, "settle", "()V"⟩
def RX2 : String := "SameAfter$Judge"
def TX2 : u_T := fun k => match k with
  | 0 => ("SameAfter$Judge", "first", "I", false)
  | 1 => ("SameAfter$Judge", "firstPlace", "I", false)
  | 2 => ("SameAfter$Judge", "parted", "I", false)
  | 3 => ("SameAfter$Judge", "tired", "Z", false)
  | 4 => ("SameAfter$Judge", "one", "LSameAfter$Machine;", true)
  | _ => ("SameAfter$Judge", "other", "LSameAfter$Machine;", true)
def tyX2 : Nat → FieldType := fun k => match k with
  | 0 => .int
  | 1 => .int
  | 2 => .int
  | 3 => .boolean
  | 4 => .object "SameAfter$Machine"
  | _ => .object "SameAfter$Machine"
abbrev wsX20 : List Cond := u_ws RX2 TX2 6
theorem nmX2 : ∀ a, a < 6 → ∀ b, b < 6 → a ≠ b → (TX2 a).2.1 ≠ (TX2 b).2.1 := by decide +kernel
theorem tyX2_ok : ∀ k, k < 6 → parseFieldDescriptor (TX2 k).2.2.1 = some (tyX2 k) := by decide +kernel
abbrev cX2_init : ByteArray := prog_4_method_1_code
def yX2_init : MethodName := ⟨RX2, "<init>", "()V"⟩
abbrev cX2_verdict : ByteArray := prog_4_method_2_code
def yX2_verdict : MethodName := ⟨RX2, "verdict", "()I"⟩
abbrev cX2_compare : ByteArray := prog_4_method_3_code
def yX2_compare : MethodName := ⟨RX2, "compare", "(LSameAfter$Row;LSameAfter$Row;Z)Z"⟩
abbrev cX2_note : ByteArray := prog_4_method_4_code
def yX2_note : MethodName := ⟨RX2, "note", "(II)V"⟩
abbrev cX2_placeThatDiffers : ByteArray := prog_4_method_5_code
def yX2_placeThatDiffers : MethodName := ⟨RX2, "placeThatDiffers", "()I"⟩
def RX3 : String := "SameAfter$Machine"
def TX3 : u_T := fun k => match k with
  | 0 => ("SameAfter$Machine", "flow", "LSameAfter$Flow;", true)
  | 1 => ("SameAfter$Machine", "outputs", "[I", true)
  | 2 => ("SameAfter$Machine", "outputCount", "I", false)
  | 3 => ("SameAfter$Machine", "steps", "I", false)
  | 4 => ("SameAfter$Machine", "ending", "I", false)
  | 5 => ("SameAfter$Machine", "words", "[I", true)
  | _ => ("SameAfter$Machine", "stack", "[I", true)
def tyX3 : Nat → FieldType := fun k => match k with
  | 0 => .object "SameAfter$Flow"
  | 1 => .array .int
  | 2 => .int
  | 3 => .int
  | 4 => .int
  | 5 => .array .int
  | _ => .array .int
abbrev wsX30 : List Cond := u_ws RX3 TX3 7
theorem nmX3 : ∀ a, a < 7 → ∀ b, b < 7 → a ≠ b → (TX3 a).2.1 ≠ (TX3 b).2.1 := by decide +kernel
theorem tyX3_ok : ∀ k, k < 7 → parseFieldDescriptor (TX3 k).2.2.1 = some (tyX3 k) := by decide +kernel
abbrev cX3_init : ByteArray := prog_5_method_1_code
def yX3_init : MethodName := ⟨RX3, "<init>", "()V"⟩
abbrev cX3_go : ByteArray := prog_5_method_2_code
def yX3_go : MethodName := ⟨RX3, "go", "(II)V"⟩
abbrev cX3_isTired : ByteArray := prog_5_method_3_code
def yX3_isTired : MethodName := ⟨RX3, "isTired", "()Z"⟩
abbrev cX3_tell : ByteArray := prog_5_method_4_code
def yX3_tell : MethodName := ⟨RX3, "tell", "(I)I"⟩
abbrev cX3_output : ByteArray := prog_5_method_5_code
def yX3_output : MethodName := ⟨RX3, "output", "(I)I"⟩
abbrev cX3_doStatement : ByteArray := prog_5_method_6_code
def yX3_doStatement : MethodName := ⟨RX3, "doStatement", "(I)I"⟩
def RX4 : String := "SameAfter$Passes"
def TX4 : u_T := fun k => match k with
  | 0 => ("SameAfter$Passes", "judgement", "LSameAfter$Judge;", true)
  | 1 => ("SameAfter$Passes", "made", "LSameAfter$Row;", true)
  | 2 => ("SameAfter$Passes", "kept", "LSameAfter$Row;", true)
  | 3 => ("SameAfter$Passes", "bad", "I", false)
  | 4 => ("SameAfter$Passes", "badInputs", "I", false)
  | 5 => ("SameAfter$Passes", "rules", "[LSameAfter$Rule;", true)
  | 6 => ("SameAfter$Passes", "items", "[[I", true)
  | 7 => ("SameAfter$Passes", "counts", "[I", true)
  | 8 => ("SameAfter$Passes", "acts", "LSameAfter$Acts;", true)
  | _ => ("SameAfter$Passes", "trial", "LSameAfter$Row;", true)
def tyX4 : Nat → FieldType := fun k => match k with
  | 0 => .object "SameAfter$Judge"
  | 1 => .object "SameAfter$Row"
  | 2 => .object "SameAfter$Row"
  | 3 => .int
  | 4 => .int
  | 5 => .array (.object "SameAfter$Rule")
  | 6 => .array (.array .int)
  | 7 => .array .int
  | 8 => .object "SameAfter$Acts"
  | _ => .object "SameAfter$Row"
abbrev wsX40 : List Cond := u_ws RX4 TX4 10
theorem nmX4 : ∀ a, a < 10 → ∀ b, b < 10 → a ≠ b → (TX4 a).2.1 ≠ (TX4 b).2.1 := by decide +kernel
theorem tyX4_ok : ∀ k, k < 10 → parseFieldDescriptor (TX4 k).2.2.1 = some (tyX4 k) := by decide +kernel
abbrev cX4_init : ByteArray := prog_6_method_1_code
def yX4_init : MethodName := ⟨RX4, "<init>", "()V"⟩
abbrev cX4_ruleAt : ByteArray := prog_6_method_2_code
def yX4_ruleAt : MethodName := ⟨RX4, "ruleAt", "(I)LSameAfter$Rule;"⟩
abbrev cX4_isPass : ByteArray := prog_6_method_3_code
def yX4_isPass : MethodName := ⟨RX4, "isPass", "(I)Z"⟩
abbrev cX4_addItem : ByteArray := prog_6_method_4_code
def yX4_addItem : MethodName := ⟨RX4, "addItem", "(II)I"⟩
abbrev cX4_dropItems : ByteArray := prog_6_method_5_code
def yX4_dropItems : MethodName := ⟨RX4, "dropItems", "(I)Z"⟩
abbrev cX4_makeOf : ByteArray := prog_6_method_6_code
def yX4_makeOf : MethodName := ⟨RX4, "makeOf", "(ILSameAfter$Row;)Z"⟩
abbrev cX4_applyRule : ByteArray := prog_6_method_7_code
def yX4_applyRule : MethodName := ⟨RX4, "applyRule", "(LSameAfter$Rule;)Z"⟩
abbrev cX4_findBad : ByteArray := prog_6_method_8_code
def yX4_findBad : MethodName := ⟨RX4, "findBad", "(LSameAfter$Row;)V"⟩
abbrev cX4_madeWrong : ByteArray := prog_6_method_9_code
def yX4_madeWrong : MethodName := ⟨RX4, "madeWrong", "(LSameAfter$Row;)Z"⟩
abbrev cX4_cutDown : ByteArray := prog_6_method_10_code
def yX4_cutDown : MethodName := ⟨RX4, "cutDown", "(ILSameAfter$Row;)Z"⟩
def RX5 : String := "SameAfter$Proof"
def TX5 : u_T := fun k => match k with
  | 0 => ("SameAfter$Proof", "first", "I", false)
  | 1 => ("SameAfter$Proof", "wrongs", "I", false)
  | 2 => ("SameAfter$Proof", "words", "[I", true)
  | 3 => ("SameAfter$Proof", "stack", "[I", true)
  | 4 => ("SameAfter$Proof", "forms", "[[I", true)
  | 5 => ("SameAfter$Proof", "leftForm", "[I", true)
  | _ => ("SameAfter$Proof", "product", "[I", true)
def tyX5 : Nat → FieldType := fun k => match k with
  | 0 => .int
  | 1 => .int
  | 2 => .array .int
  | 3 => .array .int
  | 4 => .array (.array .int)
  | 5 => .array .int
  | _ => .array .int
abbrev wsX50 : List Cond := u_ws RX5 TX5 7
theorem nmX5 : ∀ a, a < 7 → ∀ b, b < 7 → a ≠ b → (TX5 a).2.1 ≠ (TX5 b).2.1 := by decide +kernel
theorem tyX5_ok : ∀ k, k < 7 → parseFieldDescriptor (TX5 k).2.2.1 = some (tyX5 k) := by decide +kernel
abbrev cX5_init : ByteArray := prog_7_method_1_code
def yX5_init : MethodName := ⟨RX5, "<init>", "()V"⟩
abbrev cX5_tryAll : ByteArray := prog_7_method_2_code
def yX5_tryAll : MethodName := ⟨RX5, "tryAll", "(LSameAfter$Rule;)V"⟩
abbrev cX5_tryOne : ByteArray := prog_7_method_3_code
def yX5_tryOne : MethodName := ⟨RX5, "tryOne", "(LSameAfter$Rule;III)V"⟩
abbrev cX5_valueOf : ByteArray := prog_7_method_4_code
def yX5_valueOf : MethodName := ⟨RX5, "valueOf", "(LSameAfter$Row;)I"⟩
abbrev cX5_compareForms : ByteArray := prog_7_method_5_code
def yX5_compareForms : MethodName := ⟨RX5, "compareForms", "(LSameAfter$Rule;)I"⟩
abbrev cX5_hasForm : ByteArray := prog_7_method_6_code
def yX5_hasForm : MethodName := ⟨RX5, "hasForm", "(LSameAfter$Row;)Z"⟩
abbrev cX5_mostTimes : ByteArray := prog_7_method_7_code
def yX5_mostTimes : MethodName := ⟨RX5, "mostTimes", "(LSameAfter$Row;I)I"⟩
abbrev cX5_multiplyOut : ByteArray := prog_7_method_8_code
def yX5_multiplyOut : MethodName := ⟨RX5, "multiplyOut", "(LSameAfter$Row;)V"⟩
abbrev cX5_beginForm : ByteArray := prog_7_method_9_code
def yX5_beginForm : MethodName := ⟨RX5, "beginForm", "([II)V"⟩
abbrev cX5_addUp : ByteArray := prog_7_method_10_code
def yX5_addUp : MethodName := ⟨RX5, "addUp", "([I[II)V"⟩
abbrev cX5_multiply : ByteArray := prog_7_method_11_code
def yX5_multiply : MethodName := ⟨RX5, "multiply", "([I[I)V"⟩
abbrev cX5_addMultiple : ByteArray := prog_7_method_12_code
def yX5_addMultiple : MethodName := ⟨RX5, "addMultiple", "(II[I)V"⟩
def RX6 : String := "SameAfter$Reader"
def TX6 : u_T := fun k => match k with
  | 0 => ("SameAfter$Reader", "tape", "LSameAfter$Tape;", true)
  | 1 => ("SameAfter$Reader", "fault", "I", false)
  | 2 => ("SameAfter$Reader", "faultPlace", "I", false)
  | 3 => ("SameAfter$Reader", "row", "LSameAfter$Row;", false)
  | 4 => ("SameAfter$Reader", "rule", "LSameAfter$Rule;", false)
  | 5 => ("SameAfter$Reader", "state", "I", false)
  | 6 => ("SameAfter$Reader", "purpose", "I", false)
  | 7 => ("SameAfter$Reader", "statements", "I", false)
  | 8 => ("SameAfter$Reader", "things", "I", false)
  | 9 => ("SameAfter$Reader", "mostThings", "I", false)
  | 10 => ("SameAfter$Reader", "sumStart", "I", false)
  | 11 => ("SameAfter$Reader", "productStart", "I", false)
  | 12 => ("SameAfter$Reader", "testPlace", "I", false)
  | 13 => ("SameAfter$Reader", "opened", "I", false)
  | 14 => ("SameAfter$Reader", "openKinds", "[I", true)
  | 15 => ("SameAfter$Reader", "openSums", "[I", true)
  | _ => ("SameAfter$Reader", "openProducts", "[I", true)
def tyX6 : Nat → FieldType := fun k => match k with
  | 0 => .object "SameAfter$Tape"
  | 1 => .int
  | 2 => .int
  | 3 => .object "SameAfter$Row"
  | 4 => .object "SameAfter$Rule"
  | 5 => .int
  | 6 => .int
  | 7 => .int
  | 8 => .int
  | 9 => .int
  | 10 => .int
  | 11 => .int
  | 12 => .int
  | 13 => .int
  | 14 => .array .int
  | 15 => .array .int
  | _ => .array .int
abbrev wsX60 : List Cond := u_ws RX6 TX6 17
theorem nmX6 : ∀ a, a < 17 → ∀ b, b < 17 → a ≠ b → (TX6 a).2.1 ≠ (TX6 b).2.1 := by decide +kernel
theorem tyX6_ok : ∀ k, k < 17 → parseFieldDescriptor (TX6 k).2.2.1 = some (tyX6 k) := by decide +kernel
abbrev cX6_init : ByteArray := prog_8_method_1_code
def yX6_init : MethodName := ⟨RX6, "<init>", "()V"⟩
abbrev cX6_drop : ByteArray := prog_8_method_2_code
def yX6_drop : MethodName := ⟨RX6, "drop", "()V"⟩
abbrev cX6_beginProgram : ByteArray := prog_8_method_3_code
def yX6_beginProgram : MethodName := ⟨RX6, "beginProgram", "(LSameAfter$Row;)V"⟩
abbrev cX6_beginRule : ByteArray := prog_8_method_4_code
def yX6_beginRule : MethodName := ⟨RX6, "beginRule", "(LSameAfter$Rule;)V"⟩
abbrev cX6_begin : ByteArray := prog_8_method_5_code
def yX6_begin : MethodName := ⟨RX6, "begin", "(LSameAfter$Row;LSameAfter$Rule;I)V"⟩
abbrev cX6_readAll : ByteArray := prog_8_method_6_code
def yX6_readAll : MethodName := ⟨RX6, "readAll", "()Z"⟩
abbrev cX6_refuse : ByteArray := prog_8_method_7_code
def yX6_refuse : MethodName := ⟨RX6, "refuse", "(I)V"⟩
abbrev cX6_takeBehindThen : ByteArray := prog_8_method_8_code
def yX6_takeBehindThen : MethodName := ⟨RX6, "takeBehindThen", "()V"⟩
abbrev cX6_takeElseBrace : ByteArray := prog_8_method_9_code
def yX6_takeElseBrace : MethodName := ⟨RX6, "takeElseBrace", "()V"⟩
abbrev cX6_takeSetSign : ByteArray := prog_8_method_10_code
def yX6_takeSetSign : MethodName := ⟨RX6, "takeSetSign", "()V"⟩
abbrev cX6_takeSemicolon : ByteArray := prog_8_method_11_code
def yX6_takeSemicolon : MethodName := ⟨RX6, "takeSemicolon", "()V"⟩
abbrev cX6_takeStatement : ByteArray := prog_8_method_12_code
def yX6_takeStatement : MethodName := ⟨RX6, "takeStatement", "()V"⟩
abbrev cX6_beginStatement : ByteArray := prog_8_method_13_code
def yX6_beginStatement : MethodName := ⟨RX6, "beginStatement", "(I)V"⟩
abbrev cX6_beginExpression : ByteArray := prog_8_method_14_code
def yX6_beginExpression : MethodName := ⟨RX6, "beginExpression", "(I)V"⟩
abbrev cX6_takeOperand : ByteArray := prog_8_method_15_code
def yX6_takeOperand : MethodName := ⟨RX6, "takeOperand", "()V"⟩
abbrev cX6_takeNumber : ByteArray := prog_8_method_16_code
def yX6_takeNumber : MethodName := ⟨RX6, "takeNumber", "()V"⟩
abbrev cX6_takeLetter : ByteArray := prog_8_method_17_code
def yX6_takeLetter : MethodName := ⟨RX6, "takeLetter", "()V"⟩
abbrev cX6_countThing : ByteArray := prog_8_method_18_code
def yX6_countThing : MethodName := ⟨RX6, "countThing", "()Z"⟩
abbrev cX6_takeBehindOperand : ByteArray := prog_8_method_19_code
def yX6_takeBehindOperand : MethodName := ⟨RX6, "takeBehindOperand", "()V"⟩
abbrev cX6_takeOperation : ByteArray := prog_8_method_20_code
def yX6_takeOperation : MethodName := ⟨RX6, "takeOperation", "(I)V"⟩
abbrev cX6_endExpression : ByteArray := prog_8_method_21_code
def yX6_endExpression : MethodName := ⟨RX6, "endExpression", "(I)V"⟩
abbrev cX6_openBlock : ByteArray := prog_8_method_22_code
def yX6_openBlock : MethodName := ⟨RX6, "openBlock", "(I)V"⟩
abbrev cX6_open : ByteArray := prog_8_method_23_code
def yX6_open : MethodName := ⟨RX6, "open", "(I)Z"⟩
abbrev cX6_closeBlock : ByteArray := prog_8_method_24_code
def yX6_closeBlock : MethodName := ⟨RX6, "closeBlock", "()V"⟩
def RX7 : String := "SameAfter$Registers"
def TX7 : u_T := fun k => match k with
  | 0 => ("SameAfter$Registers", "flow", "LSameAfter$Flow;", true)
  | 1 => ("SameAfter$Registers", "clashes", "[I", true)
  | 2 => ("SameAfter$Registers", "comings", "[I", true)
  | 3 => ("SameAfter$Registers", "given", "[I", true)
  | _ => ("SameAfter$Registers", "present", "I", false)
def tyX7 : Nat → FieldType := fun k => match k with
  | 0 => .object "SameAfter$Flow"
  | 1 => .array .int
  | 2 => .array .int
  | 3 => .array .int
  | _ => .int
abbrev wsX70 : List Cond := u_ws RX7 TX7 5
theorem nmX7 : ∀ a, a < 5 → ∀ b, b < 5 → a ≠ b → (TX7 a).2.1 ≠ (TX7 b).2.1 := by decide +kernel
theorem tyX7_ok : ∀ k, k < 5 → parseFieldDescriptor (TX7 k).2.2.1 = some (tyX7 k) := by decide +kernel
abbrev cX7_init : ByteArray := prog_9_method_1_code
def yX7_init : MethodName := ⟨RX7, "<init>", "()V"⟩
abbrev cX7_study : ByteArray := prog_9_method_2_code
def yX7_study : MethodName := ⟨RX7, "study", "(LSameAfter$Row;)V"⟩
abbrev cX7_count : ByteArray := prog_9_method_3_code
def yX7_count : MethodName := ⟨RX7, "count", "(I)V"⟩
abbrev cX7_noteClashes : ByteArray := prog_9_method_4_code
def yX7_noteClashes : MethodName := ⟨RX7, "noteClashes", "(II)V"⟩
abbrev cX7_clashing : ByteArray := prog_9_method_5_code
def yX7_clashing : MethodName := ⟨RX7, "clashing", "(II)Z"⟩
abbrev cX7_fewest : ByteArray := prog_9_method_6_code
def yX7_fewest : MethodName := ⟨RX7, "fewest", "()I"⟩
abbrev cX7_registerOf : ByteArray := prog_9_method_7_code
def yX7_registerOf : MethodName := ⟨RX7, "registerOf", "(I)I"⟩
abbrev cX7_spills : ByteArray := prog_9_method_8_code
def yX7_spills : MethodName := ⟨RX7, "spills", "(I)I"⟩
abbrev cX7_comingsOf : ByteArray := prog_9_method_9_code
def yX7_comingsOf : MethodName := ⟨RX7, "comingsOf", "(I)I"⟩
abbrev cX7_deal : ByteArray := prog_9_method_10_code
def yX7_deal : MethodName := ⟨RX7, "deal", "(III)Z"⟩
abbrev cX7_isFree : ByteArray := prog_9_method_11_code
def yX7_isFree : MethodName := ⟨RX7, "isFree", "(II)Z"⟩
def RX8 : String := "SameAfter$Row"
def TX8 : u_T := fun k => match k with
  | 0 => ("SameAfter$Row", "cells", "[I", true)
  | _ => ("SameAfter$Row", "length", "I", false)
def tyX8 : Nat → FieldType := fun k => match k with
  | 0 => .array .int
  | _ => .int
abbrev wsX80 : List Cond := u_ws RX8 TX8 2
theorem nmX8 : ∀ a, a < 2 → ∀ b, b < 2 → a ≠ b → (TX8 a).2.1 ≠ (TX8 b).2.1 := by decide +kernel
theorem tyX8_ok : ∀ k, k < 2 → parseFieldDescriptor (TX8 k).2.2.1 = some (tyX8 k) := by decide +kernel
abbrev cX8_init : ByteArray := prog_10_method_1_code
def yX8_init : MethodName := ⟨RX8, "<init>", "(I)V"⟩
abbrev cX8_isStatement : ByteArray := prog_10_method_2_code
def yX8_isStatement : MethodName := ⟨RX8, "isStatement", "(I)Z"⟩
abbrev cX8_isSet : ByteArray := prog_10_method_3_code
def yX8_isSet : MethodName := ⟨RX8, "isSet", "(I)Z"⟩
abbrev cX8_isBranch : ByteArray := prog_10_method_4_code
def yX8_isBranch : MethodName := ⟨RX8, "isBranch", "(I)Z"⟩
abbrev cX8_isNumber : ByteArray := prog_10_method_5_code
def yX8_isNumber : MethodName := ⟨RX8, "isNumber", "(I)Z"⟩
abbrev cX8_isRead : ByteArray := prog_10_method_6_code
def yX8_isRead : MethodName := ⟨RX8, "isRead", "(I)Z"⟩
abbrev cX8_isOperation : ByteArray := prog_10_method_7_code
def yX8_isOperation : MethodName := ⟨RX8, "isOperation", "(I)Z"⟩
abbrev cX8_isExpression : ByteArray := prog_10_method_8_code
def yX8_isExpression : MethodName := ⟨RX8, "isExpression", "(I)Z"⟩
abbrev cX8_result : ByteArray := prog_10_method_9_code
def yX8_result : MethodName := ⟨RX8, "result", "(III)I"⟩
abbrev cX8_holds : ByteArray := prog_10_method_10_code
def yX8_holds : MethodName := ⟨RX8, "holds", "(III)Z"⟩
abbrev cX8_cell : ByteArray := prog_10_method_11_code
def yX8_cell : MethodName := ⟨RX8, "cell", "(I)I"⟩
abbrev cX8_change : ByteArray := prog_10_method_12_code
def yX8_change : MethodName := ⟨RX8, "change", "(II)V"⟩
abbrev cX8_add : ByteArray := prog_10_method_13_code
def yX8_add : MethodName := ⟨RX8, "add", "(I)V"⟩
abbrev cX8_insert : ByteArray := prog_10_method_14_code
def yX8_insert : MethodName := ⟨RX8, "insert", "(II)V"⟩
abbrev cX8_remove : ByteArray := prog_10_method_15_code
def yX8_remove : MethodName := ⟨RX8, "remove", "(II)V"⟩
abbrev cX8_addPart : ByteArray := prog_10_method_16_code
def yX8_addPart : MethodName := ⟨RX8, "addPart", "(LSameAfter$Row;II)V"⟩
abbrev cX8_copy : ByteArray := prog_10_method_17_code
def yX8_copy : MethodName := ⟨RX8, "copy", "(LSameAfter$Row;)V"⟩
abbrev cX8_statements : ByteArray := prog_10_method_18_code
def yX8_statements : MethodName := ⟨RX8, "statements", "()I"⟩
abbrev cX8_expressions : ByteArray := prog_10_method_19_code
def yX8_expressions : MethodName := ⟨RX8, "expressions", "()I"⟩
abbrev cX8_isTooLarge : ByteArray := prog_10_method_20_code
def yX8_isTooLarge : MethodName := ⟨RX8, "isTooLarge", "()Z"⟩
abbrev cX8_isLike : ByteArray := prog_10_method_21_code
def yX8_isLike : MethodName := ⟨RX8, "isLike", "(LSameAfter$Row;)Z"⟩
abbrev cX8_repeats : ByteArray := prog_10_method_22_code
def yX8_repeats : MethodName := ⟨RX8, "repeats", "(III)Z"⟩
abbrev cX8_has : ByteArray := prog_10_method_23_code
def yX8_has : MethodName := ⟨RX8, "has", "(III)Z"⟩
abbrev cX8_replace : ByteArray := prog_10_method_24_code
def yX8_replace : MethodName := ⟨RX8, "replace", "(IIII)V"⟩
abbrev cX8_expressionEnd : ByteArray := prog_10_method_25_code
def yX8_expressionEnd : MethodName := ⟨RX8, "expressionEnd", "(I)I"⟩
abbrev cX8_closeOf : ByteArray := prog_10_method_26_code
def yX8_closeOf : MethodName := ⟨RX8, "closeOf", "(I)I"⟩
abbrev cX8_elseOf : ByteArray := prog_10_method_27_code
def yX8_elseOf : MethodName := ⟨RX8, "elseOf", "(I)I"⟩
abbrev cX8_statementEnd : ByteArray := prog_10_method_28_code
def yX8_statementEnd : MethodName := ⟨RX8, "statementEnd", "(I)I"⟩
abbrev cX8_reckon : ByteArray := prog_10_method_29_code
def yX8_reckon : MethodName := ⟨RX8, "reckon", "(II[I[I)V"⟩
def RX9 : String := "SameAfter$Rule"
def TX9 : u_T := fun k => match k with
  | 0 => ("SameAfter$Rule", "left", "LSameAfter$Row;", true)
  | 1 => ("SameAfter$Rule", "right", "LSameAfter$Row;", true)
  | 2 => ("SameAfter$Rule", "letters", "I", false)
  | 3 => ("SameAfter$Rule", "starts", "[I", true)
  | _ => ("SameAfter$Rule", "ends", "[I", true)
def tyX9 : Nat → FieldType := fun k => match k with
  | 0 => .object "SameAfter$Row"
  | 1 => .object "SameAfter$Row"
  | 2 => .int
  | 3 => .array .int
  | _ => .array .int
abbrev wsX90 : List Cond := u_ws RX9 TX9 5
theorem nmX9 : ∀ a, a < 5 → ∀ b, b < 5 → a ≠ b → (TX9 a).2.1 ≠ (TX9 b).2.1 := by decide +kernel
theorem tyX9_ok : ∀ k, k < 5 → parseFieldDescriptor (TX9 k).2.2.1 = some (tyX9 k) := by decide +kernel
abbrev cX9_init : ByteArray := prog_11_method_1_code
def yX9_init : MethodName := ⟨RX9, "<init>", "()V"⟩
abbrev cX9_forget : ByteArray := prog_11_method_2_code
def yX9_forget : MethodName := ⟨RX9, "forget", "()V"⟩
abbrev cX9_noteLetters : ByteArray := prog_11_method_3_code
def yX9_noteLetters : MethodName := ⟨RX9, "noteLetters", "()V"⟩
abbrev cX9_hasLetter : ByteArray := prog_11_method_4_code
def yX9_hasLetter : MethodName := ⟨RX9, "hasLetter", "(I)Z"⟩
abbrev cX9_letterOf : ByteArray := prog_11_method_5_code
def yX9_letterOf : MethodName := ⟨RX9, "letterOf", "(I)I"⟩
abbrev cX9_countIn : ByteArray := prog_11_method_6_code
def yX9_countIn : MethodName := ⟨RX9, "countIn", "(LSameAfter$Row;)I"⟩
abbrev cX9_placeIn : ByteArray := prog_11_method_7_code
def yX9_placeIn : MethodName := ⟨RX9, "placeIn", "(LSameAfter$Row;I)I"⟩
abbrev cX9_matches : ByteArray := prog_11_method_8_code
def yX9_matches : MethodName := ⟨RX9, "matches", "(LSameAfter$Row;I)Z"⟩
abbrev cX9_bind : ByteArray := prog_11_method_9_code
def yX9_bind : MethodName := ⟨RX9, "bind", "(LSameAfter$Row;III)Z"⟩
abbrev cX9_rewrite : ByteArray := prog_11_method_10_code
def yX9_rewrite : MethodName := ⟨RX9, "rewrite", "(LSameAfter$Row;ILSameAfter$Row;)Z"⟩
abbrev cX9_lengthOfRight : ByteArray := prog_11_method_11_code
def yX9_lengthOfRight : MethodName := ⟨RX9, "lengthOfRight", "()I"⟩
def RX10 : String := "SameAfter$Tape"
def TX10 : u_T := fun k => match k with
  | 0 => ("SameAfter$Tape", "bytes", "[I", true)
  | 1 => ("SameAfter$Tape", "length", "I", false)
  | 2 => ("SameAfter$Tape", "kind", "I", false)
  | 3 => ("SameAfter$Tape", "value", "I", false)
  | 4 => ("SameAfter$Tape", "place", "I", false)
  | _ => ("SameAfter$Tape", "next", "I", false)
def tyX10 : Nat → FieldType := fun k => match k with
  | 0 => .array .int
  | 1 => .int
  | 2 => .int
  | 3 => .int
  | 4 => .int
  | _ => .int
abbrev wsX100 : List Cond := u_ws RX10 TX10 6
theorem nmX10 : ∀ a, a < 6 → ∀ b, b < 6 → a ≠ b → (TX10 a).2.1 ≠ (TX10 b).2.1 := by decide +kernel
theorem tyX10_ok : ∀ k, k < 6 → parseFieldDescriptor (TX10 k).2.2.1 = some (tyX10 k) := by decide +kernel
abbrev cX10_init : ByteArray := prog_12_method_1_code
def yX10_init : MethodName := ⟨RX10, "<init>", "()V"⟩
abbrev cX10_put : ByteArray := prog_12_method_2_code
def yX10_put : MethodName := ⟨RX10, "put", "(I)V"⟩
abbrev cX10_shorten : ByteArray := prog_12_method_3_code
def yX10_shorten : MethodName := ⟨RX10, "shorten", "(I)Z"⟩
abbrev cX10_rewind : ByteArray := prog_12_method_4_code
def yX10_rewind : MethodName := ⟨RX10, "rewind", "()V"⟩
abbrev cX10_byteAt : ByteArray := prog_12_method_5_code
def yX10_byteAt : MethodName := ⟨RX10, "byteAt", "(I)I"⟩
abbrev cX10_advance : ByteArray := prog_12_method_6_code
def yX10_advance : MethodName := ⟨RX10, "advance", "(Z)V"⟩
abbrev cX10_isLetter : ByteArray := prog_12_method_7_code
def yX10_isLetter : MethodName := ⟨RX10, "isLetter", "(I)Z"⟩
abbrev cX10_isSmallLetter : ByteArray := prog_12_method_8_code
def yX10_isSmallLetter : MethodName := ⟨RX10, "isSmallLetter", "(I)Z"⟩
abbrev cX10_isDigit : ByteArray := prog_12_method_9_code
def yX10_isDigit : MethodName := ⟨RX10, "isDigit", "(I)Z"⟩
abbrev cX10_takeLetters : ByteArray := prog_12_method_10_code
def yX10_takeLetters : MethodName := ⟨RX10, "takeLetters", "()V"⟩
abbrev cX10_isText : ByteArray := prog_12_method_11_code
def yX10_isText : MethodName := ⟨RX10, "isText", "(Ljava/lang/String;)Z"⟩
abbrev cX10_takeDigits : ByteArray := prog_12_method_12_code
def yX10_takeDigits : MethodName := ⟨RX10, "takeDigits", "()V"⟩
abbrev cX10_takeSign : ByteArray := prog_12_method_13_code
def yX10_takeSign : MethodName := ⟨RX10, "takeSign", "(IZ)V"⟩
abbrev cX10_isSign : ByteArray := prog_12_method_14_code
def yX10_isSign : MethodName := ⟨RX10, "isSign", "(I)Z"⟩
def RX11 : String := "SameAfter"
def TX11 : u_T := fun k => match k with
  | 0 => ("SameAfter", "slots", "[LSameAfter$Row;", true)
  | 1 => ("SameAfter", "ruleCount", "I", false)
  | 2 => ("SameAfter", "work", "LSameAfter$Row;", true)
  | 3 => ("SameAfter", "reader", "LSameAfter$Reader;", true)
  | 4 => ("SameAfter", "machine", "LSameAfter$Machine;", true)
  | 5 => ("SameAfter", "proof", "LSameAfter$Proof;", true)
  | 6 => ("SameAfter", "passes", "LSameAfter$Passes;", true)
  | _ => ("SameAfter", "dealing", "LSameAfter$Registers;", true)
def tyX11 : Nat → FieldType := fun k => match k with
  | 0 => .array (.object "SameAfter$Row")
  | 1 => .int
  | 2 => .object "SameAfter$Row"
  | 3 => .object "SameAfter$Reader"
  | 4 => .object "SameAfter$Machine"
  | 5 => .object "SameAfter$Proof"
  | 6 => .object "SameAfter$Passes"
  | _ => .object "SameAfter$Registers"
abbrev wsX110 : List Cond := u_ws RX11 TX11 8
theorem nmX11 : ∀ a, a < 8 → ∀ b, b < 8 → a ≠ b → (TX11 a).2.1 ≠ (TX11 b).2.1 := by decide +kernel
theorem tyX11_ok : ∀ k, k < 8 → parseFieldDescriptor (TX11 k).2.2.1 = some (tyX11 k) := by decide +kernel
abbrev cX11_init : ByteArray := prog_1_method_1_code
def yX11_init : MethodName := ⟨RX11, "<init>", "()V"⟩
abbrev cX11_feed : ByteArray := prog_1_method_2_code
def yX11_feed : MethodName := ⟨RX11, "feed", "(IIIII)I"⟩
abbrev cX11_end : ByteArray := prog_1_method_3_code
def yX11_end : MethodName := ⟨RX11, "end", "(I)Z"⟩
abbrev cX11_program : ByteArray := prog_1_method_4_code
def yX11_program : MethodName := ⟨RX11, "program", "(I)I"⟩
abbrev cX11_rule : ByteArray := prog_1_method_5_code
def yX11_rule : MethodName := ⟨RX11, "rule", "()I"⟩
abbrev cX11_fault : ByteArray := prog_1_method_6_code
def yX11_fault : MethodName := ⟨RX11, "fault", "(I)I"⟩
abbrev cX11_at : ByteArray := prog_1_method_7_code
def yX11_at : MethodName := ⟨RX11, "at", "(II)I"⟩
abbrev cX11_size : ByteArray := prog_1_method_8_code
def yX11_size : MethodName := ⟨RX11, "size", "(II)I"⟩
abbrev cX11_run : ByteArray := prog_1_method_9_code
def yX11_run : MethodName := ⟨RX11, "run", "(IIII)I"⟩
abbrev cX11_judge : ByteArray := prog_1_method_10_code
def yX11_judge : MethodName := ⟨RX11, "judge", "(III)I"⟩
abbrev cX11_ruleOf : ByteArray := prog_1_method_11_code
def yX11_ruleOf : MethodName := ⟨RX11, "ruleOf", "(II)I"⟩
abbrev cX11_places : ByteArray := prog_1_method_12_code
def yX11_places : MethodName := ⟨RX11, "places", "(II)I"⟩
abbrev cX11_apply : ByteArray := prog_1_method_13_code
def yX11_apply : MethodName := ⟨RX11, "apply", "(IIII)Z"⟩
abbrev cX11_item : ByteArray := prog_1_method_14_code
def yX11_item : MethodName := ⟨RX11, "item", "(II)I"⟩
abbrev cX11_clear : ByteArray := prog_1_method_15_code
def yX11_clear : MethodName := ⟨RX11, "clear", "(I)Z"⟩
abbrev cX11_make : ByteArray := prog_1_method_16_code
def yX11_make : MethodName := ⟨RX11, "make", "(III)I"⟩
abbrev cX11_blame : ByteArray := prog_1_method_17_code
def yX11_blame : MethodName := ⟨RX11, "blame", "(II)I"⟩
abbrev cX11_cut : ByteArray := prog_1_method_18_code
def yX11_cut : MethodName := ⟨RX11, "cut", "(III)I"⟩
abbrev cX11_registers : ByteArray := prog_1_method_19_code
def yX11_registers : MethodName := ⟨RX11, "registers", "(II)I"⟩
abbrev cX11_clash : ByteArray := prog_1_method_20_code
def yX11_clash : MethodName := ⟨RX11, "clash", "(III)I"⟩
abbrev cX11_slotAt : ByteArray := prog_1_method_21_code
def yX11_slotAt : MethodName := ⟨RX11, "slotAt", "(I)LSameAfter$Row;"⟩
abbrev cX11_ruleAt : ByteArray := prog_1_method_22_code
def yX11_ruleAt : MethodName := ⟨RX11, "ruleAt", "(I)LSameAfter$Rule;"⟩
abbrev cX11_isWord : ByteArray := prog_1_method_23_code
def yX11_isWord : MethodName := ⟨RX11, "isWord", "(I)Z"⟩
abbrev cX11_isVariable : ByteArray := prog_1_method_24_code
def yX11_isVariable : MethodName := ⟨RX11, "isVariable", "(I)Z"⟩
def RX12 : String := "SameAfterModel"
def TX12 : u_T := fun k => match k with
  | 0 => ("SameAfterModel", "slot", "[I", true)
  | 1 => ("SameAfterModel", "slotLong", "[I", true)
  | 2 => ("SameAfterModel", "row", "[I", true)
  | 3 => ("SameAfterModel", "fresh", "[I", true)
  | 4 => ("SameAfterModel", "many", "I", false)
  | 5 => ("SameAfterModel", "made", "I", false)
  | 6 => ("SameAfterModel", "tape", "[I", true)
  | 7 => ("SameAfterModel", "taped", "I", false)
  | 8 => ("SameAfterModel", "at", "I", false)
  | 9 => ("SameAfterModel", "token", "I", false)
  | 10 => ("SameAfterModel", "tokenAt", "I", false)
  | 11 => ("SameAfterModel", "value", "I", false)
  | 12 => ("SameAfterModel", "wrong", "I", false)
  | 13 => ("SameAfterModel", "wrongAt", "I", false)
  | 14 => ("SameAfterModel", "faultKind", "I", false)
  | 15 => ("SameAfterModel", "depth", "I", false)
  | 16 => ("SameAfterModel", "countParts", "I", false)
  | 17 => ("SameAfterModel", "countStatements", "I", false)
  | 18 => ("SameAfterModel", "partsMost", "I", false)
  | 19 => ("SameAfterModel", "leftLetters", "I", false)
  | 20 => ("SameAfterModel", "faultPlace", "I", false)
  | 21 => ("SameAfterModel", "isRule", "Z", false)
  | 22 => ("SameAfterModel", "isRight", "Z", false)
  | 23 => ("SameAfterModel", "rules", "I", false)
  | 24 => ("SameAfterModel", "rule", "[I", true)
  | 25 => ("SameAfterModel", "ruleRight", "[I", true)
  | 26 => ("SameAfterModel", "ruleLong", "[I", true)
  | 27 => ("SameAfterModel", "letters", "[I", true)
  | 28 => ("SameAfterModel", "holds", "[I", true)
  | 29 => ("SameAfterModel", "outs", "[I", true)
  | 30 => ("SameAfterModel", "steps", "I", false)
  | 31 => ("SameAfterModel", "ending", "I", false)
  | 32 => ("SameAfterModel", "outMany", "I", false)
  | 33 => ("SameAfterModel", "cursor", "I", false)
  | 34 => ("SameAfterModel", "keptEnd", "[I", true)
  | 35 => ("SameAfterModel", "keptMany", "[I", true)
  | 36 => ("SameAfterModel", "keptOut", "[I", true)
  | 37 => ("SameAfterModel", "firstParting", "I", false)
  | 38 => ("SameAfterModel", "firstPlace", "I", false)
  | 39 => ("SameAfterModel", "partings", "I", false)
  | 40 => ("SameAfterModel", "anyTired", "Z", false)
  | 41 => ("SameAfterModel", "stands", "[I", true)
  | 42 => ("SameAfterModel", "form", "[I", true)
  | 43 => ("SameAfterModel", "isForm", "Z", false)
  | 44 => ("SameAfterModel", "product", "[I", true)
  | 45 => ("SameAfterModel", "bound", "[I", true)
  | 46 => ("SameAfterModel", "patternAt", "I", false)
  | 47 => ("SameAfterModel", "isOut", "[Z", true)
  | 48 => ("SameAfterModel", "someOut", "Z", false)
  | 49 => ("SameAfterModel", "items", "[I", true)
  | 50 => ("SameAfterModel", "itemMany", "[I", true)
  | 51 => ("SameAfterModel", "whole", "[I", true)
  | 52 => ("SameAfterModel", "wholeLong", "I", false)
  | 53 => ("SameAfterModel", "cutRow", "[I", true)
  | 54 => ("SameAfterModel", "clashes", "[I", true)
  | _ => ("SameAfterModel", "deal", "[I", true)
def tyX12 : Nat → FieldType := fun k => match k with
  | 0 => .array .int
  | 1 => .array .int
  | 2 => .array .int
  | 3 => .array .int
  | 4 => .int
  | 5 => .int
  | 6 => .array .int
  | 7 => .int
  | 8 => .int
  | 9 => .int
  | 10 => .int
  | 11 => .int
  | 12 => .int
  | 13 => .int
  | 14 => .int
  | 15 => .int
  | 16 => .int
  | 17 => .int
  | 18 => .int
  | 19 => .int
  | 20 => .int
  | 21 => .boolean
  | 22 => .boolean
  | 23 => .int
  | 24 => .array .int
  | 25 => .array .int
  | 26 => .array .int
  | 27 => .array .int
  | 28 => .array .int
  | 29 => .array .int
  | 30 => .int
  | 31 => .int
  | 32 => .int
  | 33 => .int
  | 34 => .array .int
  | 35 => .array .int
  | 36 => .array .int
  | 37 => .int
  | 38 => .int
  | 39 => .int
  | 40 => .boolean
  | 41 => .array .int
  | 42 => .array .int
  | 43 => .boolean
  | 44 => .array .int
  | 45 => .array .int
  | 46 => .int
  | 47 => .array .boolean
  | 48 => .boolean
  | 49 => .array .int
  | 50 => .array .int
  | 51 => .array .int
  | 52 => .int
  | 53 => .array .int
  | 54 => .array .int
  | _ => .array .int
abbrev wsX120 : List Cond := u_ws RX12 TX12 56
theorem nmX12 : ∀ a, a < 56 → ∀ b, b < 56 → a ≠ b → (TX12 a).2.1 ≠ (TX12 b).2.1 := by decide +kernel
theorem tyX12_ok : ∀ k, k < 56 → parseFieldDescriptor (TX12 k).2.2.1 = some (tyX12 k) := by decide +kernel
abbrev cX12_init : ByteArray := prog_14_method_1_code
def yX12_init : MethodName := ⟨RX12, "<init>", "()V"⟩
abbrev cX12_isIn : ByteArray := prog_14_method_2_code
def yX12_isIn : MethodName := ⟨RX12, "isIn", "(III)Z"⟩
abbrev cX12_isSlot : ByteArray := prog_14_method_3_code
def yX12_isSlot : MethodName := ⟨RX12, "isSlot", "(I)Z"⟩
abbrev cX12_isPart : ByteArray := prog_14_method_4_code
def yX12_isPart : MethodName := ⟨RX12, "isPart", "(I)Z"⟩
abbrev cX12_isStatement : ByteArray := prog_14_method_5_code
def yX12_isStatement : MethodName := ⟨RX12, "isStatement", "(I)Z"⟩
abbrev cX12_endOf : ByteArray := prog_14_method_6_code
def yX12_endOf : MethodName := ⟨RX12, "endOf", "(I)I"⟩
abbrev cX12_body : ByteArray := prog_14_method_7_code
def yX12_body : MethodName := ⟨RX12, "body", "(I)I"⟩
abbrev cX12_isLast : ByteArray := prog_14_method_8_code
def yX12_isLast : MethodName := ⟨RX12, "isLast", "(I)Z"⟩
abbrev cX12_behind : ByteArray := prog_14_method_9_code
def yX12_behind : MethodName := ⟨RX12, "behind", "(I)I"⟩
abbrev cX12_close : ByteArray := prog_14_method_10_code
def yX12_close : MethodName := ⟨RX12, "close", "(I)I"⟩
abbrev cX12_statements : ByteArray := prog_14_method_11_code
def yX12_statements : MethodName := ⟨RX12, "statements", "()I"⟩
abbrev cX12_parts : ByteArray := prog_14_method_12_code
def yX12_parts : MethodName := ⟨RX12, "parts", "()I"⟩
abbrev cX12_takes : ByteArray := prog_14_method_13_code
def yX12_takes : MethodName := ⟨RX12, "takes", "(I)V"⟩
abbrev cX12_puts : ByteArray := prog_14_method_14_code
def yX12_puts : MethodName := ⟨RX12, "puts", "(I)V"⟩
abbrev cX12_write : ByteArray := prog_14_method_15_code
def yX12_write : MethodName := ⟨RX12, "write", "(I)V"⟩
abbrev cX12_writes : ByteArray := prog_14_method_16_code
def yX12_writes : MethodName := ⟨RX12, "writes", "(II)V"⟩
abbrev cX12_turns : ByteArray := prog_14_method_17_code
def yX12_turns : MethodName := ⟨RX12, "turns", "()V"⟩
abbrev cX12_feed : ByteArray := prog_14_method_18_code
def yX12_feed : MethodName := ⟨RX12, "feed", "(IIIII)I"⟩
abbrev cX12_end : ByteArray := prog_14_method_19_code
def yX12_end : MethodName := ⟨RX12, "end", "(I)Z"⟩
abbrev cX12_see : ByteArray := prog_14_method_20_code
def yX12_see : MethodName := ⟨RX12, "see", "(I)I"⟩
abbrev cX12_isLetter : ByteArray := prog_14_method_21_code
def yX12_isLetter : MethodName := ⟨RX12, "isLetter", "(I)Z"⟩
abbrev cX12_isDigit : ByteArray := prog_14_method_22_code
def yX12_isDigit : MethodName := ⟨RX12, "isDigit", "(I)Z"⟩
abbrev cX12_is : ByteArray := prog_14_method_23_code
def yX12_is : MethodName := ⟨RX12, "is", "(Ljava/lang/String;)Z"⟩
abbrev cX12_word : ByteArray := prog_14_method_24_code
def yX12_word : MethodName := ⟨RX12, "word", "()I"⟩
abbrev cX12_next0 : ByteArray := prog_14_method_25_code
def yX12_next0 : MethodName := ⟨RX12, "next0", "()V"⟩
abbrev cX12_bad : ByteArray := prog_14_method_26_code
def yX12_bad : MethodName := ⟨RX12, "bad", "(I)Z"⟩
abbrev cX12_need : ByteArray := prog_14_method_27_code
def yX12_need : MethodName := ⟨RX12, "need", "(I)Z"⟩
abbrev cX12_opens : ByteArray := prog_14_method_28_code
def yX12_opens : MethodName := ⟨RX12, "opens", "(I)Z"⟩
abbrev cX12_closes : ByteArray := prog_14_method_29_code
def yX12_closes : MethodName := ⟨RX12, "closes", "(I)Z"⟩
abbrev cX12_counts : ByteArray := prog_14_method_30_code
def yX12_counts : MethodName := ⟨RX12, "counts", "()Z"⟩
abbrev cX12_ahead : ByteArray := prog_14_method_31_code
def yX12_ahead : MethodName := ⟨RX12, "ahead", "(II)V"⟩
abbrev cX12_sumUp : ByteArray := prog_14_method_32_code
def yX12_sumUp : MethodName := ⟨RX12, "sumUp", "()Z"⟩
abbrev cX12_product : ByteArray := prog_14_method_33_code
def yX12_product : MethodName := ⟨RX12, "product", "()Z"⟩
abbrev cX12_unit : ByteArray := prog_14_method_34_code
def yX12_unit : MethodName := ⟨RX12, "unit", "()Z"⟩
abbrev cX12_asks : ByteArray := prog_14_method_35_code
def yX12_asks : MethodName := ⟨RX12, "asks", "()Z"⟩
abbrev cX12_block : ByteArray := prog_14_method_36_code
def yX12_block : MethodName := ⟨RX12, "block", "()Z"⟩
abbrev cX12_otherwise : ByteArray := prog_14_method_37_code
def yX12_otherwise : MethodName := ⟨RX12, "otherwise", "()Z"⟩
abbrev cX12_statement : ByteArray := prog_14_method_38_code
def yX12_statement : MethodName := ⟨RX12, "statement", "()Z"⟩
abbrev cX12_begins : ByteArray := prog_14_method_39_code
def yX12_begins : MethodName := ⟨RX12, "begins", "(ZI)V"⟩
abbrev cX12_ends : ByteArray := prog_14_method_40_code
def yX12_ends : MethodName := ⟨RX12, "ends", "()V"⟩
abbrev cX12_program : ByteArray := prog_14_method_41_code
def yX12_program : MethodName := ⟨RX12, "program", "(I)I"⟩
abbrev cX12_rule : ByteArray := prog_14_method_42_code
def yX12_rule : MethodName := ⟨RX12, "rule", "()I"⟩
abbrev cX12_fault : ByteArray := prog_14_method_43_code
def yX12_fault : MethodName := ⟨RX12, "fault", "(I)I"⟩
abbrev cX12_at : ByteArray := prog_14_method_44_code
def yX12_at : MethodName := ⟨RX12, "at", "(II)I"⟩
abbrev cX12_size : ByteArray := prog_14_method_45_code
def yX12_size : MethodName := ⟨RX12, "size", "(II)I"⟩
abbrev cX12_both : ByteArray := prog_14_method_46_code
def yX12_both : MethodName := ⟨RX12, "both", "(III)I"⟩
abbrev cX12_worth : ByteArray := prog_14_method_47_code
def yX12_worth : MethodName := ⟨RX12, "worth", "()I"⟩
abbrev cX12_isSo : ByteArray := prog_14_method_48_code
def yX12_isSo : MethodName := ⟨RX12, "isSo", "(I)Z"⟩
abbrev cX12_step : ByteArray := prog_14_method_49_code
def yX12_step : MethodName := ⟨RX12, "step", "()Z"⟩
abbrev cX12_does : ByteArray := prog_14_method_50_code
def yX12_does : MethodName := ⟨RX12, "does", "(I)Z"⟩
abbrev cX12_doesOne : ByteArray := prog_14_method_51_code
def yX12_doesOne : MethodName := ⟨RX12, "doesOne", "(I)Z"⟩
abbrev cX12_runs : ByteArray := prog_14_method_52_code
def yX12_runs : MethodName := ⟨RX12, "runs", "(II)V"⟩
abbrev cX12_run : ByteArray := prog_14_method_53_code
def yX12_run : MethodName := ⟨RX12, "run", "(IIII)I"⟩
abbrev cX12_keeps : ByteArray := prog_14_method_54_code
def yX12_keeps : MethodName := ⟨RX12, "keeps", "()V"⟩
abbrev cX12_compares : ByteArray := prog_14_method_55_code
def yX12_compares : MethodName := ⟨RX12, "compares", "()V"⟩
abbrev cX12_judge : ByteArray := prog_14_method_56_code
def yX12_judge : MethodName := ⟨RX12, "judge", "(III)I"⟩
abbrev cX12_ruleWorth : ByteArray := prog_14_method_57_code
def yX12_ruleWorth : MethodName := ⟨RX12, "ruleWorth", "(I)I"⟩
abbrev cX12_isAlike : ByteArray := prog_14_method_58_code
def yX12_isAlike : MethodName := ⟨RX12, "isAlike", "(I)Z"⟩
abbrev cX12_forms : ByteArray := prog_14_method_59_code
def yX12_forms : MethodName := ⟨RX12, "forms", "(II)V"⟩
abbrev cX12_products : ByteArray := prog_14_method_60_code
def yX12_products : MethodName := ⟨RX12, "products", "(I)V"⟩
abbrev cX12_sameForms : ByteArray := prog_14_method_61_code
def yX12_sameForms : MethodName := ⟨RX12, "sameForms", "(I)I"⟩
abbrev cX12_ruleOf : ByteArray := prog_14_method_62_code
def yX12_ruleOf : MethodName := ⟨RX12, "ruleOf", "(II)I"⟩
abbrev cX12_sameParts : ByteArray := prog_14_method_63_code
def yX12_sameParts : MethodName := ⟨RX12, "sameParts", "(II)Z"⟩
abbrev cX12_fits : ByteArray := prog_14_method_64_code
def yX12_fits : MethodName := ⟨RX12, "fits", "(II)Z"⟩
abbrev cX12_matches : ByteArray := prog_14_method_65_code
def yX12_matches : MethodName := ⟨RX12, "matches", "(II)Z"⟩
abbrev cX12_match : ByteArray := prog_14_method_66_code
def yX12_match : MethodName := ⟨RX12, "match", "(II)I"⟩
abbrev cX12_places : ByteArray := prog_14_method_67_code
def yX12_places : MethodName := ⟨RX12, "places", "(II)I"⟩
abbrev cX12_applies : ByteArray := prog_14_method_68_code
def yX12_applies : MethodName := ⟨RX12, "applies", "(II)Z"⟩
abbrev cX12_apply : ByteArray := prog_14_method_69_code
def yX12_apply : MethodName := ⟨RX12, "apply", "(IIII)Z"⟩
abbrev cX12_reads : ByteArray := prog_14_method_70_code
def yX12_reads : MethodName := ⟨RX12, "reads", "(II)I"⟩
abbrev cX12_liveFrom : ByteArray := prog_14_method_71_code
def yX12_liveFrom : MethodName := ⟨RX12, "liveFrom", "(II)I"⟩
abbrev cX12_liveAt : ByteArray := prog_14_method_72_code
def yX12_liveAt : MethodName := ⟨RX12, "liveAt", "(II)I"⟩
abbrev cX12_drops : ByteArray := prog_14_method_73_code
def yX12_drops : MethodName := ⟨RX12, "drops", "(I)V"⟩
abbrev cX12_marks : ByteArray := prog_14_method_74_code
def yX12_marks : MethodName := ⟨RX12, "marks", "(II)V"⟩
abbrev cX12_marksHasty : ByteArray := prog_14_method_75_code
def yX12_marksHasty : MethodName := ⟨RX12, "marksHasty", "()V"⟩
abbrev cX12_copies : ByteArray := prog_14_method_76_code
def yX12_copies : MethodName := ⟨RX12, "copies", "(I)V"⟩
abbrev cX12_clears : ByteArray := prog_14_method_77_code
def yX12_clears : MethodName := ⟨RX12, "clears", "()V"⟩
abbrev cX12_dead : ByteArray := prog_14_method_78_code
def yX12_dead : MethodName := ⟨RX12, "dead", "(Z)V"⟩
abbrev cX12_folds : ByteArray := prog_14_method_79_code
def yX12_folds : MethodName := ⟨RX12, "folds", "(I)Z"⟩
abbrev cX12_foldAll : ByteArray := prog_14_method_80_code
def yX12_foldAll : MethodName := ⟨RX12, "foldAll", "(I)V"⟩
abbrev cX12_foldOne : ByteArray := prog_14_method_81_code
def yX12_foldOne : MethodName := ⟨RX12, "foldOne", "(I)V"⟩
abbrev cX12_replaces : ByteArray := prog_14_method_82_code
def yX12_replaces : MethodName := ⟨RX12, "replaces", "(IIII)V"⟩
abbrev cX12_sets : ByteArray := prog_14_method_83_code
def yX12_sets : MethodName := ⟨RX12, "sets", "(III)Z"⟩
abbrev cX12_copyFrom : ByteArray := prog_14_method_84_code
def yX12_copyFrom : MethodName := ⟨RX12, "copyFrom", "(III)V"⟩
abbrev cX12_hastyCopy : ByteArray := prog_14_method_85_code
def yX12_hastyCopy : MethodName := ⟨RX12, "hastyCopy", "()V"⟩
abbrev cX12_unrolls : ByteArray := prog_14_method_86_code
def yX12_unrolls : MethodName := ⟨RX12, "unrolls", "(I)V"⟩
abbrev cX12_isPass : ByteArray := prog_14_method_87_code
def yX12_isPass : MethodName := ⟨RX12, "isPass", "(I)Z"⟩
abbrev cX12_item : ByteArray := prog_14_method_88_code
def yX12_item : MethodName := ⟨RX12, "item", "(II)I"⟩
abbrev cX12_clear : ByteArray := prog_14_method_89_code
def yX12_clear : MethodName := ⟨RX12, "clear", "(I)Z"⟩
abbrev cX12_isSmall : ByteArray := prog_14_method_90_code
def yX12_isSmall : MethodName := ⟨RX12, "isSmall", "()Z"⟩
abbrev cX12_again : ByteArray := prog_14_method_91_code
def yX12_again : MethodName := ⟨RX12, "again", "(I)Z"⟩
abbrev cX12_makes : ByteArray := prog_14_method_92_code
def yX12_makes : MethodName := ⟨RX12, "makes", "(I)Z"⟩
abbrev cX12_make : ByteArray := prog_14_method_93_code
def yX12_make : MethodName := ⟨RX12, "make", "(III)I"⟩
abbrev cX12_blame : ByteArray := prog_14_method_94_code
def yX12_blame : MethodName := ⟨RX12, "blame", "(II)I"⟩
abbrev cX12_keepsWhole : ByteArray := prog_14_method_95_code
def yX12_keepsWhole : MethodName := ⟨RX12, "keepsWhole", "()V"⟩
abbrev cX12_takesWhole : ByteArray := prog_14_method_96_code
def yX12_takesWhole : MethodName := ⟨RX12, "takesWhole", "()V"⟩
abbrev cX12_isWrong : ByteArray := prog_14_method_97_code
def yX12_isWrong : MethodName := ⟨RX12, "isWrong", "(I)Z"⟩
abbrev cX12_cutsOne : ByteArray := prog_14_method_98_code
def yX12_cutsOne : MethodName := ⟨RX12, "cutsOne", "(I)Z"⟩
abbrev cX12_cut : ByteArray := prog_14_method_99_code
def yX12_cut : MethodName := ⟨RX12, "cut", "(III)I"⟩
abbrev cX12_clashAll : ByteArray := prog_14_method_100_code
def yX12_clashAll : MethodName := ⟨RX12, "clashAll", "(I)V"⟩
abbrev cX12_clashSet : ByteArray := prog_14_method_101_code
def yX12_clashSet : MethodName := ⟨RX12, "clashSet", "(II)V"⟩
abbrev cX12_clashFrom : ByteArray := prog_14_method_102_code
def yX12_clashFrom : MethodName := ⟨RX12, "clashFrom", "(II)V"⟩
abbrev cX12_clashIn : ByteArray := prog_14_method_103_code
def yX12_clashIn : MethodName := ⟨RX12, "clashIn", "(I)V"⟩
abbrev cX12_inRow : ByteArray := prog_14_method_104_code
def yX12_inRow : MethodName := ⟨RX12, "inRow", "()I"⟩
abbrev cX12_deals : ByteArray := prog_14_method_105_code
def yX12_deals : MethodName := ⟨RX12, "deals", "(II)Z"⟩
abbrev cX12_enough : ByteArray := prog_14_method_106_code
def yX12_enough : MethodName := ⟨RX12, "enough", "(I)I"⟩
abbrev cX12_timesOf : ByteArray := prog_14_method_107_code
def yX12_timesOf : MethodName := ⟨RX12, "timesOf", "(I)I"⟩
abbrev cX12_spills : ByteArray := prog_14_method_108_code
def yX12_spills : MethodName := ⟨RX12, "spills", "(II)I"⟩
abbrev cX12_registers : ByteArray := prog_14_method_109_code
def yX12_registers : MethodName := ⟨RX12, "registers", "(II)I"⟩
abbrev cX12_clash : ByteArray := prog_14_method_110_code
def yX12_clash : MethodName := ⟨RX12, "clash", "(III)I"⟩
def RJ9 : String := "java/lang/Math"
def TJ9 : u_T := fun k => match k with
  | _ => ("", "", "", false)
def tyJ9 : Nat → FieldType := fun k => match k with
  | _ => .int
abbrev wsJ90 : List Cond := u_ws RJ9 TJ9 0
theorem nmJ9 : ∀ a, a < 0 → ∀ b, b < 0 → a ≠ b → (TJ9 a).2.1 ≠ (TJ9 b).2.1 := by decide +kernel
theorem tyJ9_ok : ∀ k, k < 0 → parseFieldDescriptor (TJ9 k).2.2.1 = some (tyJ9 k) := by decide +kernel
abbrev cJ9_max_7cf53 : ByteArray := prog_15_method_65_code
def yJ9_max_7cf53 : MethodName := ⟨RJ9, "max", "(II)I"⟩
abbrev cJ9_min_7cf53 : ByteArray := prog_15_method_69_code
def yJ9_min_7cf53 : MethodName := ⟨RJ9, "min", "(II)I"⟩
def RJ0 : String := "java/lang/String"
def TJ0 : u_T := fun k => match k with
  | _ => ("", "", "", false)
def tyJ0 : Nat → FieldType := fun k => match k with
  | _ => .int
abbrev wsJ00 : List Cond := u_ws RJ0 TJ0 0
theorem nmJ0 : ∀ a, a < 0 → ∀ b, b < 0 → a ≠ b → (TJ0 a).2.1 ≠ (TJ0 b).2.1 := by decide +kernel
theorem tyJ0_ok : ∀ k, k < 0 → parseFieldDescriptor (TJ0 k).2.2.1 = some (tyJ0 k) := by decide +kernel
abbrev cJ0_length_8abf5 : ByteArray := prog_16_method_54_code
def yJ0_length_8abf5 : MethodName := ⟨RJ0, "length", "()I"⟩
abbrev cJ0_charAt_5068e : ByteArray := prog_16_method_56_code
def yJ0_charAt_5068e : MethodName := ⟨RJ0, "charAt", "(I)C"⟩
abbrev cJ0_coder_7d493 : ByteArray := prog_16_method_152_code
def yJ0_coder_7d493 : MethodName := ⟨RJ0, "coder", "()B"⟩
abbrev cJ0_isLatin1_aae02 : ByteArray := prog_16_method_154_code
def yJ0_isLatin1_aae02 : MethodName := ⟨RJ0, "isLatin1", "()Z"⟩
abbrev cJ0_checkIndex_df160 : ByteArray := prog_16_method_155_code
def yJ0_checkIndex_df160 : MethodName := ⟨RJ0, "checkIndex", "(II)V"⟩
def RJ1 : String := "java/lang/StringLatin1"
def TJ1 : u_T := fun k => match k with
  | _ => ("", "", "", false)
def tyJ1 : Nat → FieldType := fun k => match k with
  | _ => .int
abbrev wsJ10 : List Cond := u_ws RJ1 TJ1 0
theorem nmJ1 : ∀ a, a < 0 → ∀ b, b < 0 → a ≠ b → (TJ1 a).2.1 ≠ (TJ1 b).2.1 := by decide +kernel
theorem tyJ1_ok : ∀ k, k < 0 → parseFieldDescriptor (TJ1 k).2.2.1 = some (tyJ1 k) := by decide +kernel
abbrev cJ1_charAt_3b067 : ByteArray := prog_17_method_2_code
def yJ1_charAt_3b067 : MethodName := ⟨RJ1, "charAt", "([BI)C"⟩
def RJ2 : String := "java/lang/StringUTF16"
def TJ2 : u_T := fun k => match k with
  | _ => ("", "", "", false)
def tyJ2 : Nat → FieldType := fun k => match k with
  | _ => .int
abbrev wsJ20 : List Cond := u_ws RJ2 TJ2 0
theorem nmJ2 : ∀ a, a < 0 → ∀ b, b < 0 → a ≠ b → (TJ2 a).2.1 ≠ (TJ2 b).2.1 := by decide +kernel
theorem tyJ2_ok : ∀ k, k < 0 → parseFieldDescriptor (TJ2 k).2.2.1 = some (tyJ2 k) := by decide +kernel
abbrev cJ2_getChar_3b067 : ByteArray := prog_18_method_5_code
def yJ2_getChar_3b067 : MethodName := ⟨RJ2, "getChar", "([BI)C"⟩
abbrev cJ2_length_9d52b : ByteArray := prog_18_method_6_code
def yJ2_length_9d52b : MethodName := ⟨RJ2, "length", "([B)I"⟩
abbrev cJ2_charAt_3b067 : ByteArray := prog_18_method_83_code
def yJ2_charAt_3b067 : MethodName := ⟨RJ2, "charAt", "([BI)C"⟩
abbrev cJ2_checkIndex_2214a : ByteArray := prog_18_method_91_code
def yJ2_checkIndex_2214a : MethodName := ⟨RJ2, "checkIndex", "(I[B)V"⟩
def RJ10 : String := "java/lang/System"
def TJ10 : u_T := fun k => match k with
  | _ => ("", "", "", false)
def tyJ10 : Nat → FieldType := fun k => match k with
  | _ => .int
abbrev wsJ100 : List Cond := u_ws RJ10 TJ10 0
theorem nmJ10 : ∀ a, a < 0 → ∀ b, b < 0 → a ≠ b → (TJ10 a).2.1 ≠ (TJ10 b).2.1 := by decide +kernel
theorem tyJ10_ok : ∀ k, k < 0 → parseFieldDescriptor (TJ10 k).2.2.1 = some (tyJ10 k) := by decide +kernel
def RJ3 : String := "jdk/internal/util/Preconditions"
def TJ3 : u_T := fun k => match k with
  | _ => ("", "", "", false)
def tyJ3 : Nat → FieldType := fun k => match k with
  | _ => .int
abbrev wsJ30 : List Cond := u_ws RJ3 TJ3 0
theorem nmJ3 : ∀ a, a < 0 → ∀ b, b < 0 → a ≠ b → (TJ3 a).2.1 ≠ (TJ3 b).2.1 := by decide +kernel
theorem tyJ3_ok : ∀ k, k < 0 → parseFieldDescriptor (TJ3 k).2.2.1 = some (tyJ3 k) := by decide +kernel
abbrev cJ3_checkIndex_8e157 : ByteArray := prog_20_method_11_code
def yJ3_checkIndex_8e157 : MethodName := ⟨RJ3, "checkIndex", "(IILjava/util/function/BiFunction;)I"⟩
def RL : String := "SameAfterLaw"
abbrev cL_law : ByteArray := code
def yL_law : MethodName := ⟨RL, "law", "([I)Z"⟩
end
section
def gG : List Cond := lw_tbl.filter goodWord
theorem gT {w : Cond} (h : w ∈ tables_1) (hg : goodWord w = true) : w ∈ gG := List.mem_filter.mpr ⟨List.mem_append_right _ h, hg⟩
theorem gT1 {w : Cond} (i : Nat) (h : tables_1_1[i]? = some w) (hg : goodWord w = true) : w ∈ gG := gT (List.mem_append_left _ (List.mem_of_getElem? h)) hg
theorem gT2 {w : Cond} (i : Nat) (h : tables_1_2[i]? = some w) (hg : goodWord w = true) : w ∈ gG := gT (List.mem_append_right _ (List.mem_append_left _ (List.mem_of_getElem? h))) hg
theorem gT3 {w : Cond} (i : Nat) (h : tables_1_3[i]? = some w) (hg : goodWord w = true) : w ∈ gG := gT (List.mem_append_right _ (List.mem_append_right _ (List.mem_append_left _ (List.mem_of_getElem? h)))) hg
theorem gT4 {w : Cond} (i : Nat) (h : tables_1_4[i]? = some w) (hg : goodWord w = true) : w ∈ gG := gT (List.mem_append_right _ (List.mem_append_right _ (List.mem_append_right _ (List.mem_append_left _ (List.mem_of_getElem? h))))) hg
theorem gT5 {w : Cond} (i : Nat) (h : tables_1_5[i]? = some w) (hg : goodWord w = true) : w ∈ gG := gT (List.mem_append_right _ (List.mem_append_right _ (List.mem_append_right _ (List.mem_append_right _ (List.mem_append_left _ (List.mem_of_getElem? h)))))) hg
theorem gT6 {w : Cond} (i : Nat) (h : tables_1_6[i]? = some w) (hg : goodWord w = true) : w ∈ gG := gT (List.mem_append_right _ (List.mem_append_right _ (List.mem_append_right _ (List.mem_append_right _ (List.mem_append_right _ (List.mem_append_left _ (List.mem_of_getElem? h))))))) hg
theorem gT7 {w : Cond} (i : Nat) (h : tables_1_7[i]? = some w) (hg : goodWord w = true) : w ∈ gG := gT (List.mem_append_right _ (List.mem_append_right _ (List.mem_append_right _ (List.mem_append_right _ (List.mem_append_right _ (List.mem_append_right _ (List.mem_append_left _ (List.mem_of_getElem? h)))))))) hg
theorem gT8 {w : Cond} (i : Nat) (h : tables_1_8[i]? = some w) (hg : goodWord w = true) : w ∈ gG := gT (List.mem_append_right _ (List.mem_append_right _ (List.mem_append_right _ (List.mem_append_right _ (List.mem_append_right _ (List.mem_append_right _ (List.mem_append_right _ (List.mem_of_getElem? h)))))))) hg
theorem gP1 {q : MethodName × Nat} (i : Nat) (h : lw_privs_1[i]? = some q) : Cond.selects q.1.cls q.1 q.1 ∈ gG := List.mem_filter.mpr ⟨List.mem_append_left _ (List.mem_map.mpr ⟨q, List.mem_append_left _ (List.mem_of_getElem? h), rfl⟩), rfl⟩
theorem gP2 {q : MethodName × Nat} (i : Nat) (h : lw_privs_2[i]? = some q) : Cond.selects q.1.cls q.1 q.1 ∈ gG := List.mem_filter.mpr ⟨List.mem_append_left _ (List.mem_map.mpr ⟨q, List.mem_append_right _ (List.mem_append_left _ (List.mem_of_getElem? h)), rfl⟩), rfl⟩
theorem gP3 {q : MethodName × Nat} (i : Nat) (h : lw_privs_3[i]? = some q) : Cond.selects q.1.cls q.1 q.1 ∈ gG := List.mem_filter.mpr ⟨List.mem_append_left _ (List.mem_map.mpr ⟨q, List.mem_append_right _ (List.mem_append_right _ (List.mem_append_left _ (List.mem_of_getElem? h))), rfl⟩), rfl⟩
theorem gP4 {q : MethodName × Nat} (i : Nat) (h : lw_privs_4[i]? = some q) : Cond.selects q.1.cls q.1 q.1 ∈ gG := List.mem_filter.mpr ⟨List.mem_append_left _ (List.mem_map.mpr ⟨q, List.mem_append_right _ (List.mem_append_right _ (List.mem_append_right _ (List.mem_append_left _ (List.mem_of_getElem? h)))), rfl⟩), rfl⟩
theorem gP5 {q : MethodName × Nat} (i : Nat) (h : lw_privs_5[i]? = some q) : Cond.selects q.1.cls q.1 q.1 ∈ gG := List.mem_filter.mpr ⟨List.mem_append_left _ (List.mem_map.mpr ⟨q, List.mem_append_right _ (List.mem_append_right _ (List.mem_append_right _ (List.mem_append_right _ (List.mem_append_left _ (List.mem_of_getElem? h))))), rfl⟩), rfl⟩
theorem gP6 {q : MethodName × Nat} (i : Nat) (h : lw_privs_6[i]? = some q) : Cond.selects q.1.cls q.1 q.1 ∈ gG := List.mem_filter.mpr ⟨List.mem_append_left _ (List.mem_map.mpr ⟨q, List.mem_append_right _ (List.mem_append_right _ (List.mem_append_right _ (List.mem_append_right _ (List.mem_append_right _ (List.mem_append_left _ (List.mem_of_getElem? h)))))), rfl⟩), rfl⟩
theorem gP7 {q : MethodName × Nat} (i : Nat) (h : lw_privs_7[i]? = some q) : Cond.selects q.1.cls q.1 q.1 ∈ gG := List.mem_filter.mpr ⟨List.mem_append_left _ (List.mem_map.mpr ⟨q, List.mem_append_right _ (List.mem_append_right _ (List.mem_append_right _ (List.mem_append_right _ (List.mem_append_right _ (List.mem_append_right _ (List.mem_append_left _ (List.mem_of_getElem? h))))))), rfl⟩), rfl⟩
theorem gP8 {q : MethodName × Nat} (i : Nat) (h : lw_privs_8[i]? = some q) : Cond.selects q.1.cls q.1 q.1 ∈ gG := List.mem_filter.mpr ⟨List.mem_append_left _ (List.mem_map.mpr ⟨q, List.mem_append_right _ (List.mem_append_right _ (List.mem_append_right _ (List.mem_append_right _ (List.mem_append_right _ (List.mem_append_right _ (List.mem_append_right _ (List.mem_append_left _ (List.mem_of_getElem? h)))))))), rfl⟩), rfl⟩
theorem gP9 {q : MethodName × Nat} (i : Nat) (h : lw_privs_9[i]? = some q) : Cond.selects q.1.cls q.1 q.1 ∈ gG := List.mem_filter.mpr ⟨List.mem_append_left _ (List.mem_map.mpr ⟨q, List.mem_append_right _ (List.mem_append_right _ (List.mem_append_right _ (List.mem_append_right _ (List.mem_append_right _ (List.mem_append_right _ (List.mem_append_right _ (List.mem_append_right _ (List.mem_of_getElem? h)))))))), rfl⟩), rfl⟩
theorem t_try : Cond.fieldLink RX8 21 "SameAfter$Row" "length" "I" ∈ gG := by sorry
end
section
abbrev classes : List vw_C := [(RX0, TX0, 2), (RX1, TX1, 14), (RX2, TX2, 6), (RX3, TX3, 7), (RX4, TX4, 10), (RX5, TX5, 7), (RX6, TX6, 17), (RX7, TX7, 5), (RX8, TX8, 2), (RX9, TX9, 5), (RX10, TX10, 6), (RX11, TX11, 8), (RX12, TX12, 56)]
/-- what the tables say of arrays over references -/
def aK (U : State) : Prop := va_AO RX8 U ∧ va_AO RX9 U ∧ va_AOA .int U
theorem va_AOA.moved {ty : FieldType} {u U : State} (hvm : u.vm.Alike U.vm) (h : va_AOA ty u) : va_AOA ty U := by
  obtain ⟨comp, c, k, h1, h2, h3, h4, h5⟩ := Jvm.Stand.arrayOver_specB h
  obtain ⟨k', hk', he⟩ := hvm.2.2 _ _ h3
  have hi : (U.vm.classes.findIdx? fun (x : Class) => match x.kind with | .array component _ => component == comp | _ => false) = some c := by
    rw [← va_idx_bare]
    first | rw [hvm.bare_eq] | rw [← hvm.bare_eq]
    rw [va_idx_bare]
    exact h2
  have hkind : k'.kind = .array comp (.array ty) := by rw [he]; exact h4
  have f1 : U.vm.findClass (FieldType.array ty).toString = some comp := by rw [hvm.findClass]; exact h1
  have f2 : U.vm.findClass ("[" ++ (FieldType.array ty).toString) = some c := by rw [hvm.findClass]; exact h5
  unfold va_AOA Cond.before Cond.holds
  simp only [Cond.value]
  rw [f1, Option.bind_some]
  refine (congrArg (fun o : Option Nat => (o.bind (fun c => (U.vm.classes[c]?).map fun (k : Class) => match k.kind with | .array _ ty' => decide (ty' = FieldType.array ty) && decide (U.vm.findClass ("[" ++ (FieldType.array ty).toString) = some c) | _ => false) == some true)) hi).trans ?_
  simp [hk', hkind, f2]
theorem aK.moved {u U : State} (hvm : u.vm.Alike U.vm) (h : aK u) : aK U := ⟨h.1.moved hvm, h.2.1.moved hvm, h.2.2.moved hvm⟩
/-- the world of a walk: cells ws at heap H, the cells that may change A, the heap at the entry H0 -/
def wX (D : va_G) (tys : List (ClassId × FieldType)) (s : State) (ws : va_W) (H : Heap) (A : Nat → Prop) (H0 : Heap) (locs : List Loc) : Prop :=
  va_K D classes tys s ∧ va_P D classes ws H ∧ va_D A ws ∧ va_S A H0 H locs ∧ ∀ q : Nat, H0.size ≤ q → A q
def clsOK (ci : Nat) (C : String) (T : u_T) (N : Nat) (ty : Nat → FieldType) : Prop :=
  classes[ci]? = some (C, T, N) ∧ (∀ w ∈ u_ws C T N, w ∈ gG) ∧ (∀ k, k < N → parseFieldDescriptor (T k).2.2.1 = some (ty k)) ∧ (∀ a, a < N → ∀ b, b < N → a ≠ b → (T a).2.1 ≠ (T b).2.1)
/-- a method's start: arguments av, the cells ws, sz cells in all -/
def cPre (D : va_G) (tys : List (ClassId × FieldType)) (ws : va_W) (sz : Nat) (av : List Value) : Array Value → State → Prop :=
  va_Pc av (fun U => U.heap.size = sz ∧ va_P D classes ws U.heap ∧ va_K D classes tys U ∧ va_D (fun _ => True) ws ∧ aK U)
/-- the world behind a method -/
def cB (D : va_G) (A : Nat → Prop) (tys : List (ClassId × FieldType)) (ws : va_W) (t : State) : Prop := va_P D classes ws t.heap ∧ va_K D classes tys t ∧ va_D A ws
theorem cPre_blind {D : va_G} {tys : List (ClassId × FieldType)} {ws : va_W} {sz : Nat} {av : List Value} : FrameBlind (cPre D tys ws sz av) := by
  intro a U g mk q
  obtain ⟨q0, q1, qP, qK, qD, qA⟩ := q
  exact ⟨q0, q1, qP, va_K.moved (u := U) (U := U.calling g mk a) (Vm.Alike.refl U.vm) qK, qD, aK.moved (u := U) (U := U.calling g mk a) (Vm.Alike.refl U.vm) qA⟩
theorem k_enter {D : va_G} {tys : List (ClassId × FieldType)} {ws : va_W} {sz : Nat} {av : List Value} {args : Array Value} {s : State} (h : cPre D tys ws sz av args s) : args = av.toArray ∧ aK s ∧ s.heap.size = sz ∧ wX D tys s ws s.heap (va_A ws sz) s.heap [] := by
  obtain ⟨q0, q1, qP, qK, qD, qA⟩ := h
  exact ⟨q0, qA, q1, qK, qP, qD.self, va_S.rf, fun q h => Or.inr (by rw [← q1]; exact h)⟩
theorem k_pre {D : va_G} {tys tc : List (ClassId × FieldType)} {s : State} {ws wc : va_W} {H H0 : Heap} {A : Nat → Prop} {locs : List Loc} (Wd : wX D tys s ws H A H0 locs) (aks : aK s) (isC : List Nat) (hC : isC.map (fun i => ws[i]?) = wc.map some) (hn : va_nd isC = true) (tC : List Nat) (hT : tC.filterMap (fun i => tys[i]?) = tc) (av : List Value) :
    ∀ U : State, U.heap = H → s.WarmedH U.vm → cPre D tc wc H.size av av.toArray U := by
  intro U hU hW
  have h1 : isC.filterMap (fun i => ws[i]?) = wc := by
    have := congrArg (List.filterMap id) hC
    rw [List.filterMap_map, List.filterMap_map] at this
    simpa using this
  exact ⟨rfl, by rw [hU], by rw [hU]; exact Wd.2.1.sub isC h1, va_K.moved hW.alike (Wd.1.sub tC hT), (Wd.2.2.1.sub isC hn hC).weaken (fun _ _ _ _ => trivial), aK.moved hW.alike aks⟩
section KR
variable {p : Program} {l : Launch} {e : Env} {R : Room} {s : State} {m : MethodId} {args : Array Value} {below : List Frame} {meth : Method} {c : Code} {H : Heap} {locs : List Loc} {cells slots : Nat} {Q : State → Prop}
variable {cc : ByteArray} {pc nL : Nat} {ls : Array Slot} {rest : List Value} {D : va_G} {A : Nat → Prop} {a : Nat} {tys : List (ClassId × FieldType)} {ws : va_W} {H0 : Heap} {own : String}
variable {ci N index : Nat} {Cn : String} {T : u_T} {ty : Nat → FieldType} {fs : List Value}
theorem k_get (C : CallFix p m c cc nL s args gG own) (Wd : wX D tys s ws H A H0 locs) (KC : clsOK ci Cn T N ty) (q0 k : Nat) {v : Value} (he : ws[q0]? = some (a, .inr (ci, fs))) (hk : k < N) (hlink : Cond.fieldLink own index (T k).1 (T k).2.1 (T k).2.2.1 ∈ gG) (hv : fs[k]? = some v) (hdg : decode cc pc = .ok (.getfield index, 3))
    (kk : W p l e R s m args below meth c H locs cells slots Q (F0 m (pc + 3) ls (v :: rest))) : W p l e R s m args below meth c H locs cells slots Q (F0 m pc ls (.ref a :: rest)) :=
  va_get C.1 C.2.1 C.2.2.2.2 KC.2.1 C.2.2.2.1 Wd.1 Wd.2.1 q0 he KC.1 k hk (C.2.2.2.2 _ hlink) (fun _ h => h) hv hdg kk
theorem k_put (C : CallFix p m c cc nL s args gG own) (Wd : wX D tys s ws H A H0 locs) (KC : clsOK ci Cn T N ty) (q0 k : Nat) {v : Value} (ws' : va_W) (he : ws[q0]? = some (a, .inr (ci, fs))) (hk : k < N) (hlink : Cond.fieldLink own index (T k).1 (T k).2.1 (T k).2.2.1 ∈ gG) (hfin : (T k).2.2.2 = false) (hn : narrow (ty k) v = v) (hfit : fits (ty k) v = true) (hl : k < fs.length) (hws : ws.set q0 (a, .inr (ci, fs.set k v)) = ws') (hdg : decode cc pc = .ok (.putfield index, 3))
    (kk : ∀ (H1 : Heap) (locs1 : List Loc), wX D tys s ws' H1 A H0 locs1 → W p l e R s m args below meth c H1 locs1 cells slots Q (F0 m (pc + 3) ls rest)) : W p l e R s m args below meth c H locs cells slots Q (F0 m pc ls (v :: .ref a :: rest)) := by
  subst hws
  exact va_put C.1 C.2.1 C.2.2.2.2 KC.2.1 ty KC.2.2.1 KC.2.2.2 C.2.2.2.1 Wd.1 Wd.2.1 Wd.2.2.1 Wd.2.2.2.1 q0 he KC.1 k hk (C.2.2.2.2 _ hlink) (fun _ h => h) hfin (KC.2.2.1 k hk) hn hfit hl hdg (fun H1 locs1 hP hD hS => kk H1 locs1 ⟨Wd.1, hP, hD, hS, Wd.2.2.2.2⟩)
theorem k_putF (C : CallFix p m c cc nL s args gG own) (Wd : wX D tys s ws H A H0 locs) (KC : clsOK ci Cn T N ty) (q0 k : Nat) {v : Value} (ws' : va_W) (he : ws[q0]? = some (a, .inr (ci, fs))) (hk : k < N) (hlink : Cond.fieldLink own index (T k).1 (T k).2.1 (T k).2.2.1 ∈ gG) (hfin : (T k).2.2.2 = true) (hin : meth.name = "<init>") (hdecl : (T k).1 = own) (hn : narrow (ty k) v = v) (hfit : fits (ty k) v = true) (hl : k < fs.length) (hws : ws.set q0 (a, .inr (ci, fs.set k v)) = ws') (hdg : decode cc pc = .ok (.putfield index, 3))
    (kk : ∀ (H1 : Heap) (locs1 : List Loc), wX D tys s ws' H1 A H0 locs1 → W p l e R s m args below meth c H1 locs1 cells slots Q (F0 m (pc + 3) ls rest)) : W p l e R s m args below meth c H locs cells slots Q (F0 m pc ls (v :: .ref a :: rest)) := by
  subst hws
  exact va_putF C.1 C.2.1 C.2.2.2.2 KC.2.1 ty KC.2.2.1 KC.2.2.2 C.2.2.2.1 Wd.1 Wd.2.1 Wd.2.2.1 Wd.2.2.2.1 q0 he KC.1 k hk (C.2.2.2.2 _ hlink) (fun _ h => h) hfin hin hdecl (KC.2.2.1 k hk) hn hfit hl hdg (fun H1 locs1 hP hD hS => kk H1 locs1 ⟨Wd.1, hP, hD, hS, Wd.2.2.2.2⟩)
theorem k_iald (C : CallFix p m c cc nL s args gG own) (Wd : wX D tys s ws H A H0 locs) (q0 t0 : Nat) {cA : ClassId} {n : Nat} {f : Nat → Int32} (ha : ws[q0]? = some (a, .inl (cA, n, .inl f))) (ht : tys[t0]? = some (cA, .int)) {i v : Int32} (hin : vp_in i n) (hv : f i.toNatClampNeg = v) (hdg : decode cc pc = .ok (.iaload, 1))
    (kk : W p l e R s m args below meth c H locs cells slots Q (F0 m (pc + 1) ls (.int v :: rest))) : W p l e R s m args below meth c H locs cells slots Q (F0 m pc ls (.int i :: .ref a :: rest)) := by
  subst hv
  exact va_iald C.1 C.2.1 Wd.1 Wd.2.1 q0 t0 ha ht hin hdg kk
theorem k_iast (C : CallFix p m c cc nL s args gG own) (Wd : wX D tys s ws H A H0 locs) (q0 t0 : Nat) {cA : ClassId} {n : Nat} {f f' : Nat → Int32} (ws' : va_W) (ha : ws[q0]? = some (a, .inl (cA, n, .inl f))) (ht : tys[t0]? = some (cA, .int)) {i x : Int32} (hin : vp_in i n) (hf : upd f i.toNatClampNeg x = f') (hws : ws.set q0 (a, .inl (cA, n, .inl f')) = ws') (hdg : decode cc pc = .ok (.iastore, 1))
    (kk : ∀ (H1 : Heap) (locs1 : List Loc), wX D tys s ws' H1 A H0 locs1 → W p l e R s m args below meth c H1 locs1 cells slots Q (F0 m (pc + 1) ls rest)) : W p l e R s m args below meth c H locs cells slots Q (F0 m pc ls (.int x :: .int i :: .ref a :: rest)) := by
  subst hf
  subst hws
  exact va_iast C.1 C.2.1 Wd.1 Wd.2.1 Wd.2.2.1 Wd.2.2.2.1 q0 t0 ha ht hin hdg (fun H1 locs1 hP hD hS => kk H1 locs1 ⟨Wd.1, hP, hD, hS, Wd.2.2.2.2⟩)
theorem k_alen (C : CallFix p m c cc nL s args gG own) (Wd : wX D tys s ws H A H0 locs) (q0 t0 : Nat) {cA : ClassId} {x : vp_A} (ha : ws[q0]? = some (a, .inl (cA, x))) {ty : FieldType} (ht : tys[t0]? = some (cA, ty)) {v : Int32} (hv : Int32.ofNat x.1 = v) (hdg : decode cc pc = .ok (.arraylength, 1))
    (kk : W p l e R s m args below meth c H locs cells slots Q (F0 m (pc + 1) ls (.int v :: rest))) : W p l e R s m args below meth c H locs cells slots Q (F0 m pc ls (.ref a :: rest)) :=
  va_alen C.1 C.2.1 Wd.1 Wd.2.1 q0 t0 ha ht hv hdg kk
theorem k_aldq (C : CallFix p m c cc nL s args gG own) (Wd : wX D tys s ws H A H0 locs) (q0 t0 : Nat) {cA : ClassId} {E : String} {n : Nat} {f : Nat → Option Nat} (ha : ws[q0]? = some (a, .inl (cA, n, .inr (.inr (.inr (.inr f)))))) (ht : tys[t0]? = some (cA, .object E)) {i : Int32} {v : Value} (hin : vp_in i n) (hv : va_rf (f i.toNatClampNeg) = v) (hdg : decode cc pc = .ok (.aaload, 1))
    (kk : W p l e R s m args below meth c H locs cells slots Q (F0 m (pc + 1) ls (v :: rest))) : W p l e R s m args below meth c H locs cells slots Q (F0 m pc ls (.int i :: .ref a :: rest)) := by
  subst hv
  exact va_aldq C.1 C.2.1 Wd.1 Wd.2.1 q0 t0 ha ht hin hdg kk
/-- a row out of an array of arrays -/
theorem k_aldg (C : CallFix p m c cc nL s args gG own) (Wd : wX D tys s ws H A H0 locs) (q0 t0 : Nat) {cA : ClassId} {te : FieldType} {n : Nat} {f : Nat → Option Nat} (ha : ws[q0]? = some (a, .inl (cA, n, .inr (.inr (.inr (.inr f)))))) (ht : tys[t0]? = some (cA, .array te)) {i : Int32} {v : Value} (hin : vp_in i n) (hv : va_rf (f i.toNatClampNeg) = v) (hdg : decode cc pc = .ok (.aaload, 1))
    (kk : W p l e R s m args below meth c H locs cells slots Q (F0 m (pc + 1) ls (v :: rest))) : W p l e R s m args below meth c H locs cells slots Q (F0 m pc ls (.int i :: .ref a :: rest)) := by
  subst hv
  have hlt : i.toNatClampNeg < n := Nat.not_le.mp fun q => hin (Or.inr q)
  exact W.aald (v := va_rf (f i.toNatClampNeg)) (ty := .array te) C.1 C.2.1 (Wd.2.1 q0 _ ha) ((Wd.1.2 t0 _ ht).1 n (fun j => va_rf (f j))) rfl (fun q => by cases q) (by show ¬ (i < 0 ∨ (arrV _ _ _).slots.size ≤ _); rw [arrV_size]; exact hin) (by show (arrV _ _ _).slots[_]? = _; rw [arrV_read _ _ hlt]) rfl rfl hdg kk
theorem k_astq (C : CallFix p m c cc nL s args gG own) (Wd : wX D tys s ws H A H0 locs) (q0 t0 qk cj : Nat) {cA : ClassId} {r : vw_C} {n v : Nat} {vs : List Value} {f f' : Nat → Option Nat} (ws' : va_W) (ha : ws[q0]? = some (a, .inl (cA, n, .inr (.inr (.inr (.inr f)))))) (ht : tys[t0]? = some (cA, .object r.1)) (hv : ws[qk]? = some (v, .inr (cj, vs))) (hc : classes[cj]? = some r) {i : Int32} (hin : vp_in i n) (hf : va_up f i.toNatClampNeg (some v) = f') (hws : ws.set q0 (a, .inl (cA, n, .inr (.inr (.inr (.inr f'))))) = ws') (hdg : decode cc pc = .ok (.aastore, 1))
    (kk : ∀ (H1 : Heap) (locs1 : List Loc), wX D tys s ws' H1 A H0 locs1 → W p l e R s m args below meth c H1 locs1 cells slots Q (F0 m (pc + 1) ls rest)) : W p l e R s m args below meth c H locs cells slots Q (F0 m pc ls (.ref v :: .int i :: .ref a :: rest)) := by
  subst hf
  subst hws
  exact va_astq C.1 C.2.1 Wd.1 Wd.2.1 Wd.2.2.1 Wd.2.2.2.1 q0 t0 qk cj ha ht hv hc hin hdg (fun H1 locs1 hP hD hS => kk H1 locs1 ⟨Wd.1, hP, hD, hS, Wd.2.2.2.2⟩)
theorem k_newa (C : CallFix p m c cc nL s args gG own) (Wd : wX D tys s ws H A H0 locs) (harr : Cond.arrayClass (newarray.typeOf .int) ∈ gG) {n : Int32} (N' : Nat) (hn : ¬ n < 0) (hN : n.toNatClampNeg = N') (hbytes : N' * 4 ≤ 536870912) {cells' slots' : Nat} (hcells : cells + 1 ≤ R.cells) (hslots : slots + N' ≤ R.slots) (hc' : cells + 1 ≤ cells') (hs' : slots + N' ≤ slots') (hdg : decode cc pc = .ok (.newarray .int, 2))
    (kk : ∀ (q : Nat) (cA : ClassId) (H1 : Heap), wX D (tys ++ [(cA, .int)]) s (ws ++ [(q, .inl (cA, N', .inl (fun _ => 0)))]) H1 A H0 locs → W p l e R s m args below meth c H1 locs cells' slots' Q (F0 m (pc + 2) ls (.ref q :: rest))) : W p l e R s m args below meth c H locs cells slots Q (F0 m pc ls (.int n :: rest)) :=
  va_newa (a0 := (N', .inl (fun _ => 0))) (ty := .int) C.1 C.2.1 (C.2.2.2.2 _ harr) rfl Wd.1 Wd.2.1 Wd.2.2.1 Wd.2.2.2.1 Wd.2.2.2.2 (fun _ => rfl) hn hN hbytes hcells hslots hdg (fun q cA H1 hK hP hD hS => W.widen hc' hs' (kk q cA H1 ⟨hK, hP, hD, hS, Wd.2.2.2.2⟩))
theorem k_newz (C : CallFix p m c cc nL s args gG own) (Wd : wX D tys s ws H A H0 locs) (harr : Cond.arrayClass (newarray.typeOf .boolean) ∈ gG) {n : Int32} (N' : Nat) (hn : ¬ n < 0) (hN : n.toNatClampNeg = N') (hbytes : N' * componentBytes .boolean ≤ 536870912) {cells' slots' : Nat} (hcells : cells + 1 ≤ R.cells) (hslots : slots + N' ≤ R.slots) (hc' : cells + 1 ≤ cells') (hs' : slots + N' ≤ slots') (hdg : decode cc pc = .ok (.newarray .boolean, 2))
    (kk : ∀ (q : Nat) (cA : ClassId) (H1 : Heap), wX D (tys ++ [(cA, .boolean)]) s (ws ++ [(q, .inl (cA, N', .inl (fun _ => 0)))]) H1 A H0 locs → W p l e R s m args below meth c H1 locs cells' slots' Q (F0 m (pc + 2) ls (.ref q :: rest))) : W p l e R s m args below meth c H locs cells slots Q (F0 m pc ls (.int n :: rest)) :=
  va_newa (a0 := (N', .inl (fun _ => 0))) (ty := .boolean) C.1 C.2.1 (C.2.2.2.2 _ harr) rfl Wd.1 Wd.2.1 Wd.2.2.1 Wd.2.2.2.1 Wd.2.2.2.2 (fun _ => rfl) hn hN hbytes hcells hslots hdg (fun q cA H1 hK hP hD hS => W.widen hc' hs' (kk q cA H1 ⟨hK, hP, hD, hS, Wd.2.2.2.2⟩))
theorem k_newq (C : CallFix p m c cc nL s args gG own) (Wd : wX D tys s ws H A H0 locs) {E : String} (hclink : Cond.classLink own index E ∈ gG) (hover : va_AO E s) {n : Int32} (N' : Nat) (hn : ¬ n < 0) (hN : n.toNatClampNeg = N') (hbytes : N' * 4 ≤ 536870912) {cells' slots' : Nat} (hcells : cells + 1 ≤ R.cells) (hslots : slots + N' ≤ R.slots) (hc' : cells + 1 ≤ cells') (hs' : slots + N' ≤ slots') (hdg : decode cc pc = .ok (.anewarray index, 3))
    (kk : ∀ (q : Nat) (cA : ClassId) (H1 : Heap), wX D (tys ++ [(cA, .object E)]) s (ws ++ [(q, .inl (cA, N', .inr (.inr (.inr (.inr (fun _ => none))))))]) H1 A H0 locs → W p l e R s m args below meth c H1 locs cells' slots' Q (F0 m (pc + 3) ls (.ref q :: rest))) : W p l e R s m args below meth c H locs cells slots Q (F0 m pc ls (.int n :: rest)) :=
  va_newq C.1 C.2.1 C.2.2.2.1 (C.2.2.2.2 _ hclink) hover Wd.1 Wd.2.1 Wd.2.2.1 Wd.2.2.2.1 Wd.2.2.2.2 hn hN hbytes hcells hslots hdg (fun q cA H1 hK hP hD hS => W.widen hc' hs' (kk q cA H1 ⟨hK, hP, hD, hS, Wd.2.2.2.2⟩))
theorem k_new (C : CallFix p m c cc nL s args gG own) (Wd : wX D tys s ws H A H0 locs) (KC : clsOK ci Cn T N ty) (hcl : Cond.classLink own index Cn ∈ gG) (hinst : Cond.instantiable Cn N ∈ gG) (hini : Cond.initialized Cn ∈ gG) (fs : List Value) (hfs : (List.range N).all (fun j => decide (defaultValue (ty j) = vp_V fs j)) = true) {cells' slots' : Nat} (hcells : cells + 1 ≤ R.cells) (hslots : slots + N ≤ R.slots) (hc' : cells + 1 ≤ cells') (hs' : slots + N ≤ slots') (hdg : decode cc pc = .ok (.new index, 3))
    (kk : ∀ (q : Nat) (H1 : Heap), wX D tys s (ws ++ [(q, .inr (ci, fs))]) H1 A H0 locs → W p l e R s m args below meth c H1 locs cells' slots' Q (F0 m (pc + 3) ls (.ref q :: rest))) : W p l e R s m args below meth c H locs cells slots Q (F0 m pc ls rest) :=
  va_new C.1 C.2.1 C.2.2.2.2 KC.2.1 ty KC.2.2.1 C.2.2.2.1 (C.2.2.2.2 _ hcl) (C.2.2.2.2 _ hinst) (C.2.2.2.2 _ hini) Wd.1 Wd.2.1 Wd.2.2.1 Wd.2.2.2.1 Wd.2.2.2.2 KC.1 (fun j hj => of_decide_eq_true (List.all_eq_true.mp hfs j (List.mem_range.mpr hj))) hcells hslots hdg (fun q H1 hP hD hS => W.widen hc' hs' (kk q H1 ⟨Wd.1, hP, hD, hS, Wd.2.2.2.2⟩))
theorem k_zald (C : CallFix p m c cc nL s args gG own) (Wd : wX D tys s ws H A H0 locs) (q0 t0 : Nat) {cA : ClassId} {n : Nat} {f : Nat → Int32} (ha : ws[q0]? = some (a, .inl (cA, n, .inl f))) (ht : tys[t0]? = some (cA, .boolean)) {i v : Int32} (hin : vp_in i n) (hv : f i.toNatClampNeg = v) (hdg : decode cc pc = .ok (.baload, 1))
    (kk : W p l e R s m args below meth c H locs cells slots Q (F0 m (pc + 1) ls (.int v :: rest))) : W p l e R s m args below meth c H locs cells slots Q (F0 m pc ls (.int i :: .ref a :: rest)) := by
  subst hv
  exact va_zald C.1 C.2.1 Wd.1 Wd.2.1 q0 t0 ha ht hin hdg kk
theorem k_oinit (C : CallFix p m c cc nL s args gG own) (hls : ls.size = nL) (h1 : Cond.methodLink own index objectInit ∈ gG) (h2 : Cond.instanceMethod objectInit ∈ gG) (h3 : Cond.code objectInit ⟨#[0xb1]⟩ 1 none ∈ gG) (hf : 1 ≤ R.frames) (hl : (rest.map fun v => v.category).sum + 12 ≤ R.locals) (hdg : decode cc pc = .ok (.invokespecial index, 3))
    (kk : W p l e R s m args below meth c H locs cells slots Q (F0 m (pc + 3) ls rest)) : W p l e R s m args below meth c H locs cells slots Q (F0 m pc ls (.ref a :: rest)) :=
  W.objInit C.1 C.2.1 C.2.2.2.1 (C.2.2.2.2 _ h1) (C.2.2.2.2 _ h2) (C.2.2.2.2 _ h3) rfl (hls.trans C.2.2.1.symm) rfl hdg hf (by show 0 + _ + 12 ≤ _; rw [Nat.zero_add]; exact hl) (W.eq rfl kk)
theorem k_mmax (C : CallFix p m c cc nL s args gG own) (hls : ls.size = nL) (h1 : Cond.methodLink own index Lib.Math.max.name ∈ gG) (h2 : Cond.static Lib.Math.max.name ∈ gG) (h3 : Cond.initialized "java/lang/Math" ∈ gG) (h4 : Cond.code Lib.Math.max.name Lib.Math.max.code 2 (some .int) ∈ gG) (hf : 1 ≤ R.frames) (hl : (rest.map fun v => v.category).sum + 13 ≤ R.locals) (hc : cells ≤ R.cells) (hs : slots ≤ R.slots) {x y v : Int32} (hv : (if x < y then y else x) = v) (hdg : decode cc pc = .ok (.invokestatic index, 3))
    (kk : W p l e R s m args below meth c H locs cells slots Q (F0 m (pc + 3) ls (.int v :: rest))) : W p l e R s m args below meth c H locs cells slots Q (F0 m pc ls (.int y :: .int x :: rest)) := by
  subst hv
  exact va_mmax C.1 C.2.1 (C.2.2.1.trans hls.symm) C.2.2.2.1 (C.2.2.2.2 _ h1) (C.2.2.2.2 _ h2) (C.2.2.2.2 _ h3) (C.2.2.2.2 _ h4) hf hl hc hs hdg kk
theorem k_mmin (C : CallFix p m c cc nL s args gG own) (hls : ls.size = nL) (h1 : Cond.methodLink own index Lib.Math.min.name ∈ gG) (h2 : Cond.static Lib.Math.min.name ∈ gG) (h3 : Cond.initialized "java/lang/Math" ∈ gG) (h4 : Cond.code Lib.Math.min.name Lib.Math.min.code 2 (some .int) ∈ gG) (hf : 1 ≤ R.frames) (hl : (rest.map fun v => v.category).sum + 13 ≤ R.locals) (hc : cells ≤ R.cells) (hs : slots ≤ R.slots) {x y v : Int32} (hv : (if y < x then y else x) = v) (hdg : decode cc pc = .ok (.invokestatic index, 3))
    (kk : W p l e R s m args below meth c H locs cells slots Q (F0 m (pc + 3) ls (.int v :: rest))) : W p l e R s m args below meth c H locs cells slots Q (F0 m pc ls (.int y :: .int x :: rest)) := by
  subst hv
  exact va_mmin C.1 C.2.1 (C.2.2.1.trans hls.symm) C.2.2.2.1 (C.2.2.2.2 _ h1) (C.2.2.2.2 _ h2) (C.2.2.2.2 _ h3) (C.2.2.2.2 _ h4) hf hl hc hs hdg kk
theorem k_join {g g0 : JFrame} (hJ : W p l e R s m args below meth c H locs cells slots Q g) (hk : W p l e R s m args below meth c H locs cells slots Q g → W p l e R s m args below meth c H locs cells slots Q g0) : W p l e R s m args below meth c H locs cells slots Q g0 := hk hJ
/-- a loop: its state is a number x that grows to at most 'top', a thing u, heap and locals -/
theorem k_loop {X : Type} (inv : Int32 → X → Heap → List Loc → Array Slot → Prop) (pcH : Nat) (top : Int)
    (step : ∀ (x : Int32) (u : X) (H : Heap) (locs : List Loc) (ls : Array Slot), inv x u H locs ls → (∀ (x' : Int32) (u' : X) (H' : Heap) (locs' : List Loc) (ls' : Array Slot), inv x' u' H' locs' ls' → (top - x'.toInt).toNat < (top - x.toInt).toNat → W p l e R s m args below meth c H' locs' cells slots Q (F0 m pcH ls' [])) → W p l e R s m args below meth c H locs cells slots Q (F0 m pcH ls [])) :
    ∀ (x : Int32) (u : X) (H : Heap) (locs : List Loc) (ls : Array Slot), inv x u H locs ls → W p l e R s m args below meth c H locs cells slots Q (F0 m pcH ls []) := by
  have K : ∀ (n : Nat) (x : Int32) (u : X) (H : Heap) (locs : List Loc) (ls : Array Slot), (top - x.toInt).toNat < n → inv x u H locs ls → W p l e R s m args below meth c H locs cells slots Q (F0 m pcH ls []) := by
    intro n
    induction n with
    | zero => intro x u H locs ls h; exact absurd h (Nat.not_lt_zero _)
    | succ n ih => intro x u H locs ls h hi; exact step x u H locs ls hi (fun x' u' H' locs' ls' hi' hm => ih x' u' H' locs' ls' (by omega) hi')
  exact fun x u H locs ls hi => K _ x u H locs ls (Nat.lt_succ_self _) hi
theorem k_locals {vs : List Value} {n : Nat} (h : (lg_sl vs).length ≤ n) (lv' : List (Nat × Value)) (hl : lv_args 0 vs = lv') (kk : ∀ ls : Array Slot, lv_has ls n lv' → W p l e R s m args below meth c H locs cells slots Q (F0 m 0 ls [])) : W p l e R s m args below meth c H locs cells slots Q (entryFrame m vs.toArray n) := by
  subst hl
  rw [lg_entry_eq]
  exact kk _ (lv_entry vs h)
theorem k_iadd (C : CallFix p m c cc nL s args gG own) {x y v : Int32} (hv : x + y = v) (hdg : decode cc pc = .ok (.iadd, 1)) (kk : W p l e R s m args below meth c H locs cells slots Q (F0 m (pc + 1) ls (.int v :: rest))) : W p l e R s m args below meth c H locs cells slots Q (F0 m pc ls (.int y :: .int x :: rest)) := by
  subst hv
  exact lv_iadd C.1 C.2.1 hdg kk
theorem k_isub (C : CallFix p m c cc nL s args gG own) {x y v : Int32} (hv : x - y = v) (hdg : decode cc pc = .ok (.isub, 1)) (kk : W p l e R s m args below meth c H locs cells slots Q (F0 m (pc + 1) ls (.int v :: rest))) : W p l e R s m args below meth c H locs cells slots Q (F0 m pc ls (.int y :: .int x :: rest)) := by
  subst hv
  exact lv_isub C.1 C.2.1 hdg kk
theorem k_imul (C : CallFix p m c cc nL s args gG own) {x y v : Int32} (hv : x * y = v) (hdg : decode cc pc = .ok (.imul, 1)) (kk : W p l e R s m args below meth c H locs cells slots Q (F0 m (pc + 1) ls (.int v :: rest))) : W p l e R s m args below meth c H locs cells slots Q (F0 m pc ls (.int y :: .int x :: rest)) := by
  subst hv
  exact lv_imul C.1 C.2.1 hdg kk
theorem k_iand (C : CallFix p m c cc nL s args gG own) {x y v : Int32} (hv : x &&& y = v) (hdg : decode cc pc = .ok (.iand, 1)) (kk : W p l e R s m args below meth c H locs cells slots Q (F0 m (pc + 1) ls (.int v :: rest))) : W p l e R s m args below meth c H locs cells slots Q (F0 m pc ls (.int y :: .int x :: rest)) := by
  subst hv
  exact lv_iand C.1 C.2.1 hdg kk
theorem k_ior (C : CallFix p m c cc nL s args gG own) {x y v : Int32} (hv : x ||| y = v) (hdg : decode cc pc = .ok (.ior, 1)) (kk : W p l e R s m args below meth c H locs cells slots Q (F0 m (pc + 1) ls (.int v :: rest))) : W p l e R s m args below meth c H locs cells slots Q (F0 m pc ls (.int y :: .int x :: rest)) := by
  subst hv
  exact lv_ior C.1 C.2.1 hdg kk
theorem k_ixor (C : CallFix p m c cc nL s args gG own) {x y v : Int32} (hv : x ^^^ y = v) (hdg : decode cc pc = .ok (.ixor, 1)) (kk : W p l e R s m args below meth c H locs cells slots Q (F0 m (pc + 1) ls (.int v :: rest))) : W p l e R s m args below meth c H locs cells slots Q (F0 m pc ls (.int y :: .int x :: rest)) := by
  subst hv
  exact lv_ixor C.1 C.2.1 hdg kk
theorem k_ishl (C : CallFix p m c cc nL s args gG own) {x y v : Int32} (hv : x <<< (y &&& 31) = v) (hdg : decode cc pc = .ok (.ishl, 1)) (kk : W p l e R s m args below meth c H locs cells slots Q (F0 m (pc + 1) ls (.int v :: rest))) : W p l e R s m args below meth c H locs cells slots Q (F0 m pc ls (.int y :: .int x :: rest)) := by
  subst hv
  exact lv_ishl C.1 C.2.1 hdg kk
theorem k_ishr (C : CallFix p m c cc nL s args gG own) {x y v : Int32} (hv : x >>> (y &&& 31) = v) (hdg : decode cc pc = .ok (.ishr, 1)) (kk : W p l e R s m args below meth c H locs cells slots Q (F0 m (pc + 1) ls (.int v :: rest))) : W p l e R s m args below meth c H locs cells slots Q (F0 m pc ls (.int y :: .int x :: rest)) := by
  subst hv
  exact lv_ishr C.1 C.2.1 hdg kk
theorem k_idiv (C : CallFix p m c cc nL s args gG own) {x y v : Int32} (hne : ¬ y = 0) (hv : x / y = v) (hdg : decode cc pc = .ok (.idiv, 1)) (kk : W p l e R s m args below meth c H locs cells slots Q (F0 m (pc + 1) ls (.int v :: rest))) : W p l e R s m args below meth c H locs cells slots Q (F0 m pc ls (.int y :: .int x :: rest)) := by
  subst hv
  exact lv_idiv C.1 C.2.1 hdg hne kk
theorem k_irem (C : CallFix p m c cc nL s args gG own) {x y v : Int32} (hne : ¬ y = 0) (hv : x - x / y * y = v) (hdg : decode cc pc = .ok (.irem, 1)) (kk : W p l e R s m args below meth c H locs cells slots Q (F0 m (pc + 1) ls (.int v :: rest))) : W p l e R s m args below meth c H locs cells slots Q (F0 m pc ls (.int y :: .int x :: rest)) := by
  subst hv
  exact lv_irem C.1 C.2.1 hdg hne kk
end KR
section KC
variable {p : Program} {l : Launch} {e : Env} {R : Room} {s : State} {m : MethodId} {args : Array Value} {below : List Frame} {meth : Method} {c : Code} {H : Heap} {locs : List Loc} {cells slots : Nat} {Q : State → Prop}
variable {cc bytes : ByteArray} {pc nL maxL : Nat} {ls : Array Slot} {rest st0 As : List Value} {D : va_G} {A : Nat → Prop} {b : Nat} {tys tc : List (ClassId × FieldType)} {ws wc wr : va_W} {H0 : Heap} {own Cn : String} {y : MethodName} {ret : Option FieldType} {rm : Room} {mc ms n index : Nat} {Qc : Array Value → State → Outcome → State → Prop} {free : Addr → Prop} {S : Type}
/-- what a call site needs of the tables -/
def csV (own : String) (idx : Nat) (Cn : String) (y : MethodName) (bytes : ByteArray) (maxL : Nat) (ret : Option FieldType) (n : Nat) : Prop := GoodIn gG (wsV own idx Cn y (Cond.code y bytes maxL ret :: gG)) ∧ (y.cls = Cn ∧ y.cls ≠ "java/lang/invoke/MethodHandle" ∧ y.cls ≠ "java/lang/invoke/VarHandle" ∧ (parseMethodDescriptor y.desc).map (fun d => d.parameters.length) = some n)
def csS (own : String) (idx : Nat) (y : MethodName) (bytes : ByteArray) (maxL : Nat) (ret : Option FieldType) (n : Nat) : Prop := GoodIn gG (va_wsS own idx y (Cond.code y bytes maxL ret :: gG)) ∧ (y.cls ≠ "java/lang/invoke/MethodHandle" ∧ y.cls ≠ "java/lang/invoke/VarHandle" ∧ (parseMethodDescriptor y.desc).map (fun d => d.parameters.length) = some n)
def csI (own : String) (idx : Nat) (y : MethodName) (bytes : ByteArray) (maxL : Nat) (n : Nat) : Prop := GoodIn gG (Cond.code y bytes maxL none :: gG) ∧ Cond.initialized y.cls ∈ gG ∧ Cond.methodLink own idx y ∈ gG ∧ Cond.instanceMethod y ∈ gG ∧ y.name = "<init>" ∧ (y.cls ≠ "java/lang/invoke/MethodHandle" ∧ y.cls ≠ "java/lang/invoke/VarHandle" ∧ (parseMethodDescriptor y.desc).map (fun d => d.parameters.length) = some n)
theorem gG_self (w : Cond) (h : w ∈ gG) : w ∈ gG ∧ ((w.onTables && w.keeps) = true ∨ ∃ ty, w = .arrayClass ty) := ⟨h, good_of_word (List.mem_filter.mp h).2⟩
theorem gV {Cn : String} {idx : Nat} (h1 : Cond.methodLink own idx y ∈ gG) (h2 : Cond.instanceMethod y ∈ gG) (h3 : Cond.selects Cn y y ∈ gG) (h4 : Cond.initialized Cn ∈ gG) (h5 : Cond.code y bytes maxL ret ∈ gG) : GoodIn gG (wsV own idx Cn y (Cond.code y bytes maxL ret :: gG)) := by
  intro w h
  refine gG_self w ?_
  rcases List.mem_append.mp h with h | h
  · rcases List.mem_cons.mp h with rfl | h
    · exact h1
    rcases List.mem_cons.mp h with rfl | h
    · exact h2
    rcases List.mem_cons.mp h with rfl | h
    · exact h3
    rcases List.mem_cons.mp h with rfl | h
    · exact h4
    exact absurd h List.not_mem_nil
  · rcases List.mem_cons.mp h with rfl | h
    · exact h5
    · exact h
theorem gS {idx : Nat} (h1 : Cond.methodLink own idx y ∈ gG) (h2 : Cond.static y ∈ gG) (h4 : Cond.initialized y.cls ∈ gG) (h5 : Cond.code y bytes maxL ret ∈ gG) : GoodIn gG (va_wsS own idx y (Cond.code y bytes maxL ret :: gG)) := by
  intro w h
  refine gG_self w ?_
  rcases List.mem_append.mp h with h | h
  · rcases List.mem_cons.mp h with rfl | h
    · exact h1
    rcases List.mem_cons.mp h with rfl | h
    · exact h2
    rcases List.mem_cons.mp h with rfl | h
    · exact h4
    exact absurd h List.not_mem_nil
  · rcases List.mem_cons.mp h with rfl | h
    · exact h5
    · exact h
theorem gI (h5 : Cond.code y bytes maxL ret ∈ gG) : GoodIn gG (Cond.code y bytes maxL ret :: gG) := by
  intro w h
  refine gG_self w ?_
  rcases List.mem_cons.mp h with rfl | h
  · exact h5
  · exact h
theorem k_runV (C : CallFix p m c cc nL s args gG own) (aks : aK s) (Wd : wX D tys s ws H A H0 locs) (cs : csV own index Cn y bytes maxL ret n) (hM : Met l y (Cond.code y bytes maxL ret :: gG) rm (cPre D tc wc H.size (.ref b :: As)) Qc mc ms free) (isC : List Nat) (hC : isC.map (fun i => ws[i]?) = wc.map some) (hnd : va_nd isC = true) (tC : List Nat) (hT : tC.filterMap (fun i => tys[i]?) = tc) (q0 ci : Nat) {r : vw_C} {fs : List Value} (he : ws[q0]? = some (b, .inr (ci, fs))) (hcl : classes[ci]? = some r) (hcn : r.1 = Cn) (hrc : rm.cells = mc) (hrs : rm.slots = ms) (hR : rm.frames + 1 ≤ R.frames ∧ 8 + (maxL + 11) + rm.locals ≤ R.locals) (hls : ls.size = nL) (hn : As.length = n) (hst : st0 = As.reverse ++ .ref b :: rest) (hW : (rest.map fun v => v.category).sum ≤ 8) (hf : cells + mc ≤ R.cells ∧ slots + ms ≤ R.slots) (hdg : decode cc pc = .ok (.invokevirtual index, 3)) :
    va_Run p l e R s m args below meth c H locs cells slots mc ms (F0 m pc ls st0) rest (Qc (Value.ref b :: As).toArray) free := by
  subst hcn
  exact va_runV C hM (cwV n C.2.2.2.2 cs.1 rfl hrc hrs cs.2 hR) ⟨cPre_blind, va_recv Wd.1 Wd.2.1 hcl he, k_pre Wd aks isC hC hnd tC hT _⟩ rfl hn hls hst (lv_room hW) hdg hf
theorem k_runS (C : CallFix p m c cc nL s args gG own) (aks : aK s) (Wd : wX D tys s ws H A H0 locs) (cs : csS own index y bytes maxL ret n) (hM : Met l y (Cond.code y bytes maxL ret :: gG) rm (cPre D tc wc H.size As) Qc mc ms free) (isC : List Nat) (hC : isC.map (fun i => ws[i]?) = wc.map some) (hnd : va_nd isC = true) (tC : List Nat) (hT : tC.filterMap (fun i => tys[i]?) = tc) (hrc : rm.cells = mc) (hrs : rm.slots = ms) (hR : rm.frames + 1 ≤ R.frames ∧ 8 + (maxL + 11) + rm.locals ≤ R.locals) (hls : ls.size = nL) (hn : As.length = n) (hst : st0 = As.reverse ++ rest) (hW : (rest.map fun v => v.category).sum ≤ 8) (hf : cells + mc ≤ R.cells ∧ slots + ms ≤ R.slots) (hdg : decode cc pc = .ok (.invokestatic index, 3)) :
    va_Run p l e R s m args below meth c H locs cells slots mc ms (F0 m pc ls st0) rest (Qc As.toArray) free :=
  va_runS C hM (va_cwS n C.2.2.2.2 cs.1 rfl hrc hrs cs.2 hR) ⟨cPre_blind, k_pre Wd aks isC hC hnd tC hT _⟩ rfl hn hls hst (lv_room hW) hdg hf
theorem k_runI (C : CallFix p m c cc nL s args gG own) (aks : aK s) (Wd : wX D tys s ws H A H0 locs) (cs : csI own index y bytes maxL n) (hM : Met l y (Cond.code y bytes maxL none :: gG) rm (cPre D tc wc H.size (.ref b :: As)) Qc mc ms free) (isC : List Nat) (hC : isC.map (fun i => ws[i]?) = wc.map some) (hnd : va_nd isC = true) (tC : List Nat) (hT : tC.filterMap (fun i => tys[i]?) = tc) (hrc : rm.cells = mc) (hrs : rm.slots = ms) (hR : rm.frames + 1 ≤ R.frames ∧ 8 + (maxL + 11) + rm.locals ≤ R.locals) (hls : ls.size = nL) (hn : As.length = n) (hst : st0 = As.reverse ++ .ref b :: rest) (hW : (rest.map fun v => v.category).sum ≤ 8) (hf : cells + mc ≤ R.cells ∧ slots + ms ≤ R.slots) (hdg : decode cc pc = .ok (.invokespecial index, 3)) :
    va_Run p l e R s m args below meth c H locs cells slots mc ms (F0 m pc ls st0) rest (Qc (Value.ref b :: As).toArray) free :=
  va_runI C hM (cwI n C.2.2.2.2 cs.1 rfl hrc hrs (C.2.2.2.2 _ cs.2.1) (C.2.2.2.2 _ cs.2.2.1) (C.2.2.2.2 _ cs.2.2.2.1) cs.2.2.2.2.1 cs.2.2.2.2.2 hR) ⟨cPre_blind, k_pre Wd aks isC hC hnd tC hT _⟩ rfl hn hls hst (lv_room hW) hdg hf
theorem k_after {post : S → State → Prop} {H1 : Heap} {locs1 : List Loc} {t : State} {w1 : va_W} {t1 : List (ClassId × FieldType)} (Wd : wX D tys s ws H A H0 locs) (isC isR : List Nat) (hC : isC.map (fun i => ws[i]?) = wc.map some) (hR : isR.map (fun i => ws[i]?) = wr.map some) (hn : va_nd isR = true) (hdis : ∀ i ∈ isR, i ∉ isC)
    (ht : t.heap = H1) (hvm : s.vm.Alike t.vm) (hB : cB D (va_A wc H.size) t1 w1 t) (hk : ∀ q : Nat, q < H.size → ¬ va_A wc H.size q → H1[q]? = H[q]?) (hS : va_S A H0 H1 locs1) : wX D (tys ++ t1) s (wr ++ w1) H1 A H0 locs1 := by
  obtain ⟨hP1, hK1, hD1⟩ := hB
  rw [ht] at hP1
  have hFc := va_free (wc := wc) Wd.2.2.1 Wd.2.2.2.1 Wd.2.2.2.2 isC hC
  obtain ⟨hP, hD⟩ := va_join Wd.2.1 Wd.2.2.1 isC isR hC hR hn hdis hk hFc hP1 hD1
  exact ⟨Wd.1.app (va_K.moved hvm.symm hK1), hP, hD, hS, Wd.2.2.2.2⟩
theorem k_ci {post : Int32 → S → Prop} {w1 : S → va_W} {t1 : S → List (ClassId × FieldType)} {av : Array Value} (Wd : wX D tys s ws H A H0 locs) (isC isR : List Nat) (hC : isC.map (fun i => ws[i]?) = wc.map some) (hR : isR.map (fun i => ws[i]?) = wr.map some) (hn : va_nd isR = true) (hdis : ∀ i ∈ isR, i ∉ isC) {cells' slots' : Nat} (hc' : cells + mc ≤ cells') (hs' : slots + ms ≤ slots')
    (hr : va_Run p l e R s m args below meth c H locs cells slots mc ms (F0 m pc ls st0) rest (va_Qi post (fun u t => cB D (va_A wc H.size) (t1 u) (w1 u) t) (va_A wc H.size) av) (va_A wc H.size))
    (kk : ∀ (r : Int32) (u : S) (H1 : Heap) (locs1 : List Loc), post r u → wX D (tys ++ t1 u) s (wr ++ w1 u) H1 A H0 locs1 → W p l e R s m args below meth c H1 locs1 cells' slots' Q (F0 m (pc + 3) ls (.int r :: rest))) : W p l e R s m args below meth c H locs cells slots Q (F0 m pc ls st0) := by
  have hFc := va_free (wc := wc) Wd.2.2.1 Wd.2.2.2.1 Wd.2.2.2.2 isC hC
  exact va_calli hr Wd.2.2.2.1 (fun q _ h => hFc q h) hFc (fun r u t H1 locs1 ht hvm hw hB hz1 hk1 hS => W.widen hc' hs' (kk r u H1 locs1 hw (k_after (S := S) (post := fun _ _ => True) Wd isC isR hC hR hn hdis ht hvm hB hk1 hS)))
theorem k_cv {post : S → Prop} {w1 : S → va_W} {t1 : S → List (ClassId × FieldType)} {av : Array Value} (Wd : wX D tys s ws H A H0 locs) (isC isR : List Nat) (hC : isC.map (fun i => ws[i]?) = wc.map some) (hR : isR.map (fun i => ws[i]?) = wr.map some) (hn : va_nd isR = true) (hdis : ∀ i ∈ isR, i ∉ isC) {cells' slots' : Nat} (hc' : cells + mc ≤ cells') (hs' : slots + ms ≤ slots')
    (hr : va_Run p l e R s m args below meth c H locs cells slots mc ms (F0 m pc ls st0) rest (va_Qv post (fun u t => cB D (va_A wc H.size) (t1 u) (w1 u) t) (va_A wc H.size) av) (va_A wc H.size))
    (kk : ∀ (u : S) (H1 : Heap) (locs1 : List Loc), post u → wX D (tys ++ t1 u) s (wr ++ w1 u) H1 A H0 locs1 → W p l e R s m args below meth c H1 locs1 cells' slots' Q (F0 m (pc + 3) ls rest)) : W p l e R s m args below meth c H locs cells slots Q (F0 m pc ls st0) := by
  have hFc := va_free (wc := wc) Wd.2.2.1 Wd.2.2.2.1 Wd.2.2.2.2 isC hC
  exact va_callv hr Wd.2.2.2.1 (fun q _ h => hFc q h) hFc (fun u t H1 locs1 ht hvm hw hB hz1 hk1 hS => W.widen hc' hs' (kk u H1 locs1 hw (k_after (S := S) (post := fun _ _ => True) Wd isC isR hC hR hn hdis ht hvm hB hk1 hS)))
/-- a call that changes nothing, back with a number, nothing, or a reference -/
theorem va_Run.flat {Qa : State → Outcome → State → Prop} (h : va_Run p l e R s m args below meth c H locs cells slots mc ms (F0 m pc ls st0) rest Qa free) : CallRun p l e R s m args below meth c H locs cells slots mc ms (F0 m pc ls st0) rest Qa free := by
  intro T hT X
  obtain ⟨v, st₀, t, T', L, h0, X', hL, e1, e2, hq, st⟩ := h T hT X
  exact ⟨v, st₀, t, T', L, h0, X', hL, e1, hq, st⟩
theorem k_pi {post : Int32 → Prop} {av : Array Value} (hr : va_Run p l e R s m args below meth c H locs cells slots 0 0 (F0 m pc ls st0) rest (vp_Si post av) (fun _ => False))
    (kk : ∀ r : Int32, post r → W p l e R s m args below meth c H locs cells slots Q (F0 m (pc + 3) ls (.int r :: rest))) : W p l e R s m args below meth c H locs cells slots Q (F0 m pc ls st0) := vp_callSi hr.flat kk
theorem k_pv {post : Unit → Prop} {av : Array Value} (hr : va_Run p l e R s m args below meth c H locs cells slots 0 0 (F0 m pc ls st0) rest (va_Sv post av) (fun _ => False))
    (kk : post () → W p l e R s m args below meth c H locs cells slots Q (F0 m (pc + 3) ls rest)) : W p l e R s m args below meth c H locs cells slots Q (F0 m pc ls st0) := va_csv hr.flat (fun h => kk h)
theorem k_pq {post : Option Nat → Prop} {av : Array Value} (hr : va_Run p l e R s m args below meth c H locs cells slots 0 0 (F0 m pc ls st0) rest (va_Sq post av) (fun _ => False))
    (kk : ∀ r : Option Nat, post r → W p l e R s m args below meth c H locs cells slots Q (F0 m (pc + 3) ls (va_rf r :: rest))) : W p l e R s m args below meth c H locs cells slots Q (F0 m pc ls st0) := va_csq hr.flat kk
theorem k_end {w1 : va_W} {t1 : List (ClassId × FieldType)} (Wd : wX D tys s ws H A s.heap locs) (is : List Nat) (hI : is.map (fun i => ws[i]?) = w1.map some) (hnd : va_nd is = true) (ts : List Nat) (hT : ts.filterMap (fun i => tys[i]?) = t1) {t : State} (ht : t.heap = H) (hW : s.WarmedH t.vm) : cB D A t1 w1 t ∧ va_F A s t := by
  have h1 : is.filterMap (fun i => ws[i]?) = w1 := by
    have := congrArg (List.filterMap id) hI
    rw [List.filterMap_map, List.filterMap_map] at this
    simpa using this
  exact ⟨⟨by rw [ht]; exact Wd.2.1.sub is h1, va_K.moved hW.alike (Wd.1.sub ts hT), Wd.2.2.1.sub is hnd hI⟩, Wd.2.2.2.1.F ht⟩
theorem k_zret {post : Int32 → S → Prop} {w1 : S → va_W} {t1 : S → List (ClassId × FieldType)} {ty : FieldType} {v : Int32} (C : CallFix p m c cc nL s args gG own) (hr : meth.sig.returnType = some ty) (hlk : meth.locks = false) (hnr : narrow ty (.int v) = .int v) (Wd : wX D tys s ws H A s.heap locs) (u : S) (hp : post v u) (is : List Nat) (hI : is.map (fun i => ws[i]?) = (w1 u).map some) (hnd : va_nd is = true) (ts : List Nat) (hT : ts.filterMap (fun i => tys[i]?) = t1 u) (h1 : cells ≤ mc) (h2 : slots ≤ ms) (hdg : decode cc pc = .ok (.ireturn, 1)) :
    W p l e R s m args below meth c H locs cells slots (MQ below (va_Qi post (fun u t => cB D A (t1 u) (w1 u) t) A) args s mc ms A) (F0 m pc ls [.int v]) :=
  W.widen h1 h2 (W.zret (ty := ty) C.1 C.2.1 hr hnr (fun t ht hW => ⟨⟨v, u, rfl, hp, (k_end Wd is hI hnd ts hT ht hW).1⟩, (k_end Wd is hI hnd ts hT ht hW).2⟩) Wd.2.2.2.1.2.2 hdg hlk)
theorem k_vret {post : S → Prop} {w1 : S → va_W} {t1 : S → List (ClassId × FieldType)} (C : CallFix p m c cc nL s args gG own) (hr : meth.sig.returnType = none) (hlk : meth.locks = false) (Wd : wX D tys s ws H A s.heap locs) (u : S) (hp : post u) (is : List Nat) (hI : is.map (fun i => ws[i]?) = (w1 u).map some) (hnd : va_nd is = true) (ts : List Nat) (hT : ts.filterMap (fun i => tys[i]?) = t1 u) (h1 : cells ≤ mc) (h2 : slots ≤ ms) (hdg : decode cc pc = .ok (.return_, 1)) :
    W p l e R s m args below meth c H locs cells slots (MQ below (va_Qv post (fun u t => cB D A (t1 u) (w1 u) t) A) args s mc ms A) (F0 m pc ls []) :=
  W.widen h1 h2 (W.vret C.1 C.2.1 hr (fun t ht hW => ⟨⟨u, rfl, hp, (k_end Wd is hI hnd ts hT ht hW).1⟩, (k_end Wd is hI hnd ts hT ht hW).2⟩) Wd.2.2.2.1.2.2 hdg hlk)
theorem k_zretP {post : Int32 → Prop} {ty : FieldType} {v : Int32} (C : CallFix p m c cc nL s args gG own) (hr : meth.sig.returnType = some ty) (hlk : meth.locks = false) (hnr : narrow ty (.int v) = .int v) (hp : post v) (hdg : decode cc pc = .ok (.ireturn, 1)) :
    W p l e R s m args below meth c s.heap [] 0 0 (MQ below (vp_Si post) args s 0 0 (fun _ => False)) (F0 m pc ls [.int v]) :=
  W.zret (ty := ty) C.1 C.2.1 hr hnr (fun t ht _ => ⟨v, rfl, hp, ht⟩) (fun _ h => absurd h List.not_mem_nil) hdg hlk
theorem k_vretP {post : Unit → Prop} (C : CallFix p m c cc nL s args gG own) (hr : meth.sig.returnType = none) (hlk : meth.locks = false) (hp : post ()) (hdg : decode cc pc = .ok (.return_, 1)) :
    W p l e R s m args below meth c s.heap [] 0 0 (MQ below (va_Sv post) args s 0 0 (fun _ => False)) (F0 m pc ls []) :=
  W.vret C.1 C.2.1 hr (fun t ht _ => ⟨rfl, hp, ht⟩) (fun _ h => absurd h List.not_mem_nil) hdg hlk
theorem k_aretP {post : Option Nat → Prop} {rn : String} {v : Value} (r : Option Nat) (hv : v = va_rf r) (C : CallFix p m c cc nL s args gG own) (hr : meth.sig.returnType = some (.object rn)) (hlk : meth.locks = false) (hp : post r) (hdg : decode cc pc = .ok (.areturn, 1)) :
    W p l e R s m args below meth c s.heap [] 0 0 (MQ below (va_Sq post) args s 0 0 (fun _ => False)) (F0 m pc ls [v]) := by
  subst hv
  exact W.aret C.1 C.2.1 hr (Or.inl ⟨rn, rfl⟩) (va_rf_or r) (fun t ht _ => ⟨r, rfl, hp, ht⟩) (fun _ h => absurd h List.not_mem_nil) hdg hlk
end KC
theorem upd0 (k : Nat) : upd (fun _ => 0) k 0 = fun _ => (0 : Int32) := by
  funext j
  unfold upd
  split <;> rfl
theorem kz_lt {a b : Int32} (h : a < b) : a.toInt < b.toInt := Int32.lt_iff_toInt_lt.mp h
theorem kz_le {a b : Int32} (h : a ≤ b) : a.toInt ≤ b.toInt := Int32.le_iff_toInt_le.mp h
theorem kz_nlt {a b : Int32} (h : ¬ a < b) : b.toInt ≤ a.toInt := Int.not_lt.mp (fun q => h (Int32.lt_iff_toInt_lt.mpr q))
theorem kz_nle {a b : Int32} (h : ¬ a ≤ b) : b.toInt < a.toInt := Int.not_le.mp (fun q => h (Int32.le_iff_toInt_le.mpr q))
theorem kz_eq {a b : Int32} (h : a = b) : a.toInt = b.toInt := by rw [h]
theorem kz_ne {a b : Int32} (h : ¬ a = b) : ¬ a.toInt = b.toInt := fun q => h (Int32.toInt_inj.mp q)
theorem kz_inj {a b : Int32} (h : a.toInt = b.toInt) : a = b := Int32.toInt_inj.mp h
end
