section
-- ===== PART A: goes FIRST, ahead of the names: the tables' words, and 'selects' of the private methods out of them =====
/-- a private method of a class that the tables say can be made, by its rows of tables_1 -/
def lw_okq (q : MethodName × Nat) : Prop := (q.1.cls ≠ "java/lang/invoke/MethodHandle" ∧ q.1.cls ≠ "java/lang/invoke/VarHandle") ∧ Cond.instantiable q.1.cls q.2 ∈ tables_1 ∧ Cond.privateMethod q.1 ∈ tables_1 ∧ Cond.instanceMethod q.1 ∈ tables_1
theorem lw_p0 : lw_okq (⟨"SameAfter", "slotAt", "(I)LSameAfter$Row;"⟩, 8) := ⟨⟨by decide +kernel, by decide +kernel⟩, List.mem_of_getElem? (i := 21) (by decide +kernel), List.mem_of_getElem? (i := 466) (by decide +kernel), List.mem_of_getElem? (i := 467) (by decide +kernel)⟩
theorem lw_p1 : lw_okq (⟨"SameAfter$Reader", "begin", "(LSameAfter$Row;LSameAfter$Rule;I)V"⟩, 17) := ⟨⟨by decide +kernel, by decide +kernel⟩, List.mem_of_getElem? (i := 55) (by decide +kernel), List.mem_of_getElem? (i := 479) (by decide +kernel), List.mem_of_getElem? (i := 480) (by decide +kernel)⟩
theorem lw_p2 : lw_okq (⟨"SameAfter$Tape", "takeLetters", "()V"⟩, 6) := ⟨⟨by decide +kernel, by decide +kernel⟩, List.mem_of_getElem? (i := 61) (by decide +kernel), List.mem_of_getElem? (i := 505) (by decide +kernel), List.mem_of_getElem? (i := 506) (by decide +kernel)⟩
theorem lw_p3 : lw_okq (⟨"SameAfter$Tape", "isText", "(Ljava/lang/String;)Z"⟩, 6) := ⟨⟨by decide +kernel, by decide +kernel⟩, List.mem_of_getElem? (i := 61) (by decide +kernel), List.mem_of_getElem? (i := 510) (by decide +kernel), List.mem_of_getElem? (i := 511) (by decide +kernel)⟩
theorem lw_p4 : lw_okq (⟨"SameAfter$Tape", "takeDigits", "()V"⟩, 6) := ⟨⟨by decide +kernel, by decide +kernel⟩, List.mem_of_getElem? (i := 61) (by decide +kernel), List.mem_of_getElem? (i := 569) (by decide +kernel), List.mem_of_getElem? (i := 570) (by decide +kernel)⟩
theorem lw_p5 : lw_okq (⟨"SameAfter$Tape", "takeSign", "(IZ)V"⟩, 6) := ⟨⟨by decide +kernel, by decide +kernel⟩, List.mem_of_getElem? (i := 61) (by decide +kernel), List.mem_of_getElem? (i := 573) (by decide +kernel), List.mem_of_getElem? (i := 574) (by decide +kernel)⟩
theorem lw_p6 : lw_okq (⟨"SameAfter$Reader", "takeBehindThen", "()V"⟩, 17) := ⟨⟨by decide +kernel, by decide +kernel⟩, List.mem_of_getElem? (i := 55) (by decide +kernel), List.mem_of_getElem? (i := 580) (by decide +kernel), List.mem_of_getElem? (i := 581) (by decide +kernel)⟩
theorem lw_p7 : lw_okq (⟨"SameAfter$Reader", "takeStatement", "()V"⟩, 17) := ⟨⟨by decide +kernel, by decide +kernel⟩, List.mem_of_getElem? (i := 55) (by decide +kernel), List.mem_of_getElem? (i := 588) (by decide +kernel), List.mem_of_getElem? (i := 589) (by decide +kernel)⟩
theorem lw_p8 : lw_okq (⟨"SameAfter$Reader", "closeBlock", "()V"⟩, 17) := ⟨⟨by decide +kernel, by decide +kernel⟩, List.mem_of_getElem? (i := 55) (by decide +kernel), List.mem_of_getElem? (i := 592) (by decide +kernel), List.mem_of_getElem? (i := 593) (by decide +kernel)⟩
theorem lw_p9 : lw_okq (⟨"SameAfter$Reader", "refuse", "(I)V"⟩, 17) := ⟨⟨by decide +kernel, by decide +kernel⟩, List.mem_of_getElem? (i := 55) (by decide +kernel), List.mem_of_getElem? (i := 596) (by decide +kernel), List.mem_of_getElem? (i := 597) (by decide +kernel)⟩
theorem lw_p10 : lw_okq (⟨"SameAfter$Reader", "beginStatement", "(I)V"⟩, 17) := ⟨⟨by decide +kernel, by decide +kernel⟩, List.mem_of_getElem? (i := 55) (by decide +kernel), List.mem_of_getElem? (i := 600) (by decide +kernel), List.mem_of_getElem? (i := 601) (by decide +kernel)⟩
theorem lw_p11 : lw_okq (⟨"SameAfter$Reader", "beginExpression", "(I)V"⟩, 17) := ⟨⟨by decide +kernel, by decide +kernel⟩, List.mem_of_getElem? (i := 55) (by decide +kernel), List.mem_of_getElem? (i := 604) (by decide +kernel), List.mem_of_getElem? (i := 605) (by decide +kernel)⟩
theorem lw_p12 : lw_okq (⟨"SameAfter$Reader", "takeElseBrace", "()V"⟩, 17) := ⟨⟨by decide +kernel, by decide +kernel⟩, List.mem_of_getElem? (i := 55) (by decide +kernel), List.mem_of_getElem? (i := 608) (by decide +kernel), List.mem_of_getElem? (i := 609) (by decide +kernel)⟩
theorem lw_p13 : lw_okq (⟨"SameAfter$Reader", "openBlock", "(I)V"⟩, 17) := ⟨⟨by decide +kernel, by decide +kernel⟩, List.mem_of_getElem? (i := 55) (by decide +kernel), List.mem_of_getElem? (i := 612) (by decide +kernel), List.mem_of_getElem? (i := 613) (by decide +kernel)⟩
theorem lw_p14 : lw_okq (⟨"SameAfter$Reader", "open", "(I)Z"⟩, 17) := ⟨⟨by decide +kernel, by decide +kernel⟩, List.mem_of_getElem? (i := 55) (by decide +kernel), List.mem_of_getElem? (i := 616) (by decide +kernel), List.mem_of_getElem? (i := 617) (by decide +kernel)⟩
theorem lw_p15 : lw_okq (⟨"SameAfter$Reader", "takeSetSign", "()V"⟩, 17) := ⟨⟨by decide +kernel, by decide +kernel⟩, List.mem_of_getElem? (i := 55) (by decide +kernel), List.mem_of_getElem? (i := 620) (by decide +kernel), List.mem_of_getElem? (i := 621) (by decide +kernel)⟩
def lw_privs_1 : List (MethodName × Nat) := [(⟨"SameAfter", "slotAt", "(I)LSameAfter$Row;"⟩, 8), (⟨"SameAfter$Reader", "begin", "(LSameAfter$Row;LSameAfter$Rule;I)V"⟩, 17), (⟨"SameAfter$Tape", "takeLetters", "()V"⟩, 6), (⟨"SameAfter$Tape", "isText", "(Ljava/lang/String;)Z"⟩, 6), (⟨"SameAfter$Tape", "takeDigits", "()V"⟩, 6), (⟨"SameAfter$Tape", "takeSign", "(IZ)V"⟩, 6), (⟨"SameAfter$Reader", "takeBehindThen", "()V"⟩, 17), (⟨"SameAfter$Reader", "takeStatement", "()V"⟩, 17), (⟨"SameAfter$Reader", "closeBlock", "()V"⟩, 17), (⟨"SameAfter$Reader", "refuse", "(I)V"⟩, 17), (⟨"SameAfter$Reader", "beginStatement", "(I)V"⟩, 17), (⟨"SameAfter$Reader", "beginExpression", "(I)V"⟩, 17), (⟨"SameAfter$Reader", "takeElseBrace", "()V"⟩, 17), (⟨"SameAfter$Reader", "openBlock", "(I)V"⟩, 17), (⟨"SameAfter$Reader", "open", "(I)Z"⟩, 17), (⟨"SameAfter$Reader", "takeSetSign", "()V"⟩, 17)]
theorem lw_r1 : ∀ q ∈ lw_privs_1, lw_okq q := List.forall_mem_cons.mpr ⟨lw_p0, List.forall_mem_cons.mpr ⟨lw_p1, List.forall_mem_cons.mpr ⟨lw_p2, List.forall_mem_cons.mpr ⟨lw_p3, List.forall_mem_cons.mpr ⟨lw_p4, List.forall_mem_cons.mpr ⟨lw_p5, List.forall_mem_cons.mpr ⟨lw_p6, List.forall_mem_cons.mpr ⟨lw_p7, List.forall_mem_cons.mpr ⟨lw_p8, List.forall_mem_cons.mpr ⟨lw_p9, List.forall_mem_cons.mpr ⟨lw_p10, List.forall_mem_cons.mpr ⟨lw_p11, List.forall_mem_cons.mpr ⟨lw_p12, List.forall_mem_cons.mpr ⟨lw_p13, List.forall_mem_cons.mpr ⟨lw_p14, List.forall_mem_cons.mpr ⟨lw_p15, fun _ h => absurd h List.not_mem_nil⟩⟩⟩⟩⟩⟩⟩⟩⟩⟩⟩⟩⟩⟩⟩⟩
theorem lw_p16 : lw_okq (⟨"SameAfter$Reader", "takeSemicolon", "()V"⟩, 17) := ⟨⟨by decide +kernel, by decide +kernel⟩, List.mem_of_getElem? (i := 55) (by decide +kernel), List.mem_of_getElem? (i := 624) (by decide +kernel), List.mem_of_getElem? (i := 625) (by decide +kernel)⟩
theorem lw_p17 : lw_okq (⟨"SameAfter$Reader", "takeOperand", "()V"⟩, 17) := ⟨⟨by decide +kernel, by decide +kernel⟩, List.mem_of_getElem? (i := 55) (by decide +kernel), List.mem_of_getElem? (i := 628) (by decide +kernel), List.mem_of_getElem? (i := 629) (by decide +kernel)⟩
theorem lw_p18 : lw_okq (⟨"SameAfter$Reader", "takeNumber", "()V"⟩, 17) := ⟨⟨by decide +kernel, by decide +kernel⟩, List.mem_of_getElem? (i := 55) (by decide +kernel), List.mem_of_getElem? (i := 632) (by decide +kernel), List.mem_of_getElem? (i := 633) (by decide +kernel)⟩
theorem lw_p19 : lw_okq (⟨"SameAfter$Reader", "countThing", "()Z"⟩, 17) := ⟨⟨by decide +kernel, by decide +kernel⟩, List.mem_of_getElem? (i := 55) (by decide +kernel), List.mem_of_getElem? (i := 636) (by decide +kernel), List.mem_of_getElem? (i := 637) (by decide +kernel)⟩
theorem lw_p20 : lw_okq (⟨"SameAfter$Reader", "takeLetter", "()V"⟩, 17) := ⟨⟨by decide +kernel, by decide +kernel⟩, List.mem_of_getElem? (i := 55) (by decide +kernel), List.mem_of_getElem? (i := 640) (by decide +kernel), List.mem_of_getElem? (i := 641) (by decide +kernel)⟩
theorem lw_p21 : lw_okq (⟨"SameAfter$Reader", "takeBehindOperand", "()V"⟩, 17) := ⟨⟨by decide +kernel, by decide +kernel⟩, List.mem_of_getElem? (i := 55) (by decide +kernel), List.mem_of_getElem? (i := 648) (by decide +kernel), List.mem_of_getElem? (i := 649) (by decide +kernel)⟩
theorem lw_p22 : lw_okq (⟨"SameAfter$Reader", "takeOperation", "(I)V"⟩, 17) := ⟨⟨by decide +kernel, by decide +kernel⟩, List.mem_of_getElem? (i := 55) (by decide +kernel), List.mem_of_getElem? (i := 652) (by decide +kernel), List.mem_of_getElem? (i := 653) (by decide +kernel)⟩
theorem lw_p23 : lw_okq (⟨"SameAfter$Reader", "endExpression", "(I)V"⟩, 17) := ⟨⟨by decide +kernel, by decide +kernel⟩, List.mem_of_getElem? (i := 55) (by decide +kernel), List.mem_of_getElem? (i := 663) (by decide +kernel), List.mem_of_getElem? (i := 664) (by decide +kernel)⟩
theorem lw_p24 : lw_okq (⟨"SameAfter$Flow", "number", "()V"⟩, 14) := ⟨⟨by decide +kernel, by decide +kernel⟩, List.mem_of_getElem? (i := 153) (by decide +kernel), List.mem_of_getElem? (i := 739) (by decide +kernel), List.mem_of_getElem? (i := 740) (by decide +kernel)⟩
theorem lw_p25 : lw_okq (⟨"SameAfter$Flow", "begin", "(II)V"⟩, 14) := ⟨⟨by decide +kernel, by decide +kernel⟩, List.mem_of_getElem? (i := 153) (by decide +kernel), List.mem_of_getElem? (i := 748) (by decide +kernel), List.mem_of_getElem? (i := 749) (by decide +kernel)⟩
theorem lw_p26 : lw_okq (⟨"SameAfter$Flow", "link", "()V"⟩, 14) := ⟨⟨by decide +kernel, by decide +kernel⟩, List.mem_of_getElem? (i := 153) (by decide +kernel), List.mem_of_getElem? (i := 763) (by decide +kernel), List.mem_of_getElem? (i := 764) (by decide +kernel)⟩
theorem lw_p27 : lw_okq (⟨"SameAfter$Flow", "linkAt", "(III)I"⟩, 14) := ⟨⟨by decide +kernel, by decide +kernel⟩, List.mem_of_getElem? (i := 153) (by decide +kernel), List.mem_of_getElem? (i := 770) (by decide +kernel), List.mem_of_getElem? (i := 771) (by decide +kernel)⟩
theorem lw_p28 : lw_okq (⟨"SameAfter$Flow", "settle", "()V"⟩, 14) := ⟨⟨by decide +kernel, by decide +kernel⟩, List.mem_of_getElem? (i := 153) (by decide +kernel), List.mem_of_getElem? (i := 774) (by decide +kernel), List.mem_of_getElem? (i := 775) (by decide +kernel)⟩
theorem lw_p29 : lw_okq (⟨"SameAfter$Machine", "doStatement", "(I)I"⟩, 7) := ⟨⟨by decide +kernel, by decide +kernel⟩, List.mem_of_getElem? (i := 147) (by decide +kernel), List.mem_of_getElem? (i := 794) (by decide +kernel), List.mem_of_getElem? (i := 795) (by decide +kernel)⟩
theorem lw_p30 : lw_okq (⟨"SameAfter$Judge", "note", "(II)V"⟩, 6) := ⟨⟨by decide +kernel, by decide +kernel⟩, List.mem_of_getElem? (i := 330) (by decide +kernel), List.mem_of_getElem? (i := 835) (by decide +kernel), List.mem_of_getElem? (i := 836) (by decide +kernel)⟩
theorem lw_p31 : lw_okq (⟨"SameAfter$Judge", "placeThatDiffers", "()I"⟩, 6) := ⟨⟨by decide +kernel, by decide +kernel⟩, List.mem_of_getElem? (i := 330) (by decide +kernel), List.mem_of_getElem? (i := 839) (by decide +kernel), List.mem_of_getElem? (i := 840) (by decide +kernel)⟩
def lw_privs_2 : List (MethodName × Nat) := [(⟨"SameAfter$Reader", "takeSemicolon", "()V"⟩, 17), (⟨"SameAfter$Reader", "takeOperand", "()V"⟩, 17), (⟨"SameAfter$Reader", "takeNumber", "()V"⟩, 17), (⟨"SameAfter$Reader", "countThing", "()Z"⟩, 17), (⟨"SameAfter$Reader", "takeLetter", "()V"⟩, 17), (⟨"SameAfter$Reader", "takeBehindOperand", "()V"⟩, 17), (⟨"SameAfter$Reader", "takeOperation", "(I)V"⟩, 17), (⟨"SameAfter$Reader", "endExpression", "(I)V"⟩, 17), (⟨"SameAfter$Flow", "number", "()V"⟩, 14), (⟨"SameAfter$Flow", "begin", "(II)V"⟩, 14), (⟨"SameAfter$Flow", "link", "()V"⟩, 14), (⟨"SameAfter$Flow", "linkAt", "(III)I"⟩, 14), (⟨"SameAfter$Flow", "settle", "()V"⟩, 14), (⟨"SameAfter$Machine", "doStatement", "(I)I"⟩, 7), (⟨"SameAfter$Judge", "note", "(II)V"⟩, 6), (⟨"SameAfter$Judge", "placeThatDiffers", "()I"⟩, 6)]
theorem lw_r2 : ∀ q ∈ lw_privs_2, lw_okq q := List.forall_mem_cons.mpr ⟨lw_p16, List.forall_mem_cons.mpr ⟨lw_p17, List.forall_mem_cons.mpr ⟨lw_p18, List.forall_mem_cons.mpr ⟨lw_p19, List.forall_mem_cons.mpr ⟨lw_p20, List.forall_mem_cons.mpr ⟨lw_p21, List.forall_mem_cons.mpr ⟨lw_p22, List.forall_mem_cons.mpr ⟨lw_p23, List.forall_mem_cons.mpr ⟨lw_p24, List.forall_mem_cons.mpr ⟨lw_p25, List.forall_mem_cons.mpr ⟨lw_p26, List.forall_mem_cons.mpr ⟨lw_p27, List.forall_mem_cons.mpr ⟨lw_p28, List.forall_mem_cons.mpr ⟨lw_p29, List.forall_mem_cons.mpr ⟨lw_p30, List.forall_mem_cons.mpr ⟨lw_p31, fun _ h => absurd h List.not_mem_nil⟩⟩⟩⟩⟩⟩⟩⟩⟩⟩⟩⟩⟩⟩⟩⟩
theorem lw_p32 : lw_okq (⟨"SameAfter", "ruleAt", "(I)LSameAfter$Rule;"⟩, 8) := ⟨⟨by decide +kernel, by decide +kernel⟩, List.mem_of_getElem? (i := 21) (by decide +kernel), List.mem_of_getElem? (i := 857) (by decide +kernel), List.mem_of_getElem? (i := 858) (by decide +kernel)⟩
theorem lw_p33 : lw_okq (⟨"SameAfter$Proof", "hasForm", "(LSameAfter$Row;)Z"⟩, 7) := ⟨⟨by decide +kernel, by decide +kernel⟩, List.mem_of_getElem? (i := 242) (by decide +kernel), List.mem_of_getElem? (i := 865) (by decide +kernel), List.mem_of_getElem? (i := 866) (by decide +kernel)⟩
theorem lw_p34 : lw_okq (⟨"SameAfter$Proof", "mostTimes", "(LSameAfter$Row;I)I"⟩, 7) := ⟨⟨by decide +kernel, by decide +kernel⟩, List.mem_of_getElem? (i := 242) (by decide +kernel), List.mem_of_getElem? (i := 869) (by decide +kernel), List.mem_of_getElem? (i := 870) (by decide +kernel)⟩
theorem lw_p35 : lw_okq (⟨"SameAfter$Proof", "multiplyOut", "(LSameAfter$Row;)V"⟩, 7) := ⟨⟨by decide +kernel, by decide +kernel⟩, List.mem_of_getElem? (i := 242) (by decide +kernel), List.mem_of_getElem? (i := 876) (by decide +kernel), List.mem_of_getElem? (i := 877) (by decide +kernel)⟩
theorem lw_p36 : lw_okq (⟨"SameAfter$Proof", "beginForm", "([II)V"⟩, 7) := ⟨⟨by decide +kernel, by decide +kernel⟩, List.mem_of_getElem? (i := 242) (by decide +kernel), List.mem_of_getElem? (i := 880) (by decide +kernel), List.mem_of_getElem? (i := 881) (by decide +kernel)⟩
theorem lw_p37 : lw_okq (⟨"SameAfter$Proof", "multiply", "([I[I)V"⟩, 7) := ⟨⟨by decide +kernel, by decide +kernel⟩, List.mem_of_getElem? (i := 242) (by decide +kernel), List.mem_of_getElem? (i := 885) (by decide +kernel), List.mem_of_getElem? (i := 886) (by decide +kernel)⟩
theorem lw_p38 : lw_okq (⟨"SameAfter$Proof", "addMultiple", "(II[I)V"⟩, 7) := ⟨⟨by decide +kernel, by decide +kernel⟩, List.mem_of_getElem? (i := 242) (by decide +kernel), List.mem_of_getElem? (i := 889) (by decide +kernel), List.mem_of_getElem? (i := 890) (by decide +kernel)⟩
theorem lw_p39 : lw_okq (⟨"SameAfter$Proof", "addUp", "([I[II)V"⟩, 7) := ⟨⟨by decide +kernel, by decide +kernel⟩, List.mem_of_getElem? (i := 242) (by decide +kernel), List.mem_of_getElem? (i := 895) (by decide +kernel), List.mem_of_getElem? (i := 896) (by decide +kernel)⟩
theorem lw_p40 : lw_okq (⟨"SameAfter$Proof", "tryOne", "(LSameAfter$Rule;III)V"⟩, 7) := ⟨⟨by decide +kernel, by decide +kernel⟩, List.mem_of_getElem? (i := 242) (by decide +kernel), List.mem_of_getElem? (i := 905) (by decide +kernel), List.mem_of_getElem? (i := 906) (by decide +kernel)⟩
theorem lw_p41 : lw_okq (⟨"SameAfter$Proof", "valueOf", "(LSameAfter$Row;)I"⟩, 7) := ⟨⟨by decide +kernel, by decide +kernel⟩, List.mem_of_getElem? (i := 242) (by decide +kernel), List.mem_of_getElem? (i := 909) (by decide +kernel), List.mem_of_getElem? (i := 910) (by decide +kernel)⟩
theorem lw_p42 : lw_okq (⟨"SameAfter$Rule", "matches", "(LSameAfter$Row;I)Z"⟩, 5) := ⟨⟨by decide +kernel, by decide +kernel⟩, List.mem_of_getElem? (i := 281) (by decide +kernel), List.mem_of_getElem? (i := 922) (by decide +kernel), List.mem_of_getElem? (i := 923) (by decide +kernel)⟩
theorem lw_p43 : lw_okq (⟨"SameAfter$Rule", "bind", "(LSameAfter$Row;III)Z"⟩, 5) := ⟨⟨by decide +kernel, by decide +kernel⟩, List.mem_of_getElem? (i := 281) (by decide +kernel), List.mem_of_getElem? (i := 931) (by decide +kernel), List.mem_of_getElem? (i := 932) (by decide +kernel)⟩
theorem lw_p44 : lw_okq (⟨"SameAfter$Rule", "lengthOfRight", "()I"⟩, 5) := ⟨⟨by decide +kernel, by decide +kernel⟩, List.mem_of_getElem? (i := 281) (by decide +kernel), List.mem_of_getElem? (i := 952) (by decide +kernel), List.mem_of_getElem? (i := 953) (by decide +kernel)⟩
theorem lw_p45 : lw_okq (⟨"SameAfter$Acts", "foldOperations", "(LSameAfter$Row;)V"⟩, 2) := ⟨⟨by decide +kernel, by decide +kernel⟩, List.mem_of_getElem? (i := 310) (by decide +kernel), List.mem_of_getElem? (i := 990) (by decide +kernel), List.mem_of_getElem? (i := 991) (by decide +kernel)⟩
theorem lw_p46 : lw_okq (⟨"SameAfter$Acts", "foldBranch", "(LSameAfter$Row;IZ)V"⟩, 2) := ⟨⟨by decide +kernel, by decide +kernel⟩, List.mem_of_getElem? (i := 310) (by decide +kernel), List.mem_of_getElem? (i := 1007) (by decide +kernel), List.mem_of_getElem? (i := 1008) (by decide +kernel)⟩
theorem lw_p47 : lw_okq (⟨"SameAfter$Acts", "copyBehind", "(LSameAfter$Row;III)V"⟩, 2) := ⟨⟨by decide +kernel, by decide +kernel⟩, List.mem_of_getElem? (i := 310) (by decide +kernel), List.mem_of_getElem? (i := 1049) (by decide +kernel), List.mem_of_getElem? (i := 1050) (by decide +kernel)⟩
def lw_privs_3 : List (MethodName × Nat) := [(⟨"SameAfter", "ruleAt", "(I)LSameAfter$Rule;"⟩, 8), (⟨"SameAfter$Proof", "hasForm", "(LSameAfter$Row;)Z"⟩, 7), (⟨"SameAfter$Proof", "mostTimes", "(LSameAfter$Row;I)I"⟩, 7), (⟨"SameAfter$Proof", "multiplyOut", "(LSameAfter$Row;)V"⟩, 7), (⟨"SameAfter$Proof", "beginForm", "([II)V"⟩, 7), (⟨"SameAfter$Proof", "multiply", "([I[I)V"⟩, 7), (⟨"SameAfter$Proof", "addMultiple", "(II[I)V"⟩, 7), (⟨"SameAfter$Proof", "addUp", "([I[II)V"⟩, 7), (⟨"SameAfter$Proof", "tryOne", "(LSameAfter$Rule;III)V"⟩, 7), (⟨"SameAfter$Proof", "valueOf", "(LSameAfter$Row;)I"⟩, 7), (⟨"SameAfter$Rule", "matches", "(LSameAfter$Row;I)Z"⟩, 5), (⟨"SameAfter$Rule", "bind", "(LSameAfter$Row;III)Z"⟩, 5), (⟨"SameAfter$Rule", "lengthOfRight", "()I"⟩, 5), (⟨"SameAfter$Acts", "foldOperations", "(LSameAfter$Row;)V"⟩, 2), (⟨"SameAfter$Acts", "foldBranch", "(LSameAfter$Row;IZ)V"⟩, 2), (⟨"SameAfter$Acts", "copyBehind", "(LSameAfter$Row;III)V"⟩, 2)]
theorem lw_r3 : ∀ q ∈ lw_privs_3, lw_okq q := List.forall_mem_cons.mpr ⟨lw_p32, List.forall_mem_cons.mpr ⟨lw_p33, List.forall_mem_cons.mpr ⟨lw_p34, List.forall_mem_cons.mpr ⟨lw_p35, List.forall_mem_cons.mpr ⟨lw_p36, List.forall_mem_cons.mpr ⟨lw_p37, List.forall_mem_cons.mpr ⟨lw_p38, List.forall_mem_cons.mpr ⟨lw_p39, List.forall_mem_cons.mpr ⟨lw_p40, List.forall_mem_cons.mpr ⟨lw_p41, List.forall_mem_cons.mpr ⟨lw_p42, List.forall_mem_cons.mpr ⟨lw_p43, List.forall_mem_cons.mpr ⟨lw_p44, List.forall_mem_cons.mpr ⟨lw_p45, List.forall_mem_cons.mpr ⟨lw_p46, List.forall_mem_cons.mpr ⟨lw_p47, fun _ h => absurd h List.not_mem_nil⟩⟩⟩⟩⟩⟩⟩⟩⟩⟩⟩⟩⟩⟩⟩⟩
theorem lw_p48 : lw_okq (⟨"SameAfter$Passes", "applyRule", "(LSameAfter$Rule;)Z"⟩, 10) := ⟨⟨by decide +kernel, by decide +kernel⟩, List.mem_of_getElem? (i := 274) (by decide +kernel), List.mem_of_getElem? (i := 1074) (by decide +kernel), List.mem_of_getElem? (i := 1075) (by decide +kernel)⟩
theorem lw_p49 : lw_okq (⟨"SameAfter$Passes", "madeWrong", "(LSameAfter$Row;)Z"⟩, 10) := ⟨⟨by decide +kernel, by decide +kernel⟩, List.mem_of_getElem? (i := 274) (by decide +kernel), List.mem_of_getElem? (i := 1095) (by decide +kernel), List.mem_of_getElem? (i := 1096) (by decide +kernel)⟩
theorem lw_p50 : lw_okq (⟨"SameAfter$Registers", "count", "(I)V"⟩, 5) := ⟨⟨by decide +kernel, by decide +kernel⟩, List.mem_of_getElem? (i := 397) (by decide +kernel), List.mem_of_getElem? (i := 1127) (by decide +kernel), List.mem_of_getElem? (i := 1128) (by decide +kernel)⟩
theorem lw_p51 : lw_okq (⟨"SameAfter$Registers", "noteClashes", "(II)V"⟩, 5) := ⟨⟨by decide +kernel, by decide +kernel⟩, List.mem_of_getElem? (i := 397) (by decide +kernel), List.mem_of_getElem? (i := 1137) (by decide +kernel), List.mem_of_getElem? (i := 1138) (by decide +kernel)⟩
theorem lw_p52 : lw_okq (⟨"SameAfter$Registers", "deal", "(III)Z"⟩, 5) := ⟨⟨by decide +kernel, by decide +kernel⟩, List.mem_of_getElem? (i := 397) (by decide +kernel), List.mem_of_getElem? (i := 1147) (by decide +kernel), List.mem_of_getElem? (i := 1148) (by decide +kernel)⟩
theorem lw_p53 : lw_okq (⟨"SameAfter$Registers", "isFree", "(II)Z"⟩, 5) := ⟨⟨by decide +kernel, by decide +kernel⟩, List.mem_of_getElem? (i := 397) (by decide +kernel), List.mem_of_getElem? (i := 1151) (by decide +kernel), List.mem_of_getElem? (i := 1152) (by decide +kernel)⟩
theorem lw_p54 : lw_okq (⟨"SameAfter$Registers", "comingsOf", "(I)I"⟩, 5) := ⟨⟨by decide +kernel, by decide +kernel⟩, List.mem_of_getElem? (i := 397) (by decide +kernel), List.mem_of_getElem? (i := 1168) (by decide +kernel), List.mem_of_getElem? (i := 1169) (by decide +kernel)⟩
theorem lw_p55 : lw_okq (⟨"SameAfterModel", "ends", "()V"⟩, 56) := ⟨⟨by decide +kernel, by decide +kernel⟩, List.mem_of_getElem? (i := 1178) (by decide +kernel), List.mem_of_getElem? (i := 1372) (by decide +kernel), List.mem_of_getElem? (i := 1373) (by decide +kernel)⟩
theorem lw_p56 : lw_okq (⟨"SameAfterModel", "begins", "(ZI)V"⟩, 56) := ⟨⟨by decide +kernel, by decide +kernel⟩, List.mem_of_getElem? (i := 1178) (by decide +kernel), List.mem_of_getElem? (i := 1376) (by decide +kernel), List.mem_of_getElem? (i := 1377) (by decide +kernel)⟩
theorem lw_p57 : lw_okq (⟨"SameAfterModel", "next0", "()V"⟩, 56) := ⟨⟨by decide +kernel, by decide +kernel⟩, List.mem_of_getElem? (i := 1178) (by decide +kernel), List.mem_of_getElem? (i := 1380) (by decide +kernel), List.mem_of_getElem? (i := 1381) (by decide +kernel)⟩
theorem lw_p58 : lw_okq (⟨"SameAfterModel", "see", "(I)I"⟩, 56) := ⟨⟨by decide +kernel, by decide +kernel⟩, List.mem_of_getElem? (i := 1178) (by decide +kernel), List.mem_of_getElem? (i := 1384) (by decide +kernel), List.mem_of_getElem? (i := 1385) (by decide +kernel)⟩
theorem lw_p59 : lw_okq (⟨"SameAfterModel", "word", "()I"⟩, 56) := ⟨⟨by decide +kernel, by decide +kernel⟩, List.mem_of_getElem? (i := 1178) (by decide +kernel), List.mem_of_getElem? (i := 1391) (by decide +kernel), List.mem_of_getElem? (i := 1392) (by decide +kernel)⟩
theorem lw_p60 : lw_okq (⟨"SameAfterModel", "is", "(Ljava/lang/String;)Z"⟩, 56) := ⟨⟨by decide +kernel, by decide +kernel⟩, List.mem_of_getElem? (i := 1178) (by decide +kernel), List.mem_of_getElem? (i := 1396) (by decide +kernel), List.mem_of_getElem? (i := 1397) (by decide +kernel)⟩
theorem lw_p61 : lw_okq (⟨"SameAfterModel", "statement", "()Z"⟩, 56) := ⟨⟨by decide +kernel, by decide +kernel⟩, List.mem_of_getElem? (i := 1178) (by decide +kernel), List.mem_of_getElem? (i := 1409) (by decide +kernel), List.mem_of_getElem? (i := 1410) (by decide +kernel)⟩
theorem lw_p62 : lw_okq (⟨"SameAfterModel", "bad", "(I)Z"⟩, 56) := ⟨⟨by decide +kernel, by decide +kernel⟩, List.mem_of_getElem? (i := 1178) (by decide +kernel), List.mem_of_getElem? (i := 1413) (by decide +kernel), List.mem_of_getElem? (i := 1414) (by decide +kernel)⟩
theorem lw_p63 : lw_okq (⟨"SameAfterModel", "write", "(I)V"⟩, 56) := ⟨⟨by decide +kernel, by decide +kernel⟩, List.mem_of_getElem? (i := 1178) (by decide +kernel), List.mem_of_getElem? (i := 1417) (by decide +kernel), List.mem_of_getElem? (i := 1418) (by decide +kernel)⟩
def lw_privs_4 : List (MethodName × Nat) := [(⟨"SameAfter$Passes", "applyRule", "(LSameAfter$Rule;)Z"⟩, 10), (⟨"SameAfter$Passes", "madeWrong", "(LSameAfter$Row;)Z"⟩, 10), (⟨"SameAfter$Registers", "count", "(I)V"⟩, 5), (⟨"SameAfter$Registers", "noteClashes", "(II)V"⟩, 5), (⟨"SameAfter$Registers", "deal", "(III)Z"⟩, 5), (⟨"SameAfter$Registers", "isFree", "(II)Z"⟩, 5), (⟨"SameAfter$Registers", "comingsOf", "(I)I"⟩, 5), (⟨"SameAfterModel", "ends", "()V"⟩, 56), (⟨"SameAfterModel", "begins", "(ZI)V"⟩, 56), (⟨"SameAfterModel", "next0", "()V"⟩, 56), (⟨"SameAfterModel", "see", "(I)I"⟩, 56), (⟨"SameAfterModel", "word", "()I"⟩, 56), (⟨"SameAfterModel", "is", "(Ljava/lang/String;)Z"⟩, 56), (⟨"SameAfterModel", "statement", "()Z"⟩, 56), (⟨"SameAfterModel", "bad", "(I)Z"⟩, 56), (⟨"SameAfterModel", "write", "(I)V"⟩, 56)]
theorem lw_r4 : ∀ q ∈ lw_privs_4, lw_okq q := List.forall_mem_cons.mpr ⟨lw_p48, List.forall_mem_cons.mpr ⟨lw_p49, List.forall_mem_cons.mpr ⟨lw_p50, List.forall_mem_cons.mpr ⟨lw_p51, List.forall_mem_cons.mpr ⟨lw_p52, List.forall_mem_cons.mpr ⟨lw_p53, List.forall_mem_cons.mpr ⟨lw_p54, List.forall_mem_cons.mpr ⟨lw_p55, List.forall_mem_cons.mpr ⟨lw_p56, List.forall_mem_cons.mpr ⟨lw_p57, List.forall_mem_cons.mpr ⟨lw_p58, List.forall_mem_cons.mpr ⟨lw_p59, List.forall_mem_cons.mpr ⟨lw_p60, List.forall_mem_cons.mpr ⟨lw_p61, List.forall_mem_cons.mpr ⟨lw_p62, List.forall_mem_cons.mpr ⟨lw_p63, fun _ h => absurd h List.not_mem_nil⟩⟩⟩⟩⟩⟩⟩⟩⟩⟩⟩⟩⟩⟩⟩⟩
theorem lw_p64 : lw_okq (⟨"SameAfterModel", "need", "(I)Z"⟩, 56) := ⟨⟨by decide +kernel, by decide +kernel⟩, List.mem_of_getElem? (i := 1178) (by decide +kernel), List.mem_of_getElem? (i := 1421) (by decide +kernel), List.mem_of_getElem? (i := 1422) (by decide +kernel)⟩
theorem lw_p65 : lw_okq (⟨"SameAfterModel", "sumUp", "()Z"⟩, 56) := ⟨⟨by decide +kernel, by decide +kernel⟩, List.mem_of_getElem? (i := 1178) (by decide +kernel), List.mem_of_getElem? (i := 1425) (by decide +kernel), List.mem_of_getElem? (i := 1426) (by decide +kernel)⟩
theorem lw_p66 : lw_okq (⟨"SameAfterModel", "product", "()Z"⟩, 56) := ⟨⟨by decide +kernel, by decide +kernel⟩, List.mem_of_getElem? (i := 1178) (by decide +kernel), List.mem_of_getElem? (i := 1429) (by decide +kernel), List.mem_of_getElem? (i := 1430) (by decide +kernel)⟩
theorem lw_p67 : lw_okq (⟨"SameAfterModel", "unit", "()Z"⟩, 56) := ⟨⟨by decide +kernel, by decide +kernel⟩, List.mem_of_getElem? (i := 1178) (by decide +kernel), List.mem_of_getElem? (i := 1433) (by decide +kernel), List.mem_of_getElem? (i := 1434) (by decide +kernel)⟩
theorem lw_p68 : lw_okq (⟨"SameAfterModel", "opens", "(I)Z"⟩, 56) := ⟨⟨by decide +kernel, by decide +kernel⟩, List.mem_of_getElem? (i := 1178) (by decide +kernel), List.mem_of_getElem? (i := 1437) (by decide +kernel), List.mem_of_getElem? (i := 1438) (by decide +kernel)⟩
theorem lw_p69 : lw_okq (⟨"SameAfterModel", "closes", "(I)Z"⟩, 56) := ⟨⟨by decide +kernel, by decide +kernel⟩, List.mem_of_getElem? (i := 1178) (by decide +kernel), List.mem_of_getElem? (i := 1441) (by decide +kernel), List.mem_of_getElem? (i := 1442) (by decide +kernel)⟩
theorem lw_p70 : lw_okq (⟨"SameAfterModel", "counts", "()Z"⟩, 56) := ⟨⟨by decide +kernel, by decide +kernel⟩, List.mem_of_getElem? (i := 1178) (by decide +kernel), List.mem_of_getElem? (i := 1445) (by decide +kernel), List.mem_of_getElem? (i := 1446) (by decide +kernel)⟩
theorem lw_p71 : lw_okq (⟨"SameAfterModel", "ahead", "(II)V"⟩, 56) := ⟨⟨by decide +kernel, by decide +kernel⟩, List.mem_of_getElem? (i := 1178) (by decide +kernel), List.mem_of_getElem? (i := 1449) (by decide +kernel), List.mem_of_getElem? (i := 1450) (by decide +kernel)⟩
theorem lw_p72 : lw_okq (⟨"SameAfterModel", "asks", "()Z"⟩, 56) := ⟨⟨by decide +kernel, by decide +kernel⟩, List.mem_of_getElem? (i := 1178) (by decide +kernel), List.mem_of_getElem? (i := 1453) (by decide +kernel), List.mem_of_getElem? (i := 1454) (by decide +kernel)⟩
theorem lw_p73 : lw_okq (⟨"SameAfterModel", "block", "()Z"⟩, 56) := ⟨⟨by decide +kernel, by decide +kernel⟩, List.mem_of_getElem? (i := 1178) (by decide +kernel), List.mem_of_getElem? (i := 1457) (by decide +kernel), List.mem_of_getElem? (i := 1458) (by decide +kernel)⟩
theorem lw_p74 : lw_okq (⟨"SameAfterModel", "otherwise", "()Z"⟩, 56) := ⟨⟨by decide +kernel, by decide +kernel⟩, List.mem_of_getElem? (i := 1178) (by decide +kernel), List.mem_of_getElem? (i := 1461) (by decide +kernel), List.mem_of_getElem? (i := 1462) (by decide +kernel)⟩
theorem lw_p75 : lw_okq (⟨"SameAfterModel", "turns", "()V"⟩, 56) := ⟨⟨by decide +kernel, by decide +kernel⟩, List.mem_of_getElem? (i := 1178) (by decide +kernel), List.mem_of_getElem? (i := 1465) (by decide +kernel), List.mem_of_getElem? (i := 1466) (by decide +kernel)⟩
theorem lw_p76 : lw_okq (⟨"SameAfterModel", "puts", "(I)V"⟩, 56) := ⟨⟨by decide +kernel, by decide +kernel⟩, List.mem_of_getElem? (i := 1178) (by decide +kernel), List.mem_of_getElem? (i := 1469) (by decide +kernel), List.mem_of_getElem? (i := 1470) (by decide +kernel)⟩
theorem lw_p77 : lw_okq (⟨"SameAfterModel", "statements", "()I"⟩, 56) := ⟨⟨by decide +kernel, by decide +kernel⟩, List.mem_of_getElem? (i := 1178) (by decide +kernel), List.mem_of_getElem? (i := 1473) (by decide +kernel), List.mem_of_getElem? (i := 1474) (by decide +kernel)⟩
theorem lw_p78 : lw_okq (⟨"SameAfterModel", "takes", "(I)V"⟩, 56) := ⟨⟨by decide +kernel, by decide +kernel⟩, List.mem_of_getElem? (i := 1178) (by decide +kernel), List.mem_of_getElem? (i := 1496) (by decide +kernel), List.mem_of_getElem? (i := 1497) (by decide +kernel)⟩
theorem lw_p79 : lw_okq (⟨"SameAfterModel", "parts", "()I"⟩, 56) := ⟨⟨by decide +kernel, by decide +kernel⟩, List.mem_of_getElem? (i := 1178) (by decide +kernel), List.mem_of_getElem? (i := 1500) (by decide +kernel), List.mem_of_getElem? (i := 1501) (by decide +kernel)⟩
def lw_privs_5 : List (MethodName × Nat) := [(⟨"SameAfterModel", "need", "(I)Z"⟩, 56), (⟨"SameAfterModel", "sumUp", "()Z"⟩, 56), (⟨"SameAfterModel", "product", "()Z"⟩, 56), (⟨"SameAfterModel", "unit", "()Z"⟩, 56), (⟨"SameAfterModel", "opens", "(I)Z"⟩, 56), (⟨"SameAfterModel", "closes", "(I)Z"⟩, 56), (⟨"SameAfterModel", "counts", "()Z"⟩, 56), (⟨"SameAfterModel", "ahead", "(II)V"⟩, 56), (⟨"SameAfterModel", "asks", "()Z"⟩, 56), (⟨"SameAfterModel", "block", "()Z"⟩, 56), (⟨"SameAfterModel", "otherwise", "()Z"⟩, 56), (⟨"SameAfterModel", "turns", "()V"⟩, 56), (⟨"SameAfterModel", "puts", "(I)V"⟩, 56), (⟨"SameAfterModel", "statements", "()I"⟩, 56), (⟨"SameAfterModel", "takes", "(I)V"⟩, 56), (⟨"SameAfterModel", "parts", "()I"⟩, 56)]
theorem lw_r5 : ∀ q ∈ lw_privs_5, lw_okq q := List.forall_mem_cons.mpr ⟨lw_p64, List.forall_mem_cons.mpr ⟨lw_p65, List.forall_mem_cons.mpr ⟨lw_p66, List.forall_mem_cons.mpr ⟨lw_p67, List.forall_mem_cons.mpr ⟨lw_p68, List.forall_mem_cons.mpr ⟨lw_p69, List.forall_mem_cons.mpr ⟨lw_p70, List.forall_mem_cons.mpr ⟨lw_p71, List.forall_mem_cons.mpr ⟨lw_p72, List.forall_mem_cons.mpr ⟨lw_p73, List.forall_mem_cons.mpr ⟨lw_p74, List.forall_mem_cons.mpr ⟨lw_p75, List.forall_mem_cons.mpr ⟨lw_p76, List.forall_mem_cons.mpr ⟨lw_p77, List.forall_mem_cons.mpr ⟨lw_p78, List.forall_mem_cons.mpr ⟨lw_p79, fun _ h => absurd h List.not_mem_nil⟩⟩⟩⟩⟩⟩⟩⟩⟩⟩⟩⟩⟩⟩⟩⟩
theorem lw_p80 : lw_okq (⟨"SameAfterModel", "isPart", "(I)Z"⟩, 56) := ⟨⟨by decide +kernel, by decide +kernel⟩, List.mem_of_getElem? (i := 1178) (by decide +kernel), List.mem_of_getElem? (i := 1504) (by decide +kernel), List.mem_of_getElem? (i := 1505) (by decide +kernel)⟩
theorem lw_p81 : lw_okq (⟨"SameAfterModel", "liveFrom", "(II)I"⟩, 56) := ⟨⟨by decide +kernel, by decide +kernel⟩, List.mem_of_getElem? (i := 1178) (by decide +kernel), List.mem_of_getElem? (i := 1508) (by decide +kernel), List.mem_of_getElem? (i := 1509) (by decide +kernel)⟩
theorem lw_p82 : lw_okq (⟨"SameAfterModel", "isLast", "(I)Z"⟩, 56) := ⟨⟨by decide +kernel, by decide +kernel⟩, List.mem_of_getElem? (i := 1178) (by decide +kernel), List.mem_of_getElem? (i := 1512) (by decide +kernel), List.mem_of_getElem? (i := 1513) (by decide +kernel)⟩
theorem lw_p83 : lw_okq (⟨"SameAfterModel", "behind", "(I)I"⟩, 56) := ⟨⟨by decide +kernel, by decide +kernel⟩, List.mem_of_getElem? (i := 1178) (by decide +kernel), List.mem_of_getElem? (i := 1516) (by decide +kernel), List.mem_of_getElem? (i := 1517) (by decide +kernel)⟩
theorem lw_p84 : lw_okq (⟨"SameAfterModel", "endOf", "(I)I"⟩, 56) := ⟨⟨by decide +kernel, by decide +kernel⟩, List.mem_of_getElem? (i := 1178) (by decide +kernel), List.mem_of_getElem? (i := 1520) (by decide +kernel), List.mem_of_getElem? (i := 1521) (by decide +kernel)⟩
theorem lw_p85 : lw_okq (⟨"SameAfterModel", "body", "(I)I"⟩, 56) := ⟨⟨by decide +kernel, by decide +kernel⟩, List.mem_of_getElem? (i := 1178) (by decide +kernel), List.mem_of_getElem? (i := 1524) (by decide +kernel), List.mem_of_getElem? (i := 1525) (by decide +kernel)⟩
theorem lw_p86 : lw_okq (⟨"SameAfterModel", "liveAt", "(II)I"⟩, 56) := ⟨⟨by decide +kernel, by decide +kernel⟩, List.mem_of_getElem? (i := 1178) (by decide +kernel), List.mem_of_getElem? (i := 1528) (by decide +kernel), List.mem_of_getElem? (i := 1529) (by decide +kernel)⟩
theorem lw_p87 : lw_okq (⟨"SameAfterModel", "reads", "(II)I"⟩, 56) := ⟨⟨by decide +kernel, by decide +kernel⟩, List.mem_of_getElem? (i := 1178) (by decide +kernel), List.mem_of_getElem? (i := 1532) (by decide +kernel), List.mem_of_getElem? (i := 1533) (by decide +kernel)⟩
theorem lw_p88 : lw_okq (⟨"SameAfterModel", "close", "(I)I"⟩, 56) := ⟨⟨by decide +kernel, by decide +kernel⟩, List.mem_of_getElem? (i := 1178) (by decide +kernel), List.mem_of_getElem? (i := 1536) (by decide +kernel), List.mem_of_getElem? (i := 1537) (by decide +kernel)⟩
theorem lw_p89 : lw_okq (⟨"SameAfterModel", "runs", "(II)V"⟩, 56) := ⟨⟨by decide +kernel, by decide +kernel⟩, List.mem_of_getElem? (i := 1178) (by decide +kernel), List.mem_of_getElem? (i := 1544) (by decide +kernel), List.mem_of_getElem? (i := 1545) (by decide +kernel)⟩
theorem lw_p90 : lw_okq (⟨"SameAfterModel", "does", "(I)Z"⟩, 56) := ⟨⟨by decide +kernel, by decide +kernel⟩, List.mem_of_getElem? (i := 1178) (by decide +kernel), List.mem_of_getElem? (i := 1548) (by decide +kernel), List.mem_of_getElem? (i := 1549) (by decide +kernel)⟩
theorem lw_p91 : lw_okq (⟨"SameAfterModel", "doesOne", "(I)Z"⟩, 56) := ⟨⟨by decide +kernel, by decide +kernel⟩, List.mem_of_getElem? (i := 1178) (by decide +kernel), List.mem_of_getElem? (i := 1552) (by decide +kernel), List.mem_of_getElem? (i := 1553) (by decide +kernel)⟩
theorem lw_p92 : lw_okq (⟨"SameAfterModel", "step", "()Z"⟩, 56) := ⟨⟨by decide +kernel, by decide +kernel⟩, List.mem_of_getElem? (i := 1178) (by decide +kernel), List.mem_of_getElem? (i := 1556) (by decide +kernel), List.mem_of_getElem? (i := 1557) (by decide +kernel)⟩
theorem lw_p93 : lw_okq (⟨"SameAfterModel", "isSo", "(I)Z"⟩, 56) := ⟨⟨by decide +kernel, by decide +kernel⟩, List.mem_of_getElem? (i := 1178) (by decide +kernel), List.mem_of_getElem? (i := 1560) (by decide +kernel), List.mem_of_getElem? (i := 1561) (by decide +kernel)⟩
theorem lw_p94 : lw_okq (⟨"SameAfterModel", "worth", "()I"⟩, 56) := ⟨⟨by decide +kernel, by decide +kernel⟩, List.mem_of_getElem? (i := 1178) (by decide +kernel), List.mem_of_getElem? (i := 1564) (by decide +kernel), List.mem_of_getElem? (i := 1565) (by decide +kernel)⟩
theorem lw_p95 : lw_okq (⟨"SameAfterModel", "keeps", "()V"⟩, 56) := ⟨⟨by decide +kernel, by decide +kernel⟩, List.mem_of_getElem? (i := 1178) (by decide +kernel), List.mem_of_getElem? (i := 1575) (by decide +kernel), List.mem_of_getElem? (i := 1576) (by decide +kernel)⟩
def lw_privs_6 : List (MethodName × Nat) := [(⟨"SameAfterModel", "isPart", "(I)Z"⟩, 56), (⟨"SameAfterModel", "liveFrom", "(II)I"⟩, 56), (⟨"SameAfterModel", "isLast", "(I)Z"⟩, 56), (⟨"SameAfterModel", "behind", "(I)I"⟩, 56), (⟨"SameAfterModel", "endOf", "(I)I"⟩, 56), (⟨"SameAfterModel", "body", "(I)I"⟩, 56), (⟨"SameAfterModel", "liveAt", "(II)I"⟩, 56), (⟨"SameAfterModel", "reads", "(II)I"⟩, 56), (⟨"SameAfterModel", "close", "(I)I"⟩, 56), (⟨"SameAfterModel", "runs", "(II)V"⟩, 56), (⟨"SameAfterModel", "does", "(I)Z"⟩, 56), (⟨"SameAfterModel", "doesOne", "(I)Z"⟩, 56), (⟨"SameAfterModel", "step", "()Z"⟩, 56), (⟨"SameAfterModel", "isSo", "(I)Z"⟩, 56), (⟨"SameAfterModel", "worth", "()I"⟩, 56), (⟨"SameAfterModel", "keeps", "()V"⟩, 56)]
theorem lw_r6 : ∀ q ∈ lw_privs_6, lw_okq q := List.forall_mem_cons.mpr ⟨lw_p80, List.forall_mem_cons.mpr ⟨lw_p81, List.forall_mem_cons.mpr ⟨lw_p82, List.forall_mem_cons.mpr ⟨lw_p83, List.forall_mem_cons.mpr ⟨lw_p84, List.forall_mem_cons.mpr ⟨lw_p85, List.forall_mem_cons.mpr ⟨lw_p86, List.forall_mem_cons.mpr ⟨lw_p87, List.forall_mem_cons.mpr ⟨lw_p88, List.forall_mem_cons.mpr ⟨lw_p89, List.forall_mem_cons.mpr ⟨lw_p90, List.forall_mem_cons.mpr ⟨lw_p91, List.forall_mem_cons.mpr ⟨lw_p92, List.forall_mem_cons.mpr ⟨lw_p93, List.forall_mem_cons.mpr ⟨lw_p94, List.forall_mem_cons.mpr ⟨lw_p95, fun _ h => absurd h List.not_mem_nil⟩⟩⟩⟩⟩⟩⟩⟩⟩⟩⟩⟩⟩⟩⟩⟩
theorem lw_p96 : lw_okq (⟨"SameAfterModel", "compares", "()V"⟩, 56) := ⟨⟨by decide +kernel, by decide +kernel⟩, List.mem_of_getElem? (i := 1178) (by decide +kernel), List.mem_of_getElem? (i := 1579) (by decide +kernel), List.mem_of_getElem? (i := 1580) (by decide +kernel)⟩
theorem lw_p97 : lw_okq (⟨"SameAfterModel", "sameForms", "(I)I"⟩, 56) := ⟨⟨by decide +kernel, by decide +kernel⟩, List.mem_of_getElem? (i := 1178) (by decide +kernel), List.mem_of_getElem? (i := 1587) (by decide +kernel), List.mem_of_getElem? (i := 1588) (by decide +kernel)⟩
theorem lw_p98 : lw_okq (⟨"SameAfterModel", "forms", "(II)V"⟩, 56) := ⟨⟨by decide +kernel, by decide +kernel⟩, List.mem_of_getElem? (i := 1178) (by decide +kernel), List.mem_of_getElem? (i := 1591) (by decide +kernel), List.mem_of_getElem? (i := 1592) (by decide +kernel)⟩
theorem lw_p99 : lw_okq (⟨"SameAfterModel", "products", "(I)V"⟩, 56) := ⟨⟨by decide +kernel, by decide +kernel⟩, List.mem_of_getElem? (i := 1178) (by decide +kernel), List.mem_of_getElem? (i := 1595) (by decide +kernel), List.mem_of_getElem? (i := 1596) (by decide +kernel)⟩
theorem lw_p100 : lw_okq (⟨"SameAfterModel", "isAlike", "(I)Z"⟩, 56) := ⟨⟨by decide +kernel, by decide +kernel⟩, List.mem_of_getElem? (i := 1178) (by decide +kernel), List.mem_of_getElem? (i := 1599) (by decide +kernel), List.mem_of_getElem? (i := 1600) (by decide +kernel)⟩
theorem lw_p101 : lw_okq (⟨"SameAfterModel", "ruleWorth", "(I)I"⟩, 56) := ⟨⟨by decide +kernel, by decide +kernel⟩, List.mem_of_getElem? (i := 1178) (by decide +kernel), List.mem_of_getElem? (i := 1603) (by decide +kernel), List.mem_of_getElem? (i := 1604) (by decide +kernel)⟩
theorem lw_p102 : lw_okq (⟨"SameAfterModel", "matches", "(II)Z"⟩, 56) := ⟨⟨by decide +kernel, by decide +kernel⟩, List.mem_of_getElem? (i := 1178) (by decide +kernel), List.mem_of_getElem? (i := 1611) (by decide +kernel), List.mem_of_getElem? (i := 1612) (by decide +kernel)⟩
theorem lw_p103 : lw_okq (⟨"SameAfterModel", "fits", "(II)Z"⟩, 56) := ⟨⟨by decide +kernel, by decide +kernel⟩, List.mem_of_getElem? (i := 1178) (by decide +kernel), List.mem_of_getElem? (i := 1615) (by decide +kernel), List.mem_of_getElem? (i := 1616) (by decide +kernel)⟩
theorem lw_p104 : lw_okq (⟨"SameAfterModel", "sameParts", "(II)Z"⟩, 56) := ⟨⟨by decide +kernel, by decide +kernel⟩, List.mem_of_getElem? (i := 1178) (by decide +kernel), List.mem_of_getElem? (i := 1619) (by decide +kernel), List.mem_of_getElem? (i := 1620) (by decide +kernel)⟩
theorem lw_p105 : lw_okq (⟨"SameAfterModel", "match", "(II)I"⟩, 56) := ⟨⟨by decide +kernel, by decide +kernel⟩, List.mem_of_getElem? (i := 1178) (by decide +kernel), List.mem_of_getElem? (i := 1627) (by decide +kernel), List.mem_of_getElem? (i := 1628) (by decide +kernel)⟩
theorem lw_p106 : lw_okq (⟨"SameAfterModel", "applies", "(II)Z"⟩, 56) := ⟨⟨by decide +kernel, by decide +kernel⟩, List.mem_of_getElem? (i := 1178) (by decide +kernel), List.mem_of_getElem? (i := 1631) (by decide +kernel), List.mem_of_getElem? (i := 1632) (by decide +kernel)⟩
theorem lw_p107 : lw_okq (⟨"SameAfterModel", "writes", "(II)V"⟩, 56) := ⟨⟨by decide +kernel, by decide +kernel⟩, List.mem_of_getElem? (i := 1178) (by decide +kernel), List.mem_of_getElem? (i := 1635) (by decide +kernel), List.mem_of_getElem? (i := 1636) (by decide +kernel)⟩
theorem lw_p108 : lw_okq (⟨"SameAfterModel", "makes", "(I)Z"⟩, 56) := ⟨⟨by decide +kernel, by decide +kernel⟩, List.mem_of_getElem? (i := 1178) (by decide +kernel), List.mem_of_getElem? (i := 1654) (by decide +kernel), List.mem_of_getElem? (i := 1655) (by decide +kernel)⟩
theorem lw_p109 : lw_okq (⟨"SameAfterModel", "again", "(I)Z"⟩, 56) := ⟨⟨by decide +kernel, by decide +kernel⟩, List.mem_of_getElem? (i := 1178) (by decide +kernel), List.mem_of_getElem? (i := 1658) (by decide +kernel), List.mem_of_getElem? (i := 1659) (by decide +kernel)⟩
theorem lw_p110 : lw_okq (⟨"SameAfterModel", "foldAll", "(I)V"⟩, 56) := ⟨⟨by decide +kernel, by decide +kernel⟩, List.mem_of_getElem? (i := 1178) (by decide +kernel), List.mem_of_getElem? (i := 1662) (by decide +kernel), List.mem_of_getElem? (i := 1663) (by decide +kernel)⟩
theorem lw_p111 : lw_okq (⟨"SameAfterModel", "foldOne", "(I)V"⟩, 56) := ⟨⟨by decide +kernel, by decide +kernel⟩, List.mem_of_getElem? (i := 1178) (by decide +kernel), List.mem_of_getElem? (i := 1666) (by decide +kernel), List.mem_of_getElem? (i := 1667) (by decide +kernel)⟩
def lw_privs_7 : List (MethodName × Nat) := [(⟨"SameAfterModel", "compares", "()V"⟩, 56), (⟨"SameAfterModel", "sameForms", "(I)I"⟩, 56), (⟨"SameAfterModel", "forms", "(II)V"⟩, 56), (⟨"SameAfterModel", "products", "(I)V"⟩, 56), (⟨"SameAfterModel", "isAlike", "(I)Z"⟩, 56), (⟨"SameAfterModel", "ruleWorth", "(I)I"⟩, 56), (⟨"SameAfterModel", "matches", "(II)Z"⟩, 56), (⟨"SameAfterModel", "fits", "(II)Z"⟩, 56), (⟨"SameAfterModel", "sameParts", "(II)Z"⟩, 56), (⟨"SameAfterModel", "match", "(II)I"⟩, 56), (⟨"SameAfterModel", "applies", "(II)Z"⟩, 56), (⟨"SameAfterModel", "writes", "(II)V"⟩, 56), (⟨"SameAfterModel", "makes", "(I)Z"⟩, 56), (⟨"SameAfterModel", "again", "(I)Z"⟩, 56), (⟨"SameAfterModel", "foldAll", "(I)V"⟩, 56), (⟨"SameAfterModel", "foldOne", "(I)V"⟩, 56)]
theorem lw_r7 : ∀ q ∈ lw_privs_7, lw_okq q := List.forall_mem_cons.mpr ⟨lw_p96, List.forall_mem_cons.mpr ⟨lw_p97, List.forall_mem_cons.mpr ⟨lw_p98, List.forall_mem_cons.mpr ⟨lw_p99, List.forall_mem_cons.mpr ⟨lw_p100, List.forall_mem_cons.mpr ⟨lw_p101, List.forall_mem_cons.mpr ⟨lw_p102, List.forall_mem_cons.mpr ⟨lw_p103, List.forall_mem_cons.mpr ⟨lw_p104, List.forall_mem_cons.mpr ⟨lw_p105, List.forall_mem_cons.mpr ⟨lw_p106, List.forall_mem_cons.mpr ⟨lw_p107, List.forall_mem_cons.mpr ⟨lw_p108, List.forall_mem_cons.mpr ⟨lw_p109, List.forall_mem_cons.mpr ⟨lw_p110, List.forall_mem_cons.mpr ⟨lw_p111, fun _ h => absurd h List.not_mem_nil⟩⟩⟩⟩⟩⟩⟩⟩⟩⟩⟩⟩⟩⟩⟩⟩
theorem lw_p112 : lw_okq (⟨"SameAfterModel", "folds", "(I)Z"⟩, 56) := ⟨⟨by decide +kernel, by decide +kernel⟩, List.mem_of_getElem? (i := 1178) (by decide +kernel), List.mem_of_getElem? (i := 1670) (by decide +kernel), List.mem_of_getElem? (i := 1671) (by decide +kernel)⟩
theorem lw_p113 : lw_okq (⟨"SameAfterModel", "dead", "(Z)V"⟩, 56) := ⟨⟨by decide +kernel, by decide +kernel⟩, List.mem_of_getElem? (i := 1178) (by decide +kernel), List.mem_of_getElem? (i := 1674) (by decide +kernel), List.mem_of_getElem? (i := 1675) (by decide +kernel)⟩
theorem lw_p114 : lw_okq (⟨"SameAfterModel", "clears", "()V"⟩, 56) := ⟨⟨by decide +kernel, by decide +kernel⟩, List.mem_of_getElem? (i := 1178) (by decide +kernel), List.mem_of_getElem? (i := 1678) (by decide +kernel), List.mem_of_getElem? (i := 1679) (by decide +kernel)⟩
theorem lw_p115 : lw_okq (⟨"SameAfterModel", "marksHasty", "()V"⟩, 56) := ⟨⟨by decide +kernel, by decide +kernel⟩, List.mem_of_getElem? (i := 1178) (by decide +kernel), List.mem_of_getElem? (i := 1682) (by decide +kernel), List.mem_of_getElem? (i := 1683) (by decide +kernel)⟩
theorem lw_p116 : lw_okq (⟨"SameAfterModel", "drops", "(I)V"⟩, 56) := ⟨⟨by decide +kernel, by decide +kernel⟩, List.mem_of_getElem? (i := 1178) (by decide +kernel), List.mem_of_getElem? (i := 1686) (by decide +kernel), List.mem_of_getElem? (i := 1687) (by decide +kernel)⟩
theorem lw_p117 : lw_okq (⟨"SameAfterModel", "marks", "(II)V"⟩, 56) := ⟨⟨by decide +kernel, by decide +kernel⟩, List.mem_of_getElem? (i := 1178) (by decide +kernel), List.mem_of_getElem? (i := 1690) (by decide +kernel), List.mem_of_getElem? (i := 1691) (by decide +kernel)⟩
theorem lw_p118 : lw_okq (⟨"SameAfterModel", "copies", "(I)V"⟩, 56) := ⟨⟨by decide +kernel, by decide +kernel⟩, List.mem_of_getElem? (i := 1178) (by decide +kernel), List.mem_of_getElem? (i := 1694) (by decide +kernel), List.mem_of_getElem? (i := 1695) (by decide +kernel)⟩
theorem lw_p119 : lw_okq (⟨"SameAfterModel", "hastyCopy", "()V"⟩, 56) := ⟨⟨by decide +kernel, by decide +kernel⟩, List.mem_of_getElem? (i := 1178) (by decide +kernel), List.mem_of_getElem? (i := 1698) (by decide +kernel), List.mem_of_getElem? (i := 1699) (by decide +kernel)⟩
theorem lw_p120 : lw_okq (⟨"SameAfterModel", "copyFrom", "(III)V"⟩, 56) := ⟨⟨by decide +kernel, by decide +kernel⟩, List.mem_of_getElem? (i := 1178) (by decide +kernel), List.mem_of_getElem? (i := 1702) (by decide +kernel), List.mem_of_getElem? (i := 1703) (by decide +kernel)⟩
theorem lw_p121 : lw_okq (⟨"SameAfterModel", "sets", "(III)Z"⟩, 56) := ⟨⟨by decide +kernel, by decide +kernel⟩, List.mem_of_getElem? (i := 1178) (by decide +kernel), List.mem_of_getElem? (i := 1706) (by decide +kernel), List.mem_of_getElem? (i := 1707) (by decide +kernel)⟩
theorem lw_p122 : lw_okq (⟨"SameAfterModel", "replaces", "(IIII)V"⟩, 56) := ⟨⟨by decide +kernel, by decide +kernel⟩, List.mem_of_getElem? (i := 1178) (by decide +kernel), List.mem_of_getElem? (i := 1710) (by decide +kernel), List.mem_of_getElem? (i := 1711) (by decide +kernel)⟩
theorem lw_p123 : lw_okq (⟨"SameAfterModel", "unrolls", "(I)V"⟩, 56) := ⟨⟨by decide +kernel, by decide +kernel⟩, List.mem_of_getElem? (i := 1178) (by decide +kernel), List.mem_of_getElem? (i := 1714) (by decide +kernel), List.mem_of_getElem? (i := 1715) (by decide +kernel)⟩
theorem lw_p124 : lw_okq (⟨"SameAfterModel", "isSmall", "()Z"⟩, 56) := ⟨⟨by decide +kernel, by decide +kernel⟩, List.mem_of_getElem? (i := 1178) (by decide +kernel), List.mem_of_getElem? (i := 1718) (by decide +kernel), List.mem_of_getElem? (i := 1719) (by decide +kernel)⟩
theorem lw_p125 : lw_okq (⟨"SameAfterModel", "keepsWhole", "()V"⟩, 56) := ⟨⟨by decide +kernel, by decide +kernel⟩, List.mem_of_getElem? (i := 1178) (by decide +kernel), List.mem_of_getElem? (i := 1730) (by decide +kernel), List.mem_of_getElem? (i := 1731) (by decide +kernel)⟩
theorem lw_p126 : lw_okq (⟨"SameAfterModel", "isWrong", "(I)Z"⟩, 56) := ⟨⟨by decide +kernel, by decide +kernel⟩, List.mem_of_getElem? (i := 1178) (by decide +kernel), List.mem_of_getElem? (i := 1734) (by decide +kernel), List.mem_of_getElem? (i := 1735) (by decide +kernel)⟩
theorem lw_p127 : lw_okq (⟨"SameAfterModel", "cutsOne", "(I)Z"⟩, 56) := ⟨⟨by decide +kernel, by decide +kernel⟩, List.mem_of_getElem? (i := 1178) (by decide +kernel), List.mem_of_getElem? (i := 1738) (by decide +kernel), List.mem_of_getElem? (i := 1739) (by decide +kernel)⟩
def lw_privs_8 : List (MethodName × Nat) := [(⟨"SameAfterModel", "folds", "(I)Z"⟩, 56), (⟨"SameAfterModel", "dead", "(Z)V"⟩, 56), (⟨"SameAfterModel", "clears", "()V"⟩, 56), (⟨"SameAfterModel", "marksHasty", "()V"⟩, 56), (⟨"SameAfterModel", "drops", "(I)V"⟩, 56), (⟨"SameAfterModel", "marks", "(II)V"⟩, 56), (⟨"SameAfterModel", "copies", "(I)V"⟩, 56), (⟨"SameAfterModel", "hastyCopy", "()V"⟩, 56), (⟨"SameAfterModel", "copyFrom", "(III)V"⟩, 56), (⟨"SameAfterModel", "sets", "(III)Z"⟩, 56), (⟨"SameAfterModel", "replaces", "(IIII)V"⟩, 56), (⟨"SameAfterModel", "unrolls", "(I)V"⟩, 56), (⟨"SameAfterModel", "isSmall", "()Z"⟩, 56), (⟨"SameAfterModel", "keepsWhole", "()V"⟩, 56), (⟨"SameAfterModel", "isWrong", "(I)Z"⟩, 56), (⟨"SameAfterModel", "cutsOne", "(I)Z"⟩, 56)]
theorem lw_r8 : ∀ q ∈ lw_privs_8, lw_okq q := List.forall_mem_cons.mpr ⟨lw_p112, List.forall_mem_cons.mpr ⟨lw_p113, List.forall_mem_cons.mpr ⟨lw_p114, List.forall_mem_cons.mpr ⟨lw_p115, List.forall_mem_cons.mpr ⟨lw_p116, List.forall_mem_cons.mpr ⟨lw_p117, List.forall_mem_cons.mpr ⟨lw_p118, List.forall_mem_cons.mpr ⟨lw_p119, List.forall_mem_cons.mpr ⟨lw_p120, List.forall_mem_cons.mpr ⟨lw_p121, List.forall_mem_cons.mpr ⟨lw_p122, List.forall_mem_cons.mpr ⟨lw_p123, List.forall_mem_cons.mpr ⟨lw_p124, List.forall_mem_cons.mpr ⟨lw_p125, List.forall_mem_cons.mpr ⟨lw_p126, List.forall_mem_cons.mpr ⟨lw_p127, fun _ h => absurd h List.not_mem_nil⟩⟩⟩⟩⟩⟩⟩⟩⟩⟩⟩⟩⟩⟩⟩⟩
theorem lw_p128 : lw_okq (⟨"SameAfterModel", "takesWhole", "()V"⟩, 56) := ⟨⟨by decide +kernel, by decide +kernel⟩, List.mem_of_getElem? (i := 1178) (by decide +kernel), List.mem_of_getElem? (i := 1742) (by decide +kernel), List.mem_of_getElem? (i := 1743) (by decide +kernel)⟩
theorem lw_p129 : lw_okq (⟨"SameAfterModel", "clashIn", "(I)V"⟩, 56) := ⟨⟨by decide +kernel, by decide +kernel⟩, List.mem_of_getElem? (i := 1178) (by decide +kernel), List.mem_of_getElem? (i := 1750) (by decide +kernel), List.mem_of_getElem? (i := 1751) (by decide +kernel)⟩
theorem lw_p130 : lw_okq (⟨"SameAfterModel", "clashFrom", "(II)V"⟩, 56) := ⟨⟨by decide +kernel, by decide +kernel⟩, List.mem_of_getElem? (i := 1178) (by decide +kernel), List.mem_of_getElem? (i := 1754) (by decide +kernel), List.mem_of_getElem? (i := 1755) (by decide +kernel)⟩
theorem lw_p131 : lw_okq (⟨"SameAfterModel", "clashAll", "(I)V"⟩, 56) := ⟨⟨by decide +kernel, by decide +kernel⟩, List.mem_of_getElem? (i := 1178) (by decide +kernel), List.mem_of_getElem? (i := 1758) (by decide +kernel), List.mem_of_getElem? (i := 1759) (by decide +kernel)⟩
theorem lw_p132 : lw_okq (⟨"SameAfterModel", "clashSet", "(II)V"⟩, 56) := ⟨⟨by decide +kernel, by decide +kernel⟩, List.mem_of_getElem? (i := 1178) (by decide +kernel), List.mem_of_getElem? (i := 1762) (by decide +kernel), List.mem_of_getElem? (i := 1763) (by decide +kernel)⟩
theorem lw_p133 : lw_okq (⟨"SameAfterModel", "inRow", "()I"⟩, 56) := ⟨⟨by decide +kernel, by decide +kernel⟩, List.mem_of_getElem? (i := 1178) (by decide +kernel), List.mem_of_getElem? (i := 1766) (by decide +kernel), List.mem_of_getElem? (i := 1767) (by decide +kernel)⟩
theorem lw_p134 : lw_okq (⟨"SameAfterModel", "spills", "(II)I"⟩, 56) := ⟨⟨by decide +kernel, by decide +kernel⟩, List.mem_of_getElem? (i := 1178) (by decide +kernel), List.mem_of_getElem? (i := 1770) (by decide +kernel), List.mem_of_getElem? (i := 1771) (by decide +kernel)⟩
theorem lw_p135 : lw_okq (⟨"SameAfterModel", "timesOf", "(I)I"⟩, 56) := ⟨⟨by decide +kernel, by decide +kernel⟩, List.mem_of_getElem? (i := 1178) (by decide +kernel), List.mem_of_getElem? (i := 1774) (by decide +kernel), List.mem_of_getElem? (i := 1775) (by decide +kernel)⟩
theorem lw_p136 : lw_okq (⟨"SameAfterModel", "deals", "(II)Z"⟩, 56) := ⟨⟨by decide +kernel, by decide +kernel⟩, List.mem_of_getElem? (i := 1178) (by decide +kernel), List.mem_of_getElem? (i := 1778) (by decide +kernel), List.mem_of_getElem? (i := 1779) (by decide +kernel)⟩
theorem lw_p137 : lw_okq (⟨"SameAfterModel", "enough", "(I)I"⟩, 56) := ⟨⟨by decide +kernel, by decide +kernel⟩, List.mem_of_getElem? (i := 1178) (by decide +kernel), List.mem_of_getElem? (i := 1782) (by decide +kernel), List.mem_of_getElem? (i := 1783) (by decide +kernel)⟩
def lw_privs_9 : List (MethodName × Nat) := [(⟨"SameAfterModel", "takesWhole", "()V"⟩, 56), (⟨"SameAfterModel", "clashIn", "(I)V"⟩, 56), (⟨"SameAfterModel", "clashFrom", "(II)V"⟩, 56), (⟨"SameAfterModel", "clashAll", "(I)V"⟩, 56), (⟨"SameAfterModel", "clashSet", "(II)V"⟩, 56), (⟨"SameAfterModel", "inRow", "()I"⟩, 56), (⟨"SameAfterModel", "spills", "(II)I"⟩, 56), (⟨"SameAfterModel", "timesOf", "(I)I"⟩, 56), (⟨"SameAfterModel", "deals", "(II)Z"⟩, 56), (⟨"SameAfterModel", "enough", "(I)I"⟩, 56)]
theorem lw_r9 : ∀ q ∈ lw_privs_9, lw_okq q := List.forall_mem_cons.mpr ⟨lw_p128, List.forall_mem_cons.mpr ⟨lw_p129, List.forall_mem_cons.mpr ⟨lw_p130, List.forall_mem_cons.mpr ⟨lw_p131, List.forall_mem_cons.mpr ⟨lw_p132, List.forall_mem_cons.mpr ⟨lw_p133, List.forall_mem_cons.mpr ⟨lw_p134, List.forall_mem_cons.mpr ⟨lw_p135, List.forall_mem_cons.mpr ⟨lw_p136, List.forall_mem_cons.mpr ⟨lw_p137, fun _ h => absurd h List.not_mem_nil⟩⟩⟩⟩⟩⟩⟩⟩⟩⟩
def lw_privs : List (MethodName × Nat) := lw_privs_1 ++ (lw_privs_2 ++ (lw_privs_3 ++ (lw_privs_4 ++ (lw_privs_5 ++ (lw_privs_6 ++ (lw_privs_7 ++ (lw_privs_8 ++ (lw_privs_9))))))))
def lw_tbl : List Cond := k2_sels lw_privs ++ tables_1
theorem lw_privs_ok : ∀ q ∈ lw_privs, lw_okq q := by
  show ∀ q ∈ lw_privs_1 ++ (lw_privs_2 ++ (lw_privs_3 ++ (lw_privs_4 ++ (lw_privs_5 ++ (lw_privs_6 ++ (lw_privs_7 ++ (lw_privs_8 ++ (lw_privs_9)))))))), lw_okq q
  exact List.forall_mem_append.mpr ⟨lw_r1, List.forall_mem_append.mpr ⟨lw_r2, List.forall_mem_append.mpr ⟨lw_r3, List.forall_mem_append.mpr ⟨lw_r4, List.forall_mem_append.mpr ⟨lw_r5, List.forall_mem_append.mpr ⟨lw_r6, List.forall_mem_append.mpr ⟨lw_r7, List.forall_mem_append.mpr ⟨lw_r8, lw_r9⟩⟩⟩⟩⟩⟩⟩⟩
end
section
/-! ===== BEGIN words of one list among another's, by their places ===== -/
theorem goodIn_r {big : List Cond} (ws : List Cond) (ps : List Nat) (hp : ws = ps.filterMap (fun i => big[i]?)) (h : ws.all goodWord = true) : GoodIn big ws := by
  intro w hw
  have h1 := List.all_eq_true.mp h w hw
  rw [hp] at hw
  obtain ⟨i, -, hi⟩ := List.mem_filterMap.mp hw
  have hm : w ∈ big := by first | exact List.mem_of_getElem? hi | exact List.getElem?_mem hi
  exact ⟨hm, good_of_word h1⟩
theorem goodIn_app {big a b : List Cond} (ha : GoodIn big a) (hb : GoodIn big b) : GoodIn big (a ++ b) := fun w h => (List.mem_append.mp h).elim (ha w) (hb w)
theorem goodIn_ca {big a b : List Cond} {c : Cond} (ha : GoodIn big (c :: a)) (hb : GoodIn big b) : GoodIn big (c :: (a ++ b)) := fun w h => (List.mem_cons.mp h).elim (fun e => ha w (List.mem_cons.mpr (Or.inl e))) (fun h => (List.mem_append.mp h).elim (fun h => ha w (List.mem_cons.mpr (Or.inr h))) (hb w))
theorem goodIn_sub {big ws : List Cond} (hm : ∀ w ∈ ws, w ∈ big) (h : ws.all goodWord = true) : GoodIn big ws := fun w hw => ⟨hm w hw, good_of_word (List.all_eq_true.mp h w hw)⟩
/-! ===== END ===== -/

/-! ===== BEGIN new T[n][m]: the outer array a place, the inner ones among the pooled ===== -/
/-- f, but v at every address of l -/
def vr_up {α : Type} (f : Nat → α) (l : List Nat) (v : α) : Nat → α := fun a => if a ∈ l then v else f a
theorem vr_up_in {α : Type} {f : Nat → α} {l : List Nat} {v : α} {a : Nat} (h : a ∈ l) : vr_up f l v a = v := if_pos h
theorem vr_up_ne {α : Type} {f : Nat → α} {l : List Nat} {v : α} {a : Nat} (h : a ∉ l) : vr_up f l v a = f a := if_neg h
theorem vr_rows {L l : List Nat} {f : Nat → va_E} {e : va_E} (h : ∀ a, a ∈ l → a ∉ L) : va_pl L f ++ l.map (fun a => (a, e)) = va_pl (L ++ l) (vr_up f l e) := by
  unfold va_pl
  rw [List.map_append]
  congr 1
  · apply List.map_congr_left
    intro a ha
    rw [vr_up_ne (fun q => h a q ha)]
  · apply List.map_congr_left
    intro a ha
    rw [vr_up_in ha]
theorem vr_lay {X rows : va_W} {x : Nat × va_E} {pl : va_W} {D : va_G} {cl : List vw_C} {H : Heap} (hP : va_P D cl (((X ++ pl) ++ [x]) ++ rows) H) : va_P D cl ((X ++ [x]) ++ (pl ++ rows)) H := by
  rw [List.append_assoc (X ++ pl)] at hP
  have h := va_P.swap hP
  rw [← List.append_assoc X] at h
  have h2 := va_P.swap h
  rw [List.append_assoc (X ++ [x])] at h2
  exact h2
theorem vr_layD {X rows : va_W} {x : Nat × va_E} {pl : va_W} {A : Nat → Prop} (hD : va_D A (((X ++ pl) ++ [x]) ++ rows)) : va_D A ((X ++ [x]) ++ (pl ++ rows)) := by
  rw [List.append_assoc (X ++ pl)] at hD
  have h := va_D.swap hD
  rw [← List.append_assoc X] at h
  have h2 := va_D.swap h
  rw [List.append_assoc (X ++ [x])] at h2
  exact h2
theorem vr_outer (c : ClassId) (N h0 : Nat) : ∀ i : Nat, Jvm.Free.Multi.outerC c N h0 i = arrV c N (fun j => va_rf (if j < i then some (h0 + 1 + j) else none))
  | 0 => by
    show ({ cls := c, slots := Array.replicate N .null, vm := .none } : Cell) = _
    rw [arrV_new]
    refine congrArg (arrV c N) (funext fun j => ?_)
    simp [va_rf]
  | i + 1 => by
    show (Jvm.Free.Multi.outerC c N h0 i).setSlot i (.ref (h0 + 1 + i)) = _
    rw [vr_outer c N h0 i, arrV_store]
    refine congrArg (arrV c N) (funext fun j => ?_)
    by_cases e : j = i
    · subst e
      simp [updV, va_rf]
    · by_cases h : j < i
      · simp [updV, e, h, Nat.lt_succ_of_lt h]
      · simp [updV, e, h, show ¬ j < i + 1 by omega]
/-- an array class over arrays of ty (the kit's va_AO, for arrays of arrays) -/
def va_AOA (ty : FieldType) (U : State) : Prop := (Cond.arrayOver (.array ty)).before #[] U = true
theorem va_AOA.of {ty : FieldType} {A : Array Value} {U : State} (h : (Cond.arrayOver (.array ty)).before A U = true) : va_AOA ty U := h
theorem va_AOA.use {ty : FieldType} {A : Array Value} {U : State} (h : va_AOA ty U) : (Cond.arrayOver (.array ty)).before A U = true := h
section VGM
variable {p : Program} {l : Launch} {e : Env} {R : Room} {s : State} {m : MethodId} {args : Array Value} {below : List Frame} {meth : Method} {c : Code} {H : Heap} {locs : List Loc} {cells slots : Nat} {Q : State → Prop}
variable {cc : ByteArray} {pc : Nat} {ls : Array Slot} {rest : List Value} {D : va_G} {cl : List vw_C} {A : Nat → Prop} {a : Nat} {tys : List (ClassId × FieldType)} {ws : va_W} {H0 : Heap}
theorem va_mna {X : va_W} {L : List Nat} {f : Nat → va_E} {cc : ByteArray} (hexec : p.tables.exec = Jvm.exec) (hb : c.code = cc) {own : String} {index : Nat} {ty : FieldType} {cy : ClassId} (hown : s.vm.findClass own = some m.cls) (hclink : (Cond.classLink own index ("[" ++ (FieldType.array ty).toString)).before args s = true) (hover : va_AOA ty s) (harr : (Cond.arrayClass ty).before args s = true) (hcy : s.vm.findClass (FieldType.array ty).toString = some cy)
    (hK : va_K D cl tys s) (hP : va_P D cl (X ++ va_pl L f) H) (hD : va_D A (X ++ va_pl L f)) (hS : va_S A H0 H locs) (hA : ∀ q, H0.size ≤ q → A q) {n k : Int32} {N' K' : Nat} {z : vp_A} (hn : ¬ n < 0) (hk : ¬ k < 0) (hN : n.toNatClampNeg = N') (hM : k.toNatClampNeg = K')
    (hb1 : N' * 4 ≤ 536870912) (hb2 : K' * componentBytes ty ≤ 536870912) (hb3 : K' ≤ 536870912) (hdf : fits ty (defaultValue ty) = true) (hdd : (defaultValue ty).isDefault = true) (hcells : cells + (1 + N') ≤ R.cells) (hslots : slots + (N' + N' * K') ≤ R.slots) (hz : ∀ c : ClassId, Jvm.Free.Multi.innerC c K' (defaultValue ty) = vp_cell c z) (hdg : decode cc pc = .ok (.multianewarray index 2, 4))
    (kk : ∀ (q : Nat) (r : Nat → Nat) (cA : ClassId) (H1 : Heap), (∀ i j : Nat, i < N' → j < N' → r i = r j → i = j) → (∀ i : Nat, i < N' → r i ∉ L) → va_K D cl (tys ++ [(cA, .array ty)]) s →
      va_P D cl ((X ++ [(q, .inl (cA, N', .inr (.inr (.inr (.inr (fun i => if i < N' then some (r i) else none))))))]) ++ va_pl (L ++ (List.range N').map r) (vr_up f ((List.range N').map r) (.inl (cy, z)))) H1 → va_D A ((X ++ [(q, .inl (cA, N', .inr (.inr (.inr (.inr (fun i => if i < N' then some (r i) else none))))))]) ++ va_pl (L ++ (List.range N').map r) (vr_up f ((List.range N').map r) (.inl (cy, z)))) → va_S A H0 H1 locs →
      W p l e R s m args below meth c H1 locs (cells + 1 + N') (slots + N' + N' * K') Q (F0 m (pc + 4) ls (.ref q :: rest))) : W p l e R s m args below meth c H locs cells slots Q (F0 m pc ls (.int k :: .int n :: rest)) := by
  subst hN
  subst hM
  intro T hT Xs
  obtain ⟨vm₁, cA, comp, -, fA, fC, hO, -, X', step⟩ := Xs.multianewarray2F hexec hown hclink (va_AOA.use hover) harr (g := F0 m pc ls (.int k :: .int n :: rest)) rfl (by rw [hb]; exact hdg) rfl hn hk hb1 hb2 hb3 hdf hdd hcells hslots
  have ec : some cy = some comp := hcy.symm.trans fC
  cases ec
  generalize hF : Jvm.Free.Multi.fill (T.setVm vm₁) cA cy n.toNatClampNeg k.toNatClampNeg (defaultValue ty) n.toNatClampNeg = F at X' step
  have hTh : (T.setVm vm₁).heap = H := hT
  obtain ⟨f1, f2, -, -⟩ := Jvm.Free.Multi.fill_facts (T.setVm vm₁) cA cy n.toNatClampNeg k.toNatClampNeg (defaultValue ty) n.toNatClampNeg
  rw [hF, hTh] at f1 f2
  have hold : ∀ x : Nat, x < H.size → F.heap[x]? = H[x]? := fun x hx => by
    have := Jvm.Free.Multi.fill_old (T.setVm vm₁) cA cy n.toNatClampNeg k.toNatClampNeg (defaultValue ty) (a := x) (by rw [hTh]; exact hx) n.toNatClampNeg
    rw [hF, hTh] at this
    exact this
  have hrow : ∀ j : Nat, j < n.toNatClampNeg → F.heap[H.size + 1 + j]? = some (vp_cell cy z) := fun j hj => by
    have := Jvm.Free.Multi.fill_inner (T.setVm vm₁) cA cy n.toNatClampNeg k.toNatClampNeg (defaultValue ty) n.toNatClampNeg j hj
    rw [hF, hTh, hz] at this
    exact this
  have hout : Jvm.Free.Multi.outerC cA n.toNatClampNeg H.size n.toNatClampNeg = vp_cell cA (n.toNatClampNeg, .inr (.inr (.inr (.inr (fun i => if i < n.toNatClampNeg then some (H.size + 1 + i) else none))))) := by
    rw [vp_cell_q]
    exact vr_outer cA n.toNatClampNeg H.size n.toNatClampNeg
  rw [hout] at f2
  have hlt : ∀ a, a ∈ L → a < H.size := fun a ha => by
    obtain ⟨k9, hk9⟩ := va_pl_get (X := X) (f := f) ha
    exact (hP k9 _ hk9).lt
  have hnl : ∀ i : Nat, i < n.toNatClampNeg → H.size + 1 + i ∉ L := fun i _ h => by
    have := hlt _ h
    omega
  have hnm : ∀ a, a ∈ (List.range n.toNatClampNeg).map (fun i => H.size + 1 + i) → a ∉ L := fun a ha h => by
    obtain ⟨i, -, rfl⟩ := List.mem_map.mp ha
    have := hlt _ h
    omega
  have hP0 : va_P D cl (X ++ va_pl L f) F.heap := hP.kept (fun k9 x hx => hold x.1 ((hP k9 x hx).lt))
  have hP1 : va_P D cl ((X ++ va_pl L f) ++ [(H.size, .inl (cA, n.toNatClampNeg, .inr (.inr (.inr (.inr (fun i => if i < n.toNatClampNeg then some (H.size + 1 + i) else none))))))]) F.heap := hP0.app (fun k9 x hx => by
    have h0 : k9 < 1 := (List.getElem?_eq_some_iff.mp hx).1
    rw [show k9 = 0 by omega] at hx
    cases hx
    exact f2)
  have hP2 : va_P D cl (((X ++ va_pl L f) ++ [(H.size, .inl (cA, n.toNatClampNeg, .inr (.inr (.inr (.inr (fun i => if i < n.toNatClampNeg then some (H.size + 1 + i) else none))))))]) ++ ((List.range n.toNatClampNeg).map (fun i => H.size + 1 + i)).map (fun a => (a, .inl (cy, z)))) F.heap := hP1.app (fun k9 x hx => by
    obtain ⟨a, ha, rfl⟩ := List.mem_map.mp (List.mem_of_getElem? hx)
    obtain ⟨i, hi, rfl⟩ := List.mem_map.mp ha
    exact hrow i (List.mem_range.mp hi))
  have hD2 : va_D A (((X ++ va_pl L f) ++ [(H.size, .inl (cA, n.toNatClampNeg, .inr (.inr (.inr (.inr (fun i => if i < n.toNatClampNeg then some (H.size + 1 + i) else none))))))]) ++ ((List.range n.toNatClampNeg).map (fun i => H.size + 1 + i)).map (fun a => (a, .inl (cy, z)))) := by
    have hD1 := hD.push (e := .inl (cA, n.toNatClampNeg, .inr (.inr (.inr (.inr (fun i => if i < n.toNatClampNeg then some (H.size + 1 + i) else none)))))) hP rfl (hA _ hS.1)
    generalize hW1 : (X ++ va_pl L f) ++ [(H.size, .inl (cA, n.toNatClampNeg, .inr (.inr (.inr (.inr (fun i => if i < n.toNatClampNeg then some (H.size + 1 + i) else none))))))] = W1 at hD1 hP1 ⊢
    have hle : ∀ (k9 : Nat) (x : Nat × va_E), W1[k9]? = some x → x.1 ≤ H.size := fun k9 x hx => by
      rw [← hW1] at hx
      by_cases hl : k9 < (X ++ va_pl L f).length
      · rw [List.getElem?_append_left hl] at hx
        exact Nat.le_of_lt ((hP k9 x hx).lt)
      · rw [List.getElem?_append_right (by omega)] at hx
        have h0 : k9 - (X ++ va_pl L f).length < 1 := (List.getElem?_eq_some_iff.mp hx).1
        rw [show k9 - (X ++ va_pl L f).length = 0 by omega] at hx
        cases hx
        exact Nat.le_refl _
    have hr : ∀ (k9 : Nat) (x : Nat × va_E), (((List.range n.toNatClampNeg).map (fun i => H.size + 1 + i)).map (fun a => ((a, .inl (cy, z)) : Nat × va_E)))[k9]? = some x → x.1 = H.size + 1 + k9 := fun k9 x hx => by
      rw [List.getElem?_map, List.getElem?_map] at hx
      by_cases h9 : k9 < n.toNatClampNeg
      · rw [List.getElem?_range h9] at hx
        cases hx
        rfl
      · have hn0 : (List.range n.toNatClampNeg)[k9]? = none := List.getElem?_eq_none (by rw [List.length_range]; omega)
        rw [hn0] at hx
        cases hx
    refine ⟨fun i j x y hi hj hxy => ?_, fun k9 x hx => ?_⟩
    · by_cases h1 : i < W1.length <;> by_cases h2 : j < W1.length
      · rw [List.getElem?_append_left h1] at hi
        rw [List.getElem?_append_left h2] at hj
        exact hD1.1 i j x y hi hj hxy
      · rw [List.getElem?_append_left h1] at hi
        rw [List.getElem?_append_right (by omega)] at hj
        have := hle _ _ hi
        have := hr _ _ hj
        omega
      · rw [List.getElem?_append_right (by omega)] at hi
        rw [List.getElem?_append_left h2] at hj
        have := hle _ _ hj
        have := hr _ _ hi
        omega
      · rw [List.getElem?_append_right (by omega)] at hi hj
        have := hr _ _ hi
        have := hr _ _ hj
        omega
    · by_cases h1 : k9 < W1.length
      · rw [List.getElem?_append_left h1] at hx
        exact hD1.2 k9 x hx
      · rw [List.getElem?_append_right (by omega)] at hx
        have := hr _ _ hx
        exact hA _ (by have := hS.1; omega)
  have hAr : ArrOfT s cA (.array ty) := fun N9 z9 => by
    obtain ⟨-, k9, hk9, cm9, hkk9⟩ := (hO 0 0 0).1
    exact ⟨(fun q hq => by cases hq), k9, hk9, cm9, hkk9⟩
  have hK2 : va_K D cl (tys ++ [(cA, .array ty)]) s := ⟨hK.1, fun k9 x hx => by
    by_cases hl : k9 < tys.length
    · rw [List.getElem?_append_left hl] at hx
      exact hK.2 k9 x hx
    · rw [List.getElem?_append_right (by omega)] at hx
      have h0 : k9 - tys.length < 1 := (List.getElem?_eq_some_iff.mp hx).1
      rw [show k9 - tys.length = 0 by omega] at hx
      cases hx
      exact ⟨hAr, fA⟩⟩
  obtain ⟨t, a1, b1⟩ := kk H.size (fun i => H.size + 1 + i) cA F.heap (fun i j _ _ h => by have h9 : H.size + 1 + i = H.size + 1 + j := h; omega) hnl hK2 (by rw [← vr_rows hnm]; exact vr_lay hP2) (by rw [← vr_rows hnm]; exact vr_layD hD2) ⟨by rw [f1]; have := hS.1; omega, fun x h1 h2 => (hold x (Nat.lt_of_lt_of_le h1 hS.1)).trans (hS.2.1 x h1 h2), hS.2.2⟩ F rfl X'
  refine ⟨t, step t ?_, b1⟩
  have e : T.heap.size = H.size := by rw [hT]
  rw [e]
  exact a1
end VGM
/-! ===== END ===== -/

/-! ===== BEGIN printed: names, fields, word lists, decode rows ===== -/
def RX0 : String := "SameAfter$Acts"
def TX0 : u_T := fun k => match k with
  | 0 => ("SameAfter$Acts", "spare", "LSameAfter$Row;", true)
  | _ => ("SameAfter$Acts", "flow", "LSameAfter$Flow;", true)
def tyX0 : Nat → FieldType := fun k => match k with
  | 0 => .object "SameAfter$Row"
  | _ => .object "SameAfter$Flow"
abbrev wsX00 : List Cond := u_ws RX0 TX0 2
theorem nmX0 : ∀ a, a < 2 → ∀ b, b < 2 → a ≠ b → (TX0 a).2.1 ≠ (TX0 b).2.1 := by decide +kernel
theorem tyX0_ok : ∀ k, k < 2 → parseFieldDescriptor (TX0 k).2.2.1 = some (tyX0 k) := by decide +kernel
abbrev cX0_init : ByteArray := prog_2_method_1_code
def yX0_init : MethodName := ⟨RX0, "<init>", "()V"⟩
abbrev cX0_fold : ByteArray := prog_2_method_2_code
def yX0_fold : MethodName := ⟨RX0, "fold", "(LSameAfter$Row;)V"⟩
abbrev cX0_foldOperations : ByteArray := prog_2_method_3_code
def yX0_foldOperations : MethodName := ⟨RX0, "foldOperations", "(LSameAfter$Row;)V"⟩
abbrev cX0_foldBranch : ByteArray := prog_2_method_4_code
def yX0_foldBranch : MethodName := ⟨RX0, "foldBranch", "(LSameAfter$Row;IZ)V"⟩
abbrev cX0_dead : ByteArray := prog_2_method_5_code
def yX0_dead : MethodName := ⟨RX0, "dead", "(LSameAfter$Row;)V"⟩
abbrev cX0_hastyDead : ByteArray := prog_2_method_6_code
def yX0_hastyDead : MethodName := ⟨RX0, "hastyDead", "(LSameAfter$Row;)V"⟩
abbrev cX0_hastyCopy : ByteArray := prog_2_method_7_code
def yX0_hastyCopy : MethodName := ⟨RX0, "hastyCopy", "(LSameAfter$Row;)V"⟩
abbrev cX0_copyBehind : ByteArray := prog_2_method_8_code
def yX0_copyBehind : MethodName := ⟨RX0, "copyBehind", "(LSameAfter$Row;III)V"⟩
abbrev cX0_unroll : ByteArray := prog_2_method_9_code
def yX0_unroll : MethodName := ⟨RX0, "unroll", "(LSameAfter$Row;)V"⟩
def RX1 : String := "SameAfter$Flow"
def TX1 : u_T := fun k => match k with
  | 0 => ("SameAfter$Flow", "row", "LSameAfter$Row;", false)
  | 1 => ("SameAfter$Flow", "count", "I", false)
  | 2 => ("SameAfter$Flow", "place", "[I", true)
  | 3 => ("SameAfter$Flow", "kinds", "[I", true)
  | 4 => ("SameAfter$Flow", "from", "[I", true)
  | 5 => ("SameAfter$Flow", "to", "[I", true)
  | 6 => ("SameAfter$Flow", "yes", "[I", true)
  | 7 => ("SameAfter$Flow", "no", "[I", true)
  | 8 => ("SameAfter$Flow", "reads", "[I", true)
  | 9 => ("SameAfter$Flow", "sets", "[I", true)
  | 10 => ("SameAfter$Flow", "ahead", "[I", true)
  | 11 => ("SameAfter$Flow", "behindAll", "[I", true)
  | 12 => ("SameAfter$Flow", "open", "[I", true)
  | _ => ("SameAfter$Flow", "owner", "[I", true)
def tyX1 : Nat → FieldType := fun k => match k with
  | 0 => .object "SameAfter$Row"
  | 1 => .int
  | 2 => .array .int
  | 3 => .array .int
  | 4 => .array .int
  | 5 => .array .int
  | 6 => .array .int
  | 7 => .array .int
  | 8 => .array .int
  | 9 => .array .int
  | 10 => .array .int
  | 11 => .array .int
  | 12 => .array .int
  | _ => .array .int
abbrev wsX10 : List Cond := u_ws RX1 TX1 14
theorem nmX1 : ∀ a, a < 14 → ∀ b, b < 14 → a ≠ b → (TX1 a).2.1 ≠ (TX1 b).2.1 := by decide +kernel
theorem tyX1_ok : ∀ k, k < 14 → parseFieldDescriptor (TX1 k).2.2.1 = some (tyX1 k) := by decide +kernel
abbrev cX1_init : ByteArray := prog_3_method_1_code
def yX1_init : MethodName := ⟨RX1, "<init>", "()V"⟩
abbrev cX1_trace : ByteArray := prog_3_method_2_code
def yX1_trace : MethodName := ⟨RX1, "trace", "(LSameAfter$Row;)V"⟩
abbrev cX1_setBy : ByteArray := prog_3_method_3_code
def yX1_setBy : MethodName := ⟨RX1, "setBy", "(I)I"⟩
abbrev cX1_aheadOf : ByteArray := prog_3_method_4_code
def yX1_aheadOf : MethodName := ⟨RX1, "aheadOf", "(I)I"⟩
abbrev cX1_behind : ByteArray := prog_3_method_5_code
def yX1_behind : MethodName := ⟨RX1, "behind", "(I)I"⟩
abbrev cX1_isHere : ByteArray := prog_3_method_6_code
def yX1_isHere : MethodName := ⟨RX1, "isHere", "(I)Z"⟩
abbrev cX1_number : ByteArray := prog_3_method_7_code
def yX1_number : MethodName := ⟨RX1, "number", "()V"⟩
abbrev cX1_begin : ByteArray := prog_3_method_8_code
def yX1_begin : MethodName := ⟨RX1, "begin", "(II)V"⟩
abbrev cX1_link : ByteArray := prog_3_method_9_code
def yX1_link : MethodName := ⟨RX1, "link", "()V"⟩
abbrev cX1_linkAt : ByteArray := prog_3_method_10_code
def yX1_linkAt : MethodName := ⟨RX1, "linkAt", "(III)I"⟩
abbrev cX1_settle : ByteArray := prog_3_method_11_code
def yX1_settle : MethodName := ⟨RX1, "settle", "()V"⟩
def RX2 : String := "SameAfter$Judge"
def TX2 : u_T := fun k => match k with
  | 0 => ("SameAfter$Judge", "first", "I", false)
  | 1 => ("SameAfter$Judge", "firstPlace", "I", false)
  | 2 => ("SameAfter$Judge", "parted", "I", false)
  | 3 => ("SameAfter$Judge", "tired", "Z", false)
  | 4 => ("SameAfter$Judge", "one", "LSameAfter$Machine;", true)
  | _ => ("SameAfter$Judge", "other", "LSameAfter$Machine;", true)
def tyX2 : Nat → FieldType := fun k => match k with
  | 0 => .int
  | 1 => .int
  | 2 => .int
  | 3 => .boolean
  | 4 => .object "SameAfter$Machine"
  | _ => .object "SameAfter$Machine"
abbrev wsX20 : List Cond := u_ws RX2 TX2 6
theorem nmX2 : ∀ a, a < 6 → ∀ b, b < 6 → a ≠ b → (TX2 a).2.1 ≠ (TX2 b).2.1 := by decide +kernel
theorem tyX2_ok : ∀ k, k < 6 → parseFieldDescriptor (TX2 k).2.2.1 = some (tyX2 k) := by decide +kernel
abbrev cX2_init : ByteArray := prog_4_method_1_code
def yX2_init : MethodName := ⟨RX2, "<init>", "()V"⟩
abbrev cX2_verdict : ByteArray := prog_4_method_2_code
def yX2_verdict : MethodName := ⟨RX2, "verdict", "()I"⟩
abbrev cX2_compare : ByteArray := prog_4_method_3_code
def yX2_compare : MethodName := ⟨RX2, "compare", "(LSameAfter$Row;LSameAfter$Row;Z)Z"⟩
abbrev cX2_note : ByteArray := prog_4_method_4_code
def yX2_note : MethodName := ⟨RX2, "note", "(II)V"⟩
abbrev cX2_placeThatDiffers : ByteArray := prog_4_method_5_code
def yX2_placeThatDiffers : MethodName := ⟨RX2, "placeThatDiffers", "()I"⟩
def RX3 : String := "SameAfter$Machine"
def TX3 : u_T := fun k => match k with
  | 0 => ("SameAfter$Machine", "flow", "LSameAfter$Flow;", true)
  | 1 => ("SameAfter$Machine", "outputs", "[I", true)
  | 2 => ("SameAfter$Machine", "outputCount", "I", false)
  | 3 => ("SameAfter$Machine", "steps", "I", false)
  | 4 => ("SameAfter$Machine", "ending", "I", false)
  | 5 => ("SameAfter$Machine", "words", "[I", true)
  | _ => ("SameAfter$Machine", "stack", "[I", true)
def tyX3 : Nat → FieldType := fun k => match k with
  | 0 => .object "SameAfter$Flow"
  | 1 => .array .int
  | 2 => .int
  | 3 => .int
  | 4 => .int
  | 5 => .array .int
  | _ => .array .int
abbrev wsX30 : List Cond := u_ws RX3 TX3 7
theorem nmX3 : ∀ a, a < 7 → ∀ b, b < 7 → a ≠ b → (TX3 a).2.1 ≠ (TX3 b).2.1 := by decide +kernel
theorem tyX3_ok : ∀ k, k < 7 → parseFieldDescriptor (TX3 k).2.2.1 = some (tyX3 k) := by decide +kernel
abbrev cX3_init : ByteArray := prog_5_method_1_code
def yX3_init : MethodName := ⟨RX3, "<init>", "()V"⟩
abbrev cX3_go : ByteArray := prog_5_method_2_code
def yX3_go : MethodName := ⟨RX3, "go", "(II)V"⟩
abbrev cX3_isTired : ByteArray := prog_5_method_3_code
def yX3_isTired : MethodName := ⟨RX3, "isTired", "()Z"⟩
abbrev cX3_tell : ByteArray := prog_5_method_4_code
def yX3_tell : MethodName := ⟨RX3, "tell", "(I)I"⟩
abbrev cX3_output : ByteArray := prog_5_method_5_code
def yX3_output : MethodName := ⟨RX3, "output", "(I)I"⟩
abbrev cX3_doStatement : ByteArray := prog_5_method_6_code
def yX3_doStatement : MethodName := ⟨RX3, "doStatement", "(I)I"⟩
def RX4 : String := "SameAfter$Passes"
def TX4 : u_T := fun k => match k with
  | 0 => ("SameAfter$Passes", "judgement", "LSameAfter$Judge;", true)
  | 1 => ("SameAfter$Passes", "made", "LSameAfter$Row;", true)
  | 2 => ("SameAfter$Passes", "kept", "LSameAfter$Row;", true)
  | 3 => ("SameAfter$Passes", "bad", "I", false)
  | 4 => ("SameAfter$Passes", "badInputs", "I", false)
  | 5 => ("SameAfter$Passes", "rules", "[LSameAfter$Rule;", true)
  | 6 => ("SameAfter$Passes", "items", "[[I", true)
  | 7 => ("SameAfter$Passes", "counts", "[I", true)
  | 8 => ("SameAfter$Passes", "acts", "LSameAfter$Acts;", true)
  | _ => ("SameAfter$Passes", "trial", "LSameAfter$Row;", true)
def tyX4 : Nat → FieldType := fun k => match k with
  | 0 => .object "SameAfter$Judge"
  | 1 => .object "SameAfter$Row"
  | 2 => .object "SameAfter$Row"
  | 3 => .int
  | 4 => .int
  | 5 => .array (.object "SameAfter$Rule")
  | 6 => .array (.array .int)
  | 7 => .array .int
  | 8 => .object "SameAfter$Acts"
  | _ => .object "SameAfter$Row"
abbrev wsX40 : List Cond := u_ws RX4 TX4 10
theorem nmX4 : ∀ a, a < 10 → ∀ b, b < 10 → a ≠ b → (TX4 a).2.1 ≠ (TX4 b).2.1 := by decide +kernel
theorem tyX4_ok : ∀ k, k < 10 → parseFieldDescriptor (TX4 k).2.2.1 = some (tyX4 k) := by decide +kernel
abbrev cX4_init : ByteArray := prog_6_method_1_code
def yX4_init : MethodName := ⟨RX4, "<init>", "()V"⟩
abbrev cX4_ruleAt : ByteArray := prog_6_method_2_code
def yX4_ruleAt : MethodName := ⟨RX4, "ruleAt", "(I)LSameAfter$Rule;"⟩
abbrev cX4_isPass : ByteArray := prog_6_method_3_code
def yX4_isPass : MethodName := ⟨RX4, "isPass", "(I)Z"⟩
abbrev cX4_addItem : ByteArray := prog_6_method_4_code
def yX4_addItem : MethodName := ⟨RX4, "addItem", "(II)I"⟩
abbrev cX4_dropItems : ByteArray := prog_6_method_5_code
def yX4_dropItems : MethodName := ⟨RX4, "dropItems", "(I)Z"⟩
abbrev cX4_makeOf : ByteArray := prog_6_method_6_code
def yX4_makeOf : MethodName := ⟨RX4, "makeOf", "(ILSameAfter$Row;)Z"⟩
abbrev cX4_applyRule : ByteArray := prog_6_method_7_code
def yX4_applyRule : MethodName := ⟨RX4, "applyRule", "(LSameAfter$Rule;)Z"⟩
abbrev cX4_findBad : ByteArray := prog_6_method_8_code
def yX4_findBad : MethodName := ⟨RX4, "findBad", "(LSameAfter$Row;)V"⟩
abbrev cX4_madeWrong : ByteArray := prog_6_method_9_code
def yX4_madeWrong : MethodName := ⟨RX4, "madeWrong", "(LSameAfter$Row;)Z"⟩
abbrev cX4_cutDown : ByteArray := prog_6_method_10_code
def yX4_cutDown : MethodName := ⟨RX4, "cutDown", "(ILSameAfter$Row;)Z"⟩
def RX5 : String := "SameAfter$Proof"
def TX5 : u_T := fun k => match k with
  | 0 => ("SameAfter$Proof", "first", "I", false)
  | 1 => ("SameAfter$Proof", "wrongs", "I", false)
  | 2 => ("SameAfter$Proof", "words", "[I", true)
  | 3 => ("SameAfter$Proof", "stack", "[I", true)
  | 4 => ("SameAfter$Proof", "forms", "[[I", true)
  | 5 => ("SameAfter$Proof", "leftForm", "[I", true)
  | _ => ("SameAfter$Proof", "product", "[I", true)
def tyX5 : Nat → FieldType := fun k => match k with
  | 0 => .int
  | 1 => .int
  | 2 => .array .int
  | 3 => .array .int
  | 4 => .array (.array .int)
  | 5 => .array .int
  | _ => .array .int
abbrev wsX50 : List Cond := u_ws RX5 TX5 7
theorem nmX5 : ∀ a, a < 7 → ∀ b, b < 7 → a ≠ b → (TX5 a).2.1 ≠ (TX5 b).2.1 := by decide +kernel
theorem tyX5_ok : ∀ k, k < 7 → parseFieldDescriptor (TX5 k).2.2.1 = some (tyX5 k) := by decide +kernel
abbrev cX5_init : ByteArray := prog_7_method_1_code
def yX5_init : MethodName := ⟨RX5, "<init>", "()V"⟩
abbrev cX5_tryAll : ByteArray := prog_7_method_2_code
def yX5_tryAll : MethodName := ⟨RX5, "tryAll", "(LSameAfter$Rule;)V"⟩
abbrev cX5_tryOne : ByteArray := prog_7_method_3_code
def yX5_tryOne : MethodName := ⟨RX5, "tryOne", "(LSameAfter$Rule;III)V"⟩
abbrev cX5_valueOf : ByteArray := prog_7_method_4_code
def yX5_valueOf : MethodName := ⟨RX5, "valueOf", "(LSameAfter$Row;)I"⟩
abbrev cX5_compareForms : ByteArray := prog_7_method_5_code
def yX5_compareForms : MethodName := ⟨RX5, "compareForms", "(LSameAfter$Rule;)I"⟩
abbrev cX5_hasForm : ByteArray := prog_7_method_6_code
def yX5_hasForm : MethodName := ⟨RX5, "hasForm", "(LSameAfter$Row;)Z"⟩
abbrev cX5_mostTimes : ByteArray := prog_7_method_7_code
def yX5_mostTimes : MethodName := ⟨RX5, "mostTimes", "(LSameAfter$Row;I)I"⟩
abbrev cX5_multiplyOut : ByteArray := prog_7_method_8_code
def yX5_multiplyOut : MethodName := ⟨RX5, "multiplyOut", "(LSameAfter$Row;)V"⟩
abbrev cX5_beginForm : ByteArray := prog_7_method_9_code
def yX5_beginForm : MethodName := ⟨RX5, "beginForm", "([II)V"⟩
abbrev cX5_addUp : ByteArray := prog_7_method_10_code
def yX5_addUp : MethodName := ⟨RX5, "addUp", "([I[II)V"⟩
abbrev cX5_multiply : ByteArray := prog_7_method_11_code
def yX5_multiply : MethodName := ⟨RX5, "multiply", "([I[I)V"⟩
abbrev cX5_addMultiple : ByteArray := prog_7_method_12_code
def yX5_addMultiple : MethodName := ⟨RX5, "addMultiple", "(II[I)V"⟩
def RX6 : String := "SameAfter$Reader"
def TX6 : u_T := fun k => match k with
  | 0 => ("SameAfter$Reader", "tape", "LSameAfter$Tape;", true)
  | 1 => ("SameAfter$Reader", "fault", "I", false)
  | 2 => ("SameAfter$Reader", "faultPlace", "I", false)
  | 3 => ("SameAfter$Reader", "row", "LSameAfter$Row;", false)
  | 4 => ("SameAfter$Reader", "rule", "LSameAfter$Rule;", false)
  | 5 => ("SameAfter$Reader", "state", "I", false)
  | 6 => ("SameAfter$Reader", "purpose", "I", false)
  | 7 => ("SameAfter$Reader", "statements", "I", false)
  | 8 => ("SameAfter$Reader", "things", "I", false)
  | 9 => ("SameAfter$Reader", "mostThings", "I", false)
  | 10 => ("SameAfter$Reader", "sumStart", "I", false)
  | 11 => ("SameAfter$Reader", "productStart", "I", false)
  | 12 => ("SameAfter$Reader", "testPlace", "I", false)
  | 13 => ("SameAfter$Reader", "opened", "I", false)
  | 14 => ("SameAfter$Reader", "openKinds", "[I", true)
  | 15 => ("SameAfter$Reader", "openSums", "[I", true)
  | _ => ("SameAfter$Reader", "openProducts", "[I", true)
def tyX6 : Nat → FieldType := fun k => match k with
  | 0 => .object "SameAfter$Tape"
  | 1 => .int
  | 2 => .int
  | 3 => .object "SameAfter$Row"
  | 4 => .object "SameAfter$Rule"
  | 5 => .int
  | 6 => .int
  | 7 => .int
  | 8 => .int
  | 9 => .int
  | 10 => .int
  | 11 => .int
  | 12 => .int
  | 13 => .int
  | 14 => .array .int
  | 15 => .array .int
  | _ => .array .int
abbrev wsX60 : List Cond := u_ws RX6 TX6 17
theorem nmX6 : ∀ a, a < 17 → ∀ b, b < 17 → a ≠ b → (TX6 a).2.1 ≠ (TX6 b).2.1 := by decide +kernel
theorem tyX6_ok : ∀ k, k < 17 → parseFieldDescriptor (TX6 k).2.2.1 = some (tyX6 k) := by decide +kernel
abbrev cX6_init : ByteArray := prog_8_method_1_code
def yX6_init : MethodName := ⟨RX6, "<init>", "()V"⟩
abbrev cX6_drop : ByteArray := prog_8_method_2_code
def yX6_drop : MethodName := ⟨RX6, "drop", "()V"⟩
abbrev cX6_beginProgram : ByteArray := prog_8_method_3_code
def yX6_beginProgram : MethodName := ⟨RX6, "beginProgram", "(LSameAfter$Row;)V"⟩
abbrev cX6_beginRule : ByteArray := prog_8_method_4_code
def yX6_beginRule : MethodName := ⟨RX6, "beginRule", "(LSameAfter$Rule;)V"⟩
abbrev cX6_begin : ByteArray := prog_8_method_5_code
def yX6_begin : MethodName := ⟨RX6, "begin", "(LSameAfter$Row;LSameAfter$Rule;I)V"⟩
abbrev cX6_readAll : ByteArray := prog_8_method_6_code
def yX6_readAll : MethodName := ⟨RX6, "readAll", "()Z"⟩
abbrev cX6_refuse : ByteArray := prog_8_method_7_code
def yX6_refuse : MethodName := ⟨RX6, "refuse", "(I)V"⟩
abbrev cX6_takeBehindThen : ByteArray := prog_8_method_8_code
def yX6_takeBehindThen : MethodName := ⟨RX6, "takeBehindThen", "()V"⟩
abbrev cX6_takeElseBrace : ByteArray := prog_8_method_9_code
def yX6_takeElseBrace : MethodName := ⟨RX6, "takeElseBrace", "()V"⟩
abbrev cX6_takeSetSign : ByteArray := prog_8_method_10_code
def yX6_takeSetSign : MethodName := ⟨RX6, "takeSetSign", "()V"⟩
abbrev cX6_takeSemicolon : ByteArray := prog_8_method_11_code
def yX6_takeSemicolon : MethodName := ⟨RX6, "takeSemicolon", "()V"⟩
abbrev cX6_takeStatement : ByteArray := prog_8_method_12_code
def yX6_takeStatement : MethodName := ⟨RX6, "takeStatement", "()V"⟩
abbrev cX6_beginStatement : ByteArray := prog_8_method_13_code
def yX6_beginStatement : MethodName := ⟨RX6, "beginStatement", "(I)V"⟩
abbrev cX6_beginExpression : ByteArray := prog_8_method_14_code
def yX6_beginExpression : MethodName := ⟨RX6, "beginExpression", "(I)V"⟩
abbrev cX6_takeOperand : ByteArray := prog_8_method_15_code
def yX6_takeOperand : MethodName := ⟨RX6, "takeOperand", "()V"⟩
abbrev cX6_takeNumber : ByteArray := prog_8_method_16_code
def yX6_takeNumber : MethodName := ⟨RX6, "takeNumber", "()V"⟩
abbrev cX6_takeLetter : ByteArray := prog_8_method_17_code
def yX6_takeLetter : MethodName := ⟨RX6, "takeLetter", "()V"⟩
abbrev cX6_countThing : ByteArray := prog_8_method_18_code
def yX6_countThing : MethodName := ⟨RX6, "countThing", "()Z"⟩
abbrev cX6_takeBehindOperand : ByteArray := prog_8_method_19_code
def yX6_takeBehindOperand : MethodName := ⟨RX6, "takeBehindOperand", "()V"⟩
abbrev cX6_takeOperation : ByteArray := prog_8_method_20_code
def yX6_takeOperation : MethodName := ⟨RX6, "takeOperation", "(I)V"⟩
abbrev cX6_endExpression : ByteArray := prog_8_method_21_code
def yX6_endExpression : MethodName := ⟨RX6, "endExpression", "(I)V"⟩
abbrev cX6_openBlock : ByteArray := prog_8_method_22_code
def yX6_openBlock : MethodName := ⟨RX6, "openBlock", "(I)V"⟩
abbrev cX6_open : ByteArray := prog_8_method_23_code
def yX6_open : MethodName := ⟨RX6, "open", "(I)Z"⟩
abbrev cX6_closeBlock : ByteArray := prog_8_method_24_code
def yX6_closeBlock : MethodName := ⟨RX6, "closeBlock", "()V"⟩
def RX7 : String := "SameAfter$Registers"
def TX7 : u_T := fun k => match k with
  | 0 => ("SameAfter$Registers", "flow", "LSameAfter$Flow;", true)
  | 1 => ("SameAfter$Registers", "clashes", "[I", true)
  | 2 => ("SameAfter$Registers", "comings", "[I", true)
  | 3 => ("SameAfter$Registers", "given", "[I", true)
  | _ => ("SameAfter$Registers", "present", "I", false)
def tyX7 : Nat → FieldType := fun k => match k with
  | 0 => .object "SameAfter$Flow"
  | 1 => .array .int
  | 2 => .array .int
  | 3 => .array .int
  | _ => .int
abbrev wsX70 : List Cond := u_ws RX7 TX7 5
theorem nmX7 : ∀ a, a < 5 → ∀ b, b < 5 → a ≠ b → (TX7 a).2.1 ≠ (TX7 b).2.1 := by decide +kernel
theorem tyX7_ok : ∀ k, k < 5 → parseFieldDescriptor (TX7 k).2.2.1 = some (tyX7 k) := by decide +kernel
abbrev cX7_init : ByteArray := prog_9_method_1_code
def yX7_init : MethodName := ⟨RX7, "<init>", "()V"⟩
abbrev cX7_study : ByteArray := prog_9_method_2_code
def yX7_study : MethodName := ⟨RX7, "study", "(LSameAfter$Row;)V"⟩
abbrev cX7_count : ByteArray := prog_9_method_3_code
def yX7_count : MethodName := ⟨RX7, "count", "(I)V"⟩
abbrev cX7_noteClashes : ByteArray := prog_9_method_4_code
def yX7_noteClashes : MethodName := ⟨RX7, "noteClashes", "(II)V"⟩
abbrev cX7_clashing : ByteArray := prog_9_method_5_code
def yX7_clashing : MethodName := ⟨RX7, "clashing", "(II)Z"⟩
abbrev cX7_fewest : ByteArray := prog_9_method_6_code
def yX7_fewest : MethodName := ⟨RX7, "fewest", "()I"⟩
abbrev cX7_registerOf : ByteArray := prog_9_method_7_code
def yX7_registerOf : MethodName := ⟨RX7, "registerOf", "(I)I"⟩
abbrev cX7_spills : ByteArray := prog_9_method_8_code
def yX7_spills : MethodName := ⟨RX7, "spills", "(I)I"⟩
abbrev cX7_comingsOf : ByteArray := prog_9_method_9_code
def yX7_comingsOf : MethodName := ⟨RX7, "comingsOf", "(I)I"⟩
abbrev cX7_deal : ByteArray := prog_9_method_10_code
def yX7_deal : MethodName := ⟨RX7, "deal", "(III)Z"⟩
abbrev cX7_isFree : ByteArray := prog_9_method_11_code
def yX7_isFree : MethodName := ⟨RX7, "isFree", "(II)Z"⟩
def RX8 : String := "SameAfter$Row"
def TX8 : u_T := fun k => match k with
  | 0 => ("SameAfter$Row", "cells", "[I", true)
  | _ => ("SameAfter$Row", "length", "I", false)
def tyX8 : Nat → FieldType := fun k => match k with
  | 0 => .array .int
  | _ => .int
abbrev wsX80 : List Cond := u_ws RX8 TX8 2
theorem nmX8 : ∀ a, a < 2 → ∀ b, b < 2 → a ≠ b → (TX8 a).2.1 ≠ (TX8 b).2.1 := by decide +kernel
theorem tyX8_ok : ∀ k, k < 2 → parseFieldDescriptor (TX8 k).2.2.1 = some (tyX8 k) := by decide +kernel
abbrev cX8_init : ByteArray := prog_10_method_1_code
def yX8_init : MethodName := ⟨RX8, "<init>", "(I)V"⟩
abbrev cX8_isStatement : ByteArray := prog_10_method_2_code
def yX8_isStatement : MethodName := ⟨RX8, "isStatement", "(I)Z"⟩
abbrev cX8_isSet : ByteArray := prog_10_method_3_code
def yX8_isSet : MethodName := ⟨RX8, "isSet", "(I)Z"⟩
abbrev cX8_isBranch : ByteArray := prog_10_method_4_code
def yX8_isBranch : MethodName := ⟨RX8, "isBranch", "(I)Z"⟩
abbrev cX8_isNumber : ByteArray := prog_10_method_5_code
def yX8_isNumber : MethodName := ⟨RX8, "isNumber", "(I)Z"⟩
abbrev cX8_isRead : ByteArray := prog_10_method_6_code
def yX8_isRead : MethodName := ⟨RX8, "isRead", "(I)Z"⟩
abbrev cX8_isOperation : ByteArray := prog_10_method_7_code
def yX8_isOperation : MethodName := ⟨RX8, "isOperation", "(I)Z"⟩
abbrev cX8_isExpression : ByteArray := prog_10_method_8_code
def yX8_isExpression : MethodName := ⟨RX8, "isExpression", "(I)Z"⟩
abbrev cX8_result : ByteArray := prog_10_method_9_code
def yX8_result : MethodName := ⟨RX8, "result", "(III)I"⟩
abbrev cX8_holds : ByteArray := prog_10_method_10_code
def yX8_holds : MethodName := ⟨RX8, "holds", "(III)Z"⟩
abbrev cX8_cell : ByteArray := prog_10_method_11_code
def yX8_cell : MethodName := ⟨RX8, "cell", "(I)I"⟩
abbrev cX8_change : ByteArray := prog_10_method_12_code
def yX8_change : MethodName := ⟨RX8, "change", "(II)V"⟩
abbrev cX8_add : ByteArray := prog_10_method_13_code
def yX8_add : MethodName := ⟨RX8, "add", "(I)V"⟩
abbrev cX8_insert : ByteArray := prog_10_method_14_code
def yX8_insert : MethodName := ⟨RX8, "insert", "(II)V"⟩
abbrev cX8_remove : ByteArray := prog_10_method_15_code
def yX8_remove : MethodName := ⟨RX8, "remove", "(II)V"⟩
abbrev cX8_addPart : ByteArray := prog_10_method_16_code
def yX8_addPart : MethodName := ⟨RX8, "addPart", "(LSameAfter$Row;II)V"⟩
abbrev cX8_copy : ByteArray := prog_10_method_17_code
def yX8_copy : MethodName := ⟨RX8, "copy", "(LSameAfter$Row;)V"⟩
abbrev cX8_statements : ByteArray := prog_10_method_18_code
def yX8_statements : MethodName := ⟨RX8, "statements", "()I"⟩
abbrev cX8_expressions : ByteArray := prog_10_method_19_code
def yX8_expressions : MethodName := ⟨RX8, "expressions", "()I"⟩
abbrev cX8_isTooLarge : ByteArray := prog_10_method_20_code
def yX8_isTooLarge : MethodName := ⟨RX8, "isTooLarge", "()Z"⟩
abbrev cX8_isLike : ByteArray := prog_10_method_21_code
def yX8_isLike : MethodName := ⟨RX8, "isLike", "(LSameAfter$Row;)Z"⟩
abbrev cX8_repeats : ByteArray := prog_10_method_22_code
def yX8_repeats : MethodName := ⟨RX8, "repeats", "(III)Z"⟩
abbrev cX8_has : ByteArray := prog_10_method_23_code
def yX8_has : MethodName := ⟨RX8, "has", "(III)Z"⟩
abbrev cX8_replace : ByteArray := prog_10_method_24_code
def yX8_replace : MethodName := ⟨RX8, "replace", "(IIII)V"⟩
abbrev cX8_expressionEnd : ByteArray := prog_10_method_25_code
def yX8_expressionEnd : MethodName := ⟨RX8, "expressionEnd", "(I)I"⟩
abbrev cX8_closeOf : ByteArray := prog_10_method_26_code
def yX8_closeOf : MethodName := ⟨RX8, "closeOf", "(I)I"⟩
abbrev cX8_elseOf : ByteArray := prog_10_method_27_code
def yX8_elseOf : MethodName := ⟨RX8, "elseOf", "(I)I"⟩
abbrev cX8_statementEnd : ByteArray := prog_10_method_28_code
def yX8_statementEnd : MethodName := ⟨RX8, "statementEnd", "(I)I"⟩
abbrev cX8_reckon : ByteArray := prog_10_method_29_code
def yX8_reckon : MethodName := ⟨RX8, "reckon", "(II[I[I)V"⟩
def RX9 : String := "SameAfter$Rule"
def TX9 : u_T := fun k => match k with
  | 0 => ("SameAfter$Rule", "left", "LSameAfter$Row;", true)
  | 1 => ("SameAfter$Rule", "right", "LSameAfter$Row;", true)
  | 2 => ("SameAfter$Rule", "letters", "I", false)
  | 3 => ("SameAfter$Rule", "starts", "[I", true)
  | _ => ("SameAfter$Rule", "ends", "[I", true)
def tyX9 : Nat → FieldType := fun k => match k with
  | 0 => .object "SameAfter$Row"
  | 1 => .object "SameAfter$Row"
  | 2 => .int
  | 3 => .array .int
  | _ => .array .int
abbrev wsX90 : List Cond := u_ws RX9 TX9 5
theorem nmX9 : ∀ a, a < 5 → ∀ b, b < 5 → a ≠ b → (TX9 a).2.1 ≠ (TX9 b).2.1 := by decide +kernel
theorem tyX9_ok : ∀ k, k < 5 → parseFieldDescriptor (TX9 k).2.2.1 = some (tyX9 k) := by decide +kernel
abbrev cX9_init : ByteArray := prog_11_method_1_code
def yX9_init : MethodName := ⟨RX9, "<init>", "()V"⟩
abbrev cX9_forget : ByteArray := prog_11_method_2_code
def yX9_forget : MethodName := ⟨RX9, "forget", "()V"⟩
abbrev cX9_noteLetters : ByteArray := prog_11_method_3_code
def yX9_noteLetters : MethodName := ⟨RX9, "noteLetters", "()V"⟩
abbrev cX9_hasLetter : ByteArray := prog_11_method_4_code
def yX9_hasLetter : MethodName := ⟨RX9, "hasLetter", "(I)Z"⟩
abbrev cX9_letterOf : ByteArray := prog_11_method_5_code
def yX9_letterOf : MethodName := ⟨RX9, "letterOf", "(I)I"⟩
abbrev cX9_countIn : ByteArray := prog_11_method_6_code
def yX9_countIn : MethodName := ⟨RX9, "countIn", "(LSameAfter$Row;)I"⟩
abbrev cX9_placeIn : ByteArray := prog_11_method_7_code
def yX9_placeIn : MethodName := ⟨RX9, "placeIn", "(LSameAfter$Row;I)I"⟩
abbrev cX9_matches : ByteArray := prog_11_method_8_code
def yX9_matches : MethodName := ⟨RX9, "matches", "(LSameAfter$Row;I)Z"⟩
abbrev cX9_bind : ByteArray := prog_11_method_9_code
def yX9_bind : MethodName := ⟨RX9, "bind", "(LSameAfter$Row;III)Z"⟩
abbrev cX9_rewrite : ByteArray := prog_11_method_10_code
def yX9_rewrite : MethodName := ⟨RX9, "rewrite", "(LSameAfter$Row;ILSameAfter$Row;)Z"⟩
abbrev cX9_lengthOfRight : ByteArray := prog_11_method_11_code
def yX9_lengthOfRight : MethodName := ⟨RX9, "lengthOfRight", "()I"⟩
def RX10 : String := "SameAfter$Tape"
def TX10 : u_T := fun k => match k with
  | 0 => ("SameAfter$Tape", "bytes", "[I", true)
  | 1 => ("SameAfter$Tape", "length", "I", false)
  | 2 => ("SameAfter$Tape", "kind", "I", false)
  | 3 => ("SameAfter$Tape", "value", "I", false)
  | 4 => ("SameAfter$Tape", "place", "I", false)
  | _ => ("SameAfter$Tape", "next", "I", false)
def tyX10 : Nat → FieldType := fun k => match k with
  | 0 => .array .int
  | 1 => .int
  | 2 => .int
  | 3 => .int
  | 4 => .int
  | _ => .int
abbrev wsX100 : List Cond := u_ws RX10 TX10 6
theorem nmX10 : ∀ a, a < 6 → ∀ b, b < 6 → a ≠ b → (TX10 a).2.1 ≠ (TX10 b).2.1 := by decide +kernel
theorem tyX10_ok : ∀ k, k < 6 → parseFieldDescriptor (TX10 k).2.2.1 = some (tyX10 k) := by decide +kernel
abbrev cX10_init : ByteArray := prog_12_method_1_code
def yX10_init : MethodName := ⟨RX10, "<init>", "()V"⟩
abbrev cX10_put : ByteArray := prog_12_method_2_code
def yX10_put : MethodName := ⟨RX10, "put", "(I)V"⟩
abbrev cX10_shorten : ByteArray := prog_12_method_3_code
def yX10_shorten : MethodName := ⟨RX10, "shorten", "(I)Z"⟩
abbrev cX10_rewind : ByteArray := prog_12_method_4_code
def yX10_rewind : MethodName := ⟨RX10, "rewind", "()V"⟩
abbrev cX10_byteAt : ByteArray := prog_12_method_5_code
def yX10_byteAt : MethodName := ⟨RX10, "byteAt", "(I)I"⟩
abbrev cX10_advance : ByteArray := prog_12_method_6_code
def yX10_advance : MethodName := ⟨RX10, "advance", "(Z)V"⟩
abbrev cX10_isLetter : ByteArray := prog_12_method_7_code
def yX10_isLetter : MethodName := ⟨RX10, "isLetter", "(I)Z"⟩
abbrev cX10_isSmallLetter : ByteArray := prog_12_method_8_code
def yX10_isSmallLetter : MethodName := ⟨RX10, "isSmallLetter", "(I)Z"⟩
abbrev cX10_isDigit : ByteArray := prog_12_method_9_code
def yX10_isDigit : MethodName := ⟨RX10, "isDigit", "(I)Z"⟩
abbrev cX10_takeLetters : ByteArray := prog_12_method_10_code
def yX10_takeLetters : MethodName := ⟨RX10, "takeLetters", "()V"⟩
abbrev cX10_isText : ByteArray := prog_12_method_11_code
def yX10_isText : MethodName := ⟨RX10, "isText", "(Ljava/lang/String;)Z"⟩
abbrev cX10_takeDigits : ByteArray := prog_12_method_12_code
def yX10_takeDigits : MethodName := ⟨RX10, "takeDigits", "()V"⟩
abbrev cX10_takeSign : ByteArray := prog_12_method_13_code
def yX10_takeSign : MethodName := ⟨RX10, "takeSign", "(IZ)V"⟩
abbrev cX10_isSign : ByteArray := prog_12_method_14_code
def yX10_isSign : MethodName := ⟨RX10, "isSign", "(I)Z"⟩
def RX11 : String := "SameAfter"
def TX11 : u_T := fun k => match k with
  | 0 => ("SameAfter", "slots", "[LSameAfter$Row;", true)
  | 1 => ("SameAfter", "ruleCount", "I", false)
  | 2 => ("SameAfter", "work", "LSameAfter$Row;", true)
  | 3 => ("SameAfter", "reader", "LSameAfter$Reader;", true)
  | 4 => ("SameAfter", "machine", "LSameAfter$Machine;", true)
  | 5 => ("SameAfter", "proof", "LSameAfter$Proof;", true)
  | 6 => ("SameAfter", "passes", "LSameAfter$Passes;", true)
  | _ => ("SameAfter", "dealing", "LSameAfter$Registers;", true)
def tyX11 : Nat → FieldType := fun k => match k with
  | 0 => .array (.object "SameAfter$Row")
  | 1 => .int
  | 2 => .object "SameAfter$Row"
  | 3 => .object "SameAfter$Reader"
  | 4 => .object "SameAfter$Machine"
  | 5 => .object "SameAfter$Proof"
  | 6 => .object "SameAfter$Passes"
  | _ => .object "SameAfter$Registers"
abbrev wsX110 : List Cond := u_ws RX11 TX11 8
theorem nmX11 : ∀ a, a < 8 → ∀ b, b < 8 → a ≠ b → (TX11 a).2.1 ≠ (TX11 b).2.1 := by decide +kernel
theorem tyX11_ok : ∀ k, k < 8 → parseFieldDescriptor (TX11 k).2.2.1 = some (tyX11 k) := by decide +kernel
abbrev cX11_init : ByteArray := prog_1_method_1_code
def yX11_init : MethodName := ⟨RX11, "<init>", "()V"⟩
abbrev cX11_feed : ByteArray := prog_1_method_2_code
def yX11_feed : MethodName := ⟨RX11, "feed", "(IIIII)I"⟩
abbrev cX11_end : ByteArray := prog_1_method_3_code
def yX11_end : MethodName := ⟨RX11, "end", "(I)Z"⟩
abbrev cX11_program : ByteArray := prog_1_method_4_code
def yX11_program : MethodName := ⟨RX11, "program", "(I)I"⟩
abbrev cX11_rule : ByteArray := prog_1_method_5_code
def yX11_rule : MethodName := ⟨RX11, "rule", "()I"⟩
abbrev cX11_fault : ByteArray := prog_1_method_6_code
def yX11_fault : MethodName := ⟨RX11, "fault", "(I)I"⟩
abbrev cX11_at : ByteArray := prog_1_method_7_code
def yX11_at : MethodName := ⟨RX11, "at", "(II)I"⟩
abbrev cX11_size : ByteArray := prog_1_method_8_code
def yX11_size : MethodName := ⟨RX11, "size", "(II)I"⟩
abbrev cX11_run : ByteArray := prog_1_method_9_code
def yX11_run : MethodName := ⟨RX11, "run", "(IIII)I"⟩
abbrev cX11_judge : ByteArray := prog_1_method_10_code
def yX11_judge : MethodName := ⟨RX11, "judge", "(III)I"⟩
abbrev cX11_ruleOf : ByteArray := prog_1_method_11_code
def yX11_ruleOf : MethodName := ⟨RX11, "ruleOf", "(II)I"⟩
abbrev cX11_places : ByteArray := prog_1_method_12_code
def yX11_places : MethodName := ⟨RX11, "places", "(II)I"⟩
abbrev cX11_apply : ByteArray := prog_1_method_13_code
def yX11_apply : MethodName := ⟨RX11, "apply", "(IIII)Z"⟩
abbrev cX11_item : ByteArray := prog_1_method_14_code
def yX11_item : MethodName := ⟨RX11, "item", "(II)I"⟩
abbrev cX11_clear : ByteArray := prog_1_method_15_code
def yX11_clear : MethodName := ⟨RX11, "clear", "(I)Z"⟩
abbrev cX11_make : ByteArray := prog_1_method_16_code
def yX11_make : MethodName := ⟨RX11, "make", "(III)I"⟩
abbrev cX11_blame : ByteArray := prog_1_method_17_code
def yX11_blame : MethodName := ⟨RX11, "blame", "(II)I"⟩
abbrev cX11_cut : ByteArray := prog_1_method_18_code
def yX11_cut : MethodName := ⟨RX11, "cut", "(III)I"⟩
abbrev cX11_registers : ByteArray := prog_1_method_19_code
def yX11_registers : MethodName := ⟨RX11, "registers", "(II)I"⟩
abbrev cX11_clash : ByteArray := prog_1_method_20_code
def yX11_clash : MethodName := ⟨RX11, "clash", "(III)I"⟩
abbrev cX11_slotAt : ByteArray := prog_1_method_21_code
def yX11_slotAt : MethodName := ⟨RX11, "slotAt", "(I)LSameAfter$Row;"⟩
abbrev cX11_ruleAt : ByteArray := prog_1_method_22_code
def yX11_ruleAt : MethodName := ⟨RX11, "ruleAt", "(I)LSameAfter$Rule;"⟩
abbrev cX11_isWord : ByteArray := prog_1_method_23_code
def yX11_isWord : MethodName := ⟨RX11, "isWord", "(I)Z"⟩
abbrev cX11_isVariable : ByteArray := prog_1_method_24_code
def yX11_isVariable : MethodName := ⟨RX11, "isVariable", "(I)Z"⟩
def RX12 : String := "SameAfterModel"
def TX12 : u_T := fun k => match k with
  | 0 => ("SameAfterModel", "slot", "[I", true)
  | 1 => ("SameAfterModel", "slotLong", "[I", true)
  | 2 => ("SameAfterModel", "row", "[I", true)
  | 3 => ("SameAfterModel", "fresh", "[I", true)
  | 4 => ("SameAfterModel", "many", "I", false)
  | 5 => ("SameAfterModel", "made", "I", false)
  | 6 => ("SameAfterModel", "tape", "[I", true)
  | 7 => ("SameAfterModel", "taped", "I", false)
  | 8 => ("SameAfterModel", "at", "I", false)
  | 9 => ("SameAfterModel", "token", "I", false)
  | 10 => ("SameAfterModel", "tokenAt", "I", false)
  | 11 => ("SameAfterModel", "value", "I", false)
  | 12 => ("SameAfterModel", "wrong", "I", false)
  | 13 => ("SameAfterModel", "wrongAt", "I", false)
  | 14 => ("SameAfterModel", "faultKind", "I", false)
  | 15 => ("SameAfterModel", "depth", "I", false)
  | 16 => ("SameAfterModel", "countParts", "I", false)
  | 17 => ("SameAfterModel", "countStatements", "I", false)
  | 18 => ("SameAfterModel", "partsMost", "I", false)
  | 19 => ("SameAfterModel", "leftLetters", "I", false)
  | 20 => ("SameAfterModel", "faultPlace", "I", false)
  | 21 => ("SameAfterModel", "isRule", "Z", false)
  | 22 => ("SameAfterModel", "isRight", "Z", false)
  | 23 => ("SameAfterModel", "rules", "I", false)
  | 24 => ("SameAfterModel", "rule", "[I", true)
  | 25 => ("SameAfterModel", "ruleRight", "[I", true)
  | 26 => ("SameAfterModel", "ruleLong", "[I", true)
  | 27 => ("SameAfterModel", "letters", "[I", true)
  | 28 => ("SameAfterModel", "holds", "[I", true)
  | 29 => ("SameAfterModel", "outs", "[I", true)
  | 30 => ("SameAfterModel", "steps", "I", false)
  | 31 => ("SameAfterModel", "ending", "I", false)
  | 32 => ("SameAfterModel", "outMany", "I", false)
  | 33 => ("SameAfterModel", "cursor", "I", false)
  | 34 => ("SameAfterModel", "keptEnd", "[I", true)
  | 35 => ("SameAfterModel", "keptMany", "[I", true)
  | 36 => ("SameAfterModel", "keptOut", "[I", true)
  | 37 => ("SameAfterModel", "firstParting", "I", false)
  | 38 => ("SameAfterModel", "firstPlace", "I", false)
  | 39 => ("SameAfterModel", "partings", "I", false)
  | 40 => ("SameAfterModel", "anyTired", "Z", false)
  | 41 => ("SameAfterModel", "stands", "[I", true)
  | 42 => ("SameAfterModel", "form", "[I", true)
  | 43 => ("SameAfterModel", "isForm", "Z", false)
  | 44 => ("SameAfterModel", "product", "[I", true)
  | 45 => ("SameAfterModel", "bound", "[I", true)
  | 46 => ("SameAfterModel", "patternAt", "I", false)
  | 47 => ("SameAfterModel", "isOut", "[Z", true)
  | 48 => ("SameAfterModel", "someOut", "Z", false)
  | 49 => ("SameAfterModel", "items", "[I", true)
  | 50 => ("SameAfterModel", "itemMany", "[I", true)
  | 51 => ("SameAfterModel", "whole", "[I", true)
  | 52 => ("SameAfterModel", "wholeLong", "I", false)
  | 53 => ("SameAfterModel", "cutRow", "[I", true)
  | 54 => ("SameAfterModel", "clashes", "[I", true)
  | _ => ("SameAfterModel", "deal", "[I", true)
def tyX12 : Nat → FieldType := fun k => match k with
  | 0 => .array .int
  | 1 => .array .int
  | 2 => .array .int
  | 3 => .array .int
  | 4 => .int
  | 5 => .int
  | 6 => .array .int
  | 7 => .int
  | 8 => .int
  | 9 => .int
  | 10 => .int
  | 11 => .int
  | 12 => .int
  | 13 => .int
  | 14 => .int
  | 15 => .int
  | 16 => .int
  | 17 => .int
  | 18 => .int
  | 19 => .int
  | 20 => .int
  | 21 => .boolean
  | 22 => .boolean
  | 23 => .int
  | 24 => .array .int
  | 25 => .array .int
  | 26 => .array .int
  | 27 => .array .int
  | 28 => .array .int
  | 29 => .array .int
  | 30 => .int
  | 31 => .int
  | 32 => .int
  | 33 => .int
  | 34 => .array .int
  | 35 => .array .int
  | 36 => .array .int
  | 37 => .int
  | 38 => .int
  | 39 => .int
  | 40 => .boolean
  | 41 => .array .int
  | 42 => .array .int
  | 43 => .boolean
  | 44 => .array .int
  | 45 => .array .int
  | 46 => .int
  | 47 => .array .boolean
  | 48 => .boolean
  | 49 => .array .int
  | 50 => .array .int
  | 51 => .array .int
  | 52 => .int
  | 53 => .array .int
  | 54 => .array .int
  | _ => .array .int
abbrev wsX120 : List Cond := u_ws RX12 TX12 56
theorem nmX12 : ∀ a, a < 56 → ∀ b, b < 56 → a ≠ b → (TX12 a).2.1 ≠ (TX12 b).2.1 := by decide +kernel
theorem tyX12_ok : ∀ k, k < 56 → parseFieldDescriptor (TX12 k).2.2.1 = some (tyX12 k) := by decide +kernel
abbrev cX12_init : ByteArray := prog_14_method_1_code
def yX12_init : MethodName := ⟨RX12, "<init>", "()V"⟩
abbrev cX12_isIn : ByteArray := prog_14_method_2_code
def yX12_isIn : MethodName := ⟨RX12, "isIn", "(III)Z"⟩
abbrev cX12_isSlot : ByteArray := prog_14_method_3_code
def yX12_isSlot : MethodName := ⟨RX12, "isSlot", "(I)Z"⟩
abbrev cX12_isPart : ByteArray := prog_14_method_4_code
def yX12_isPart : MethodName := ⟨RX12, "isPart", "(I)Z"⟩
abbrev cX12_isStatement : ByteArray := prog_14_method_5_code
def yX12_isStatement : MethodName := ⟨RX12, "isStatement", "(I)Z"⟩
abbrev cX12_endOf : ByteArray := prog_14_method_6_code
def yX12_endOf : MethodName := ⟨RX12, "endOf", "(I)I"⟩
abbrev cX12_body : ByteArray := prog_14_method_7_code
def yX12_body : MethodName := ⟨RX12, "body", "(I)I"⟩
abbrev cX12_isLast : ByteArray := prog_14_method_8_code
def yX12_isLast : MethodName := ⟨RX12, "isLast", "(I)Z"⟩
abbrev cX12_behind : ByteArray := prog_14_method_9_code
def yX12_behind : MethodName := ⟨RX12, "behind", "(I)I"⟩
abbrev cX12_close : ByteArray := prog_14_method_10_code
def yX12_close : MethodName := ⟨RX12, "close", "(I)I"⟩
abbrev cX12_statements : ByteArray := prog_14_method_11_code
def yX12_statements : MethodName := ⟨RX12, "statements", "()I"⟩
abbrev cX12_parts : ByteArray := prog_14_method_12_code
def yX12_parts : MethodName := ⟨RX12, "parts", "()I"⟩
abbrev cX12_takes : ByteArray := prog_14_method_13_code
def yX12_takes : MethodName := ⟨RX12, "takes", "(I)V"⟩
abbrev cX12_puts : ByteArray := prog_14_method_14_code
def yX12_puts : MethodName := ⟨RX12, "puts", "(I)V"⟩
abbrev cX12_write : ByteArray := prog_14_method_15_code
def yX12_write : MethodName := ⟨RX12, "write", "(I)V"⟩
abbrev cX12_writes : ByteArray := prog_14_method_16_code
def yX12_writes : MethodName := ⟨RX12, "writes", "(II)V"⟩
abbrev cX12_turns : ByteArray := prog_14_method_17_code
def yX12_turns : MethodName := ⟨RX12, "turns", "()V"⟩
abbrev cX12_feed : ByteArray := prog_14_method_18_code
def yX12_feed : MethodName := ⟨RX12, "feed", "(IIIII)I"⟩
abbrev cX12_end : ByteArray := prog_14_method_19_code
def yX12_end : MethodName := ⟨RX12, "end", "(I)Z"⟩
abbrev cX12_see : ByteArray := prog_14_method_20_code
def yX12_see : MethodName := ⟨RX12, "see", "(I)I"⟩
abbrev cX12_isLetter : ByteArray := prog_14_method_21_code
def yX12_isLetter : MethodName := ⟨RX12, "isLetter", "(I)Z"⟩
abbrev cX12_isDigit : ByteArray := prog_14_method_22_code
def yX12_isDigit : MethodName := ⟨RX12, "isDigit", "(I)Z"⟩
abbrev cX12_is : ByteArray := prog_14_method_23_code
def yX12_is : MethodName := ⟨RX12, "is", "(Ljava/lang/String;)Z"⟩
abbrev cX12_word : ByteArray := prog_14_method_24_code
def yX12_word : MethodName := ⟨RX12, "word", "()I"⟩
abbrev cX12_next0 : ByteArray := prog_14_method_25_code
def yX12_next0 : MethodName := ⟨RX12, "next0", "()V"⟩
abbrev cX12_bad : ByteArray := prog_14_method_26_code
def yX12_bad : MethodName := ⟨RX12, "bad", "(I)Z"⟩
abbrev cX12_need : ByteArray := prog_14_method_27_code
def yX12_need : MethodName := ⟨RX12, "need", "(I)Z"⟩
abbrev cX12_opens : ByteArray := prog_14_method_28_code
def yX12_opens : MethodName := ⟨RX12, "opens", "(I)Z"⟩
abbrev cX12_closes : ByteArray := prog_14_method_29_code
def yX12_closes : MethodName := ⟨RX12, "closes", "(I)Z"⟩
abbrev cX12_counts : ByteArray := prog_14_method_30_code
def yX12_counts : MethodName := ⟨RX12, "counts", "()Z"⟩
abbrev cX12_ahead : ByteArray := prog_14_method_31_code
def yX12_ahead : MethodName := ⟨RX12, "ahead", "(II)V"⟩
abbrev cX12_sumUp : ByteArray := prog_14_method_32_code
def yX12_sumUp : MethodName := ⟨RX12, "sumUp", "()Z"⟩
abbrev cX12_product : ByteArray := prog_14_method_33_code
def yX12_product : MethodName := ⟨RX12, "product", "()Z"⟩
abbrev cX12_unit : ByteArray := prog_14_method_34_code
def yX12_unit : MethodName := ⟨RX12, "unit", "()Z"⟩
abbrev cX12_asks : ByteArray := prog_14_method_35_code
def yX12_asks : MethodName := ⟨RX12, "asks", "()Z"⟩
abbrev cX12_block : ByteArray := prog_14_method_36_code
def yX12_block : MethodName := ⟨RX12, "block", "()Z"⟩
abbrev cX12_otherwise : ByteArray := prog_14_method_37_code
def yX12_otherwise : MethodName := ⟨RX12, "otherwise", "()Z"⟩
abbrev cX12_statement : ByteArray := prog_14_method_38_code
def yX12_statement : MethodName := ⟨RX12, "statement", "()Z"⟩
abbrev cX12_begins : ByteArray := prog_14_method_39_code
def yX12_begins : MethodName := ⟨RX12, "begins", "(ZI)V"⟩
abbrev cX12_ends : ByteArray := prog_14_method_40_code
def yX12_ends : MethodName := ⟨RX12, "ends", "()V"⟩
abbrev cX12_program : ByteArray := prog_14_method_41_code
def yX12_program : MethodName := ⟨RX12, "program", "(I)I"⟩
abbrev cX12_rule : ByteArray := prog_14_method_42_code
def yX12_rule : MethodName := ⟨RX12, "rule", "()I"⟩
abbrev cX12_fault : ByteArray := prog_14_method_43_code
def yX12_fault : MethodName := ⟨RX12, "fault", "(I)I"⟩
abbrev cX12_at : ByteArray := prog_14_method_44_code
def yX12_at : MethodName := ⟨RX12, "at", "(II)I"⟩
abbrev cX12_size : ByteArray := prog_14_method_45_code
def yX12_size : MethodName := ⟨RX12, "size", "(II)I"⟩
abbrev cX12_both : ByteArray := prog_14_method_46_code
def yX12_both : MethodName := ⟨RX12, "both", "(III)I"⟩
abbrev cX12_worth : ByteArray := prog_14_method_47_code
def yX12_worth : MethodName := ⟨RX12, "worth", "()I"⟩
abbrev cX12_isSo : ByteArray := prog_14_method_48_code
def yX12_isSo : MethodName := ⟨RX12, "isSo", "(I)Z"⟩
abbrev cX12_step : ByteArray := prog_14_method_49_code
def yX12_step : MethodName := ⟨RX12, "step", "()Z"⟩
abbrev cX12_does : ByteArray := prog_14_method_50_code
def yX12_does : MethodName := ⟨RX12, "does", "(I)Z"⟩
abbrev cX12_doesOne : ByteArray := prog_14_method_51_code
def yX12_doesOne : MethodName := ⟨RX12, "doesOne", "(I)Z"⟩
abbrev cX12_runs : ByteArray := prog_14_method_52_code
def yX12_runs : MethodName := ⟨RX12, "runs", "(II)V"⟩
abbrev cX12_run : ByteArray := prog_14_method_53_code
def yX12_run : MethodName := ⟨RX12, "run", "(IIII)I"⟩
abbrev cX12_keeps : ByteArray := prog_14_method_54_code
def yX12_keeps : MethodName := ⟨RX12, "keeps", "()V"⟩
abbrev cX12_compares : ByteArray := prog_14_method_55_code
def yX12_compares : MethodName := ⟨RX12, "compares", "()V"⟩
abbrev cX12_judge : ByteArray := prog_14_method_56_code
def yX12_judge : MethodName := ⟨RX12, "judge", "(III)I"⟩
abbrev cX12_ruleWorth : ByteArray := prog_14_method_57_code
def yX12_ruleWorth : MethodName := ⟨RX12, "ruleWorth", "(I)I"⟩
abbrev cX12_isAlike : ByteArray := prog_14_method_58_code
def yX12_isAlike : MethodName := ⟨RX12, "isAlike", "(I)Z"⟩
abbrev cX12_forms : ByteArray := prog_14_method_59_code
def yX12_forms : MethodName := ⟨RX12, "forms", "(II)V"⟩
abbrev cX12_products : ByteArray := prog_14_method_60_code
def yX12_products : MethodName := ⟨RX12, "products", "(I)V"⟩
abbrev cX12_sameForms : ByteArray := prog_14_method_61_code
def yX12_sameForms : MethodName := ⟨RX12, "sameForms", "(I)I"⟩
abbrev cX12_ruleOf : ByteArray := prog_14_method_62_code
def yX12_ruleOf : MethodName := ⟨RX12, "ruleOf", "(II)I"⟩
abbrev cX12_sameParts : ByteArray := prog_14_method_63_code
def yX12_sameParts : MethodName := ⟨RX12, "sameParts", "(II)Z"⟩
abbrev cX12_fits : ByteArray := prog_14_method_64_code
def yX12_fits : MethodName := ⟨RX12, "fits", "(II)Z"⟩
abbrev cX12_matches : ByteArray := prog_14_method_65_code
def yX12_matches : MethodName := ⟨RX12, "matches", "(II)Z"⟩
abbrev cX12_match : ByteArray := prog_14_method_66_code
def yX12_match : MethodName := ⟨RX12, "match", "(II)I"⟩
abbrev cX12_places : ByteArray := prog_14_method_67_code
def yX12_places : MethodName := ⟨RX12, "places", "(II)I"⟩
abbrev cX12_applies : ByteArray := prog_14_method_68_code
def yX12_applies : MethodName := ⟨RX12, "applies", "(II)Z"⟩
abbrev cX12_apply : ByteArray := prog_14_method_69_code
def yX12_apply : MethodName := ⟨RX12, "apply", "(IIII)Z"⟩
abbrev cX12_reads : ByteArray := prog_14_method_70_code
def yX12_reads : MethodName := ⟨RX12, "reads", "(II)I"⟩
abbrev cX12_liveFrom : ByteArray := prog_14_method_71_code
def yX12_liveFrom : MethodName := ⟨RX12, "liveFrom", "(II)I"⟩
abbrev cX12_liveAt : ByteArray := prog_14_method_72_code
def yX12_liveAt : MethodName := ⟨RX12, "liveAt", "(II)I"⟩
abbrev cX12_drops : ByteArray := prog_14_method_73_code
def yX12_drops : MethodName := ⟨RX12, "drops", "(I)V"⟩
abbrev cX12_marks : ByteArray := prog_14_method_74_code
def yX12_marks : MethodName := ⟨RX12, "marks", "(II)V"⟩
abbrev cX12_marksHasty : ByteArray := prog_14_method_75_code
def yX12_marksHasty : MethodName := ⟨RX12, "marksHasty", "()V"⟩
abbrev cX12_copies : ByteArray := prog_14_method_76_code
def yX12_copies : MethodName := ⟨RX12, "copies", "(I)V"⟩
abbrev cX12_clears : ByteArray := prog_14_method_77_code
def yX12_clears : MethodName := ⟨RX12, "clears", "()V"⟩
abbrev cX12_dead : ByteArray := prog_14_method_78_code
def yX12_dead : MethodName := ⟨RX12, "dead", "(Z)V"⟩
abbrev cX12_folds : ByteArray := prog_14_method_79_code
def yX12_folds : MethodName := ⟨RX12, "folds", "(I)Z"⟩
abbrev cX12_foldAll : ByteArray := prog_14_method_80_code
def yX12_foldAll : MethodName := ⟨RX12, "foldAll", "(I)V"⟩
abbrev cX12_foldOne : ByteArray := prog_14_method_81_code
def yX12_foldOne : MethodName := ⟨RX12, "foldOne", "(I)V"⟩
abbrev cX12_replaces : ByteArray := prog_14_method_82_code
def yX12_replaces : MethodName := ⟨RX12, "replaces", "(IIII)V"⟩
abbrev cX12_sets : ByteArray := prog_14_method_83_code
def yX12_sets : MethodName := ⟨RX12, "sets", "(III)Z"⟩
abbrev cX12_copyFrom : ByteArray := prog_14_method_84_code
def yX12_copyFrom : MethodName := ⟨RX12, "copyFrom", "(III)V"⟩
abbrev cX12_hastyCopy : ByteArray := prog_14_method_85_code
def yX12_hastyCopy : MethodName := ⟨RX12, "hastyCopy", "()V"⟩
abbrev cX12_unrolls : ByteArray := prog_14_method_86_code
def yX12_unrolls : MethodName := ⟨RX12, "unrolls", "(I)V"⟩
abbrev cX12_isPass : ByteArray := prog_14_method_87_code
def yX12_isPass : MethodName := ⟨RX12, "isPass", "(I)Z"⟩
abbrev cX12_item : ByteArray := prog_14_method_88_code
def yX12_item : MethodName := ⟨RX12, "item", "(II)I"⟩
abbrev cX12_clear : ByteArray := prog_14_method_89_code
def yX12_clear : MethodName := ⟨RX12, "clear", "(I)Z"⟩
abbrev cX12_isSmall : ByteArray := prog_14_method_90_code
def yX12_isSmall : MethodName := ⟨RX12, "isSmall", "()Z"⟩
abbrev cX12_again : ByteArray := prog_14_method_91_code
def yX12_again : MethodName := ⟨RX12, "again", "(I)Z"⟩
abbrev cX12_makes : ByteArray := prog_14_method_92_code
def yX12_makes : MethodName := ⟨RX12, "makes", "(I)Z"⟩
abbrev cX12_make : ByteArray := prog_14_method_93_code
def yX12_make : MethodName := ⟨RX12, "make", "(III)I"⟩
abbrev cX12_blame : ByteArray := prog_14_method_94_code
def yX12_blame : MethodName := ⟨RX12, "blame", "(II)I"⟩
abbrev cX12_keepsWhole : ByteArray := prog_14_method_95_code
def yX12_keepsWhole : MethodName := ⟨RX12, "keepsWhole", "()V"⟩
abbrev cX12_takesWhole : ByteArray := prog_14_method_96_code
def yX12_takesWhole : MethodName := ⟨RX12, "takesWhole", "()V"⟩
abbrev cX12_isWrong : ByteArray := prog_14_method_97_code
def yX12_isWrong : MethodName := ⟨RX12, "isWrong", "(I)Z"⟩
abbrev cX12_cutsOne : ByteArray := prog_14_method_98_code
def yX12_cutsOne : MethodName := ⟨RX12, "cutsOne", "(I)Z"⟩
abbrev cX12_cut : ByteArray := prog_14_method_99_code
def yX12_cut : MethodName := ⟨RX12, "cut", "(III)I"⟩
abbrev cX12_clashAll : ByteArray := prog_14_method_100_code
def yX12_clashAll : MethodName := ⟨RX12, "clashAll", "(I)V"⟩
abbrev cX12_clashSet : ByteArray := prog_14_method_101_code
def yX12_clashSet : MethodName := ⟨RX12, "clashSet", "(II)V"⟩
abbrev cX12_clashFrom : ByteArray := prog_14_method_102_code
def yX12_clashFrom : MethodName := ⟨RX12, "clashFrom", "(II)V"⟩
abbrev cX12_clashIn : ByteArray := prog_14_method_103_code
def yX12_clashIn : MethodName := ⟨RX12, "clashIn", "(I)V"⟩
abbrev cX12_inRow : ByteArray := prog_14_method_104_code
def yX12_inRow : MethodName := ⟨RX12, "inRow", "()I"⟩
abbrev cX12_deals : ByteArray := prog_14_method_105_code
def yX12_deals : MethodName := ⟨RX12, "deals", "(II)Z"⟩
abbrev cX12_enough : ByteArray := prog_14_method_106_code
def yX12_enough : MethodName := ⟨RX12, "enough", "(I)I"⟩
abbrev cX12_timesOf : ByteArray := prog_14_method_107_code
def yX12_timesOf : MethodName := ⟨RX12, "timesOf", "(I)I"⟩
abbrev cX12_spills : ByteArray := prog_14_method_108_code
def yX12_spills : MethodName := ⟨RX12, "spills", "(II)I"⟩
abbrev cX12_registers : ByteArray := prog_14_method_109_code
def yX12_registers : MethodName := ⟨RX12, "registers", "(II)I"⟩
abbrev cX12_clash : ByteArray := prog_14_method_110_code
def yX12_clash : MethodName := ⟨RX12, "clash", "(III)I"⟩
def RJ9 : String := "java/lang/Math"
def TJ9 : u_T := fun k => match k with
  | _ => ("", "", "", false)
def tyJ9 : Nat → FieldType := fun k => match k with
  | _ => .int
abbrev wsJ90 : List Cond := u_ws RJ9 TJ9 0
theorem nmJ9 : ∀ a, a < 0 → ∀ b, b < 0 → a ≠ b → (TJ9 a).2.1 ≠ (TJ9 b).2.1 := by decide +kernel
theorem tyJ9_ok : ∀ k, k < 0 → parseFieldDescriptor (TJ9 k).2.2.1 = some (tyJ9 k) := by decide +kernel
abbrev cJ9_max_7cf53 : ByteArray := prog_15_method_65_code
def yJ9_max_7cf53 : MethodName := ⟨RJ9, "max", "(II)I"⟩
abbrev cJ9_min_7cf53 : ByteArray := prog_15_method_69_code
def yJ9_min_7cf53 : MethodName := ⟨RJ9, "min", "(II)I"⟩
def RJ0 : String := "java/lang/String"
def TJ0 : u_T := fun k => match k with
  | _ => ("", "", "", false)
def tyJ0 : Nat → FieldType := fun k => match k with
  | _ => .int
abbrev wsJ00 : List Cond := u_ws RJ0 TJ0 0
theorem nmJ0 : ∀ a, a < 0 → ∀ b, b < 0 → a ≠ b → (TJ0 a).2.1 ≠ (TJ0 b).2.1 := by decide +kernel
theorem tyJ0_ok : ∀ k, k < 0 → parseFieldDescriptor (TJ0 k).2.2.1 = some (tyJ0 k) := by decide +kernel
abbrev cJ0_length_8abf5 : ByteArray := prog_16_method_54_code
def yJ0_length_8abf5 : MethodName := ⟨RJ0, "length", "()I"⟩
abbrev cJ0_charAt_5068e : ByteArray := prog_16_method_56_code
def yJ0_charAt_5068e : MethodName := ⟨RJ0, "charAt", "(I)C"⟩
abbrev cJ0_coder_7d493 : ByteArray := prog_16_method_152_code
def yJ0_coder_7d493 : MethodName := ⟨RJ0, "coder", "()B"⟩
abbrev cJ0_isLatin1_aae02 : ByteArray := prog_16_method_154_code
def yJ0_isLatin1_aae02 : MethodName := ⟨RJ0, "isLatin1", "()Z"⟩
abbrev cJ0_checkIndex_df160 : ByteArray := prog_16_method_155_code
def yJ0_checkIndex_df160 : MethodName := ⟨RJ0, "checkIndex", "(II)V"⟩
def RJ1 : String := "java/lang/StringLatin1"
def TJ1 : u_T := fun k => match k with
  | _ => ("", "", "", false)
def tyJ1 : Nat → FieldType := fun k => match k with
  | _ => .int
abbrev wsJ10 : List Cond := u_ws RJ1 TJ1 0
theorem nmJ1 : ∀ a, a < 0 → ∀ b, b < 0 → a ≠ b → (TJ1 a).2.1 ≠ (TJ1 b).2.1 := by decide +kernel
theorem tyJ1_ok : ∀ k, k < 0 → parseFieldDescriptor (TJ1 k).2.2.1 = some (tyJ1 k) := by decide +kernel
abbrev cJ1_charAt_3b067 : ByteArray := prog_17_method_2_code
def yJ1_charAt_3b067 : MethodName := ⟨RJ1, "charAt", "([BI)C"⟩
def RJ2 : String := "java/lang/StringUTF16"
def TJ2 : u_T := fun k => match k with
  | _ => ("", "", "", false)
def tyJ2 : Nat → FieldType := fun k => match k with
  | _ => .int
abbrev wsJ20 : List Cond := u_ws RJ2 TJ2 0
theorem nmJ2 : ∀ a, a < 0 → ∀ b, b < 0 → a ≠ b → (TJ2 a).2.1 ≠ (TJ2 b).2.1 := by decide +kernel
theorem tyJ2_ok : ∀ k, k < 0 → parseFieldDescriptor (TJ2 k).2.2.1 = some (tyJ2 k) := by decide +kernel
abbrev cJ2_getChar_3b067 : ByteArray := prog_18_method_5_code
def yJ2_getChar_3b067 : MethodName := ⟨RJ2, "getChar", "([BI)C"⟩
abbrev cJ2_length_9d52b : ByteArray := prog_18_method_6_code
def yJ2_length_9d52b : MethodName := ⟨RJ2, "length", "([B)I"⟩
abbrev cJ2_charAt_3b067 : ByteArray := prog_18_method_83_code
def yJ2_charAt_3b067 : MethodName := ⟨RJ2, "charAt", "([BI)C"⟩
abbrev cJ2_checkIndex_2214a : ByteArray := prog_18_method_91_code
def yJ2_checkIndex_2214a : MethodName := ⟨RJ2, "checkIndex", "(I[B)V"⟩
def RJ10 : String := "java/lang/System"
def TJ10 : u_T := fun k => match k with
  | _ => ("", "", "", false)
def tyJ10 : Nat → FieldType := fun k => match k with
  | _ => .int
abbrev wsJ100 : List Cond := u_ws RJ10 TJ10 0
theorem nmJ10 : ∀ a, a < 0 → ∀ b, b < 0 → a ≠ b → (TJ10 a).2.1 ≠ (TJ10 b).2.1 := by decide +kernel
theorem tyJ10_ok : ∀ k, k < 0 → parseFieldDescriptor (TJ10 k).2.2.1 = some (tyJ10 k) := by decide +kernel
def RJ3 : String := "jdk/internal/util/Preconditions"
def TJ3 : u_T := fun k => match k with
  | _ => ("", "", "", false)
def tyJ3 : Nat → FieldType := fun k => match k with
  | _ => .int
abbrev wsJ30 : List Cond := u_ws RJ3 TJ3 0
theorem nmJ3 : ∀ a, a < 0 → ∀ b, b < 0 → a ≠ b → (TJ3 a).2.1 ≠ (TJ3 b).2.1 := by decide +kernel
theorem tyJ3_ok : ∀ k, k < 0 → parseFieldDescriptor (TJ3 k).2.2.1 = some (tyJ3 k) := by decide +kernel
abbrev cJ3_checkIndex_8e157 : ByteArray := prog_20_method_11_code
def yJ3_checkIndex_8e157 : MethodName := ⟨RJ3, "checkIndex", "(IILjava/util/function/BiFunction;)I"⟩
def RL : String := "SameAfterLaw"
abbrev cL_law : ByteArray := code
def yL_law : MethodName := ⟨RL, "law", "([I)Z"⟩
end
section
def gG : List Cond := lw_tbl.filter goodWord
theorem gT {w : Cond} (h : w ∈ tables_1) (hg : goodWord w = true) : w ∈ gG := List.mem_filter.mpr ⟨List.mem_append_right _ h, hg⟩
theorem gT1 {w : Cond} (i : Nat) (h : tables_1_1[i]? = some w) (hg : goodWord w = true) : w ∈ gG := gT (List.mem_append_left _ (List.mem_of_getElem? h)) hg
theorem gT2 {w : Cond} (i : Nat) (h : tables_1_2[i]? = some w) (hg : goodWord w = true) : w ∈ gG := gT (List.mem_append_right _ (List.mem_append_left _ (List.mem_of_getElem? h))) hg
theorem gT3 {w : Cond} (i : Nat) (h : tables_1_3[i]? = some w) (hg : goodWord w = true) : w ∈ gG := gT (List.mem_append_right _ (List.mem_append_right _ (List.mem_append_left _ (List.mem_of_getElem? h)))) hg
theorem gT4 {w : Cond} (i : Nat) (h : tables_1_4[i]? = some w) (hg : goodWord w = true) : w ∈ gG := gT (List.mem_append_right _ (List.mem_append_right _ (List.mem_append_right _ (List.mem_append_left _ (List.mem_of_getElem? h))))) hg
theorem gT5 {w : Cond} (i : Nat) (h : tables_1_5[i]? = some w) (hg : goodWord w = true) : w ∈ gG := gT (List.mem_append_right _ (List.mem_append_right _ (List.mem_append_right _ (List.mem_append_right _ (List.mem_append_left _ (List.mem_of_getElem? h)))))) hg
theorem gT6 {w : Cond} (i : Nat) (h : tables_1_6[i]? = some w) (hg : goodWord w = true) : w ∈ gG := gT (List.mem_append_right _ (List.mem_append_right _ (List.mem_append_right _ (List.mem_append_right _ (List.mem_append_right _ (List.mem_append_left _ (List.mem_of_getElem? h))))))) hg
theorem gT7 {w : Cond} (i : Nat) (h : tables_1_7[i]? = some w) (hg : goodWord w = true) : w ∈ gG := gT (List.mem_append_right _ (List.mem_append_right _ (List.mem_append_right _ (List.mem_append_right _ (List.mem_append_right _ (List.mem_append_right _ (List.mem_append_left _ (List.mem_of_getElem? h)))))))) hg
theorem gT8 {w : Cond} (i : Nat) (h : tables_1_8[i]? = some w) (hg : goodWord w = true) : w ∈ gG := gT (List.mem_append_right _ (List.mem_append_right _ (List.mem_append_right _ (List.mem_append_right _ (List.mem_append_right _ (List.mem_append_right _ (List.mem_append_right _ (List.mem_of_getElem? h)))))))) hg
theorem gP1 {q : MethodName × Nat} (i : Nat) (h : lw_privs_1[i]? = some q) : Cond.selects q.1.cls q.1 q.1 ∈ gG := List.mem_filter.mpr ⟨List.mem_append_left _ (List.mem_map.mpr ⟨q, List.mem_append_left _ (List.mem_of_getElem? h), rfl⟩), rfl⟩
theorem gP2 {q : MethodName × Nat} (i : Nat) (h : lw_privs_2[i]? = some q) : Cond.selects q.1.cls q.1 q.1 ∈ gG := List.mem_filter.mpr ⟨List.mem_append_left _ (List.mem_map.mpr ⟨q, List.mem_append_right _ (List.mem_append_left _ (List.mem_of_getElem? h)), rfl⟩), rfl⟩
theorem gP3 {q : MethodName × Nat} (i : Nat) (h : lw_privs_3[i]? = some q) : Cond.selects q.1.cls q.1 q.1 ∈ gG := List.mem_filter.mpr ⟨List.mem_append_left _ (List.mem_map.mpr ⟨q, List.mem_append_right _ (List.mem_append_right _ (List.mem_append_left _ (List.mem_of_getElem? h))), rfl⟩), rfl⟩
theorem gP4 {q : MethodName × Nat} (i : Nat) (h : lw_privs_4[i]? = some q) : Cond.selects q.1.cls q.1 q.1 ∈ gG := List.mem_filter.mpr ⟨List.mem_append_left _ (List.mem_map.mpr ⟨q, List.mem_append_right _ (List.mem_append_right _ (List.mem_append_right _ (List.mem_append_left _ (List.mem_of_getElem? h)))), rfl⟩), rfl⟩
theorem gP5 {q : MethodName × Nat} (i : Nat) (h : lw_privs_5[i]? = some q) : Cond.selects q.1.cls q.1 q.1 ∈ gG := List.mem_filter.mpr ⟨List.mem_append_left _ (List.mem_map.mpr ⟨q, List.mem_append_right _ (List.mem_append_right _ (List.mem_append_right _ (List.mem_append_right _ (List.mem_append_left _ (List.mem_of_getElem? h))))), rfl⟩), rfl⟩
theorem gP6 {q : MethodName × Nat} (i : Nat) (h : lw_privs_6[i]? = some q) : Cond.selects q.1.cls q.1 q.1 ∈ gG := List.mem_filter.mpr ⟨List.mem_append_left _ (List.mem_map.mpr ⟨q, List.mem_append_right _ (List.mem_append_right _ (List.mem_append_right _ (List.mem_append_right _ (List.mem_append_right _ (List.mem_append_left _ (List.mem_of_getElem? h)))))), rfl⟩), rfl⟩
theorem gP7 {q : MethodName × Nat} (i : Nat) (h : lw_privs_7[i]? = some q) : Cond.selects q.1.cls q.1 q.1 ∈ gG := List.mem_filter.mpr ⟨List.mem_append_left _ (List.mem_map.mpr ⟨q, List.mem_append_right _ (List.mem_append_right _ (List.mem_append_right _ (List.mem_append_right _ (List.mem_append_right _ (List.mem_append_right _ (List.mem_append_left _ (List.mem_of_getElem? h))))))), rfl⟩), rfl⟩
theorem gP8 {q : MethodName × Nat} (i : Nat) (h : lw_privs_8[i]? = some q) : Cond.selects q.1.cls q.1 q.1 ∈ gG := List.mem_filter.mpr ⟨List.mem_append_left _ (List.mem_map.mpr ⟨q, List.mem_append_right _ (List.mem_append_right _ (List.mem_append_right _ (List.mem_append_right _ (List.mem_append_right _ (List.mem_append_right _ (List.mem_append_right _ (List.mem_append_left _ (List.mem_of_getElem? h)))))))), rfl⟩), rfl⟩
theorem gP9 {q : MethodName × Nat} (i : Nat) (h : lw_privs_9[i]? = some q) : Cond.selects q.1.cls q.1 q.1 ∈ gG := List.mem_filter.mpr ⟨List.mem_append_left _ (List.mem_map.mpr ⟨q, List.mem_append_right _ (List.mem_append_right _ (List.mem_append_right _ (List.mem_append_right _ (List.mem_append_right _ (List.mem_append_right _ (List.mem_append_right _ (List.mem_append_right _ (List.mem_of_getElem? h)))))))), rfl⟩), rfl⟩
end
section
abbrev classes : List vw_C := [(RX0, TX0, 2), (RX1, TX1, 14), (RX2, TX2, 6), (RX3, TX3, 7), (RX4, TX4, 10), (RX5, TX5, 7), (RX6, TX6, 17), (RX7, TX7, 5), (RX8, TX8, 2), (RX9, TX9, 5), (RX10, TX10, 6), (RX11, TX11, 8), (RX12, TX12, 56)]
/-- what the tables say of arrays over references -/
def aK (U : State) : Prop := va_AO RX8 U ∧ va_AO RX9 U ∧ va_AOA .int U
theorem va_AOA.moved {ty : FieldType} {u U : State} (hvm : u.vm.Alike U.vm) (h : va_AOA ty u) : va_AOA ty U := by
  obtain ⟨comp, c, k, h1, h2, h3, h4, h5⟩ := Jvm.Stand.arrayOver_specB h
  obtain ⟨k', hk', he⟩ := hvm.2.2 _ _ h3
  have hi0 := (va_idx_bare (vm := U.vm) (comp := comp)).symm.trans ((by first | rw [hvm.bare_eq] | rw [← hvm.bare_eq] : _ = _).trans ((va_idx_bare (vm := u.vm) (comp := comp)).trans h2))
  have hi : (U.vm.classes.findIdx? fun (x : Class) => match x.kind with | .array component _ => component == comp | _ => false) = some c := hi0
  have hkind : k'.kind = .array comp (.array ty) := by rw [he]; exact h4
  have f1 : U.vm.findClass (FieldType.array ty).toString = some comp := by rw [hvm.findClass]; exact h1
  have f2 : U.vm.findClass ("[" ++ (FieldType.array ty).toString) = some c := by rw [hvm.findClass]; exact h5
  unfold va_AOA Cond.before Cond.holds
  simp only [Cond.value]
  rw [f1, Option.bind_some]
  refine (congrArg (fun o : Option Nat => (o.bind (fun c => (U.vm.classes[c]?).map fun (k : Class) => match k.kind with | .array _ ty' => decide (ty' = FieldType.array ty) && decide (U.vm.findClass ("[" ++ (FieldType.array ty).toString) = some c) | _ => false) == some true)) hi).trans ?_
  simp [hk', hkind, f2]
theorem aK.moved {u U : State} (hvm : u.vm.Alike U.vm) (h : aK u) : aK U := ⟨h.1.moved hvm, h.2.1.moved hvm, h.2.2.moved hvm⟩
/-- the world of a walk: cells ws at heap H, the cells that may change A, the heap at the entry H0 -/
def wX (D : va_G) (tys : List (ClassId × FieldType)) (s : State) (ws : va_W) (H : Heap) (A : Nat → Prop) (H0 : Heap) (locs : List Loc) : Prop :=
  va_K D classes tys s ∧ va_P D classes ws H ∧ va_D A ws ∧ va_S A H0 H locs ∧ ∀ q : Nat, H0.size ≤ q → A q
def clsOK (ci : Nat) (C : String) (T : u_T) (N : Nat) (ty : Nat → FieldType) : Prop :=
  classes[ci]? = some (C, T, N) ∧ (∀ w ∈ u_ws C T N, w ∈ gG) ∧ (∀ k, k < N → parseFieldDescriptor (T k).2.2.1 = some (ty k)) ∧ (∀ a, a < N → ∀ b, b < N → a ≠ b → (T a).2.1 ≠ (T b).2.1)
/-- a method's start: arguments av, the cells ws, sz cells in all -/
def cPre (D : va_G) (tys : List (ClassId × FieldType)) (ws : va_W) (sz : Nat) (av : List Value) : Array Value → State → Prop :=
  va_Pc av (fun U => U.heap.size = sz ∧ va_P D classes ws U.heap ∧ va_K D classes tys U ∧ va_D (fun _ => True) ws ∧ aK U)
/-- the world behind a method -/
def cB (D : va_G) (A : Nat → Prop) (tys : List (ClassId × FieldType)) (ws : va_W) (t : State) : Prop := va_P D classes ws t.heap ∧ va_K D classes tys t ∧ va_D A ws
theorem cPre_blind {D : va_G} {tys : List (ClassId × FieldType)} {ws : va_W} {sz : Nat} {av : List Value} : FrameBlind (cPre D tys ws sz av) := by
  intro a U g mk q
  obtain ⟨q0, q1, qP, qK, qD, qA⟩ := q
  exact ⟨q0, q1, qP, va_K.moved (u := U) (U := U.calling g mk a) (Vm.Alike.refl U.vm) qK, qD, aK.moved (u := U) (U := U.calling g mk a) (Vm.Alike.refl U.vm) qA⟩
theorem k_enter {D : va_G} {tys : List (ClassId × FieldType)} {ws : va_W} {sz : Nat} {av : List Value} {args : Array Value} {s : State} (h : cPre D tys ws sz av args s) : args = av.toArray ∧ aK s ∧ s.heap.size = sz ∧ wX D tys s ws s.heap (va_A ws sz) s.heap [] := by
  obtain ⟨q0, q1, qP, qK, qD, qA⟩ := h
  exact ⟨q0, qA, q1, qK, qP, qD.self, va_S.rf, fun q h => Or.inr (by rw [← q1]; exact h)⟩
theorem k_pre {D : va_G} {tys tc : List (ClassId × FieldType)} {s : State} {ws wc : va_W} {H H0 : Heap} {A : Nat → Prop} {locs : List Loc} (Wd : wX D tys s ws H A H0 locs) (aks : aK s) (isC : List Nat) (hC : isC.map (fun i => ws[i]?) = wc.map some) (hn : va_nd isC = true) (tC : List Nat) (hT : tC.filterMap (fun i => tys[i]?) = tc) (av : List Value) :
    ∀ U : State, U.heap = H → s.WarmedH U.vm → cPre D tc wc H.size av av.toArray U := by
  intro U hU hW
  have h1 : isC.filterMap (fun i => ws[i]?) = wc := by
    have := congrArg (List.filterMap id) hC
    rw [List.filterMap_map, List.filterMap_map] at this
    simpa using this
  exact ⟨rfl, by rw [hU], by rw [hU]; exact Wd.2.1.sub isC h1, va_K.moved hW.alike (Wd.1.sub tC hT), (Wd.2.2.1.sub isC hn hC).weaken (fun _ _ _ _ => trivial), aK.moved hW.alike aks⟩
section KR
variable {p : Program} {l : Launch} {e : Env} {R : Room} {s : State} {m : MethodId} {args : Array Value} {below : List Frame} {meth : Method} {c : Code} {H : Heap} {locs : List Loc} {cells slots : Nat} {Q : State → Prop}
variable {cc : ByteArray} {pc nL : Nat} {ls : Array Slot} {rest : List Value} {D : va_G} {A : Nat → Prop} {a : Nat} {tys : List (ClassId × FieldType)} {ws : va_W} {H0 : Heap} {own : String}
variable {ci N index : Nat} {Cn : String} {T : u_T} {ty : Nat → FieldType} {fs : List Value}
theorem k_get (C : CallFix p m c cc nL s args gG own) (Wd : wX D tys s ws H A H0 locs) (KC : clsOK ci Cn T N ty) (q0 k : Nat) {v : Value} (he : ws[q0]? = some (a, .inr (ci, fs))) (hk : k < N) (hlink : Cond.fieldLink own index (T k).1 (T k).2.1 (T k).2.2.1 ∈ gG) (hv : fs[k]? = some v) (hdg : decode cc pc = .ok (.getfield index, 3))
    (kk : W p l e R s m args below meth c H locs cells slots Q (F0 m (pc + 3) ls (v :: rest))) : W p l e R s m args below meth c H locs cells slots Q (F0 m pc ls (.ref a :: rest)) :=
  va_get C.1 C.2.1 C.2.2.2.2 KC.2.1 C.2.2.2.1 Wd.1 Wd.2.1 q0 he KC.1 k hk (C.2.2.2.2 _ hlink) (fun _ h => h) hv hdg kk
theorem k_put (C : CallFix p m c cc nL s args gG own) (Wd : wX D tys s ws H A H0 locs) (KC : clsOK ci Cn T N ty) (q0 k : Nat) {v : Value} (ws' : va_W) (he : ws[q0]? = some (a, .inr (ci, fs))) (hk : k < N) (hlink : Cond.fieldLink own index (T k).1 (T k).2.1 (T k).2.2.1 ∈ gG) (hfin : (T k).2.2.2 = false) (hn : narrow (ty k) v = v) (hfit : fits (ty k) v = true) (hl : k < fs.length) (hws : ws.set q0 (a, .inr (ci, fs.set k v)) = ws') (hdg : decode cc pc = .ok (.putfield index, 3))
    (kk : ∀ (H1 : Heap) (locs1 : List Loc), wX D tys s ws' H1 A H0 locs1 → W p l e R s m args below meth c H1 locs1 cells slots Q (F0 m (pc + 3) ls rest)) : W p l e R s m args below meth c H locs cells slots Q (F0 m pc ls (v :: .ref a :: rest)) := by
  subst hws
  exact va_put C.1 C.2.1 C.2.2.2.2 KC.2.1 ty KC.2.2.1 KC.2.2.2 C.2.2.2.1 Wd.1 Wd.2.1 Wd.2.2.1 Wd.2.2.2.1 q0 he KC.1 k hk (C.2.2.2.2 _ hlink) (fun _ h => h) hfin (KC.2.2.1 k hk) hn hfit hl hdg (fun H1 locs1 hP hD hS => kk H1 locs1 ⟨Wd.1, hP, hD, hS, Wd.2.2.2.2⟩)
theorem k_putF (C : CallFix p m c cc nL s args gG own) (Wd : wX D tys s ws H A H0 locs) (KC : clsOK ci Cn T N ty) (q0 k : Nat) {v : Value} (ws' : va_W) (he : ws[q0]? = some (a, .inr (ci, fs))) (hk : k < N) (hlink : Cond.fieldLink own index (T k).1 (T k).2.1 (T k).2.2.1 ∈ gG) (hfin : (T k).2.2.2 = true) (hin : meth.name = "<init>") (hdecl : (T k).1 = own) (hn : narrow (ty k) v = v) (hfit : fits (ty k) v = true) (hl : k < fs.length) (hws : ws.set q0 (a, .inr (ci, fs.set k v)) = ws') (hdg : decode cc pc = .ok (.putfield index, 3))
    (kk : ∀ (H1 : Heap) (locs1 : List Loc), wX D tys s ws' H1 A H0 locs1 → W p l e R s m args below meth c H1 locs1 cells slots Q (F0 m (pc + 3) ls rest)) : W p l e R s m args below meth c H locs cells slots Q (F0 m pc ls (v :: .ref a :: rest)) := by
  subst hws
  exact va_putF C.1 C.2.1 C.2.2.2.2 KC.2.1 ty KC.2.2.1 KC.2.2.2 C.2.2.2.1 Wd.1 Wd.2.1 Wd.2.2.1 Wd.2.2.2.1 q0 he KC.1 k hk (C.2.2.2.2 _ hlink) (fun _ h => h) hfin hin hdecl (KC.2.2.1 k hk) hn hfit hl hdg (fun H1 locs1 hP hD hS => kk H1 locs1 ⟨Wd.1, hP, hD, hS, Wd.2.2.2.2⟩)
theorem k_iald (C : CallFix p m c cc nL s args gG own) (Wd : wX D tys s ws H A H0 locs) (q0 t0 : Nat) {cA : ClassId} {n : Nat} {f : Nat → Int32} (ha : ws[q0]? = some (a, .inl (cA, n, .inl f))) (ht : tys[t0]? = some (cA, .int)) {i v : Int32} (hin : vp_in i n) (hv : f i.toNatClampNeg = v) (hdg : decode cc pc = .ok (.iaload, 1))
    (kk : W p l e R s m args below meth c H locs cells slots Q (F0 m (pc + 1) ls (.int v :: rest))) : W p l e R s m args below meth c H locs cells slots Q (F0 m pc ls (.int i :: .ref a :: rest)) := by
  subst hv
  exact va_iald C.1 C.2.1 Wd.1 Wd.2.1 q0 t0 ha ht hin hdg kk
theorem k_iast (C : CallFix p m c cc nL s args gG own) (Wd : wX D tys s ws H A H0 locs) (q0 t0 : Nat) {cA : ClassId} {n : Nat} {f f' : Nat → Int32} (ws' : va_W) (ha : ws[q0]? = some (a, .inl (cA, n, .inl f))) (ht : tys[t0]? = some (cA, .int)) {i x : Int32} (hin : vp_in i n) (hf : upd f i.toNatClampNeg x = f') (hws : ws.set q0 (a, .inl (cA, n, .inl f')) = ws') (hdg : decode cc pc = .ok (.iastore, 1))
    (kk : ∀ (H1 : Heap) (locs1 : List Loc), wX D tys s ws' H1 A H0 locs1 → W p l e R s m args below meth c H1 locs1 cells slots Q (F0 m (pc + 1) ls rest)) : W p l e R s m args below meth c H locs cells slots Q (F0 m pc ls (.int x :: .int i :: .ref a :: rest)) := by
  subst hf
  subst hws
  exact va_iast C.1 C.2.1 Wd.1 Wd.2.1 Wd.2.2.1 Wd.2.2.2.1 q0 t0 ha ht hin hdg (fun H1 locs1 hP hD hS => kk H1 locs1 ⟨Wd.1, hP, hD, hS, Wd.2.2.2.2⟩)
theorem k_alen (C : CallFix p m c cc nL s args gG own) (Wd : wX D tys s ws H A H0 locs) (q0 t0 : Nat) {cA : ClassId} {x : vp_A} (ha : ws[q0]? = some (a, .inl (cA, x))) {ty : FieldType} (ht : tys[t0]? = some (cA, ty)) {v : Int32} (hv : Int32.ofNat x.1 = v) (hdg : decode cc pc = .ok (.arraylength, 1))
    (kk : W p l e R s m args below meth c H locs cells slots Q (F0 m (pc + 1) ls (.int v :: rest))) : W p l e R s m args below meth c H locs cells slots Q (F0 m pc ls (.ref a :: rest)) :=
  va_alen C.1 C.2.1 Wd.1 Wd.2.1 q0 t0 ha ht hv hdg kk
theorem k_aldq (C : CallFix p m c cc nL s args gG own) (Wd : wX D tys s ws H A H0 locs) (q0 t0 : Nat) {cA : ClassId} {E : String} {n : Nat} {f : Nat → Option Nat} (ha : ws[q0]? = some (a, .inl (cA, n, .inr (.inr (.inr (.inr f)))))) (ht : tys[t0]? = some (cA, .object E)) {i : Int32} {v : Value} (hin : vp_in i n) (hv : va_rf (f i.toNatClampNeg) = v) (hdg : decode cc pc = .ok (.aaload, 1))
    (kk : W p l e R s m args below meth c H locs cells slots Q (F0 m (pc + 1) ls (v :: rest))) : W p l e R s m args below meth c H locs cells slots Q (F0 m pc ls (.int i :: .ref a :: rest)) := by
  subst hv
  exact va_aldq C.1 C.2.1 Wd.1 Wd.2.1 q0 t0 ha ht hin hdg kk
/-- a row out of an array of arrays -/
theorem k_aldg (C : CallFix p m c cc nL s args gG own) (Wd : wX D tys s ws H A H0 locs) (q0 t0 : Nat) {cA : ClassId} {te : FieldType} {n : Nat} {f : Nat → Option Nat} (ha : ws[q0]? = some (a, .inl (cA, n, .inr (.inr (.inr (.inr f)))))) (ht : tys[t0]? = some (cA, .array te)) {i : Int32} {v : Value} (hin : vp_in i n) (hv : va_rf (f i.toNatClampNeg) = v) (hdg : decode cc pc = .ok (.aaload, 1))
    (kk : W p l e R s m args below meth c H locs cells slots Q (F0 m (pc + 1) ls (v :: rest))) : W p l e R s m args below meth c H locs cells slots Q (F0 m pc ls (.int i :: .ref a :: rest)) := by
  subst hv
  have hlt : i.toNatClampNeg < n := Nat.not_le.mp fun q => hin (Or.inr q)
  exact W.aald (v := va_rf (f i.toNatClampNeg)) (ty := .array te) C.1 C.2.1 (Wd.2.1 q0 _ ha) ((Wd.1.2 t0 _ ht).1 n (fun j => va_rf (f j))) rfl (fun q => by cases q) (by show ¬ (i < 0 ∨ (arrV _ _ _).slots.size ≤ _); rw [arrV_size]; exact hin) (by show (arrV _ _ _).slots[_]? = _; rw [arrV_read _ _ hlt]) rfl rfl hdg kk
theorem k_astq (C : CallFix p m c cc nL s args gG own) (Wd : wX D tys s ws H A H0 locs) (q0 t0 qk cj : Nat) {cA : ClassId} {r : vw_C} {n v : Nat} {vs : List Value} {f f' : Nat → Option Nat} (ws' : va_W) (ha : ws[q0]? = some (a, .inl (cA, n, .inr (.inr (.inr (.inr f)))))) (ht : tys[t0]? = some (cA, .object r.1)) (hv : ws[qk]? = some (v, .inr (cj, vs))) (hc : classes[cj]? = some r) {i : Int32} (hin : vp_in i n) (hf : va_up f i.toNatClampNeg (some v) = f') (hws : ws.set q0 (a, .inl (cA, n, .inr (.inr (.inr (.inr f'))))) = ws') (hdg : decode cc pc = .ok (.aastore, 1))
    (kk : ∀ (H1 : Heap) (locs1 : List Loc), wX D tys s ws' H1 A H0 locs1 → W p l e R s m args below meth c H1 locs1 cells slots Q (F0 m (pc + 1) ls rest)) : W p l e R s m args below meth c H locs cells slots Q (F0 m pc ls (.ref v :: .int i :: .ref a :: rest)) := by
  subst hf
  subst hws
  exact va_astq C.1 C.2.1 Wd.1 Wd.2.1 Wd.2.2.1 Wd.2.2.2.1 q0 t0 qk cj ha ht hv hc hin hdg (fun H1 locs1 hP hD hS => kk H1 locs1 ⟨Wd.1, hP, hD, hS, Wd.2.2.2.2⟩)
theorem k_newa (C : CallFix p m c cc nL s args gG own) (Wd : wX D tys s ws H A H0 locs) (harr : Cond.arrayClass (newarray.typeOf .int) ∈ gG) {n : Int32} (N' : Nat) (hn : ¬ n < 0) (hN : n.toNatClampNeg = N') (hbytes : N' * 4 ≤ 536870912) {cells' slots' : Nat} (hcells : cells + 1 ≤ R.cells) (hslots : slots + N' ≤ R.slots) (hc' : cells + 1 ≤ cells') (hs' : slots + N' ≤ slots') (hdg : decode cc pc = .ok (.newarray .int, 2))
    (kk : ∀ (q : Nat) (cA : ClassId) (H1 : Heap), wX D (tys ++ [(cA, .int)]) s (ws ++ [(q, .inl (cA, N', .inl (fun _ => 0)))]) H1 A H0 locs → W p l e R s m args below meth c H1 locs cells' slots' Q (F0 m (pc + 2) ls (.ref q :: rest))) : W p l e R s m args below meth c H locs cells slots Q (F0 m pc ls (.int n :: rest)) :=
  va_newa (a0 := (N', .inl (fun _ => 0))) (ty := .int) C.1 C.2.1 (C.2.2.2.2 _ harr) rfl Wd.1 Wd.2.1 Wd.2.2.1 Wd.2.2.2.1 Wd.2.2.2.2 (fun _ => rfl) hn hN hbytes hcells hslots hdg (fun q cA H1 hK hP hD hS => W.widen hc' hs' (kk q cA H1 ⟨hK, hP, hD, hS, Wd.2.2.2.2⟩))
theorem k_newz (C : CallFix p m c cc nL s args gG own) (Wd : wX D tys s ws H A H0 locs) (harr : Cond.arrayClass (newarray.typeOf .boolean) ∈ gG) {n : Int32} (N' : Nat) (hn : ¬ n < 0) (hN : n.toNatClampNeg = N') (hbytes : N' * componentBytes .boolean ≤ 536870912) {cells' slots' : Nat} (hcells : cells + 1 ≤ R.cells) (hslots : slots + N' ≤ R.slots) (hc' : cells + 1 ≤ cells') (hs' : slots + N' ≤ slots') (hdg : decode cc pc = .ok (.newarray .boolean, 2))
    (kk : ∀ (q : Nat) (cA : ClassId) (H1 : Heap), wX D (tys ++ [(cA, .boolean)]) s (ws ++ [(q, .inl (cA, N', .inl (fun _ => 0)))]) H1 A H0 locs → W p l e R s m args below meth c H1 locs cells' slots' Q (F0 m (pc + 2) ls (.ref q :: rest))) : W p l e R s m args below meth c H locs cells slots Q (F0 m pc ls (.int n :: rest)) :=
  va_newa (a0 := (N', .inl (fun _ => 0))) (ty := .boolean) C.1 C.2.1 (C.2.2.2.2 _ harr) rfl Wd.1 Wd.2.1 Wd.2.2.1 Wd.2.2.2.1 Wd.2.2.2.2 (fun _ => rfl) hn hN hbytes hcells hslots hdg (fun q cA H1 hK hP hD hS => W.widen hc' hs' (kk q cA H1 ⟨hK, hP, hD, hS, Wd.2.2.2.2⟩))
theorem k_newq (C : CallFix p m c cc nL s args gG own) (Wd : wX D tys s ws H A H0 locs) {E : String} (hclink : Cond.classLink own index E ∈ gG) (hover : va_AO E s) {n : Int32} (N' : Nat) (hn : ¬ n < 0) (hN : n.toNatClampNeg = N') (hbytes : N' * 4 ≤ 536870912) {cells' slots' : Nat} (hcells : cells + 1 ≤ R.cells) (hslots : slots + N' ≤ R.slots) (hc' : cells + 1 ≤ cells') (hs' : slots + N' ≤ slots') (hdg : decode cc pc = .ok (.anewarray index, 3))
    (kk : ∀ (q : Nat) (cA : ClassId) (H1 : Heap), wX D (tys ++ [(cA, .object E)]) s (ws ++ [(q, .inl (cA, N', .inr (.inr (.inr (.inr (fun _ => none))))))]) H1 A H0 locs → W p l e R s m args below meth c H1 locs cells' slots' Q (F0 m (pc + 3) ls (.ref q :: rest))) : W p l e R s m args below meth c H locs cells slots Q (F0 m pc ls (.int n :: rest)) :=
  va_newq C.1 C.2.1 C.2.2.2.1 (C.2.2.2.2 _ hclink) hover Wd.1 Wd.2.1 Wd.2.2.1 Wd.2.2.2.1 Wd.2.2.2.2 hn hN hbytes hcells hslots hdg (fun q cA H1 hK hP hD hS => W.widen hc' hs' (kk q cA H1 ⟨hK, hP, hD, hS, Wd.2.2.2.2⟩))
theorem k_new (C : CallFix p m c cc nL s args gG own) (Wd : wX D tys s ws H A H0 locs) (KC : clsOK ci Cn T N ty) (hcl : Cond.classLink own index Cn ∈ gG) (hinst : Cond.instantiable Cn N ∈ gG) (hini : Cond.initialized Cn ∈ gG) (fs : List Value) (hfs : (List.range N).all (fun j => decide (defaultValue (ty j) = vp_V fs j)) = true) {cells' slots' : Nat} (hcells : cells + 1 ≤ R.cells) (hslots : slots + N ≤ R.slots) (hc' : cells + 1 ≤ cells') (hs' : slots + N ≤ slots') (hdg : decode cc pc = .ok (.new index, 3))
    (kk : ∀ (q : Nat) (H1 : Heap), wX D tys s (ws ++ [(q, .inr (ci, fs))]) H1 A H0 locs → W p l e R s m args below meth c H1 locs cells' slots' Q (F0 m (pc + 3) ls (.ref q :: rest))) : W p l e R s m args below meth c H locs cells slots Q (F0 m pc ls rest) :=
  va_new C.1 C.2.1 C.2.2.2.2 KC.2.1 ty KC.2.2.1 C.2.2.2.1 (C.2.2.2.2 _ hcl) (C.2.2.2.2 _ hinst) (C.2.2.2.2 _ hini) Wd.1 Wd.2.1 Wd.2.2.1 Wd.2.2.2.1 Wd.2.2.2.2 KC.1 (fun j hj => of_decide_eq_true (List.all_eq_true.mp hfs j (List.mem_range.mpr hj))) hcells hslots hdg (fun q H1 hP hD hS => W.widen hc' hs' (kk q H1 ⟨Wd.1, hP, hD, hS, Wd.2.2.2.2⟩))
theorem k_zald (C : CallFix p m c cc nL s args gG own) (Wd : wX D tys s ws H A H0 locs) (q0 t0 : Nat) {cA : ClassId} {n : Nat} {f : Nat → Int32} (ha : ws[q0]? = some (a, .inl (cA, n, .inl f))) (ht : tys[t0]? = some (cA, .boolean)) {i v : Int32} (hin : vp_in i n) (hv : f i.toNatClampNeg = v) (hdg : decode cc pc = .ok (.baload, 1))
    (kk : W p l e R s m args below meth c H locs cells slots Q (F0 m (pc + 1) ls (.int v :: rest))) : W p l e R s m args below meth c H locs cells slots Q (F0 m pc ls (.int i :: .ref a :: rest)) := by
  subst hv
  exact va_zald C.1 C.2.1 Wd.1 Wd.2.1 q0 t0 ha ht hin hdg kk
theorem k_oinit (C : CallFix p m c cc nL s args gG own) (hls : ls.size = nL) (h1 : Cond.methodLink own index objectInit ∈ gG) (h2 : Cond.instanceMethod objectInit ∈ gG) (h3 : Cond.code objectInit ⟨#[0xb1]⟩ 1 none ∈ gG) (hf : 1 ≤ R.frames) (hl : (rest.map fun v => v.category).sum + 12 ≤ R.locals) (hdg : decode cc pc = .ok (.invokespecial index, 3))
    (kk : W p l e R s m args below meth c H locs cells slots Q (F0 m (pc + 3) ls rest)) : W p l e R s m args below meth c H locs cells slots Q (F0 m pc ls (.ref a :: rest)) :=
  W.objInit C.1 C.2.1 C.2.2.2.1 (C.2.2.2.2 _ h1) (C.2.2.2.2 _ h2) (C.2.2.2.2 _ h3) rfl (hls.trans C.2.2.1.symm) rfl hdg hf (by show 0 + _ + 12 ≤ _; rw [Nat.zero_add]; exact hl) (W.eq rfl kk)
theorem k_mmax (C : CallFix p m c cc nL s args gG own) (hls : ls.size = nL) (h1 : Cond.methodLink own index Lib.Math.max.name ∈ gG) (h2 : Cond.static Lib.Math.max.name ∈ gG) (h3 : Cond.initialized "java/lang/Math" ∈ gG) (h4 : Cond.code Lib.Math.max.name Lib.Math.max.code 2 (some .int) ∈ gG) (hf : 1 ≤ R.frames) (hl : (rest.map fun v => v.category).sum + 13 ≤ R.locals) (hc : cells ≤ R.cells) (hs : slots ≤ R.slots) {x y v : Int32} (hv : (if x < y then y else x) = v) (hdg : decode cc pc = .ok (.invokestatic index, 3))
    (kk : W p l e R s m args below meth c H locs cells slots Q (F0 m (pc + 3) ls (.int v :: rest))) : W p l e R s m args below meth c H locs cells slots Q (F0 m pc ls (.int y :: .int x :: rest)) := by
  subst hv
  exact va_mmax C.1 C.2.1 (C.2.2.1.trans hls.symm) C.2.2.2.1 (C.2.2.2.2 _ h1) (C.2.2.2.2 _ h2) (C.2.2.2.2 _ h3) (C.2.2.2.2 _ h4) hf hl hc hs hdg kk
theorem k_mmin (C : CallFix p m c cc nL s args gG own) (hls : ls.size = nL) (h1 : Cond.methodLink own index Lib.Math.min.name ∈ gG) (h2 : Cond.static Lib.Math.min.name ∈ gG) (h3 : Cond.initialized "java/lang/Math" ∈ gG) (h4 : Cond.code Lib.Math.min.name Lib.Math.min.code 2 (some .int) ∈ gG) (hf : 1 ≤ R.frames) (hl : (rest.map fun v => v.category).sum + 13 ≤ R.locals) (hc : cells ≤ R.cells) (hs : slots ≤ R.slots) {x y v : Int32} (hv : (if y < x then y else x) = v) (hdg : decode cc pc = .ok (.invokestatic index, 3))
    (kk : W p l e R s m args below meth c H locs cells slots Q (F0 m (pc + 3) ls (.int v :: rest))) : W p l e R s m args below meth c H locs cells slots Q (F0 m pc ls (.int y :: .int x :: rest)) := by
  subst hv
  exact va_mmin C.1 C.2.1 (C.2.2.1.trans hls.symm) C.2.2.2.1 (C.2.2.2.2 _ h1) (C.2.2.2.2 _ h2) (C.2.2.2.2 _ h3) (C.2.2.2.2 _ h4) hf hl hc hs hdg kk
theorem k_join {g g0 : JFrame} (hJ : W p l e R s m args below meth c H locs cells slots Q g) (hk : W p l e R s m args below meth c H locs cells slots Q g → W p l e R s m args below meth c H locs cells slots Q g0) : W p l e R s m args below meth c H locs cells slots Q g0 := hk hJ
/-- a loop: its state is a number x that grows to at most 'top', a thing u, heap and locals -/
theorem k_loop {X : Type} (inv : Int32 → X → Heap → List Loc → Array Slot → Prop) (pcH : Nat) (top : Int)
    (step : ∀ (x : Int32) (u : X) (H : Heap) (locs : List Loc) (ls : Array Slot), inv x u H locs ls → (∀ (x' : Int32) (u' : X) (H' : Heap) (locs' : List Loc) (ls' : Array Slot), inv x' u' H' locs' ls' → (top - x'.toInt).toNat < (top - x.toInt).toNat → W p l e R s m args below meth c H' locs' cells slots Q (F0 m pcH ls' [])) → W p l e R s m args below meth c H locs cells slots Q (F0 m pcH ls [])) :
    ∀ (x : Int32) (u : X) (H : Heap) (locs : List Loc) (ls : Array Slot), inv x u H locs ls → W p l e R s m args below meth c H locs cells slots Q (F0 m pcH ls []) := by
  have K : ∀ (n : Nat) (x : Int32) (u : X) (H : Heap) (locs : List Loc) (ls : Array Slot), (top - x.toInt).toNat < n → inv x u H locs ls → W p l e R s m args below meth c H locs cells slots Q (F0 m pcH ls []) := by
    intro n
    induction n with
    | zero => intro x u H locs ls h; exact absurd h (Nat.not_lt_zero _)
    | succ n ih => intro x u H locs ls h hi; exact step x u H locs ls hi (fun x' u' H' locs' ls' hi' hm => ih x' u' H' locs' ls' (by omega) hi')
  exact fun x u H locs ls hi => K _ x u H locs ls (Nat.lt_succ_self _) hi
theorem k_locals {vs : List Value} {n : Nat} (h : (lg_sl vs).length ≤ n) (lv' : List (Nat × Value)) (hl : lv_args 0 vs = lv') (kk : ∀ ls : Array Slot, lv_has ls n lv' → W p l e R s m args below meth c H locs cells slots Q (F0 m 0 ls [])) : W p l e R s m args below meth c H locs cells slots Q (entryFrame m vs.toArray n) := by
  subst hl
  rw [lg_entry_eq]
  exact kk _ (lv_entry vs h)
theorem k_iadd (C : CallFix p m c cc nL s args gG own) {x y v : Int32} (hv : x + y = v) (hdg : decode cc pc = .ok (.iadd, 1)) (kk : W p l e R s m args below meth c H locs cells slots Q (F0 m (pc + 1) ls (.int v :: rest))) : W p l e R s m args below meth c H locs cells slots Q (F0 m pc ls (.int y :: .int x :: rest)) := by
  subst hv
  exact lv_iadd C.1 C.2.1 hdg kk
theorem k_isub (C : CallFix p m c cc nL s args gG own) {x y v : Int32} (hv : x - y = v) (hdg : decode cc pc = .ok (.isub, 1)) (kk : W p l e R s m args below meth c H locs cells slots Q (F0 m (pc + 1) ls (.int v :: rest))) : W p l e R s m args below meth c H locs cells slots Q (F0 m pc ls (.int y :: .int x :: rest)) := by
  subst hv
  exact lv_isub C.1 C.2.1 hdg kk
theorem k_imul (C : CallFix p m c cc nL s args gG own) {x y v : Int32} (hv : x * y = v) (hdg : decode cc pc = .ok (.imul, 1)) (kk : W p l e R s m args below meth c H locs cells slots Q (F0 m (pc + 1) ls (.int v :: rest))) : W p l e R s m args below meth c H locs cells slots Q (F0 m pc ls (.int y :: .int x :: rest)) := by
  subst hv
  exact lv_imul C.1 C.2.1 hdg kk
theorem k_iand (C : CallFix p m c cc nL s args gG own) {x y v : Int32} (hv : x &&& y = v) (hdg : decode cc pc = .ok (.iand, 1)) (kk : W p l e R s m args below meth c H locs cells slots Q (F0 m (pc + 1) ls (.int v :: rest))) : W p l e R s m args below meth c H locs cells slots Q (F0 m pc ls (.int y :: .int x :: rest)) := by
  subst hv
  exact lv_iand C.1 C.2.1 hdg kk
theorem k_ior (C : CallFix p m c cc nL s args gG own) {x y v : Int32} (hv : x ||| y = v) (hdg : decode cc pc = .ok (.ior, 1)) (kk : W p l e R s m args below meth c H locs cells slots Q (F0 m (pc + 1) ls (.int v :: rest))) : W p l e R s m args below meth c H locs cells slots Q (F0 m pc ls (.int y :: .int x :: rest)) := by
  subst hv
  exact lv_ior C.1 C.2.1 hdg kk
theorem k_ixor (C : CallFix p m c cc nL s args gG own) {x y v : Int32} (hv : x ^^^ y = v) (hdg : decode cc pc = .ok (.ixor, 1)) (kk : W p l e R s m args below meth c H locs cells slots Q (F0 m (pc + 1) ls (.int v :: rest))) : W p l e R s m args below meth c H locs cells slots Q (F0 m pc ls (.int y :: .int x :: rest)) := by
  subst hv
  exact lv_ixor C.1 C.2.1 hdg kk
theorem k_ishl (C : CallFix p m c cc nL s args gG own) {x y v : Int32} (hv : x <<< (y &&& 31) = v) (hdg : decode cc pc = .ok (.ishl, 1)) (kk : W p l e R s m args below meth c H locs cells slots Q (F0 m (pc + 1) ls (.int v :: rest))) : W p l e R s m args below meth c H locs cells slots Q (F0 m pc ls (.int y :: .int x :: rest)) := by
  subst hv
  exact lv_ishl C.1 C.2.1 hdg kk
theorem k_ishr (C : CallFix p m c cc nL s args gG own) {x y v : Int32} (hv : x >>> (y &&& 31) = v) (hdg : decode cc pc = .ok (.ishr, 1)) (kk : W p l e R s m args below meth c H locs cells slots Q (F0 m (pc + 1) ls (.int v :: rest))) : W p l e R s m args below meth c H locs cells slots Q (F0 m pc ls (.int y :: .int x :: rest)) := by
  subst hv
  exact lv_ishr C.1 C.2.1 hdg kk
theorem k_idiv (C : CallFix p m c cc nL s args gG own) {x y v : Int32} (hne : ¬ y = 0) (hv : x / y = v) (hdg : decode cc pc = .ok (.idiv, 1)) (kk : W p l e R s m args below meth c H locs cells slots Q (F0 m (pc + 1) ls (.int v :: rest))) : W p l e R s m args below meth c H locs cells slots Q (F0 m pc ls (.int y :: .int x :: rest)) := by
  subst hv
  exact lv_idiv C.1 C.2.1 hdg hne kk
theorem k_irem (C : CallFix p m c cc nL s args gG own) {x y v : Int32} (hne : ¬ y = 0) (hv : x - x / y * y = v) (hdg : decode cc pc = .ok (.irem, 1)) (kk : W p l e R s m args below meth c H locs cells slots Q (F0 m (pc + 1) ls (.int v :: rest))) : W p l e R s m args below meth c H locs cells slots Q (F0 m pc ls (.int y :: .int x :: rest)) := by
  subst hv
  exact lv_irem C.1 C.2.1 hdg hne kk
end KR
section KC
variable {p : Program} {l : Launch} {e : Env} {R : Room} {s : State} {m : MethodId} {args : Array Value} {below : List Frame} {meth : Method} {c : Code} {H : Heap} {locs : List Loc} {cells slots : Nat} {Q : State → Prop}
variable {cc bytes : ByteArray} {pc nL maxL : Nat} {ls : Array Slot} {rest st0 As : List Value} {D : va_G} {A : Nat → Prop} {b : Nat} {tys tc : List (ClassId × FieldType)} {ws wc wr : va_W} {H0 : Heap} {own Cn : String} {y : MethodName} {ret : Option FieldType} {rm : Room} {mc ms n index : Nat} {Qc : Array Value → State → Outcome → State → Prop} {free : Addr → Prop} {S : Type}
/-- what a call site needs of the tables -/
def csV (own : String) (idx : Nat) (Cn : String) (y : MethodName) (bytes : ByteArray) (maxL : Nat) (ret : Option FieldType) (n : Nat) : Prop := GoodIn gG (wsV own idx Cn y (Cond.code y bytes maxL ret :: gG)) ∧ (y.cls = Cn ∧ y.cls ≠ "java/lang/invoke/MethodHandle" ∧ y.cls ≠ "java/lang/invoke/VarHandle" ∧ (parseMethodDescriptor y.desc).map (fun d => d.parameters.length) = some n)
def csS (own : String) (idx : Nat) (y : MethodName) (bytes : ByteArray) (maxL : Nat) (ret : Option FieldType) (n : Nat) : Prop := GoodIn gG (va_wsS own idx y (Cond.code y bytes maxL ret :: gG)) ∧ (y.cls ≠ "java/lang/invoke/MethodHandle" ∧ y.cls ≠ "java/lang/invoke/VarHandle" ∧ (parseMethodDescriptor y.desc).map (fun d => d.parameters.length) = some n)
def csI (own : String) (idx : Nat) (y : MethodName) (bytes : ByteArray) (maxL : Nat) (n : Nat) : Prop := GoodIn gG (Cond.code y bytes maxL none :: gG) ∧ Cond.initialized y.cls ∈ gG ∧ Cond.methodLink own idx y ∈ gG ∧ Cond.instanceMethod y ∈ gG ∧ y.name = "<init>" ∧ (y.cls ≠ "java/lang/invoke/MethodHandle" ∧ y.cls ≠ "java/lang/invoke/VarHandle" ∧ (parseMethodDescriptor y.desc).map (fun d => d.parameters.length) = some n)
theorem gG_self (w : Cond) (h : w ∈ gG) : w ∈ gG ∧ ((w.onTables && w.keeps) = true ∨ ∃ ty, w = .arrayClass ty) := ⟨h, good_of_word (List.mem_filter.mp h).2⟩
theorem gV {Cn : String} {idx : Nat} (h1 : Cond.methodLink own idx y ∈ gG) (h2 : Cond.instanceMethod y ∈ gG) (h3 : Cond.selects Cn y y ∈ gG) (h4 : Cond.initialized Cn ∈ gG) (h5 : Cond.code y bytes maxL ret ∈ gG) : GoodIn gG (wsV own idx Cn y (Cond.code y bytes maxL ret :: gG)) := by
  intro w h
  refine gG_self w ?_
  rcases List.mem_append.mp h with h | h
  · rcases List.mem_cons.mp h with rfl | h
    · exact h1
    rcases List.mem_cons.mp h with rfl | h
    · exact h2
    rcases List.mem_cons.mp h with rfl | h
    · exact h3
    rcases List.mem_cons.mp h with rfl | h
    · exact h4
    exact absurd h List.not_mem_nil
  · rcases List.mem_cons.mp h with rfl | h
    · exact h5
    · exact h
theorem gS {idx : Nat} (h1 : Cond.methodLink own idx y ∈ gG) (h2 : Cond.static y ∈ gG) (h4 : Cond.initialized y.cls ∈ gG) (h5 : Cond.code y bytes maxL ret ∈ gG) : GoodIn gG (va_wsS own idx y (Cond.code y bytes maxL ret :: gG)) := by
  intro w h
  refine gG_self w ?_
  rcases List.mem_append.mp h with h | h
  · rcases List.mem_cons.mp h with rfl | h
    · exact h1
    rcases List.mem_cons.mp h with rfl | h
    · exact h2
    rcases List.mem_cons.mp h with rfl | h
    · exact h4
    exact absurd h List.not_mem_nil
  · rcases List.mem_cons.mp h with rfl | h
    · exact h5
    · exact h
theorem gI (h5 : Cond.code y bytes maxL ret ∈ gG) : GoodIn gG (Cond.code y bytes maxL ret :: gG) := by
  intro w h
  refine gG_self w ?_
  rcases List.mem_cons.mp h with rfl | h
  · exact h5
  · exact h
theorem k_runV (C : CallFix p m c cc nL s args gG own) (aks : aK s) (Wd : wX D tys s ws H A H0 locs) (cs : csV own index Cn y bytes maxL ret n) (hM : Met l y (Cond.code y bytes maxL ret :: gG) rm (cPre D tc wc H.size (.ref b :: As)) Qc mc ms free) (isC : List Nat) (hC : isC.map (fun i => ws[i]?) = wc.map some) (hnd : va_nd isC = true) (tC : List Nat) (hT : tC.filterMap (fun i => tys[i]?) = tc) (q0 ci : Nat) {r : vw_C} {fs : List Value} (he : ws[q0]? = some (b, .inr (ci, fs))) (hcl : classes[ci]? = some r) (hcn : r.1 = Cn) (hrc : rm.cells = mc) (hrs : rm.slots = ms) (hR : rm.frames + 1 ≤ R.frames ∧ 8 + (maxL + 11) + rm.locals ≤ R.locals) (hls : ls.size = nL) (hn : As.length = n) (hst : st0 = As.reverse ++ .ref b :: rest) (hW : (rest.map fun v => v.category).sum ≤ 8) (hf : cells + mc ≤ R.cells ∧ slots + ms ≤ R.slots) (hdg : decode cc pc = .ok (.invokevirtual index, 3)) :
    va_Run p l e R s m args below meth c H locs cells slots mc ms (F0 m pc ls st0) rest (Qc (Value.ref b :: As).toArray) free := by
  subst hcn
  exact va_runV C hM (cwV n C.2.2.2.2 cs.1 rfl hrc hrs cs.2 hR) ⟨cPre_blind, va_recv Wd.1 Wd.2.1 hcl he, k_pre Wd aks isC hC hnd tC hT _⟩ rfl hn hls hst (lv_room hW) hdg hf
theorem k_runS (C : CallFix p m c cc nL s args gG own) (aks : aK s) (Wd : wX D tys s ws H A H0 locs) (cs : csS own index y bytes maxL ret n) (hM : Met l y (Cond.code y bytes maxL ret :: gG) rm (cPre D tc wc H.size As) Qc mc ms free) (isC : List Nat) (hC : isC.map (fun i => ws[i]?) = wc.map some) (hnd : va_nd isC = true) (tC : List Nat) (hT : tC.filterMap (fun i => tys[i]?) = tc) (hrc : rm.cells = mc) (hrs : rm.slots = ms) (hR : rm.frames + 1 ≤ R.frames ∧ 8 + (maxL + 11) + rm.locals ≤ R.locals) (hls : ls.size = nL) (hn : As.length = n) (hst : st0 = As.reverse ++ rest) (hW : (rest.map fun v => v.category).sum ≤ 8) (hf : cells + mc ≤ R.cells ∧ slots + ms ≤ R.slots) (hdg : decode cc pc = .ok (.invokestatic index, 3)) :
    va_Run p l e R s m args below meth c H locs cells slots mc ms (F0 m pc ls st0) rest (Qc As.toArray) free :=
  va_runS C hM (va_cwS n C.2.2.2.2 cs.1 rfl hrc hrs cs.2 hR) ⟨cPre_blind, k_pre Wd aks isC hC hnd tC hT _⟩ rfl hn hls hst (lv_room hW) hdg hf
theorem k_runI (C : CallFix p m c cc nL s args gG own) (aks : aK s) (Wd : wX D tys s ws H A H0 locs) (cs : csI own index y bytes maxL n) (hM : Met l y (Cond.code y bytes maxL none :: gG) rm (cPre D tc wc H.size (.ref b :: As)) Qc mc ms free) (isC : List Nat) (hC : isC.map (fun i => ws[i]?) = wc.map some) (hnd : va_nd isC = true) (tC : List Nat) (hT : tC.filterMap (fun i => tys[i]?) = tc) (hrc : rm.cells = mc) (hrs : rm.slots = ms) (hR : rm.frames + 1 ≤ R.frames ∧ 8 + (maxL + 11) + rm.locals ≤ R.locals) (hls : ls.size = nL) (hn : As.length = n) (hst : st0 = As.reverse ++ .ref b :: rest) (hW : (rest.map fun v => v.category).sum ≤ 8) (hf : cells + mc ≤ R.cells ∧ slots + ms ≤ R.slots) (hdg : decode cc pc = .ok (.invokespecial index, 3)) :
    va_Run p l e R s m args below meth c H locs cells slots mc ms (F0 m pc ls st0) rest (Qc (Value.ref b :: As).toArray) free :=
  va_runI C hM (cwI n C.2.2.2.2 cs.1 rfl hrc hrs (C.2.2.2.2 _ cs.2.1) (C.2.2.2.2 _ cs.2.2.1) (C.2.2.2.2 _ cs.2.2.2.1) cs.2.2.2.2.1 cs.2.2.2.2.2 hR) ⟨cPre_blind, k_pre Wd aks isC hC hnd tC hT _⟩ rfl hn hls hst (lv_room hW) hdg hf
theorem k_after {post : S → State → Prop} {H1 : Heap} {locs1 : List Loc} {t : State} {w1 : va_W} {t1 : List (ClassId × FieldType)} (Wd : wX D tys s ws H A H0 locs) (isC isR : List Nat) (hC : isC.map (fun i => ws[i]?) = wc.map some) (hR : isR.map (fun i => ws[i]?) = wr.map some) (hn : va_nd isR = true) (hdis : ∀ i ∈ isR, i ∉ isC)
    (ht : t.heap = H1) (hvm : s.vm.Alike t.vm) (hB : cB D (va_A wc H.size) t1 w1 t) (hk : ∀ q : Nat, q < H.size → ¬ va_A wc H.size q → H1[q]? = H[q]?) (hS : va_S A H0 H1 locs1) : wX D (tys ++ t1) s (wr ++ w1) H1 A H0 locs1 := by
  obtain ⟨hP1, hK1, hD1⟩ := hB
  rw [ht] at hP1
  have hFc := va_free (wc := wc) Wd.2.2.1 Wd.2.2.2.1 Wd.2.2.2.2 isC hC
  obtain ⟨hP, hD⟩ := va_join Wd.2.1 Wd.2.2.1 isC isR hC hR hn hdis hk hFc hP1 hD1
  exact ⟨Wd.1.app (va_K.moved hvm.symm hK1), hP, hD, hS, Wd.2.2.2.2⟩
theorem k_ci {post : Int32 → S → Prop} {w1 : S → va_W} {t1 : S → List (ClassId × FieldType)} {av : Array Value} (Wd : wX D tys s ws H A H0 locs) (isC isR : List Nat) (hC : isC.map (fun i => ws[i]?) = wc.map some) (hR : isR.map (fun i => ws[i]?) = wr.map some) (hn : va_nd isR = true) (hdis : ∀ i ∈ isR, i ∉ isC) {cells' slots' : Nat} (hc' : cells + mc ≤ cells') (hs' : slots + ms ≤ slots')
    (hr : va_Run p l e R s m args below meth c H locs cells slots mc ms (F0 m pc ls st0) rest (va_Qi post (fun u t => cB D (va_A wc H.size) (t1 u) (w1 u) t) (va_A wc H.size) av) (va_A wc H.size))
    (kk : ∀ (r : Int32) (u : S) (H1 : Heap) (locs1 : List Loc), post r u → wX D (tys ++ t1 u) s (wr ++ w1 u) H1 A H0 locs1 → W p l e R s m args below meth c H1 locs1 cells' slots' Q (F0 m (pc + 3) ls (.int r :: rest))) : W p l e R s m args below meth c H locs cells slots Q (F0 m pc ls st0) := by
  have hFc := va_free (wc := wc) Wd.2.2.1 Wd.2.2.2.1 Wd.2.2.2.2 isC hC
  exact va_calli hr Wd.2.2.2.1 (fun q _ h => hFc q h) hFc (fun r u t H1 locs1 ht hvm hw hB hz1 hk1 hS => W.widen hc' hs' (kk r u H1 locs1 hw (k_after (S := S) (post := fun _ _ => True) Wd isC isR hC hR hn hdis ht hvm hB hk1 hS)))
theorem k_cv {post : S → Prop} {w1 : S → va_W} {t1 : S → List (ClassId × FieldType)} {av : Array Value} (Wd : wX D tys s ws H A H0 locs) (isC isR : List Nat) (hC : isC.map (fun i => ws[i]?) = wc.map some) (hR : isR.map (fun i => ws[i]?) = wr.map some) (hn : va_nd isR = true) (hdis : ∀ i ∈ isR, i ∉ isC) {cells' slots' : Nat} (hc' : cells + mc ≤ cells') (hs' : slots + ms ≤ slots')
    (hr : va_Run p l e R s m args below meth c H locs cells slots mc ms (F0 m pc ls st0) rest (va_Qv post (fun u t => cB D (va_A wc H.size) (t1 u) (w1 u) t) (va_A wc H.size) av) (va_A wc H.size))
    (kk : ∀ (u : S) (H1 : Heap) (locs1 : List Loc), post u → wX D (tys ++ t1 u) s (wr ++ w1 u) H1 A H0 locs1 → W p l e R s m args below meth c H1 locs1 cells' slots' Q (F0 m (pc + 3) ls rest)) : W p l e R s m args below meth c H locs cells slots Q (F0 m pc ls st0) := by
  have hFc := va_free (wc := wc) Wd.2.2.1 Wd.2.2.2.1 Wd.2.2.2.2 isC hC
  exact va_callv hr Wd.2.2.2.1 (fun q _ h => hFc q h) hFc (fun u t H1 locs1 ht hvm hw hB hz1 hk1 hS => W.widen hc' hs' (kk u H1 locs1 hw (k_after (S := S) (post := fun _ _ => True) Wd isC isR hC hR hn hdis ht hvm hB hk1 hS)))
/-- a call that changes nothing, back with a number, nothing, or a reference -/
theorem va_Run.flat {Qa : State → Outcome → State → Prop} (h : va_Run p l e R s m args below meth c H locs cells slots mc ms (F0 m pc ls st0) rest Qa free) : CallRun p l e R s m args below meth c H locs cells slots mc ms (F0 m pc ls st0) rest Qa free := by
  intro T hT X
  obtain ⟨v, st₀, t, T', L, h0, X', hL, e1, e2, hq, st⟩ := h T hT X
  exact ⟨v, st₀, t, T', L, h0, X', hL, e1, hq, st⟩
theorem k_pi {post : Int32 → Prop} {av : Array Value} (hr : va_Run p l e R s m args below meth c H locs cells slots 0 0 (F0 m pc ls st0) rest (vp_Si post av) (fun _ => False))
    (kk : ∀ r : Int32, post r → W p l e R s m args below meth c H locs cells slots Q (F0 m (pc + 3) ls (.int r :: rest))) : W p l e R s m args below meth c H locs cells slots Q (F0 m pc ls st0) := vp_callSi hr.flat kk
theorem k_pv {post : Unit → Prop} {av : Array Value} (hr : va_Run p l e R s m args below meth c H locs cells slots 0 0 (F0 m pc ls st0) rest (va_Sv post av) (fun _ => False))
    (kk : post () → W p l e R s m args below meth c H locs cells slots Q (F0 m (pc + 3) ls rest)) : W p l e R s m args below meth c H locs cells slots Q (F0 m pc ls st0) := va_csv hr.flat (fun h => kk h)
theorem k_pq {post : Option Nat → Prop} {av : Array Value} (hr : va_Run p l e R s m args below meth c H locs cells slots 0 0 (F0 m pc ls st0) rest (va_Sq post av) (fun _ => False))
    (kk : ∀ r : Option Nat, post r → W p l e R s m args below meth c H locs cells slots Q (F0 m (pc + 3) ls (va_rf r :: rest))) : W p l e R s m args below meth c H locs cells slots Q (F0 m pc ls st0) := va_csq hr.flat kk
theorem k_end {w1 : va_W} {t1 : List (ClassId × FieldType)} (Wd : wX D tys s ws H A s.heap locs) (is : List Nat) (hI : is.map (fun i => ws[i]?) = w1.map some) (hnd : va_nd is = true) (ts : List Nat) (hT : ts.filterMap (fun i => tys[i]?) = t1) {t : State} (ht : t.heap = H) (hW : s.WarmedH t.vm) : cB D A t1 w1 t ∧ va_F A s t := by
  have h1 : is.filterMap (fun i => ws[i]?) = w1 := by
    have := congrArg (List.filterMap id) hI
    rw [List.filterMap_map, List.filterMap_map] at this
    simpa using this
  exact ⟨⟨by rw [ht]; exact Wd.2.1.sub is h1, va_K.moved hW.alike (Wd.1.sub ts hT), Wd.2.2.1.sub is hnd hI⟩, Wd.2.2.2.1.F ht⟩
theorem k_zret {post : Int32 → S → Prop} {w1 : S → va_W} {t1 : S → List (ClassId × FieldType)} {ty : FieldType} {v : Int32} (C : CallFix p m c cc nL s args gG own) (hr : meth.sig.returnType = some ty) (hlk : meth.locks = false) (hnr : narrow ty (.int v) = .int v) (Wd : wX D tys s ws H A s.heap locs) (u : S) (hp : post v u) (is : List Nat) (hI : is.map (fun i => ws[i]?) = (w1 u).map some) (hnd : va_nd is = true) (ts : List Nat) (hT : ts.filterMap (fun i => tys[i]?) = t1 u) (h1 : cells ≤ mc) (h2 : slots ≤ ms) (hdg : decode cc pc = .ok (.ireturn, 1)) :
    W p l e R s m args below meth c H locs cells slots (MQ below (va_Qi post (fun u t => cB D A (t1 u) (w1 u) t) A) args s mc ms A) (F0 m pc ls [.int v]) :=
  W.widen h1 h2 (W.zret (ty := ty) C.1 C.2.1 hr hnr (fun t ht hW => ⟨⟨v, u, rfl, hp, (k_end Wd is hI hnd ts hT ht hW).1⟩, (k_end Wd is hI hnd ts hT ht hW).2⟩) Wd.2.2.2.1.2.2 hdg hlk)
theorem k_vret {post : S → Prop} {w1 : S → va_W} {t1 : S → List (ClassId × FieldType)} (C : CallFix p m c cc nL s args gG own) (hr : meth.sig.returnType = none) (hlk : meth.locks = false) (Wd : wX D tys s ws H A s.heap locs) (u : S) (hp : post u) (is : List Nat) (hI : is.map (fun i => ws[i]?) = (w1 u).map some) (hnd : va_nd is = true) (ts : List Nat) (hT : ts.filterMap (fun i => tys[i]?) = t1 u) (h1 : cells ≤ mc) (h2 : slots ≤ ms) (hdg : decode cc pc = .ok (.return_, 1)) :
    W p l e R s m args below meth c H locs cells slots (MQ below (va_Qv post (fun u t => cB D A (t1 u) (w1 u) t) A) args s mc ms A) (F0 m pc ls []) :=
  W.widen h1 h2 (W.vret C.1 C.2.1 hr (fun t ht hW => ⟨⟨u, rfl, hp, (k_end Wd is hI hnd ts hT ht hW).1⟩, (k_end Wd is hI hnd ts hT ht hW).2⟩) Wd.2.2.2.1.2.2 hdg hlk)
theorem k_zretP {post : Int32 → Prop} {ty : FieldType} {v : Int32} (C : CallFix p m c cc nL s args gG own) (hr : meth.sig.returnType = some ty) (hlk : meth.locks = false) (hnr : narrow ty (.int v) = .int v) (hp : post v) (hdg : decode cc pc = .ok (.ireturn, 1)) :
    W p l e R s m args below meth c s.heap [] 0 0 (MQ below (vp_Si post) args s 0 0 (fun _ => False)) (F0 m pc ls [.int v]) :=
  W.zret (ty := ty) C.1 C.2.1 hr hnr (fun t ht _ => ⟨v, rfl, hp, ht⟩) (fun _ h => absurd h List.not_mem_nil) hdg hlk
theorem k_vretP {post : Unit → Prop} (C : CallFix p m c cc nL s args gG own) (hr : meth.sig.returnType = none) (hlk : meth.locks = false) (hp : post ()) (hdg : decode cc pc = .ok (.return_, 1)) :
    W p l e R s m args below meth c s.heap [] 0 0 (MQ below (va_Sv post) args s 0 0 (fun _ => False)) (F0 m pc ls []) :=
  W.vret C.1 C.2.1 hr (fun t ht _ => ⟨rfl, hp, ht⟩) (fun _ h => absurd h List.not_mem_nil) hdg hlk
theorem k_aretP {post : Option Nat → Prop} {rn : String} {v : Value} (r : Option Nat) (hv : v = va_rf r) (C : CallFix p m c cc nL s args gG own) (hr : meth.sig.returnType = some (.object rn)) (hlk : meth.locks = false) (hp : post r) (hdg : decode cc pc = .ok (.areturn, 1)) :
    W p l e R s m args below meth c s.heap [] 0 0 (MQ below (va_Sq post) args s 0 0 (fun _ => False)) (F0 m pc ls [v]) := by
  subst hv
  exact W.aret C.1 C.2.1 hr (Or.inl ⟨rn, rfl⟩) (va_rf_or r) (fun t ht _ => ⟨r, rfl, hp, ht⟩) (fun _ h => absurd h List.not_mem_nil) hdg hlk
end KC
theorem upd0 (k : Nat) : upd (fun _ => 0) k 0 = fun _ => (0 : Int32) := by
  funext j
  unfold upd
  split <;> rfl
theorem kz_lt {a b : Int32} (h : a < b) : a.toInt < b.toInt := Int32.lt_iff_toInt_lt.mp h
theorem kz_le {a b : Int32} (h : a ≤ b) : a.toInt ≤ b.toInt := Int32.le_iff_toInt_le.mp h
theorem kz_nlt {a b : Int32} (h : ¬ a < b) : b.toInt ≤ a.toInt := Int.not_lt.mp (fun q => h (Int32.lt_iff_toInt_lt.mpr q))
theorem kz_nle {a b : Int32} (h : ¬ a ≤ b) : b.toInt < a.toInt := Int.not_le.mp (fun q => h (Int32.le_iff_toInt_le.mpr q))
theorem kz_eq {a b : Int32} (h : a = b) : a.toInt = b.toInt := by rw [h]
theorem kz_ne {a b : Int32} (h : ¬ a = b) : ¬ a.toInt = b.toInt := fun q => h (Int32.toInt_inj.mp q)
theorem kz_inj {a b : Int32} (h : a.toInt = b.toInt) : a = b := Int32.toInt_inj.mp h
theorem kz_subI {a b : Int32} : (a.toInt - b.toInt < -2147483648 ∨ 2147483648 ≤ a.toInt - b.toInt) ∨ (a - b).toInt = a.toInt - b.toInt := by
  have h := Int32.toInt_sub a b
  by_cases h1 : a.toInt - b.toInt < -2147483648 ∨ 2147483648 ≤ a.toInt - b.toInt
  · exact Or.inl h1
  · refine Or.inr ?_
    rw [h]
    apply Int.bmod_eq_of_le
    · omega
    · omega
theorem kz_addI {a b : Int32} : (a.toInt + b.toInt < -2147483648 ∨ 2147483648 ≤ a.toInt + b.toInt) ∨ (a + b).toInt = a.toInt + b.toInt := by
  have h := Int32.toInt_add a b
  by_cases h1 : a.toInt + b.toInt < -2147483648 ∨ 2147483648 ≤ a.toInt + b.toInt
  · exact Or.inl h1
  · refine Or.inr ?_
    rw [h]
    apply Int.bmod_eq_of_le
    · omega
    · omega
section KM
variable {p : Program} {l : Launch} {e : Env} {R : Room} {s : State} {m : MethodId} {args : Array Value} {below : List Frame} {meth : Method} {c : Code} {H : Heap} {locs : List Loc} {cells slots : Nat} {Q : State → Prop}
variable {cc : ByteArray} {pc nL : Nat} {ls : Array Slot} {rest : List Value} {D : va_G} {A : Nat → Prop} {tys : List (ClassId × FieldType)} {ws : va_W} {H0 : Heap} {own : String} {index : Nat}
theorem k_mna (C : CallFix p m c cc nL s args gG own) (Wd : wX D tys s ws H A H0 locs) (hclink : Cond.classLink own index "[[I" ∈ gG) (hover : va_AOA .int s) (harr : Cond.arrayClass .int ∈ gG) (t0 : Nat) {cy : ClassId} (ht : tys[t0]? = some (cy, .int)) {n k : Int32} (N' K' : Nat) (hn : ¬ n < 0) (hk : ¬ k < 0) (hN : n.toNatClampNeg = N') (hM : k.toNatClampNeg = K') (hb1 : N' * 4 ≤ 536870912) (hb2 : K' * 4 ≤ 536870912) {cells' slots' : Nat} (hcells : cells + (1 + N') ≤ R.cells) (hslots : slots + (N' + N' * K') ≤ R.slots) (hc' : cells + 1 + N' ≤ cells') (hs' : slots + N' + N' * K' ≤ slots') (hdg : decode cc pc = .ok (.multianewarray index 2, 4))
    (kk : ∀ (q : Nat) (r : Nat → Nat) (cA : ClassId) (H1 : Heap), wX D (tys ++ [(cA, .array .int)]) s ((ws ++ [(q, .inl (cA, N', .inr (.inr (.inr (.inr (fun i => if i < N' then some (r i) else none))))))]) ++ ((List.range N').map r).map (fun a => (a, .inl (cy, K', .inl (fun _ => 0))))) H1 A H0 locs → W p l e R s m args below meth c H1 locs cells' slots' Q (F0 m (pc + 4) ls (.ref q :: rest))) : W p l e R s m args below meth c H locs cells slots Q (F0 m pc ls (.int k :: .int n :: rest)) := by
  have e0 : ws ++ va_pl [] (fun _ => (.inl (cy, (K', .inl (fun _ => 0))) : va_E)) = ws := List.append_nil ws
  refine va_mna (X := ws) (L := []) (f := fun _ => .inl (cy, (K', .inl (fun _ => 0)))) (z := (K', .inl (fun _ => 0))) (ty := .int) (cy := cy) C.1 C.2.1 C.2.2.2.1 (C.2.2.2.2 _ hclink) hover (C.2.2.2.2 _ harr) ((Wd.1.2 t0 _ ht).2) Wd.1 (by rw [e0]; exact Wd.2.1) (by rw [e0]; exact Wd.2.2.1) Wd.2.2.2.1 Wd.2.2.2.2 hn hk hN hM hb1 hb2 (by omega) rfl rfl hcells hslots (fun _ => arrV_new _ _ _) hdg (fun q r cA H1 hinj hnl hK hP hD hS => ?_)
  refine W.widen hc' hs' (kk q r cA H1 ⟨hK, ?_, ?_, hS, Wd.2.2.2.2⟩)
  · rw [← vr_rows (fun a _ h => absurd h List.not_mem_nil)] at hP
    exact hP
  · rw [← vr_rows (fun a _ h => absurd h List.not_mem_nil)] at hD
    exact hD
end KM
end
section
set_option maxRecDepth 20000 in
theorem ml_X11_1 : Cond.methodLink RX11 1 objectInit ∈ gG := gT1 25 rfl rfl
set_option maxRecDepth 20000 in
theorem im_objectInit : Cond.instanceMethod objectInit ∈ gG := gT1 26 rfl rfl
set_option maxRecDepth 20000 in
theorem cd_obj : Cond.code objectInit ⟨#[0xb1]⟩ 1 none ∈ gG := gT1 27 rfl rfl
set_option maxRecDepth 20000 in
theorem cl_X11_9 : Cond.classLink RX11 9 RX8 ∈ gG := gT1 28 rfl rfl
set_option maxRecDepth 20000 in
theorem fl_X11_11 : Cond.fieldLink RX11 11 "SameAfter" "slots" "[LSameAfter$Row;" ∈ gG := gT2 180 rfl rfl
set_option maxRecDepth 20000 in
theorem is_X8 : Cond.instantiable RX8 2 ∈ gG := gT1 30 rfl rfl
set_option maxRecDepth 20000 in
theorem in_X8 : Cond.initialized RX8 ∈ gG := gT1 2 rfl rfl
set_option maxRecDepth 20000 in
theorem ml_X8_3 : Cond.methodLink RX8 3 objectInit ∈ gG := gT1 34 rfl rfl
set_option maxRecDepth 20000 in
theorem ml_X8_9 : Cond.methodLink RX8 9 Lib.Math.max.name ∈ gG := gT1 35 rfl rfl
set_option maxRecDepth 20000 in
theorem st_Lib_Math_max_name : Cond.static Lib.Math.max.name ∈ gG := gT1 36 rfl rfl
set_option maxRecDepth 20000 in
theorem in_J9 : Cond.initialized RJ9 ∈ gG := gT1 3 rfl rfl
set_option maxRecDepth 20000 in
theorem cd_max : Cond.code Lib.Math.max.name Lib.Math.max.code 2 (some .int) ∈ gG := gT1 37 rfl rfl
set_option maxRecDepth 20000 in
theorem ac_int : Cond.arrayClass .int ∈ gG := gT1 53 rfl rfl
set_option maxRecDepth 20000 in
theorem fl_X8_15 : Cond.fieldLink RX8 15 "SameAfter$Row" "cells" "[I" ∈ gG := gT1 38 rfl rfl
set_option maxRecDepth 20000 in
theorem fl_X8_21 : Cond.fieldLink RX8 21 "SameAfter$Row" "length" "I" ∈ gG := gT1 39 rfl rfl
set_option maxRecDepth 20000 in
theorem cd_X8_init : Cond.code yX8_init cX8_init 2 none ∈ gG := gT1 33 rfl rfl
set_option maxRecDepth 20000 in
theorem ml_X11_15 : Cond.methodLink RX11 15 yX8_init ∈ gG := gT1 31 rfl rfl
set_option maxRecDepth 20000 in
theorem im_yX8_init : Cond.instanceMethod yX8_init ∈ gG := gT1 32 rfl rfl
set_option maxRecDepth 20000 in
theorem fl_X11_18 : Cond.fieldLink RX11 18 "SameAfter" "ruleCount" "I" ∈ gG := gT2 181 rfl rfl
set_option maxRecDepth 20000 in
theorem fl_X11_22 : Cond.fieldLink RX11 22 "SameAfter" "work" "LSameAfter$Row;" ∈ gG := gT2 182 rfl rfl
set_option maxRecDepth 20000 in
theorem cl_X11_26 : Cond.classLink RX11 26 RX6 ∈ gG := gT1 54 rfl rfl
set_option maxRecDepth 20000 in
theorem is_X6 : Cond.instantiable RX6 17 ∈ gG := gT1 55 rfl rfl
set_option maxRecDepth 20000 in
theorem in_X6 : Cond.initialized RX6 ∈ gG := gT1 4 rfl rfl
set_option maxRecDepth 20000 in
theorem ml_X6_3 : Cond.methodLink RX6 3 objectInit ∈ gG := gT1 59 rfl rfl
set_option maxRecDepth 20000 in
theorem cl_X6_9 : Cond.classLink RX6 9 RX10 ∈ gG := gT1 60 rfl rfl
set_option maxRecDepth 20000 in
theorem is_X10 : Cond.instantiable RX10 6 ∈ gG := gT1 61 rfl rfl
set_option maxRecDepth 20000 in
theorem in_X10 : Cond.initialized RX10 ∈ gG := gT1 5 rfl rfl
set_option maxRecDepth 20000 in
theorem ml_X10_3 : Cond.methodLink RX10 3 objectInit ∈ gG := gT1 65 rfl rfl
set_option maxRecDepth 20000 in
theorem fl_X10_11 : Cond.fieldLink RX10 11 "SameAfter$Tape" "bytes" "[I" ∈ gG := gT1 66 rfl rfl
set_option maxRecDepth 20000 in
theorem fl_X10_15 : Cond.fieldLink RX10 15 "SameAfter$Tape" "length" "I" ∈ gG := gT1 67 rfl rfl
set_option maxRecDepth 20000 in
theorem cd_X10_init : Cond.code yX10_init cX10_init 1 none ∈ gG := gT1 64 rfl rfl
set_option maxRecDepth 20000 in
theorem ml_X6_11 : Cond.methodLink RX6 11 yX10_init ∈ gG := gT1 62 rfl rfl
set_option maxRecDepth 20000 in
theorem im_yX10_init : Cond.instanceMethod yX10_init ∈ gG := gT1 63 rfl rfl
set_option maxRecDepth 20000 in
theorem fl_X6_12 : Cond.fieldLink RX6 12 "SameAfter$Reader" "tape" "LSameAfter$Tape;" ∈ gG := gT1 91 rfl rfl
set_option maxRecDepth 20000 in
theorem cl_X6_18 : Cond.classLink RX6 18 RX8 ∈ gG := gT1 89 rfl rfl
set_option maxRecDepth 20000 in
theorem ml_X6_20 : Cond.methodLink RX6 20 yX8_init ∈ gG := gT1 90 rfl rfl
set_option maxRecDepth 20000 in
theorem fl_X6_23 : Cond.fieldLink RX6 23 "SameAfter$Reader" "row" "LSameAfter$Row;" ∈ gG := gT1 97 rfl rfl
set_option maxRecDepth 20000 in
theorem fl_X6_27 : Cond.fieldLink RX6 27 "SameAfter$Reader" "openKinds" "[I" ∈ gG := gT1 108 rfl rfl
set_option maxRecDepth 20000 in
theorem fl_X6_31 : Cond.fieldLink RX6 31 "SameAfter$Reader" "openSums" "[I" ∈ gG := gT1 109 rfl rfl
set_option maxRecDepth 20000 in
theorem fl_X6_34 : Cond.fieldLink RX6 34 "SameAfter$Reader" "openProducts" "[I" ∈ gG := gT1 110 rfl rfl
set_option maxRecDepth 20000 in
theorem fl_X6_37 : Cond.fieldLink RX6 37 "SameAfter$Reader" "fault" "I" ∈ gG := gT1 93 rfl rfl
set_option maxRecDepth 20000 in
theorem fl_X6_41 : Cond.fieldLink RX6 41 "SameAfter$Reader" "faultPlace" "I" ∈ gG := gT1 95 rfl rfl
set_option maxRecDepth 20000 in
theorem cd_X6_init : Cond.code yX6_init cX6_init 1 none ∈ gG := gT1 58 rfl rfl
set_option maxRecDepth 20000 in
theorem ml_X11_28 : Cond.methodLink RX11 28 yX6_init ∈ gG := gT1 56 rfl rfl
set_option maxRecDepth 20000 in
theorem im_yX6_init : Cond.instanceMethod yX6_init ∈ gG := gT1 57 rfl rfl
set_option maxRecDepth 20000 in
theorem fl_X11_29 : Cond.fieldLink RX11 29 "SameAfter" "reader" "LSameAfter$Reader;" ∈ gG := gT2 183 rfl rfl
set_option maxRecDepth 20000 in
theorem cl_X11_33 : Cond.classLink RX11 33 RX3 ∈ gG := gT1 146 rfl rfl
set_option maxRecDepth 20000 in
theorem is_X3 : Cond.instantiable RX3 7 ∈ gG := gT1 147 rfl rfl
set_option maxRecDepth 20000 in
theorem in_X3 : Cond.initialized RX3 ∈ gG := gT1 6 rfl rfl
set_option maxRecDepth 20000 in
theorem ml_X3_3 : Cond.methodLink RX3 3 objectInit ∈ gG := gT1 151 rfl rfl
set_option maxRecDepth 20000 in
theorem cl_X3_9 : Cond.classLink RX3 9 RX1 ∈ gG := gT1 152 rfl rfl
set_option maxRecDepth 20000 in
theorem is_X1 : Cond.instantiable RX1 14 ∈ gG := gT1 153 rfl rfl
set_option maxRecDepth 20000 in
theorem in_X1 : Cond.initialized RX1 ∈ gG := gT1 7 rfl rfl
set_option maxRecDepth 20000 in
theorem ml_X1_3 : Cond.methodLink RX1 3 objectInit ∈ gG := gT1 157 rfl rfl
set_option maxRecDepth 20000 in
theorem cl_X1_9 : Cond.classLink RX1 9 RX8 ∈ gG := gT1 158 rfl rfl
set_option maxRecDepth 20000 in
theorem ml_X1_11 : Cond.methodLink RX1 11 yX8_init ∈ gG := gT1 159 rfl rfl
set_option maxRecDepth 20000 in
theorem fl_X1_14 : Cond.fieldLink RX1 14 "SameAfter$Flow" "row" "LSameAfter$Row;" ∈ gG := gT1 160 rfl rfl
set_option maxRecDepth 20000 in
theorem fl_X1_20 : Cond.fieldLink RX1 20 "SameAfter$Flow" "place" "[I" ∈ gG := gT1 166 rfl rfl
set_option maxRecDepth 20000 in
theorem fl_X1_24 : Cond.fieldLink RX1 24 "SameAfter$Flow" "kinds" "[I" ∈ gG := gT1 169 rfl rfl
set_option maxRecDepth 20000 in
theorem fl_X1_27 : Cond.fieldLink RX1 27 "SameAfter$Flow" "from" "[I" ∈ gG := gT1 171 rfl rfl
set_option maxRecDepth 20000 in
theorem fl_X1_30 : Cond.fieldLink RX1 30 "SameAfter$Flow" "to" "[I" ∈ gG := gT1 173 rfl rfl
set_option maxRecDepth 20000 in
theorem fl_X1_33 : Cond.fieldLink RX1 33 "SameAfter$Flow" "yes" "[I" ∈ gG := gT1 176 rfl rfl
set_option maxRecDepth 20000 in
theorem fl_X1_36 : Cond.fieldLink RX1 36 "SameAfter$Flow" "no" "[I" ∈ gG := gT1 178 rfl rfl
set_option maxRecDepth 20000 in
theorem fl_X1_39 : Cond.fieldLink RX1 39 "SameAfter$Flow" "reads" "[I" ∈ gG := gT1 180 rfl rfl
set_option maxRecDepth 20000 in
theorem fl_X1_42 : Cond.fieldLink RX1 42 "SameAfter$Flow" "sets" "[I" ∈ gG := gT1 181 rfl rfl
set_option maxRecDepth 20000 in
theorem fl_X1_45 : Cond.fieldLink RX1 45 "SameAfter$Flow" "ahead" "[I" ∈ gG := gT1 182 rfl rfl
set_option maxRecDepth 20000 in
theorem fl_X1_48 : Cond.fieldLink RX1 48 "SameAfter$Flow" "behindAll" "[I" ∈ gG := gT1 183 rfl rfl
set_option maxRecDepth 20000 in
theorem fl_X1_51 : Cond.fieldLink RX1 51 "SameAfter$Flow" "open" "[I" ∈ gG := gT1 184 rfl rfl
set_option maxRecDepth 20000 in
theorem fl_X1_54 : Cond.fieldLink RX1 54 "SameAfter$Flow" "owner" "[I" ∈ gG := gT1 185 rfl rfl
set_option maxRecDepth 20000 in
theorem fl_X1_57 : Cond.fieldLink RX1 57 "SameAfter$Flow" "count" "I" ∈ gG := gT1 162 rfl rfl
set_option maxRecDepth 20000 in
theorem cd_X1_init : Cond.code yX1_init cX1_init 1 none ∈ gG := gT1 156 rfl rfl
set_option maxRecDepth 20000 in
theorem ml_X3_11 : Cond.methodLink RX3 11 yX1_init ∈ gG := gT1 154 rfl rfl
set_option maxRecDepth 20000 in
theorem im_yX1_init : Cond.instanceMethod yX1_init ∈ gG := gT1 155 rfl rfl
set_option maxRecDepth 20000 in
theorem fl_X3_12 : Cond.fieldLink RX3 12 "SameAfter$Machine" "flow" "LSameAfter$Flow;" ∈ gG := gT1 215 rfl rfl
set_option maxRecDepth 20000 in
theorem fl_X3_18 : Cond.fieldLink RX3 18 "SameAfter$Machine" "outputs" "[I" ∈ gG := gT1 218 rfl rfl
set_option maxRecDepth 20000 in
theorem fl_X3_22 : Cond.fieldLink RX3 22 "SameAfter$Machine" "words" "[I" ∈ gG := gT1 224 rfl rfl
set_option maxRecDepth 20000 in
theorem fl_X3_25 : Cond.fieldLink RX3 25 "SameAfter$Machine" "stack" "[I" ∈ gG := gT1 225 rfl rfl
set_option maxRecDepth 20000 in
theorem cd_X3_init : Cond.code yX3_init cX3_init 1 none ∈ gG := gT1 150 rfl rfl
set_option maxRecDepth 20000 in
theorem ml_X11_35 : Cond.methodLink RX11 35 yX3_init ∈ gG := gT1 148 rfl rfl
set_option maxRecDepth 20000 in
theorem im_yX3_init : Cond.instanceMethod yX3_init ∈ gG := gT1 149 rfl rfl
set_option maxRecDepth 20000 in
theorem fl_X11_36 : Cond.fieldLink RX11 36 "SameAfter" "machine" "LSameAfter$Machine;" ∈ gG := gT2 184 rfl rfl
set_option maxRecDepth 20000 in
theorem cl_X11_40 : Cond.classLink RX11 40 RX5 ∈ gG := gT2 1 rfl rfl
set_option maxRecDepth 20000 in
theorem is_X5 : Cond.instantiable RX5 7 ∈ gG := gT2 2 rfl rfl
set_option maxRecDepth 20000 in
theorem in_X5 : Cond.initialized RX5 ∈ gG := gT1 8 rfl rfl
set_option maxRecDepth 20000 in
theorem ml_X5_3 : Cond.methodLink RX5 3 objectInit ∈ gG := gT2 6 rfl rfl
set_option maxRecDepth 20000 in
theorem fl_X5_9 : Cond.fieldLink RX5 9 "SameAfter$Proof" "words" "[I" ∈ gG := gT2 13 rfl rfl
set_option maxRecDepth 20000 in
theorem fl_X5_15 : Cond.fieldLink RX5 15 "SameAfter$Proof" "stack" "[I" ∈ gG := gT2 14 rfl rfl
set_option maxRecDepth 20000 in
theorem cl_X5_18 : Cond.classLink RX5 18 "[[I" ∈ gG := gT2 7 rfl rfl
set_option maxRecDepth 20000 in
theorem fl_X5_20 : Cond.fieldLink RX5 20 "SameAfter$Proof" "forms" "[[I" ∈ gG := gT2 15 rfl rfl
set_option maxRecDepth 20000 in
theorem fl_X5_23 : Cond.fieldLink RX5 23 "SameAfter$Proof" "leftForm" "[I" ∈ gG := gT2 16 rfl rfl
set_option maxRecDepth 20000 in
theorem fl_X5_26 : Cond.fieldLink RX5 26 "SameAfter$Proof" "product" "[I" ∈ gG := gT2 17 rfl rfl
set_option maxRecDepth 20000 in
theorem fl_X5_29 : Cond.fieldLink RX5 29 "SameAfter$Proof" "first" "I" ∈ gG := gT2 9 rfl rfl
set_option maxRecDepth 20000 in
theorem cd_X5_init : Cond.code yX5_init cX5_init 1 none ∈ gG := gT2 5 rfl rfl
set_option maxRecDepth 20000 in
theorem ml_X11_42 : Cond.methodLink RX11 42 yX5_init ∈ gG := gT2 3 rfl rfl
set_option maxRecDepth 20000 in
theorem im_yX5_init : Cond.instanceMethod yX5_init ∈ gG := gT2 4 rfl rfl
set_option maxRecDepth 20000 in
theorem fl_X11_43 : Cond.fieldLink RX11 43 "SameAfter" "proof" "LSameAfter$Proof;" ∈ gG := gT2 185 rfl rfl
set_option maxRecDepth 20000 in
theorem cl_X11_47 : Cond.classLink RX11 47 RX4 ∈ gG := gT2 33 rfl rfl
set_option maxRecDepth 20000 in
theorem is_X4 : Cond.instantiable RX4 10 ∈ gG := gT2 34 rfl rfl
set_option maxRecDepth 20000 in
theorem in_X4 : Cond.initialized RX4 ∈ gG := gT1 9 rfl rfl
set_option maxRecDepth 20000 in
theorem ml_X4_3 : Cond.methodLink RX4 3 objectInit ∈ gG := gT2 38 rfl rfl
set_option maxRecDepth 20000 in
theorem cl_X4_9 : Cond.classLink RX4 9 RX9 ∈ gG := gT2 39 rfl rfl
set_option maxRecDepth 20000 in
theorem fl_X4_11 : Cond.fieldLink RX4 11 "SameAfter$Passes" "rules" "[LSameAfter$Rule;" ∈ gG := gT2 130 rfl rfl
set_option maxRecDepth 20000 in
theorem is_X9 : Cond.instantiable RX9 5 ∈ gG := gT2 41 rfl rfl
set_option maxRecDepth 20000 in
theorem in_X9 : Cond.initialized RX9 ∈ gG := gT1 10 rfl rfl
set_option maxRecDepth 20000 in
theorem ml_X9_3 : Cond.methodLink RX9 3 objectInit ∈ gG := gT2 45 rfl rfl
set_option maxRecDepth 20000 in
theorem cl_X9_9 : Cond.classLink RX9 9 RX8 ∈ gG := gT2 46 rfl rfl
set_option maxRecDepth 20000 in
theorem ml_X9_11 : Cond.methodLink RX9 11 yX8_init ∈ gG := gT2 47 rfl rfl
set_option maxRecDepth 20000 in
theorem fl_X9_14 : Cond.fieldLink RX9 14 "SameAfter$Rule" "left" "LSameAfter$Row;" ∈ gG := gT2 48 rfl rfl
set_option maxRecDepth 20000 in
theorem fl_X9_20 : Cond.fieldLink RX9 20 "SameAfter$Rule" "right" "LSameAfter$Row;" ∈ gG := gT2 51 rfl rfl
set_option maxRecDepth 20000 in
theorem fl_X9_23 : Cond.fieldLink RX9 23 "SameAfter$Rule" "starts" "[I" ∈ gG := gT2 55 rfl rfl
set_option maxRecDepth 20000 in
theorem fl_X9_27 : Cond.fieldLink RX9 27 "SameAfter$Rule" "ends" "[I" ∈ gG := gT2 56 rfl rfl
set_option maxRecDepth 20000 in
theorem fl_X9_30 : Cond.fieldLink RX9 30 "SameAfter$Rule" "letters" "I" ∈ gG := gT2 54 rfl rfl
set_option maxRecDepth 20000 in
theorem cd_X9_init : Cond.code yX9_init cX9_init 1 none ∈ gG := gT2 44 rfl rfl
set_option maxRecDepth 20000 in
theorem ml_X4_17 : Cond.methodLink RX4 17 yX9_init ∈ gG := gT2 42 rfl rfl
set_option maxRecDepth 20000 in
theorem im_yX9_init : Cond.instanceMethod yX9_init ∈ gG := gT2 43 rfl rfl
set_option maxRecDepth 20000 in
theorem cl_X4_18 : Cond.classLink RX4 18 "[[I" ∈ gG := gT2 68 rfl rfl
set_option maxRecDepth 20000 in
theorem fl_X4_20 : Cond.fieldLink RX4 20 "SameAfter$Passes" "items" "[[I" ∈ gG := gT2 131 rfl rfl
set_option maxRecDepth 20000 in
theorem fl_X4_23 : Cond.fieldLink RX4 23 "SameAfter$Passes" "counts" "[I" ∈ gG := gT2 132 rfl rfl
set_option maxRecDepth 20000 in
theorem cl_X4_27 : Cond.classLink RX4 27 RX0 ∈ gG := gT2 69 rfl rfl
set_option maxRecDepth 20000 in
theorem is_X0 : Cond.instantiable RX0 2 ∈ gG := gT2 70 rfl rfl
set_option maxRecDepth 20000 in
theorem in_X0 : Cond.initialized RX0 ∈ gG := gT1 11 rfl rfl
set_option maxRecDepth 20000 in
theorem ml_X0_3 : Cond.methodLink RX0 3 objectInit ∈ gG := gT2 74 rfl rfl
set_option maxRecDepth 20000 in
theorem cl_X0_9 : Cond.classLink RX0 9 RX8 ∈ gG := gT2 75 rfl rfl
set_option maxRecDepth 20000 in
theorem ml_X0_11 : Cond.methodLink RX0 11 yX8_init ∈ gG := gT2 76 rfl rfl
set_option maxRecDepth 20000 in
theorem fl_X0_14 : Cond.fieldLink RX0 14 "SameAfter$Acts" "spare" "LSameAfter$Row;" ∈ gG := gT2 79 rfl rfl
set_option maxRecDepth 20000 in
theorem cl_X0_20 : Cond.classLink RX0 20 RX1 ∈ gG := gT2 77 rfl rfl
set_option maxRecDepth 20000 in
theorem ml_X0_22 : Cond.methodLink RX0 22 yX1_init ∈ gG := gT2 78 rfl rfl
set_option maxRecDepth 20000 in
theorem fl_X0_23 : Cond.fieldLink RX0 23 "SameAfter$Acts" "flow" "LSameAfter$Flow;" ∈ gG := gT2 81 rfl rfl
set_option maxRecDepth 20000 in
theorem cd_X0_init : Cond.code yX0_init cX0_init 1 none ∈ gG := gT2 73 rfl rfl
set_option maxRecDepth 20000 in
theorem ml_X4_29 : Cond.methodLink RX4 29 yX0_init ∈ gG := gT2 71 rfl rfl
set_option maxRecDepth 20000 in
theorem im_yX0_init : Cond.instanceMethod yX0_init ∈ gG := gT2 72 rfl rfl
set_option maxRecDepth 20000 in
theorem fl_X4_30 : Cond.fieldLink RX4 30 "SameAfter$Passes" "acts" "LSameAfter$Acts;" ∈ gG := gT2 133 rfl rfl
set_option maxRecDepth 20000 in
theorem cl_X4_34 : Cond.classLink RX4 34 RX8 ∈ gG := gT2 87 rfl rfl
set_option maxRecDepth 20000 in
theorem ml_X4_36 : Cond.methodLink RX4 36 yX8_init ∈ gG := gT2 88 rfl rfl
set_option maxRecDepth 20000 in
theorem fl_X4_39 : Cond.fieldLink RX4 39 "SameAfter$Passes" "made" "LSameAfter$Row;" ∈ gG := gT2 122 rfl rfl
set_option maxRecDepth 20000 in
theorem fl_X4_43 : Cond.fieldLink RX4 43 "SameAfter$Passes" "kept" "LSameAfter$Row;" ∈ gG := gT2 124 rfl rfl
set_option maxRecDepth 20000 in
theorem fl_X4_46 : Cond.fieldLink RX4 46 "SameAfter$Passes" "trial" "LSameAfter$Row;" ∈ gG := gT2 134 rfl rfl
set_option maxRecDepth 20000 in
theorem cl_X4_49 : Cond.classLink RX4 49 RX2 ∈ gG := gT2 89 rfl rfl
set_option maxRecDepth 20000 in
theorem is_X2 : Cond.instantiable RX2 6 ∈ gG := gT2 90 rfl rfl
set_option maxRecDepth 20000 in
theorem in_X2 : Cond.initialized RX2 ∈ gG := gT1 12 rfl rfl
set_option maxRecDepth 20000 in
theorem ml_X2_3 : Cond.methodLink RX2 3 objectInit ∈ gG := gT2 94 rfl rfl
set_option maxRecDepth 20000 in
theorem cl_X2_9 : Cond.classLink RX2 9 RX3 ∈ gG := gT2 95 rfl rfl
set_option maxRecDepth 20000 in
theorem ml_X2_11 : Cond.methodLink RX2 11 yX3_init ∈ gG := gT2 96 rfl rfl
set_option maxRecDepth 20000 in
theorem fl_X2_12 : Cond.fieldLink RX2 12 "SameAfter$Judge" "one" "LSameAfter$Machine;" ∈ gG := gT2 105 rfl rfl
set_option maxRecDepth 20000 in
theorem fl_X2_18 : Cond.fieldLink RX2 18 "SameAfter$Judge" "other" "LSameAfter$Machine;" ∈ gG := gT2 106 rfl rfl
set_option maxRecDepth 20000 in
theorem fl_X2_21 : Cond.fieldLink RX2 21 "SameAfter$Judge" "first" "I" ∈ gG := gT2 97 rfl rfl
set_option maxRecDepth 20000 in
theorem fl_X2_25 : Cond.fieldLink RX2 25 "SameAfter$Judge" "firstPlace" "I" ∈ gG := gT2 100 rfl rfl
set_option maxRecDepth 20000 in
theorem cd_X2_init : Cond.code yX2_init cX2_init 1 none ∈ gG := gT2 93 rfl rfl
set_option maxRecDepth 20000 in
theorem ml_X4_51 : Cond.methodLink RX4 51 yX2_init ∈ gG := gT2 91 rfl rfl
set_option maxRecDepth 20000 in
theorem im_yX2_init : Cond.instanceMethod yX2_init ∈ gG := gT2 92 rfl rfl
set_option maxRecDepth 20000 in
theorem fl_X4_52 : Cond.fieldLink RX4 52 "SameAfter$Passes" "judgement" "LSameAfter$Judge;" ∈ gG := gT2 120 rfl rfl
set_option maxRecDepth 20000 in
theorem fl_X4_56 : Cond.fieldLink RX4 56 "SameAfter$Passes" "bad" "I" ∈ gG := gT2 126 rfl rfl
set_option maxRecDepth 20000 in
theorem fl_X4_60 : Cond.fieldLink RX4 60 "SameAfter$Passes" "badInputs" "I" ∈ gG := gT2 128 rfl rfl
set_option maxRecDepth 20000 in
theorem cd_X4_init : Cond.code yX4_init cX4_init 2 none ∈ gG := gT2 37 rfl rfl
set_option maxRecDepth 20000 in
theorem ml_X11_49 : Cond.methodLink RX11 49 yX4_init ∈ gG := gT2 35 rfl rfl
set_option maxRecDepth 20000 in
theorem im_yX4_init : Cond.instanceMethod yX4_init ∈ gG := gT2 36 rfl rfl
set_option maxRecDepth 20000 in
theorem fl_X11_50 : Cond.fieldLink RX11 50 "SameAfter" "passes" "LSameAfter$Passes;" ∈ gG := gT2 186 rfl rfl
set_option maxRecDepth 20000 in
theorem cl_X11_54 : Cond.classLink RX11 54 RX7 ∈ gG := gT2 156 rfl rfl
set_option maxRecDepth 20000 in
theorem is_X7 : Cond.instantiable RX7 5 ∈ gG := gT2 157 rfl rfl
set_option maxRecDepth 20000 in
theorem in_X7 : Cond.initialized RX7 ∈ gG := gT1 13 rfl rfl
set_option maxRecDepth 20000 in
theorem ml_X7_3 : Cond.methodLink RX7 3 objectInit ∈ gG := gT2 161 rfl rfl
set_option maxRecDepth 20000 in
theorem cl_X7_9 : Cond.classLink RX7 9 RX1 ∈ gG := gT2 162 rfl rfl
set_option maxRecDepth 20000 in
theorem ml_X7_11 : Cond.methodLink RX7 11 yX1_init ∈ gG := gT2 163 rfl rfl
set_option maxRecDepth 20000 in
theorem fl_X7_12 : Cond.fieldLink RX7 12 "SameAfter$Registers" "flow" "LSameAfter$Flow;" ∈ gG := gT2 164 rfl rfl
set_option maxRecDepth 20000 in
theorem fl_X7_18 : Cond.fieldLink RX7 18 "SameAfter$Registers" "clashes" "[I" ∈ gG := gT2 165 rfl rfl
set_option maxRecDepth 20000 in
theorem fl_X7_22 : Cond.fieldLink RX7 22 "SameAfter$Registers" "comings" "[I" ∈ gG := gT2 166 rfl rfl
set_option maxRecDepth 20000 in
theorem fl_X7_25 : Cond.fieldLink RX7 25 "SameAfter$Registers" "given" "[I" ∈ gG := gT2 167 rfl rfl
set_option maxRecDepth 20000 in
theorem cd_X7_init : Cond.code yX7_init cX7_init 1 none ∈ gG := gT2 160 rfl rfl
set_option maxRecDepth 20000 in
theorem ml_X11_56 : Cond.methodLink RX11 56 yX7_init ∈ gG := gT2 158 rfl rfl
set_option maxRecDepth 20000 in
theorem im_yX7_init : Cond.instanceMethod yX7_init ∈ gG := gT2 159 rfl rfl
set_option maxRecDepth 20000 in
theorem fl_X11_57 : Cond.fieldLink RX11 57 "SameAfter" "dealing" "LSameAfter$Registers;" ∈ gG := gT2 187 rfl rfl
set_option maxRecDepth 20000 in
theorem inX0 : ∀ w ∈ wsX00, w ∈ gG := List.forall_mem_cons.mpr ⟨gT2 82 rfl rfl, List.forall_mem_cons.mpr ⟨gT2 84 rfl rfl, fun _ h => absurd h List.not_mem_nil⟩⟩
theorem KX0 : clsOK 0 RX0 TX0 2 tyX0 := ⟨rfl, inX0, tyX0_ok, nmX0⟩
set_option maxRecDepth 20000 in
theorem inX1 : ∀ w ∈ wsX10, w ∈ gG := List.forall_mem_cons.mpr ⟨gT1 186 rfl rfl, List.forall_mem_cons.mpr ⟨gT1 188 rfl rfl, List.forall_mem_cons.mpr ⟨gT1 190 rfl rfl, List.forall_mem_cons.mpr ⟨gT1 192 rfl rfl, List.forall_mem_cons.mpr ⟨gT1 194 rfl rfl, List.forall_mem_cons.mpr ⟨gT1 196 rfl rfl, List.forall_mem_cons.mpr ⟨gT1 198 rfl rfl, List.forall_mem_cons.mpr ⟨gT1 200 rfl rfl, List.forall_mem_cons.mpr ⟨gT1 202 rfl rfl, List.forall_mem_cons.mpr ⟨gT1 204 rfl rfl, List.forall_mem_cons.mpr ⟨gT1 206 rfl rfl, List.forall_mem_cons.mpr ⟨gT1 208 rfl rfl, List.forall_mem_cons.mpr ⟨gT1 210 rfl rfl, List.forall_mem_cons.mpr ⟨gT1 212 rfl rfl, fun _ h => absurd h List.not_mem_nil⟩⟩⟩⟩⟩⟩⟩⟩⟩⟩⟩⟩⟩⟩
theorem KX1 : clsOK 1 RX1 TX1 14 tyX1 := ⟨rfl, inX1, tyX1_ok, nmX1⟩
set_option maxRecDepth 20000 in
theorem inX2 : ∀ w ∈ wsX20, w ∈ gG := List.forall_mem_cons.mpr ⟨gT2 107 rfl rfl, List.forall_mem_cons.mpr ⟨gT2 109 rfl rfl, List.forall_mem_cons.mpr ⟨gT2 111 rfl rfl, List.forall_mem_cons.mpr ⟨gT2 113 rfl rfl, List.forall_mem_cons.mpr ⟨gT2 115 rfl rfl, List.forall_mem_cons.mpr ⟨gT2 117 rfl rfl, fun _ h => absurd h List.not_mem_nil⟩⟩⟩⟩⟩⟩
theorem KX2 : clsOK 2 RX2 TX2 6 tyX2 := ⟨rfl, inX2, tyX2_ok, nmX2⟩
set_option maxRecDepth 20000 in
theorem inX3 : ∀ w ∈ wsX30, w ∈ gG := List.forall_mem_cons.mpr ⟨gT1 226 rfl rfl, List.forall_mem_cons.mpr ⟨gT1 228 rfl rfl, List.forall_mem_cons.mpr ⟨gT1 230 rfl rfl, List.forall_mem_cons.mpr ⟨gT1 232 rfl rfl, List.forall_mem_cons.mpr ⟨gT1 234 rfl rfl, List.forall_mem_cons.mpr ⟨gT1 236 rfl rfl, List.forall_mem_cons.mpr ⟨gT1 238 rfl rfl, fun _ h => absurd h List.not_mem_nil⟩⟩⟩⟩⟩⟩⟩
theorem KX3 : clsOK 3 RX3 TX3 7 tyX3 := ⟨rfl, inX3, tyX3_ok, nmX3⟩
set_option maxRecDepth 20000 in
theorem inX4 : ∀ w ∈ wsX40, w ∈ gG := List.forall_mem_cons.mpr ⟨gT2 135 rfl rfl, List.forall_mem_cons.mpr ⟨gT2 137 rfl rfl, List.forall_mem_cons.mpr ⟨gT2 139 rfl rfl, List.forall_mem_cons.mpr ⟨gT2 141 rfl rfl, List.forall_mem_cons.mpr ⟨gT2 143 rfl rfl, List.forall_mem_cons.mpr ⟨gT2 145 rfl rfl, List.forall_mem_cons.mpr ⟨gT2 147 rfl rfl, List.forall_mem_cons.mpr ⟨gT2 149 rfl rfl, List.forall_mem_cons.mpr ⟨gT2 151 rfl rfl, List.forall_mem_cons.mpr ⟨gT2 153 rfl rfl, fun _ h => absurd h List.not_mem_nil⟩⟩⟩⟩⟩⟩⟩⟩⟩⟩
theorem KX4 : clsOK 4 RX4 TX4 10 tyX4 := ⟨rfl, inX4, tyX4_ok, nmX4⟩
set_option maxRecDepth 20000 in
theorem inX5 : ∀ w ∈ wsX50, w ∈ gG := List.forall_mem_cons.mpr ⟨gT2 18 rfl rfl, List.forall_mem_cons.mpr ⟨gT2 20 rfl rfl, List.forall_mem_cons.mpr ⟨gT2 22 rfl rfl, List.forall_mem_cons.mpr ⟨gT2 24 rfl rfl, List.forall_mem_cons.mpr ⟨gT2 26 rfl rfl, List.forall_mem_cons.mpr ⟨gT2 28 rfl rfl, List.forall_mem_cons.mpr ⟨gT2 30 rfl rfl, fun _ h => absurd h List.not_mem_nil⟩⟩⟩⟩⟩⟩⟩
theorem KX5 : clsOK 5 RX5 TX5 7 tyX5 := ⟨rfl, inX5, tyX5_ok, nmX5⟩
set_option maxRecDepth 20000 in
theorem inX6 : ∀ w ∈ wsX60, w ∈ gG := List.forall_mem_cons.mpr ⟨gT1 111 rfl rfl, List.forall_mem_cons.mpr ⟨gT1 113 rfl rfl, List.forall_mem_cons.mpr ⟨gT1 115 rfl rfl, List.forall_mem_cons.mpr ⟨gT1 117 rfl rfl, List.forall_mem_cons.mpr ⟨gT1 119 rfl rfl, List.forall_mem_cons.mpr ⟨gT1 121 rfl rfl, List.forall_mem_cons.mpr ⟨gT1 123 rfl rfl, List.forall_mem_cons.mpr ⟨gT1 125 rfl rfl, List.forall_mem_cons.mpr ⟨gT1 127 rfl rfl, List.forall_mem_cons.mpr ⟨gT1 129 rfl rfl, List.forall_mem_cons.mpr ⟨gT1 131 rfl rfl, List.forall_mem_cons.mpr ⟨gT1 133 rfl rfl, List.forall_mem_cons.mpr ⟨gT1 135 rfl rfl, List.forall_mem_cons.mpr ⟨gT1 137 rfl rfl, List.forall_mem_cons.mpr ⟨gT1 139 rfl rfl, List.forall_mem_cons.mpr ⟨gT1 141 rfl rfl, List.forall_mem_cons.mpr ⟨gT1 143 rfl rfl, fun _ h => absurd h List.not_mem_nil⟩⟩⟩⟩⟩⟩⟩⟩⟩⟩⟩⟩⟩⟩⟩⟩⟩
theorem KX6 : clsOK 6 RX6 TX6 17 tyX6 := ⟨rfl, inX6, tyX6_ok, nmX6⟩
set_option maxRecDepth 20000 in
theorem inX7 : ∀ w ∈ wsX70, w ∈ gG := List.forall_mem_cons.mpr ⟨gT2 169 rfl rfl, List.forall_mem_cons.mpr ⟨gT2 171 rfl rfl, List.forall_mem_cons.mpr ⟨gT2 173 rfl rfl, List.forall_mem_cons.mpr ⟨gT2 175 rfl rfl, List.forall_mem_cons.mpr ⟨gT2 177 rfl rfl, fun _ h => absurd h List.not_mem_nil⟩⟩⟩⟩⟩
theorem KX7 : clsOK 7 RX7 TX7 5 tyX7 := ⟨rfl, inX7, tyX7_ok, nmX7⟩
set_option maxRecDepth 20000 in
theorem inX8 : ∀ w ∈ wsX80, w ∈ gG := List.forall_mem_cons.mpr ⟨gT1 48 rfl rfl, List.forall_mem_cons.mpr ⟨gT1 50 rfl rfl, fun _ h => absurd h List.not_mem_nil⟩⟩
theorem KX8 : clsOK 8 RX8 TX8 2 tyX8 := ⟨rfl, inX8, tyX8_ok, nmX8⟩
set_option maxRecDepth 20000 in
theorem inX9 : ∀ w ∈ wsX90, w ∈ gG := List.forall_mem_cons.mpr ⟨gT2 57 rfl rfl, List.forall_mem_cons.mpr ⟨gT2 59 rfl rfl, List.forall_mem_cons.mpr ⟨gT2 61 rfl rfl, List.forall_mem_cons.mpr ⟨gT2 63 rfl rfl, List.forall_mem_cons.mpr ⟨gT2 65 rfl rfl, fun _ h => absurd h List.not_mem_nil⟩⟩⟩⟩⟩
theorem KX9 : clsOK 9 RX9 TX9 5 tyX9 := ⟨rfl, inX9, tyX9_ok, nmX9⟩
set_option maxRecDepth 20000 in
theorem inX10 : ∀ w ∈ wsX100, w ∈ gG := List.forall_mem_cons.mpr ⟨gT1 76 rfl rfl, List.forall_mem_cons.mpr ⟨gT1 78 rfl rfl, List.forall_mem_cons.mpr ⟨gT1 80 rfl rfl, List.forall_mem_cons.mpr ⟨gT1 82 rfl rfl, List.forall_mem_cons.mpr ⟨gT1 84 rfl rfl, List.forall_mem_cons.mpr ⟨gT1 86 rfl rfl, fun _ h => absurd h List.not_mem_nil⟩⟩⟩⟩⟩⟩
theorem KX10 : clsOK 10 RX10 TX10 6 tyX10 := ⟨rfl, inX10, tyX10_ok, nmX10⟩
set_option maxRecDepth 20000 in
theorem inX11 : ∀ w ∈ wsX110, w ∈ gG := List.forall_mem_cons.mpr ⟨gT2 188 rfl rfl, List.forall_mem_cons.mpr ⟨gT2 190 rfl rfl, List.forall_mem_cons.mpr ⟨gT2 192 rfl rfl, List.forall_mem_cons.mpr ⟨gT2 194 rfl rfl, List.forall_mem_cons.mpr ⟨gT2 196 rfl rfl, List.forall_mem_cons.mpr ⟨gT2 198 rfl rfl, List.forall_mem_cons.mpr ⟨gT2 200 rfl rfl, List.forall_mem_cons.mpr ⟨gT2 202 rfl rfl, fun _ h => absurd h List.not_mem_nil⟩⟩⟩⟩⟩⟩⟩⟩
theorem KX11 : clsOK 11 RX11 TX11 8 tyX11 := ⟨rfl, inX11, tyX11_ok, nmX11⟩
set_option maxRecDepth 20000 in
theorem inX12 : ∀ w ∈ wsX120, w ∈ gG := List.forall_mem_cons.mpr ⟨gT6 39 rfl rfl, List.forall_mem_cons.mpr ⟨gT6 41 rfl rfl, List.forall_mem_cons.mpr ⟨gT6 43 rfl rfl, List.forall_mem_cons.mpr ⟨gT6 45 rfl rfl, List.forall_mem_cons.mpr ⟨gT6 47 rfl rfl, List.forall_mem_cons.mpr ⟨gT6 49 rfl rfl, List.forall_mem_cons.mpr ⟨gT6 51 rfl rfl, List.forall_mem_cons.mpr ⟨gT6 53 rfl rfl, List.forall_mem_cons.mpr ⟨gT6 55 rfl rfl, List.forall_mem_cons.mpr ⟨gT6 57 rfl rfl, List.forall_mem_cons.mpr ⟨gT6 59 rfl rfl, List.forall_mem_cons.mpr ⟨gT6 61 rfl rfl, List.forall_mem_cons.mpr ⟨gT6 63 rfl rfl, List.forall_mem_cons.mpr ⟨gT6 65 rfl rfl, List.forall_mem_cons.mpr ⟨gT6 67 rfl rfl, List.forall_mem_cons.mpr ⟨gT6 69 rfl rfl, List.forall_mem_cons.mpr ⟨gT6 71 rfl rfl, List.forall_mem_cons.mpr ⟨gT6 73 rfl rfl, List.forall_mem_cons.mpr ⟨gT6 75 rfl rfl, List.forall_mem_cons.mpr ⟨gT6 77 rfl rfl, List.forall_mem_cons.mpr ⟨gT6 79 rfl rfl, List.forall_mem_cons.mpr ⟨gT6 81 rfl rfl, List.forall_mem_cons.mpr ⟨gT6 83 rfl rfl, List.forall_mem_cons.mpr ⟨gT6 85 rfl rfl, List.forall_mem_cons.mpr ⟨gT6 87 rfl rfl, List.forall_mem_cons.mpr ⟨gT6 89 rfl rfl, List.forall_mem_cons.mpr ⟨gT6 91 rfl rfl, List.forall_mem_cons.mpr ⟨gT6 93 rfl rfl, List.forall_mem_cons.mpr ⟨gT6 95 rfl rfl, List.forall_mem_cons.mpr ⟨gT6 97 rfl rfl, List.forall_mem_cons.mpr ⟨gT6 99 rfl rfl, List.forall_mem_cons.mpr ⟨gT6 101 rfl rfl, List.forall_mem_cons.mpr ⟨gT6 103 rfl rfl, List.forall_mem_cons.mpr ⟨gT6 105 rfl rfl, List.forall_mem_cons.mpr ⟨gT6 107 rfl rfl, List.forall_mem_cons.mpr ⟨gT6 109 rfl rfl, List.forall_mem_cons.mpr ⟨gT6 111 rfl rfl, List.forall_mem_cons.mpr ⟨gT6 113 rfl rfl, List.forall_mem_cons.mpr ⟨gT6 115 rfl rfl, List.forall_mem_cons.mpr ⟨gT6 117 rfl rfl, List.forall_mem_cons.mpr ⟨gT6 119 rfl rfl, List.forall_mem_cons.mpr ⟨gT6 121 rfl rfl, List.forall_mem_cons.mpr ⟨gT6 123 rfl rfl, List.forall_mem_cons.mpr ⟨gT6 125 rfl rfl, List.forall_mem_cons.mpr ⟨gT6 127 rfl rfl, List.forall_mem_cons.mpr ⟨gT6 129 rfl rfl, List.forall_mem_cons.mpr ⟨gT6 131 rfl rfl, List.forall_mem_cons.mpr ⟨gT6 133 rfl rfl, List.forall_mem_cons.mpr ⟨gT6 135 rfl rfl, List.forall_mem_cons.mpr ⟨gT6 137 rfl rfl, List.forall_mem_cons.mpr ⟨gT6 139 rfl rfl, List.forall_mem_cons.mpr ⟨gT6 141 rfl rfl, List.forall_mem_cons.mpr ⟨gT6 143 rfl rfl, List.forall_mem_cons.mpr ⟨gT6 145 rfl rfl, List.forall_mem_cons.mpr ⟨gT6 147 rfl rfl, List.forall_mem_cons.mpr ⟨gT6 149 rfl rfl, fun _ h => absurd h List.not_mem_nil⟩⟩⟩⟩⟩⟩⟩⟩⟩⟩⟩⟩⟩⟩⟩⟩⟩⟩⟩⟩⟩⟩⟩⟩⟩⟩⟩⟩⟩⟩⟩⟩⟩⟩⟩⟩⟩⟩⟩⟩⟩⟩⟩⟩⟩⟩⟩⟩⟩⟩⟩⟩⟩⟩⟩⟩
theorem KX12 : clsOK 12 RX12 TX12 56 tyX12 := ⟨rfl, inX12, tyX12_ok, nmX12⟩
end
section
set_option maxRecDepth 20000 in
theorem cs_X11_15 : csI RX11 15 yX8_init cX8_init 2 1 := ⟨gI cd_X8_init, in_X8, ml_X11_15, im_yX8_init, rfl, by decide +kernel⟩
set_option maxRecDepth 20000 in
theorem cs_X6_11 : csI RX6 11 yX10_init cX10_init 1 0 := ⟨gI cd_X10_init, in_X10, ml_X6_11, im_yX10_init, rfl, by decide +kernel⟩
set_option maxRecDepth 20000 in
theorem cs_X6_20 : csI RX6 20 yX8_init cX8_init 2 1 := ⟨gI cd_X8_init, in_X8, ml_X6_20, im_yX8_init, rfl, by decide +kernel⟩
set_option maxRecDepth 20000 in
theorem cs_X11_28 : csI RX11 28 yX6_init cX6_init 1 0 := ⟨gI cd_X6_init, in_X6, ml_X11_28, im_yX6_init, rfl, by decide +kernel⟩
set_option maxRecDepth 20000 in
theorem cs_X1_11 : csI RX1 11 yX8_init cX8_init 2 1 := ⟨gI cd_X8_init, in_X8, ml_X1_11, im_yX8_init, rfl, by decide +kernel⟩
set_option maxRecDepth 20000 in
theorem cs_X3_11 : csI RX3 11 yX1_init cX1_init 1 0 := ⟨gI cd_X1_init, in_X1, ml_X3_11, im_yX1_init, rfl, by decide +kernel⟩
set_option maxRecDepth 20000 in
theorem cs_X11_35 : csI RX11 35 yX3_init cX3_init 1 0 := ⟨gI cd_X3_init, in_X3, ml_X11_35, im_yX3_init, rfl, by decide +kernel⟩
set_option maxRecDepth 20000 in
theorem cs_X11_42 : csI RX11 42 yX5_init cX5_init 1 0 := ⟨gI cd_X5_init, in_X5, ml_X11_42, im_yX5_init, rfl, by decide +kernel⟩
set_option maxRecDepth 20000 in
theorem cs_X9_11 : csI RX9 11 yX8_init cX8_init 2 1 := ⟨gI cd_X8_init, in_X8, ml_X9_11, im_yX8_init, rfl, by decide +kernel⟩
set_option maxRecDepth 20000 in
theorem cs_X4_17 : csI RX4 17 yX9_init cX9_init 1 0 := ⟨gI cd_X9_init, in_X9, ml_X4_17, im_yX9_init, rfl, by decide +kernel⟩
set_option maxRecDepth 20000 in
theorem cs_X0_11 : csI RX0 11 yX8_init cX8_init 2 1 := ⟨gI cd_X8_init, in_X8, ml_X0_11, im_yX8_init, rfl, by decide +kernel⟩
set_option maxRecDepth 20000 in
theorem cs_X0_22 : csI RX0 22 yX1_init cX1_init 1 0 := ⟨gI cd_X1_init, in_X1, ml_X0_22, im_yX1_init, rfl, by decide +kernel⟩
set_option maxRecDepth 20000 in
theorem cs_X4_29 : csI RX4 29 yX0_init cX0_init 1 0 := ⟨gI cd_X0_init, in_X0, ml_X4_29, im_yX0_init, rfl, by decide +kernel⟩
set_option maxRecDepth 20000 in
theorem cs_X4_36 : csI RX4 36 yX8_init cX8_init 2 1 := ⟨gI cd_X8_init, in_X8, ml_X4_36, im_yX8_init, rfl, by decide +kernel⟩
set_option maxRecDepth 20000 in
theorem cs_X2_11 : csI RX2 11 yX3_init cX3_init 1 0 := ⟨gI cd_X3_init, in_X3, ml_X2_11, im_yX3_init, rfl, by decide +kernel⟩
set_option maxRecDepth 20000 in
theorem cs_X4_51 : csI RX4 51 yX2_init cX2_init 1 0 := ⟨gI cd_X2_init, in_X2, ml_X4_51, im_yX2_init, rfl, by decide +kernel⟩
set_option maxRecDepth 20000 in
theorem cs_X11_49 : csI RX11 49 yX4_init cX4_init 2 0 := ⟨gI cd_X4_init, in_X4, ml_X11_49, im_yX4_init, rfl, by decide +kernel⟩
set_option maxRecDepth 20000 in
theorem cs_X7_11 : csI RX7 11 yX1_init cX1_init 1 0 := ⟨gI cd_X1_init, in_X1, ml_X7_11, im_yX1_init, rfl, by decide +kernel⟩
set_option maxRecDepth 20000 in
theorem cs_X11_56 : csI RX11 56 yX7_init cX7_init 1 0 := ⟨gI cd_X7_init, in_X7, ml_X11_56, im_yX7_init, rfl, by decide +kernel⟩
end
section
theorem dX0_init_0 : decode cX0_init 0 = .ok (.aload_n 0, 1) := by decide +kernel
theorem dX0_init_1 : decode cX0_init 1 = .ok (.invokespecial 3, 3) := by decide +kernel
theorem dX0_init_4 : decode cX0_init 4 = .ok (.aload_n 0, 1) := by decide +kernel
theorem dX0_init_5 : decode cX0_init 5 = .ok (.new 9, 3) := by decide +kernel
theorem dX0_init_8 : decode cX0_init 8 = .ok (.dup, 1) := by decide +kernel
theorem dX0_init_9 : decode cX0_init 9 = .ok (.sipush 1000, 3) := by decide +kernel
theorem dX0_init_12 : decode cX0_init 12 = .ok (.invokespecial 11, 3) := by decide +kernel
theorem dX0_init_15 : decode cX0_init 15 = .ok (.putfield 14, 3) := by decide +kernel
theorem dX0_init_18 : decode cX0_init 18 = .ok (.aload_n 0, 1) := by decide +kernel
theorem dX0_init_19 : decode cX0_init 19 = .ok (.new 20, 3) := by decide +kernel
theorem dX0_init_22 : decode cX0_init 22 = .ok (.dup, 1) := by decide +kernel
theorem dX0_init_23 : decode cX0_init 23 = .ok (.invokespecial 22, 3) := by decide +kernel
theorem dX0_init_26 : decode cX0_init 26 = .ok (.putfield 23, 3) := by decide +kernel
theorem dX0_init_29 : decode cX0_init 29 = .ok (.return_, 1) := by decide +kernel
theorem dX10_init_0 : decode cX10_init 0 = .ok (.aload_n 0, 1) := by decide +kernel
theorem dX10_init_1 : decode cX10_init 1 = .ok (.invokespecial 3, 3) := by decide +kernel
theorem dX10_init_4 : decode cX10_init 4 = .ok (.aload_n 0, 1) := by decide +kernel
theorem dX10_init_5 : decode cX10_init 5 = .ok (.sipush 800, 3) := by decide +kernel
theorem dX10_init_8 : decode cX10_init 8 = .ok (.newarray .int, 2) := by decide +kernel
theorem dX10_init_10 : decode cX10_init 10 = .ok (.putfield 11, 3) := by decide +kernel
theorem dX10_init_13 : decode cX10_init 13 = .ok (.aload_n 0, 1) := by decide +kernel
theorem dX10_init_14 : decode cX10_init 14 = .ok (.iconst 0, 1) := by decide +kernel
theorem dX10_init_15 : decode cX10_init 15 = .ok (.putfield 15, 3) := by decide +kernel
theorem dX10_init_18 : decode cX10_init 18 = .ok (.return_, 1) := by decide +kernel
theorem dX11_init_0 : decode cX11_init 0 = .ok (.aload_n 0, 1) := by decide +kernel
theorem dX11_init_1 : decode cX11_init 1 = .ok (.invokespecial 1, 3) := by decide +kernel
theorem dX11_init_4 : decode cX11_init 4 = .ok (.aload_n 0, 1) := by decide +kernel
theorem dX11_init_5 : decode cX11_init 5 = .ok (.bipush 6, 2) := by decide +kernel
theorem dX11_init_7 : decode cX11_init 7 = .ok (.anewarray 9, 3) := by decide +kernel
theorem dX11_init_10 : decode cX11_init 10 = .ok (.putfield 11, 3) := by decide +kernel
theorem dX11_init_13 : decode cX11_init 13 = .ok (.iconst 0, 1) := by decide +kernel
theorem dX11_init_14 : decode cX11_init 14 = .ok (.istore_n 1, 1) := by decide +kernel
theorem dX11_init_15 : decode cX11_init 15 = .ok (.iload_n 1, 1) := by decide +kernel
theorem dX11_init_16 : decode cX11_init 16 = .ok (.bipush 6, 2) := by decide +kernel
theorem dX11_init_18 : decode cX11_init 18 = .ok (.if_icmp .ge 25, 3) := by decide +kernel
theorem dX11_init_21 : decode cX11_init 21 = .ok (.aload_n 0, 1) := by decide +kernel
theorem dX11_init_22 : decode cX11_init 22 = .ok (.getfield 11, 3) := by decide +kernel
theorem dX11_init_25 : decode cX11_init 25 = .ok (.iload_n 1, 1) := by decide +kernel
theorem dX11_init_26 : decode cX11_init 26 = .ok (.new 9, 3) := by decide +kernel
theorem dX11_init_29 : decode cX11_init 29 = .ok (.dup, 1) := by decide +kernel
theorem dX11_init_30 : decode cX11_init 30 = .ok (.sipush 480, 3) := by decide +kernel
theorem dX11_init_33 : decode cX11_init 33 = .ok (.invokespecial 15, 3) := by decide +kernel
theorem dX11_init_36 : decode cX11_init 36 = .ok (.aastore, 1) := by decide +kernel
theorem dX11_init_37 : decode cX11_init 37 = .ok (.iinc 1 1, 3) := by decide +kernel
theorem dX11_init_40 : decode cX11_init 40 = .ok (.goto (-25), 3) := by decide +kernel
theorem dX11_init_43 : decode cX11_init 43 = .ok (.aload_n 0, 1) := by decide +kernel
theorem dX11_init_44 : decode cX11_init 44 = .ok (.iconst 0, 1) := by decide +kernel
theorem dX11_init_45 : decode cX11_init 45 = .ok (.putfield 18, 3) := by decide +kernel
theorem dX11_init_48 : decode cX11_init 48 = .ok (.aload_n 0, 1) := by decide +kernel
theorem dX11_init_49 : decode cX11_init 49 = .ok (.new 9, 3) := by decide +kernel
theorem dX11_init_52 : decode cX11_init 52 = .ok (.dup, 1) := by decide +kernel
theorem dX11_init_53 : decode cX11_init 53 = .ok (.sipush 1000, 3) := by decide +kernel
theorem dX11_init_56 : decode cX11_init 56 = .ok (.invokespecial 15, 3) := by decide +kernel
theorem dX11_init_59 : decode cX11_init 59 = .ok (.putfield 22, 3) := by decide +kernel
theorem dX11_init_62 : decode cX11_init 62 = .ok (.aload_n 0, 1) := by decide +kernel
theorem dX11_init_63 : decode cX11_init 63 = .ok (.new 26, 3) := by decide +kernel
theorem dX11_init_66 : decode cX11_init 66 = .ok (.dup, 1) := by decide +kernel
theorem dX11_init_67 : decode cX11_init 67 = .ok (.invokespecial 28, 3) := by decide +kernel
theorem dX11_init_70 : decode cX11_init 70 = .ok (.putfield 29, 3) := by decide +kernel
theorem dX11_init_73 : decode cX11_init 73 = .ok (.aload_n 0, 1) := by decide +kernel
theorem dX11_init_74 : decode cX11_init 74 = .ok (.new 33, 3) := by decide +kernel
theorem dX11_init_77 : decode cX11_init 77 = .ok (.dup, 1) := by decide +kernel
theorem dX11_init_78 : decode cX11_init 78 = .ok (.invokespecial 35, 3) := by decide +kernel
theorem dX11_init_81 : decode cX11_init 81 = .ok (.putfield 36, 3) := by decide +kernel
theorem dX11_init_84 : decode cX11_init 84 = .ok (.aload_n 0, 1) := by decide +kernel
theorem dX11_init_85 : decode cX11_init 85 = .ok (.new 40, 3) := by decide +kernel
theorem dX11_init_88 : decode cX11_init 88 = .ok (.dup, 1) := by decide +kernel
theorem dX11_init_89 : decode cX11_init 89 = .ok (.invokespecial 42, 3) := by decide +kernel
theorem dX11_init_92 : decode cX11_init 92 = .ok (.putfield 43, 3) := by decide +kernel
theorem dX11_init_95 : decode cX11_init 95 = .ok (.aload_n 0, 1) := by decide +kernel
theorem dX11_init_96 : decode cX11_init 96 = .ok (.new 47, 3) := by decide +kernel
theorem dX11_init_99 : decode cX11_init 99 = .ok (.dup, 1) := by decide +kernel
theorem dX11_init_100 : decode cX11_init 100 = .ok (.invokespecial 49, 3) := by decide +kernel
theorem dX11_init_103 : decode cX11_init 103 = .ok (.putfield 50, 3) := by decide +kernel
theorem dX11_init_106 : decode cX11_init 106 = .ok (.aload_n 0, 1) := by decide +kernel
theorem dX11_init_107 : decode cX11_init 107 = .ok (.new 54, 3) := by decide +kernel
theorem dX11_init_110 : decode cX11_init 110 = .ok (.dup, 1) := by decide +kernel
theorem dX11_init_111 : decode cX11_init 111 = .ok (.invokespecial 56, 3) := by decide +kernel
theorem dX11_init_114 : decode cX11_init 114 = .ok (.putfield 57, 3) := by decide +kernel
theorem dX11_init_117 : decode cX11_init 117 = .ok (.return_, 1) := by decide +kernel
theorem dX1_init_0 : decode cX1_init 0 = .ok (.aload_n 0, 1) := by decide +kernel
theorem dX1_init_1 : decode cX1_init 1 = .ok (.invokespecial 3, 3) := by decide +kernel
theorem dX1_init_4 : decode cX1_init 4 = .ok (.aload_n 0, 1) := by decide +kernel
theorem dX1_init_5 : decode cX1_init 5 = .ok (.new 9, 3) := by decide +kernel
theorem dX1_init_8 : decode cX1_init 8 = .ok (.dup, 1) := by decide +kernel
theorem dX1_init_9 : decode cX1_init 9 = .ok (.iconst 1, 1) := by decide +kernel
theorem dX1_init_10 : decode cX1_init 10 = .ok (.invokespecial 11, 3) := by decide +kernel
theorem dX1_init_13 : decode cX1_init 13 = .ok (.putfield 14, 3) := by decide +kernel
theorem dX1_init_16 : decode cX1_init 16 = .ok (.aload_n 0, 1) := by decide +kernel
theorem dX1_init_17 : decode cX1_init 17 = .ok (.bipush 40, 2) := by decide +kernel
theorem dX1_init_19 : decode cX1_init 19 = .ok (.newarray .int, 2) := by decide +kernel
theorem dX1_init_21 : decode cX1_init 21 = .ok (.putfield 20, 3) := by decide +kernel
theorem dX1_init_24 : decode cX1_init 24 = .ok (.aload_n 0, 1) := by decide +kernel
theorem dX1_init_25 : decode cX1_init 25 = .ok (.bipush 40, 2) := by decide +kernel
theorem dX1_init_27 : decode cX1_init 27 = .ok (.newarray .int, 2) := by decide +kernel
theorem dX1_init_29 : decode cX1_init 29 = .ok (.putfield 24, 3) := by decide +kernel
theorem dX1_init_32 : decode cX1_init 32 = .ok (.aload_n 0, 1) := by decide +kernel
theorem dX1_init_33 : decode cX1_init 33 = .ok (.bipush 40, 2) := by decide +kernel
theorem dX1_init_35 : decode cX1_init 35 = .ok (.newarray .int, 2) := by decide +kernel
theorem dX1_init_37 : decode cX1_init 37 = .ok (.putfield 27, 3) := by decide +kernel
theorem dX1_init_40 : decode cX1_init 40 = .ok (.aload_n 0, 1) := by decide +kernel
theorem dX1_init_41 : decode cX1_init 41 = .ok (.bipush 40, 2) := by decide +kernel
theorem dX1_init_43 : decode cX1_init 43 = .ok (.newarray .int, 2) := by decide +kernel
theorem dX1_init_45 : decode cX1_init 45 = .ok (.putfield 30, 3) := by decide +kernel
theorem dX1_init_48 : decode cX1_init 48 = .ok (.aload_n 0, 1) := by decide +kernel
theorem dX1_init_49 : decode cX1_init 49 = .ok (.bipush 40, 2) := by decide +kernel
theorem dX1_init_51 : decode cX1_init 51 = .ok (.newarray .int, 2) := by decide +kernel
theorem dX1_init_53 : decode cX1_init 53 = .ok (.putfield 33, 3) := by decide +kernel
theorem dX1_init_56 : decode cX1_init 56 = .ok (.aload_n 0, 1) := by decide +kernel
theorem dX1_init_57 : decode cX1_init 57 = .ok (.bipush 40, 2) := by decide +kernel
theorem dX1_init_59 : decode cX1_init 59 = .ok (.newarray .int, 2) := by decide +kernel
theorem dX1_init_61 : decode cX1_init 61 = .ok (.putfield 36, 3) := by decide +kernel
theorem dX1_init_64 : decode cX1_init 64 = .ok (.aload_n 0, 1) := by decide +kernel
theorem dX1_init_65 : decode cX1_init 65 = .ok (.bipush 40, 2) := by decide +kernel
theorem dX1_init_67 : decode cX1_init 67 = .ok (.newarray .int, 2) := by decide +kernel
theorem dX1_init_69 : decode cX1_init 69 = .ok (.putfield 39, 3) := by decide +kernel
theorem dX1_init_72 : decode cX1_init 72 = .ok (.aload_n 0, 1) := by decide +kernel
theorem dX1_init_73 : decode cX1_init 73 = .ok (.bipush 40, 2) := by decide +kernel
theorem dX1_init_75 : decode cX1_init 75 = .ok (.newarray .int, 2) := by decide +kernel
theorem dX1_init_77 : decode cX1_init 77 = .ok (.putfield 42, 3) := by decide +kernel
theorem dX1_init_80 : decode cX1_init 80 = .ok (.aload_n 0, 1) := by decide +kernel
theorem dX1_init_81 : decode cX1_init 81 = .ok (.bipush 40, 2) := by decide +kernel
theorem dX1_init_83 : decode cX1_init 83 = .ok (.newarray .int, 2) := by decide +kernel
theorem dX1_init_85 : decode cX1_init 85 = .ok (.putfield 45, 3) := by decide +kernel
theorem dX1_init_88 : decode cX1_init 88 = .ok (.aload_n 0, 1) := by decide +kernel
theorem dX1_init_89 : decode cX1_init 89 = .ok (.bipush 40, 2) := by decide +kernel
theorem dX1_init_91 : decode cX1_init 91 = .ok (.newarray .int, 2) := by decide +kernel
theorem dX1_init_93 : decode cX1_init 93 = .ok (.putfield 48, 3) := by decide +kernel
theorem dX1_init_96 : decode cX1_init 96 = .ok (.aload_n 0, 1) := by decide +kernel
theorem dX1_init_97 : decode cX1_init 97 = .ok (.bipush 40, 2) := by decide +kernel
theorem dX1_init_99 : decode cX1_init 99 = .ok (.newarray .int, 2) := by decide +kernel
theorem dX1_init_101 : decode cX1_init 101 = .ok (.putfield 51, 3) := by decide +kernel
theorem dX1_init_104 : decode cX1_init 104 = .ok (.aload_n 0, 1) := by decide +kernel
theorem dX1_init_105 : decode cX1_init 105 = .ok (.sipush 480, 3) := by decide +kernel
theorem dX1_init_108 : decode cX1_init 108 = .ok (.newarray .int, 2) := by decide +kernel
theorem dX1_init_110 : decode cX1_init 110 = .ok (.putfield 54, 3) := by decide +kernel
theorem dX1_init_113 : decode cX1_init 113 = .ok (.aload_n 0, 1) := by decide +kernel
theorem dX1_init_114 : decode cX1_init 114 = .ok (.iconst 0, 1) := by decide +kernel
theorem dX1_init_115 : decode cX1_init 115 = .ok (.putfield 57, 3) := by decide +kernel
theorem dX1_init_118 : decode cX1_init 118 = .ok (.return_, 1) := by decide +kernel
theorem dX2_init_0 : decode cX2_init 0 = .ok (.aload_n 0, 1) := by decide +kernel
theorem dX2_init_1 : decode cX2_init 1 = .ok (.invokespecial 3, 3) := by decide +kernel
theorem dX2_init_4 : decode cX2_init 4 = .ok (.aload_n 0, 1) := by decide +kernel
theorem dX2_init_5 : decode cX2_init 5 = .ok (.new 9, 3) := by decide +kernel
theorem dX2_init_8 : decode cX2_init 8 = .ok (.dup, 1) := by decide +kernel
theorem dX2_init_9 : decode cX2_init 9 = .ok (.invokespecial 11, 3) := by decide +kernel
theorem dX2_init_12 : decode cX2_init 12 = .ok (.putfield 12, 3) := by decide +kernel
theorem dX2_init_15 : decode cX2_init 15 = .ok (.aload_n 0, 1) := by decide +kernel
theorem dX2_init_16 : decode cX2_init 16 = .ok (.new 9, 3) := by decide +kernel
theorem dX2_init_19 : decode cX2_init 19 = .ok (.dup, 1) := by decide +kernel
theorem dX2_init_20 : decode cX2_init 20 = .ok (.invokespecial 11, 3) := by decide +kernel
theorem dX2_init_23 : decode cX2_init 23 = .ok (.putfield 18, 3) := by decide +kernel
theorem dX2_init_26 : decode cX2_init 26 = .ok (.aload_n 0, 1) := by decide +kernel
theorem dX2_init_27 : decode cX2_init 27 = .ok (.iconst (-1), 1) := by decide +kernel
theorem dX2_init_28 : decode cX2_init 28 = .ok (.putfield 21, 3) := by decide +kernel
theorem dX2_init_31 : decode cX2_init 31 = .ok (.aload_n 0, 1) := by decide +kernel
theorem dX2_init_32 : decode cX2_init 32 = .ok (.iconst (-1), 1) := by decide +kernel
theorem dX2_init_33 : decode cX2_init 33 = .ok (.putfield 25, 3) := by decide +kernel
theorem dX2_init_36 : decode cX2_init 36 = .ok (.return_, 1) := by decide +kernel
theorem dX3_init_0 : decode cX3_init 0 = .ok (.aload_n 0, 1) := by decide +kernel
theorem dX3_init_1 : decode cX3_init 1 = .ok (.invokespecial 3, 3) := by decide +kernel
theorem dX3_init_4 : decode cX3_init 4 = .ok (.aload_n 0, 1) := by decide +kernel
theorem dX3_init_5 : decode cX3_init 5 = .ok (.new 9, 3) := by decide +kernel
theorem dX3_init_8 : decode cX3_init 8 = .ok (.dup, 1) := by decide +kernel
theorem dX3_init_9 : decode cX3_init 9 = .ok (.invokespecial 11, 3) := by decide +kernel
theorem dX3_init_12 : decode cX3_init 12 = .ok (.putfield 12, 3) := by decide +kernel
theorem dX3_init_15 : decode cX3_init 15 = .ok (.aload_n 0, 1) := by decide +kernel
theorem dX3_init_16 : decode cX3_init 16 = .ok (.bipush 100, 2) := by decide +kernel
theorem dX3_init_18 : decode cX3_init 18 = .ok (.newarray .int, 2) := by decide +kernel
theorem dX3_init_20 : decode cX3_init 20 = .ok (.putfield 18, 3) := by decide +kernel
theorem dX3_init_23 : decode cX3_init 23 = .ok (.aload_n 0, 1) := by decide +kernel
theorem dX3_init_24 : decode cX3_init 24 = .ok (.bipush 6, 2) := by decide +kernel
theorem dX3_init_26 : decode cX3_init 26 = .ok (.newarray .int, 2) := by decide +kernel
theorem dX3_init_28 : decode cX3_init 28 = .ok (.putfield 22, 3) := by decide +kernel
theorem dX3_init_31 : decode cX3_init 31 = .ok (.aload_n 0, 1) := by decide +kernel
theorem dX3_init_32 : decode cX3_init 32 = .ok (.sipush 300, 3) := by decide +kernel
theorem dX3_init_35 : decode cX3_init 35 = .ok (.newarray .int, 2) := by decide +kernel
theorem dX3_init_37 : decode cX3_init 37 = .ok (.putfield 25, 3) := by decide +kernel
theorem dX3_init_40 : decode cX3_init 40 = .ok (.return_, 1) := by decide +kernel
theorem dX4_init_0 : decode cX4_init 0 = .ok (.aload_n 0, 1) := by decide +kernel
theorem dX4_init_1 : decode cX4_init 1 = .ok (.invokespecial 3, 3) := by decide +kernel
theorem dX4_init_4 : decode cX4_init 4 = .ok (.aload_n 0, 1) := by decide +kernel
theorem dX4_init_5 : decode cX4_init 5 = .ok (.bipush 12, 2) := by decide +kernel
theorem dX4_init_7 : decode cX4_init 7 = .ok (.anewarray 9, 3) := by decide +kernel
theorem dX4_init_10 : decode cX4_init 10 = .ok (.putfield 11, 3) := by decide +kernel
theorem dX4_init_13 : decode cX4_init 13 = .ok (.iconst 0, 1) := by decide +kernel
theorem dX4_init_14 : decode cX4_init 14 = .ok (.istore_n 1, 1) := by decide +kernel
theorem dX4_init_15 : decode cX4_init 15 = .ok (.iload_n 1, 1) := by decide +kernel
theorem dX4_init_16 : decode cX4_init 16 = .ok (.bipush 12, 2) := by decide +kernel
theorem dX4_init_18 : decode cX4_init 18 = .ok (.if_icmp .ge 22, 3) := by decide +kernel
theorem dX4_init_21 : decode cX4_init 21 = .ok (.aload_n 0, 1) := by decide +kernel
theorem dX4_init_22 : decode cX4_init 22 = .ok (.getfield 11, 3) := by decide +kernel
theorem dX4_init_25 : decode cX4_init 25 = .ok (.iload_n 1, 1) := by decide +kernel
theorem dX4_init_26 : decode cX4_init 26 = .ok (.new 9, 3) := by decide +kernel
theorem dX4_init_29 : decode cX4_init 29 = .ok (.dup, 1) := by decide +kernel
theorem dX4_init_30 : decode cX4_init 30 = .ok (.invokespecial 17, 3) := by decide +kernel
theorem dX4_init_33 : decode cX4_init 33 = .ok (.aastore, 1) := by decide +kernel
theorem dX4_init_34 : decode cX4_init 34 = .ok (.iinc 1 1, 3) := by decide +kernel
theorem dX4_init_37 : decode cX4_init 37 = .ok (.goto (-22), 3) := by decide +kernel
theorem dX4_init_40 : decode cX4_init 40 = .ok (.aload_n 0, 1) := by decide +kernel
theorem dX4_init_41 : decode cX4_init 41 = .ok (.bipush 6, 2) := by decide +kernel
theorem dX4_init_43 : decode cX4_init 43 = .ok (.bipush 8, 2) := by decide +kernel
theorem dX4_init_45 : decode cX4_init 45 = .ok (.multianewarray 18 2, 4) := by decide +kernel
theorem dX4_init_49 : decode cX4_init 49 = .ok (.putfield 20, 3) := by decide +kernel
theorem dX4_init_52 : decode cX4_init 52 = .ok (.aload_n 0, 1) := by decide +kernel
theorem dX4_init_53 : decode cX4_init 53 = .ok (.bipush 6, 2) := by decide +kernel
theorem dX4_init_55 : decode cX4_init 55 = .ok (.newarray .int, 2) := by decide +kernel
theorem dX4_init_57 : decode cX4_init 57 = .ok (.putfield 23, 3) := by decide +kernel
theorem dX4_init_60 : decode cX4_init 60 = .ok (.aload_n 0, 1) := by decide +kernel
theorem dX4_init_61 : decode cX4_init 61 = .ok (.new 27, 3) := by decide +kernel
theorem dX4_init_64 : decode cX4_init 64 = .ok (.dup, 1) := by decide +kernel
theorem dX4_init_65 : decode cX4_init 65 = .ok (.invokespecial 29, 3) := by decide +kernel
theorem dX4_init_68 : decode cX4_init 68 = .ok (.putfield 30, 3) := by decide +kernel
theorem dX4_init_71 : decode cX4_init 71 = .ok (.aload_n 0, 1) := by decide +kernel
theorem dX4_init_72 : decode cX4_init 72 = .ok (.new 34, 3) := by decide +kernel
theorem dX4_init_75 : decode cX4_init 75 = .ok (.dup, 1) := by decide +kernel
theorem dX4_init_76 : decode cX4_init 76 = .ok (.sipush 1000, 3) := by decide +kernel
theorem dX4_init_79 : decode cX4_init 79 = .ok (.invokespecial 36, 3) := by decide +kernel
theorem dX4_init_82 : decode cX4_init 82 = .ok (.putfield 39, 3) := by decide +kernel
theorem dX4_init_85 : decode cX4_init 85 = .ok (.aload_n 0, 1) := by decide +kernel
theorem dX4_init_86 : decode cX4_init 86 = .ok (.new 34, 3) := by decide +kernel
theorem dX4_init_89 : decode cX4_init 89 = .ok (.dup, 1) := by decide +kernel
theorem dX4_init_90 : decode cX4_init 90 = .ok (.sipush 480, 3) := by decide +kernel
theorem dX4_init_93 : decode cX4_init 93 = .ok (.invokespecial 36, 3) := by decide +kernel
theorem dX4_init_96 : decode cX4_init 96 = .ok (.putfield 43, 3) := by decide +kernel
theorem dX4_init_99 : decode cX4_init 99 = .ok (.aload_n 0, 1) := by decide +kernel
theorem dX4_init_100 : decode cX4_init 100 = .ok (.new 34, 3) := by decide +kernel
theorem dX4_init_103 : decode cX4_init 103 = .ok (.dup, 1) := by decide +kernel
theorem dX4_init_104 : decode cX4_init 104 = .ok (.sipush 480, 3) := by decide +kernel
theorem dX4_init_107 : decode cX4_init 107 = .ok (.invokespecial 36, 3) := by decide +kernel
theorem dX4_init_110 : decode cX4_init 110 = .ok (.putfield 46, 3) := by decide +kernel
theorem dX4_init_113 : decode cX4_init 113 = .ok (.aload_n 0, 1) := by decide +kernel
theorem dX4_init_114 : decode cX4_init 114 = .ok (.new 49, 3) := by decide +kernel
theorem dX4_init_117 : decode cX4_init 117 = .ok (.dup, 1) := by decide +kernel
theorem dX4_init_118 : decode cX4_init 118 = .ok (.invokespecial 51, 3) := by decide +kernel
theorem dX4_init_121 : decode cX4_init 121 = .ok (.putfield 52, 3) := by decide +kernel
theorem dX4_init_124 : decode cX4_init 124 = .ok (.aload_n 0, 1) := by decide +kernel
theorem dX4_init_125 : decode cX4_init 125 = .ok (.iconst (-1), 1) := by decide +kernel
theorem dX4_init_126 : decode cX4_init 126 = .ok (.putfield 56, 3) := by decide +kernel
theorem dX4_init_129 : decode cX4_init 129 = .ok (.aload_n 0, 1) := by decide +kernel
theorem dX4_init_130 : decode cX4_init 130 = .ok (.iconst (-1), 1) := by decide +kernel
theorem dX4_init_131 : decode cX4_init 131 = .ok (.putfield 60, 3) := by decide +kernel
theorem dX4_init_134 : decode cX4_init 134 = .ok (.return_, 1) := by decide +kernel
theorem dX5_init_0 : decode cX5_init 0 = .ok (.aload_n 0, 1) := by decide +kernel
theorem dX5_init_1 : decode cX5_init 1 = .ok (.invokespecial 3, 3) := by decide +kernel
theorem dX5_init_4 : decode cX5_init 4 = .ok (.aload_n 0, 1) := by decide +kernel
theorem dX5_init_5 : decode cX5_init 5 = .ok (.iconst 3, 1) := by decide +kernel
theorem dX5_init_6 : decode cX5_init 6 = .ok (.newarray .int, 2) := by decide +kernel
theorem dX5_init_8 : decode cX5_init 8 = .ok (.putfield 9, 3) := by decide +kernel
theorem dX5_init_11 : decode cX5_init 11 = .ok (.aload_n 0, 1) := by decide +kernel
theorem dX5_init_12 : decode cX5_init 12 = .ok (.bipush 40, 2) := by decide +kernel
theorem dX5_init_14 : decode cX5_init 14 = .ok (.newarray .int, 2) := by decide +kernel
theorem dX5_init_16 : decode cX5_init 16 = .ok (.putfield 15, 3) := by decide +kernel
theorem dX5_init_19 : decode cX5_init 19 = .ok (.aload_n 0, 1) := by decide +kernel
theorem dX5_init_20 : decode cX5_init 20 = .ok (.bipush 20, 2) := by decide +kernel
theorem dX5_init_22 : decode cX5_init 22 = .ok (.sipush 512, 3) := by decide +kernel
theorem dX5_init_25 : decode cX5_init 25 = .ok (.multianewarray 18 2, 4) := by decide +kernel
theorem dX5_init_29 : decode cX5_init 29 = .ok (.putfield 20, 3) := by decide +kernel
theorem dX5_init_32 : decode cX5_init 32 = .ok (.aload_n 0, 1) := by decide +kernel
theorem dX5_init_33 : decode cX5_init 33 = .ok (.sipush 512, 3) := by decide +kernel
theorem dX5_init_36 : decode cX5_init 36 = .ok (.newarray .int, 2) := by decide +kernel
theorem dX5_init_38 : decode cX5_init 38 = .ok (.putfield 23, 3) := by decide +kernel
theorem dX5_init_41 : decode cX5_init 41 = .ok (.aload_n 0, 1) := by decide +kernel
theorem dX5_init_42 : decode cX5_init 42 = .ok (.sipush 512, 3) := by decide +kernel
theorem dX5_init_45 : decode cX5_init 45 = .ok (.newarray .int, 2) := by decide +kernel
theorem dX5_init_47 : decode cX5_init 47 = .ok (.putfield 26, 3) := by decide +kernel
theorem dX5_init_50 : decode cX5_init 50 = .ok (.aload_n 0, 1) := by decide +kernel
theorem dX5_init_51 : decode cX5_init 51 = .ok (.iconst (-1), 1) := by decide +kernel
theorem dX5_init_52 : decode cX5_init 52 = .ok (.putfield 29, 3) := by decide +kernel
theorem dX5_init_55 : decode cX5_init 55 = .ok (.return_, 1) := by decide +kernel
theorem dX6_init_0 : decode cX6_init 0 = .ok (.aload_n 0, 1) := by decide +kernel
theorem dX6_init_1 : decode cX6_init 1 = .ok (.invokespecial 3, 3) := by decide +kernel
theorem dX6_init_4 : decode cX6_init 4 = .ok (.aload_n 0, 1) := by decide +kernel
theorem dX6_init_5 : decode cX6_init 5 = .ok (.new 9, 3) := by decide +kernel
theorem dX6_init_8 : decode cX6_init 8 = .ok (.dup, 1) := by decide +kernel
theorem dX6_init_9 : decode cX6_init 9 = .ok (.invokespecial 11, 3) := by decide +kernel
theorem dX6_init_12 : decode cX6_init 12 = .ok (.putfield 12, 3) := by decide +kernel
theorem dX6_init_15 : decode cX6_init 15 = .ok (.aload_n 0, 1) := by decide +kernel
theorem dX6_init_16 : decode cX6_init 16 = .ok (.new 18, 3) := by decide +kernel
theorem dX6_init_19 : decode cX6_init 19 = .ok (.dup, 1) := by decide +kernel
theorem dX6_init_20 : decode cX6_init 20 = .ok (.iconst 1, 1) := by decide +kernel
theorem dX6_init_21 : decode cX6_init 21 = .ok (.invokespecial 20, 3) := by decide +kernel
theorem dX6_init_24 : decode cX6_init 24 = .ok (.putfield 23, 3) := by decide +kernel
theorem dX6_init_27 : decode cX6_init 27 = .ok (.aload_n 0, 1) := by decide +kernel
theorem dX6_init_28 : decode cX6_init 28 = .ok (.bipush 8, 2) := by decide +kernel
theorem dX6_init_30 : decode cX6_init 30 = .ok (.newarray .int, 2) := by decide +kernel
theorem dX6_init_32 : decode cX6_init 32 = .ok (.putfield 27, 3) := by decide +kernel
theorem dX6_init_35 : decode cX6_init 35 = .ok (.aload_n 0, 1) := by decide +kernel
theorem dX6_init_36 : decode cX6_init 36 = .ok (.bipush 8, 2) := by decide +kernel
theorem dX6_init_38 : decode cX6_init 38 = .ok (.newarray .int, 2) := by decide +kernel
theorem dX6_init_40 : decode cX6_init 40 = .ok (.putfield 31, 3) := by decide +kernel
theorem dX6_init_43 : decode cX6_init 43 = .ok (.aload_n 0, 1) := by decide +kernel
theorem dX6_init_44 : decode cX6_init 44 = .ok (.bipush 8, 2) := by decide +kernel
theorem dX6_init_46 : decode cX6_init 46 = .ok (.newarray .int, 2) := by decide +kernel
theorem dX6_init_48 : decode cX6_init 48 = .ok (.putfield 34, 3) := by decide +kernel
theorem dX6_init_51 : decode cX6_init 51 = .ok (.aload_n 0, 1) := by decide +kernel
theorem dX6_init_52 : decode cX6_init 52 = .ok (.iconst 0, 1) := by decide +kernel
theorem dX6_init_53 : decode cX6_init 53 = .ok (.putfield 37, 3) := by decide +kernel
theorem dX6_init_56 : decode cX6_init 56 = .ok (.aload_n 0, 1) := by decide +kernel
theorem dX6_init_57 : decode cX6_init 57 = .ok (.iconst (-1), 1) := by decide +kernel
theorem dX6_init_58 : decode cX6_init 58 = .ok (.putfield 41, 3) := by decide +kernel
theorem dX6_init_61 : decode cX6_init 61 = .ok (.return_, 1) := by decide +kernel
theorem dX7_init_0 : decode cX7_init 0 = .ok (.aload_n 0, 1) := by decide +kernel
theorem dX7_init_1 : decode cX7_init 1 = .ok (.invokespecial 3, 3) := by decide +kernel
theorem dX7_init_4 : decode cX7_init 4 = .ok (.aload_n 0, 1) := by decide +kernel
theorem dX7_init_5 : decode cX7_init 5 = .ok (.new 9, 3) := by decide +kernel
theorem dX7_init_8 : decode cX7_init 8 = .ok (.dup, 1) := by decide +kernel
theorem dX7_init_9 : decode cX7_init 9 = .ok (.invokespecial 11, 3) := by decide +kernel
theorem dX7_init_12 : decode cX7_init 12 = .ok (.putfield 12, 3) := by decide +kernel
theorem dX7_init_15 : decode cX7_init 15 = .ok (.aload_n 0, 1) := by decide +kernel
theorem dX7_init_16 : decode cX7_init 16 = .ok (.bipush 6, 2) := by decide +kernel
theorem dX7_init_18 : decode cX7_init 18 = .ok (.newarray .int, 2) := by decide +kernel
theorem dX7_init_20 : decode cX7_init 20 = .ok (.putfield 18, 3) := by decide +kernel
theorem dX7_init_23 : decode cX7_init 23 = .ok (.aload_n 0, 1) := by decide +kernel
theorem dX7_init_24 : decode cX7_init 24 = .ok (.bipush 6, 2) := by decide +kernel
theorem dX7_init_26 : decode cX7_init 26 = .ok (.newarray .int, 2) := by decide +kernel
theorem dX7_init_28 : decode cX7_init 28 = .ok (.putfield 22, 3) := by decide +kernel
theorem dX7_init_31 : decode cX7_init 31 = .ok (.aload_n 0, 1) := by decide +kernel
theorem dX7_init_32 : decode cX7_init 32 = .ok (.bipush 6, 2) := by decide +kernel
theorem dX7_init_34 : decode cX7_init 34 = .ok (.newarray .int, 2) := by decide +kernel
theorem dX7_init_36 : decode cX7_init 36 = .ok (.putfield 25, 3) := by decide +kernel
theorem dX7_init_39 : decode cX7_init 39 = .ok (.return_, 1) := by decide +kernel
theorem dX8_init_0 : decode cX8_init 0 = .ok (.aload_n 0, 1) := by decide +kernel
theorem dX8_init_1 : decode cX8_init 1 = .ok (.invokespecial 3, 3) := by decide +kernel
theorem dX8_init_4 : decode cX8_init 4 = .ok (.aload_n 0, 1) := by decide +kernel
theorem dX8_init_5 : decode cX8_init 5 = .ok (.iload_n 1, 1) := by decide +kernel
theorem dX8_init_6 : decode cX8_init 6 = .ok (.iconst 1, 1) := by decide +kernel
theorem dX8_init_7 : decode cX8_init 7 = .ok (.invokestatic 9, 3) := by decide +kernel
theorem dX8_init_10 : decode cX8_init 10 = .ok (.newarray .int, 2) := by decide +kernel
theorem dX8_init_12 : decode cX8_init 12 = .ok (.putfield 15, 3) := by decide +kernel
theorem dX8_init_15 : decode cX8_init 15 = .ok (.aload_n 0, 1) := by decide +kernel
theorem dX8_init_16 : decode cX8_init 16 = .ok (.iconst 0, 1) := by decide +kernel
theorem dX8_init_17 : decode cX8_init 17 = .ok (.putfield 21, 3) := by decide +kernel
theorem dX8_init_20 : decode cX8_init 20 = .ok (.return_, 1) := by decide +kernel
theorem dX9_init_0 : decode cX9_init 0 = .ok (.aload_n 0, 1) := by decide +kernel
theorem dX9_init_1 : decode cX9_init 1 = .ok (.invokespecial 3, 3) := by decide +kernel
theorem dX9_init_4 : decode cX9_init 4 = .ok (.aload_n 0, 1) := by decide +kernel
theorem dX9_init_5 : decode cX9_init 5 = .ok (.new 9, 3) := by decide +kernel
theorem dX9_init_8 : decode cX9_init 8 = .ok (.dup, 1) := by decide +kernel
theorem dX9_init_9 : decode cX9_init 9 = .ok (.bipush 40, 2) := by decide +kernel
theorem dX9_init_11 : decode cX9_init 11 = .ok (.invokespecial 11, 3) := by decide +kernel
theorem dX9_init_14 : decode cX9_init 14 = .ok (.putfield 14, 3) := by decide +kernel
theorem dX9_init_17 : decode cX9_init 17 = .ok (.aload_n 0, 1) := by decide +kernel
theorem dX9_init_18 : decode cX9_init 18 = .ok (.new 9, 3) := by decide +kernel
theorem dX9_init_21 : decode cX9_init 21 = .ok (.dup, 1) := by decide +kernel
theorem dX9_init_22 : decode cX9_init 22 = .ok (.bipush 40, 2) := by decide +kernel
theorem dX9_init_24 : decode cX9_init 24 = .ok (.invokespecial 11, 3) := by decide +kernel
theorem dX9_init_27 : decode cX9_init 27 = .ok (.putfield 20, 3) := by decide +kernel
theorem dX9_init_30 : decode cX9_init 30 = .ok (.aload_n 0, 1) := by decide +kernel
theorem dX9_init_31 : decode cX9_init 31 = .ok (.iconst 3, 1) := by decide +kernel
theorem dX9_init_32 : decode cX9_init 32 = .ok (.newarray .int, 2) := by decide +kernel
theorem dX9_init_34 : decode cX9_init 34 = .ok (.putfield 23, 3) := by decide +kernel
theorem dX9_init_37 : decode cX9_init 37 = .ok (.aload_n 0, 1) := by decide +kernel
theorem dX9_init_38 : decode cX9_init 38 = .ok (.iconst 3, 1) := by decide +kernel
theorem dX9_init_39 : decode cX9_init 39 = .ok (.newarray .int, 2) := by decide +kernel
theorem dX9_init_41 : decode cX9_init 41 = .ok (.putfield 27, 3) := by decide +kernel
theorem dX9_init_44 : decode cX9_init 44 = .ok (.aload_n 0, 1) := by decide +kernel
theorem dX9_init_45 : decode cX9_init 45 = .ok (.iconst 0, 1) := by decide +kernel
theorem dX9_init_46 : decode cX9_init 46 = .ok (.putfield 30, 3) := by decide +kernel
theorem dX9_init_49 : decode cX9_init 49 = .ok (.return_, 1) := by decide +kernel
end
section
set_option maxHeartbeats 4000000 in
set_option maxRecDepth 100000 in
theorem kcX8_init (l : Launch) (D : va_G) (h0 : Nat) (sz : Nat)  : Met l yX8_init (Cond.code yX8_init cX8_init 2 none :: gG) { frames := 1, cells := 1, slots := 480, locals := 64 } (cPre D [] [(h0, .inr (8, [.null, .int 0]))] sz [.ref h0, .int 480]) (va_Qv (fun (_ : Nat × ClassId) => True) (fun u t => cB D (va_A [(h0, .inr (8, [.null, .int 0]))] sz) ((fun u => match u with | (q7, e8) => [(e8, .int)]) u) ((fun u => match u with | (q7, e8) => [(h0, .inr (8, [.ref q7, .int 0])), (q7, .inl (e8, 480, .inl (fun _ => 0)))]) u) t) (va_A [(h0, .inr (8, [.null, .int 0]))] sz)) 1 480 (va_A [(h0, .inr (8, [.null, .int 0]))] sz) := by
  refine Met.ofW (cc := cX8_init) (maxL := 2) (ret := none) (by decide) rfl ?_
  intro p e s m args below meth c s₁ B hml hv
  obtain ⟨rfl, aks, rfl, Wd⟩ := k_enter hv
  have C : CallFix p m c cX8_init 2 s _ gG RX8 := ⟨B.exec, B.bytes, hml, findClass_of_methodNamed B.named, fun w h => atoms_spec (ws := Cond.code yX8_init cX8_init 2 none :: gG) B.pre w (List.mem_cons_of_mem _ h)⟩
  have hr := B.returns
  have hlk := B.notSynchronized
  have hin : meth.name = "<init>" := (name_of_methodNamed B.named B.method).1
  generalize va_A [(h0, .inr (8, [.null, .int 0]))] s.heap.size = A at Wd ⊢
  refine k_locals (Nat.le_of_ble_eq_true rfl) [(0, .ref h0), (1, .int 480)] rfl (fun ls hl => ?_)
  refine lv_aload_n C.1 C.2.1 dX8_init_0 rfl (lv_at hl 0 rfl) ?_
  refine k_oinit C hl.1 ml_X8_3 im_objectInit cd_obj (Nat.le_of_ble_eq_true rfl) (Nat.le_of_ble_eq_true rfl) dX8_init_1 ?_
  refine lv_aload_n C.1 C.2.1 dX8_init_4 rfl (lv_at hl 0 rfl) ?_
  refine lv_iload_n C.1 C.2.1 dX8_init_5 rfl (lv_at hl 1 rfl) ?_
  refine lv_iconst (v := 1) C.1 C.2.1 dX8_init_6 (by decide) ?_
  refine k_mmax (v := 480) C hl.1 ml_X8_9 st_Lib_Math_max_name in_J9 cd_max (Nat.le_of_ble_eq_true rfl) (Nat.le_of_ble_eq_true rfl) (Nat.le_of_ble_eq_true rfl) (Nat.le_of_ble_eq_true rfl) (by decide) dX8_init_7 ?_
  refine k_newa C Wd ac_int 480 (by decide) (by decide) (by decide) (cells' := 1) (slots' := 480) (Nat.le_of_ble_eq_true rfl) (Nat.le_of_ble_eq_true rfl) (by decide) (by decide) dX8_init_10 (fun q7 e8 H Wd => ?_)
  have Wd : wX D [(e8, .int)] s [(h0, .inr (8, [.null, .int 0])), (q7, .inl (e8, 480, .inl (fun _ => 0)))] _ A s.heap _ := Wd
  refine k_putF C Wd KX8 0 0 [(h0, .inr (8, [.ref q7, .int 0])), (q7, .inl (e8, 480, .inl (fun _ => 0)))] rfl (by decide) fl_X8_15 rfl hin rfl rfl rfl (Nat.le_of_ble_eq_true rfl) rfl dX8_init_12 (fun H locs Wd => ?_)
  refine lv_aload_n C.1 C.2.1 dX8_init_15 rfl (lv_at hl 0 rfl) ?_
  refine lv_iconst (v := 0) C.1 C.2.1 dX8_init_16 (by decide) ?_
  refine k_put C Wd KX8 0 1 [(h0, .inr (8, [.ref q7, .int 0])), (q7, .inl (e8, 480, .inl (fun _ => 0)))] rfl (by decide) fl_X8_21 rfl rfl rfl (Nat.le_of_ble_eq_true rfl) rfl dX8_init_17 (fun H locs Wd => ?_)
  exact k_vret C hr hlk Wd (q7, e8) trivial [0, 1] rfl (by decide) [0] rfl (by decide) (by decide) dX8_init_20
set_option maxHeartbeats 4000000 in
set_option maxRecDepth 100000 in
theorem kcX8_init_v1 (l : Launch) (D : va_G) (h0 : Nat) (sz : Nat)  : Met l yX8_init (Cond.code yX8_init cX8_init 2 none :: gG) { frames := 1, cells := 1, slots := 1000, locals := 64 } (cPre D [] [(h0, .inr (8, [.null, .int 0]))] sz [.ref h0, .int 1000]) (va_Qv (fun (_ : Nat × ClassId) => True) (fun u t => cB D (va_A [(h0, .inr (8, [.null, .int 0]))] sz) ((fun u => match u with | (q41, e42) => [(e42, .int)]) u) ((fun u => match u with | (q41, e42) => [(h0, .inr (8, [.ref q41, .int 0])), (q41, .inl (e42, 1000, .inl (fun _ => 0)))]) u) t) (va_A [(h0, .inr (8, [.null, .int 0]))] sz)) 1 1000 (va_A [(h0, .inr (8, [.null, .int 0]))] sz) := by
  refine Met.ofW (cc := cX8_init) (maxL := 2) (ret := none) (by decide) rfl ?_
  intro p e s m args below meth c s₁ B hml hv
  obtain ⟨rfl, aks, rfl, Wd⟩ := k_enter hv
  have C : CallFix p m c cX8_init 2 s _ gG RX8 := ⟨B.exec, B.bytes, hml, findClass_of_methodNamed B.named, fun w h => atoms_spec (ws := Cond.code yX8_init cX8_init 2 none :: gG) B.pre w (List.mem_cons_of_mem _ h)⟩
  have hr := B.returns
  have hlk := B.notSynchronized
  have hin : meth.name = "<init>" := (name_of_methodNamed B.named B.method).1
  generalize va_A [(h0, .inr (8, [.null, .int 0]))] s.heap.size = A at Wd ⊢
  refine k_locals (Nat.le_of_ble_eq_true rfl) [(0, .ref h0), (1, .int 1000)] rfl (fun ls hl => ?_)
  refine lv_aload_n C.1 C.2.1 dX8_init_0 rfl (lv_at hl 0 rfl) ?_
  refine k_oinit C hl.1 ml_X8_3 im_objectInit cd_obj (Nat.le_of_ble_eq_true rfl) (Nat.le_of_ble_eq_true rfl) dX8_init_1 ?_
  refine lv_aload_n C.1 C.2.1 dX8_init_4 rfl (lv_at hl 0 rfl) ?_
  refine lv_iload_n C.1 C.2.1 dX8_init_5 rfl (lv_at hl 1 rfl) ?_
  refine lv_iconst (v := 1) C.1 C.2.1 dX8_init_6 (by decide) ?_
  refine k_mmax (v := 1000) C hl.1 ml_X8_9 st_Lib_Math_max_name in_J9 cd_max (Nat.le_of_ble_eq_true rfl) (Nat.le_of_ble_eq_true rfl) (Nat.le_of_ble_eq_true rfl) (Nat.le_of_ble_eq_true rfl) (by decide) dX8_init_7 ?_
  refine k_newa C Wd ac_int 1000 (by decide) (by decide) (by decide) (cells' := 1) (slots' := 1000) (Nat.le_of_ble_eq_true rfl) (Nat.le_of_ble_eq_true rfl) (by decide) (by decide) dX8_init_10 (fun q41 e42 H Wd => ?_)
  have Wd : wX D [(e42, .int)] s [(h0, .inr (8, [.null, .int 0])), (q41, .inl (e42, 1000, .inl (fun _ => 0)))] _ A s.heap _ := Wd
  refine k_putF C Wd KX8 0 0 [(h0, .inr (8, [.ref q41, .int 0])), (q41, .inl (e42, 1000, .inl (fun _ => 0)))] rfl (by decide) fl_X8_15 rfl hin rfl rfl rfl (Nat.le_of_ble_eq_true rfl) rfl dX8_init_12 (fun H locs Wd => ?_)
  refine lv_aload_n C.1 C.2.1 dX8_init_15 rfl (lv_at hl 0 rfl) ?_
  refine lv_iconst (v := 0) C.1 C.2.1 dX8_init_16 (by decide) ?_
  refine k_put C Wd KX8 0 1 [(h0, .inr (8, [.ref q41, .int 0])), (q41, .inl (e42, 1000, .inl (fun _ => 0)))] rfl (by decide) fl_X8_21 rfl rfl rfl (Nat.le_of_ble_eq_true rfl) rfl dX8_init_17 (fun H locs Wd => ?_)
  exact k_vret C hr hlk Wd (q41, e42) trivial [0, 1] rfl (by decide) [0] rfl (by decide) (by decide) dX8_init_20
set_option maxHeartbeats 4000000 in
set_option maxRecDepth 100000 in
theorem kcX10_init (l : Launch) (D : va_G) (h0 : Nat) (sz : Nat)  : Met l yX10_init (Cond.code yX10_init cX10_init 1 none :: gG) { frames := 1, cells := 1, slots := 800, locals := 64 } (cPre D [] [(h0, .inr (10, [.null, .int 0, .int 0, .int 0, .int 0, .int 0]))] sz [.ref h0]) (va_Qv (fun (_ : Nat × ClassId) => True) (fun u t => cB D (va_A [(h0, .inr (10, [.null, .int 0, .int 0, .int 0, .int 0, .int 0]))] sz) ((fun u => match u with | (q50, e51) => [(e51, .int)]) u) ((fun u => match u with | (q50, e51) => [(h0, .inr (10, [.ref q50, .int 0, .int 0, .int 0, .int 0, .int 0])), (q50, .inl (e51, 800, .inl (fun _ => 0)))]) u) t) (va_A [(h0, .inr (10, [.null, .int 0, .int 0, .int 0, .int 0, .int 0]))] sz)) 1 800 (va_A [(h0, .inr (10, [.null, .int 0, .int 0, .int 0, .int 0, .int 0]))] sz) := by
  refine Met.ofW (cc := cX10_init) (maxL := 1) (ret := none) (by decide) rfl ?_
  intro p e s m args below meth c s₁ B hml hv
  obtain ⟨rfl, aks, rfl, Wd⟩ := k_enter hv
  have C : CallFix p m c cX10_init 1 s _ gG RX10 := ⟨B.exec, B.bytes, hml, findClass_of_methodNamed B.named, fun w h => atoms_spec (ws := Cond.code yX10_init cX10_init 1 none :: gG) B.pre w (List.mem_cons_of_mem _ h)⟩
  have hr := B.returns
  have hlk := B.notSynchronized
  have hin : meth.name = "<init>" := (name_of_methodNamed B.named B.method).1
  generalize va_A [(h0, .inr (10, [.null, .int 0, .int 0, .int 0, .int 0, .int 0]))] s.heap.size = A at Wd ⊢
  refine k_locals (Nat.le_of_ble_eq_true rfl) [(0, .ref h0)] rfl (fun ls hl => ?_)
  refine lv_aload_n C.1 C.2.1 dX10_init_0 rfl (lv_at hl 0 rfl) ?_
  refine k_oinit C hl.1 ml_X10_3 im_objectInit cd_obj (Nat.le_of_ble_eq_true rfl) (Nat.le_of_ble_eq_true rfl) dX10_init_1 ?_
  refine lv_aload_n C.1 C.2.1 dX10_init_4 rfl (lv_at hl 0 rfl) ?_
  refine lv_sipush (v := 800) C.1 C.2.1 dX10_init_5 (by decide) ?_
  refine k_newa C Wd ac_int 800 (by decide) (by decide) (by decide) (cells' := 1) (slots' := 800) (Nat.le_of_ble_eq_true rfl) (Nat.le_of_ble_eq_true rfl) (by decide) (by decide) dX10_init_8 (fun q50 e51 H Wd => ?_)
  have Wd : wX D [(e51, .int)] s [(h0, .inr (10, [.null, .int 0, .int 0, .int 0, .int 0, .int 0])), (q50, .inl (e51, 800, .inl (fun _ => 0)))] _ A s.heap _ := Wd
  refine k_putF C Wd KX10 0 0 [(h0, .inr (10, [.ref q50, .int 0, .int 0, .int 0, .int 0, .int 0])), (q50, .inl (e51, 800, .inl (fun _ => 0)))] rfl (by decide) fl_X10_11 rfl hin rfl rfl rfl (Nat.le_of_ble_eq_true rfl) rfl dX10_init_10 (fun H locs Wd => ?_)
  refine lv_aload_n C.1 C.2.1 dX10_init_13 rfl (lv_at hl 0 rfl) ?_
  refine lv_iconst (v := 0) C.1 C.2.1 dX10_init_14 (by decide) ?_
  refine k_put C Wd KX10 0 1 [(h0, .inr (10, [.ref q50, .int 0, .int 0, .int 0, .int 0, .int 0])), (q50, .inl (e51, 800, .inl (fun _ => 0)))] rfl (by decide) fl_X10_15 rfl rfl rfl (Nat.le_of_ble_eq_true rfl) rfl dX10_init_15 (fun H locs Wd => ?_)
  exact k_vret C hr hlk Wd (q50, e51) trivial [0, 1] rfl (by decide) [0] rfl (by decide) (by decide) dX10_init_18
set_option maxHeartbeats 4000000 in
set_option maxRecDepth 100000 in
theorem kcX8_init_v2 (l : Launch) (D : va_G) (h0 : Nat) (sz : Nat)  : Met l yX8_init (Cond.code yX8_init cX8_init 2 none :: gG) { frames := 1, cells := 1, slots := 1, locals := 64 } (cPre D [] [(h0, .inr (8, [.null, .int 0]))] sz [.ref h0, .int 1]) (va_Qv (fun (_ : Nat × ClassId) => True) (fun u t => cB D (va_A [(h0, .inr (8, [.null, .int 0]))] sz) ((fun u => match u with | (q58, e59) => [(e59, .int)]) u) ((fun u => match u with | (q58, e59) => [(h0, .inr (8, [.ref q58, .int 0])), (q58, .inl (e59, 1, .inl (fun _ => 0)))]) u) t) (va_A [(h0, .inr (8, [.null, .int 0]))] sz)) 1 1 (va_A [(h0, .inr (8, [.null, .int 0]))] sz) := by
  refine Met.ofW (cc := cX8_init) (maxL := 2) (ret := none) (by decide) rfl ?_
  intro p e s m args below meth c s₁ B hml hv
  obtain ⟨rfl, aks, rfl, Wd⟩ := k_enter hv
  have C : CallFix p m c cX8_init 2 s _ gG RX8 := ⟨B.exec, B.bytes, hml, findClass_of_methodNamed B.named, fun w h => atoms_spec (ws := Cond.code yX8_init cX8_init 2 none :: gG) B.pre w (List.mem_cons_of_mem _ h)⟩
  have hr := B.returns
  have hlk := B.notSynchronized
  have hin : meth.name = "<init>" := (name_of_methodNamed B.named B.method).1
  generalize va_A [(h0, .inr (8, [.null, .int 0]))] s.heap.size = A at Wd ⊢
  refine k_locals (Nat.le_of_ble_eq_true rfl) [(0, .ref h0), (1, .int 1)] rfl (fun ls hl => ?_)
  refine lv_aload_n C.1 C.2.1 dX8_init_0 rfl (lv_at hl 0 rfl) ?_
  refine k_oinit C hl.1 ml_X8_3 im_objectInit cd_obj (Nat.le_of_ble_eq_true rfl) (Nat.le_of_ble_eq_true rfl) dX8_init_1 ?_
  refine lv_aload_n C.1 C.2.1 dX8_init_4 rfl (lv_at hl 0 rfl) ?_
  refine lv_iload_n C.1 C.2.1 dX8_init_5 rfl (lv_at hl 1 rfl) ?_
  refine lv_iconst (v := 1) C.1 C.2.1 dX8_init_6 (by decide) ?_
  refine k_mmax (v := 1) C hl.1 ml_X8_9 st_Lib_Math_max_name in_J9 cd_max (Nat.le_of_ble_eq_true rfl) (Nat.le_of_ble_eq_true rfl) (Nat.le_of_ble_eq_true rfl) (Nat.le_of_ble_eq_true rfl) (by decide) dX8_init_7 ?_
  refine k_newa C Wd ac_int 1 (by decide) (by decide) (by decide) (cells' := 1) (slots' := 1) (Nat.le_of_ble_eq_true rfl) (Nat.le_of_ble_eq_true rfl) (by decide) (by decide) dX8_init_10 (fun q58 e59 H Wd => ?_)
  have Wd : wX D [(e59, .int)] s [(h0, .inr (8, [.null, .int 0])), (q58, .inl (e59, 1, .inl (fun _ => 0)))] _ A s.heap _ := Wd
  refine k_putF C Wd KX8 0 0 [(h0, .inr (8, [.ref q58, .int 0])), (q58, .inl (e59, 1, .inl (fun _ => 0)))] rfl (by decide) fl_X8_15 rfl hin rfl rfl rfl (Nat.le_of_ble_eq_true rfl) rfl dX8_init_12 (fun H locs Wd => ?_)
  refine lv_aload_n C.1 C.2.1 dX8_init_15 rfl (lv_at hl 0 rfl) ?_
  refine lv_iconst (v := 0) C.1 C.2.1 dX8_init_16 (by decide) ?_
  refine k_put C Wd KX8 0 1 [(h0, .inr (8, [.ref q58, .int 0])), (q58, .inl (e59, 1, .inl (fun _ => 0)))] rfl (by decide) fl_X8_21 rfl rfl rfl (Nat.le_of_ble_eq_true rfl) rfl dX8_init_17 (fun H locs Wd => ?_)
  exact k_vret C hr hlk Wd (q58, e59) trivial [0, 1] rfl (by decide) [0] rfl (by decide) (by decide) dX8_init_20
set_option maxHeartbeats 4000000 in
set_option maxRecDepth 100000 in
theorem kcX6_init (l : Launch) (D : va_G) (h0 : Nat) (sz : Nat)  : Met l yX6_init (Cond.code yX6_init cX6_init 1 none :: gG) { frames := 2, cells := 7, slots := 833, locals := 85 } (cPre D [] [(h0, .inr (6, [.null, .int 0, .int 0, .null, .null, .int 0, .int 0, .int 0, .int 0, .int 0, .int 0, .int 0, .int 0, .int 0, .null, .null, .null]))] sz [.ref h0]) (va_Qv (fun (_ : Nat × Nat × Nat × Nat × Nat × Nat × ClassId) => True) (fun u t => cB D (va_A [(h0, .inr (6, [.null, .int 0, .int 0, .null, .null, .int 0, .int 0, .int 0, .int 0, .int 0, .int 0, .int 0, .int 0, .int 0, .null, .null, .null]))] sz) ((fun u => match u with | (q69, q73, q77, q79, q81, q71, e72) => [(e72, .int)]) u) ((fun u => match u with | (q69, q73, q77, q79, q81, q71, e72) => [(h0, .inr (6, [.ref q69, .int 0, .int (-1), .ref q73, .null, .int 0, .int 0, .int 0, .int 0, .int 0, .int 0, .int 0, .int 0, .int 0, .ref q77, .ref q79, .ref q81])), (q69, .inr (10, [.ref q71, .int 0, .int 0, .int 0, .int 0, .int 0])), (q71, .inl (e72, 800, .inl (fun _ => 0)))]) u) t) (va_A [(h0, .inr (6, [.null, .int 0, .int 0, .null, .null, .int 0, .int 0, .int 0, .int 0, .int 0, .int 0, .int 0, .int 0, .int 0, .null, .null, .null]))] sz)) 7 833 (va_A [(h0, .inr (6, [.null, .int 0, .int 0, .null, .null, .int 0, .int 0, .int 0, .int 0, .int 0, .int 0, .int 0, .int 0, .int 0, .null, .null, .null]))] sz) := by
  refine Met.ofW (cc := cX6_init) (maxL := 1) (ret := none) (by decide) rfl ?_
  intro p e s m args below meth c s₁ B hml hv
  obtain ⟨rfl, aks, rfl, Wd⟩ := k_enter hv
  have C : CallFix p m c cX6_init 1 s _ gG RX6 := ⟨B.exec, B.bytes, hml, findClass_of_methodNamed B.named, fun w h => atoms_spec (ws := Cond.code yX6_init cX6_init 1 none :: gG) B.pre w (List.mem_cons_of_mem _ h)⟩
  have hr := B.returns
  have hlk := B.notSynchronized
  have hin : meth.name = "<init>" := (name_of_methodNamed B.named B.method).1
  generalize va_A [(h0, .inr (6, [.null, .int 0, .int 0, .null, .null, .int 0, .int 0, .int 0, .int 0, .int 0, .int 0, .int 0, .int 0, .int 0, .null, .null, .null]))] s.heap.size = A at Wd ⊢
  refine k_locals (Nat.le_of_ble_eq_true rfl) [(0, .ref h0)] rfl (fun ls hl => ?_)
  refine lv_aload_n C.1 C.2.1 dX6_init_0 rfl (lv_at hl 0 rfl) ?_
  refine k_oinit C hl.1 ml_X6_3 im_objectInit cd_obj (Nat.le_of_ble_eq_true rfl) (Nat.le_of_ble_eq_true rfl) dX6_init_1 ?_
  refine lv_aload_n C.1 C.2.1 dX6_init_4 rfl (lv_at hl 0 rfl) ?_
  refine k_new C Wd KX10 cl_X6_9 is_X10 in_X10 [.null, .int 0, .int 0, .int 0, .int 0, .int 0] (by decide +kernel) (cells' := 1) (slots' := 6) (Nat.le_of_ble_eq_true rfl) (Nat.le_of_ble_eq_true rfl) (by decide) (by decide) dX6_init_5 (fun q69 H Wd => ?_)
  have Wd : wX D [] s [(h0, .inr (6, [.null, .int 0, .int 0, .null, .null, .int 0, .int 0, .int 0, .int 0, .int 0, .int 0, .int 0, .int 0, .int 0, .null, .null, .null])), (q69, .inr (10, [.null, .int 0, .int 0, .int 0, .int 0, .int 0]))] _ A s.heap _ := Wd
  refine lv_dup C.1 C.2.1 dX6_init_8 rfl ?_
  refine k_cv Wd [1] [0] rfl (wr := [(h0, .inr (6, [.null, .int 0, .int 0, .null, .null, .int 0, .int 0, .int 0, .int 0, .int 0, .int 0, .int 0, .int 0, .int 0, .null, .null, .null]))]) rfl (by decide) (by decide) (cells' := 2) (slots' := 806) (by decide) (by decide) (k_runI (rest := [.ref q69, .ref h0]) C aks Wd cs_X6_11 (kcX10_init l D q69 _ ) [1] rfl (by decide) [] rfl rfl rfl ⟨(Nat.le_of_ble_eq_true rfl), (Nat.le_of_ble_eq_true rfl)⟩ hl.1 rfl rfl (Nat.le_of_ble_eq_true rfl) ⟨(Nat.le_of_ble_eq_true rfl), (Nat.le_of_ble_eq_true rfl)⟩ dX6_init_9) (fun u H locs w70 Wd => ?_)
  obtain ⟨q71, e72⟩ := u
  have Wd : wX D [(e72, .int)] s [(h0, .inr (6, [.null, .int 0, .int 0, .null, .null, .int 0, .int 0, .int 0, .int 0, .int 0, .int 0, .int 0, .int 0, .int 0, .null, .null, .null])), (q69, .inr (10, [.ref q71, .int 0, .int 0, .int 0, .int 0, .int 0])), (q71, .inl (e72, 800, .inl (fun _ => 0)))] _ A s.heap _ := Wd
  refine k_putF C Wd KX6 0 0 [(h0, .inr (6, [.ref q69, .int 0, .int 0, .null, .null, .int 0, .int 0, .int 0, .int 0, .int 0, .int 0, .int 0, .int 0, .int 0, .null, .null, .null])), (q69, .inr (10, [.ref q71, .int 0, .int 0, .int 0, .int 0, .int 0])), (q71, .inl (e72, 800, .inl (fun _ => 0)))] rfl (by decide) fl_X6_12 rfl hin rfl rfl rfl (Nat.le_of_ble_eq_true rfl) rfl dX6_init_12 (fun H locs Wd => ?_)
  refine lv_aload_n C.1 C.2.1 dX6_init_15 rfl (lv_at hl 0 rfl) ?_
  refine k_new C Wd KX8 cl_X6_18 is_X8 in_X8 [.null, .int 0] (by decide +kernel) (cells' := 3) (slots' := 808) (Nat.le_of_ble_eq_true rfl) (Nat.le_of_ble_eq_true rfl) (by decide) (by decide) dX6_init_16 (fun q73 H Wd => ?_)
  have Wd : wX D [(e72, .int)] s [(h0, .inr (6, [.ref q69, .int 0, .int 0, .null, .null, .int 0, .int 0, .int 0, .int 0, .int 0, .int 0, .int 0, .int 0, .int 0, .null, .null, .null])), (q69, .inr (10, [.ref q71, .int 0, .int 0, .int 0, .int 0, .int 0])), (q71, .inl (e72, 800, .inl (fun _ => 0))), (q73, .inr (8, [.null, .int 0]))] _ A s.heap _ := Wd
  refine lv_dup C.1 C.2.1 dX6_init_19 rfl ?_
  refine lv_iconst (v := 1) C.1 C.2.1 dX6_init_20 (by decide) ?_
  refine k_cv Wd [3] [0, 1, 2] rfl (wr := [(h0, .inr (6, [.ref q69, .int 0, .int 0, .null, .null, .int 0, .int 0, .int 0, .int 0, .int 0, .int 0, .int 0, .int 0, .int 0, .null, .null, .null])), (q69, .inr (10, [.ref q71, .int 0, .int 0, .int 0, .int 0, .int 0])), (q71, .inl (e72, 800, .inl (fun _ => 0)))]) rfl (by decide) (by decide) (cells' := 4) (slots' := 809) (by decide) (by decide) (k_runI (rest := [.ref q73, .ref h0]) C aks Wd cs_X6_20 (kcX8_init_v2 l D q73 _ ) [3] rfl (by decide) [] rfl rfl rfl ⟨(Nat.le_of_ble_eq_true rfl), (Nat.le_of_ble_eq_true rfl)⟩ hl.1 rfl rfl (Nat.le_of_ble_eq_true rfl) ⟨(Nat.le_of_ble_eq_true rfl), (Nat.le_of_ble_eq_true rfl)⟩ dX6_init_21) (fun u H locs w74 Wd => ?_)
  obtain ⟨q75, e76⟩ := u
  have Wd : wX D [(e72, .int), (e76, .int)] s [(h0, .inr (6, [.ref q69, .int 0, .int 0, .null, .null, .int 0, .int 0, .int 0, .int 0, .int 0, .int 0, .int 0, .int 0, .int 0, .null, .null, .null])), (q69, .inr (10, [.ref q71, .int 0, .int 0, .int 0, .int 0, .int 0])), (q71, .inl (e72, 800, .inl (fun _ => 0))), (q73, .inr (8, [.ref q75, .int 0])), (q75, .inl (e76, 1, .inl (fun _ => 0)))] _ A s.heap _ := Wd
  refine k_put C Wd KX6 0 3 [(h0, .inr (6, [.ref q69, .int 0, .int 0, .ref q73, .null, .int 0, .int 0, .int 0, .int 0, .int 0, .int 0, .int 0, .int 0, .int 0, .null, .null, .null])), (q69, .inr (10, [.ref q71, .int 0, .int 0, .int 0, .int 0, .int 0])), (q71, .inl (e72, 800, .inl (fun _ => 0))), (q73, .inr (8, [.ref q75, .int 0])), (q75, .inl (e76, 1, .inl (fun _ => 0)))] rfl (by decide) fl_X6_23 rfl rfl rfl (Nat.le_of_ble_eq_true rfl) rfl dX6_init_24 (fun H locs Wd => ?_)
  refine lv_aload_n C.1 C.2.1 dX6_init_27 rfl (lv_at hl 0 rfl) ?_
  refine lv_bipush (v := 8) C.1 C.2.1 dX6_init_28 (by decide) ?_
  refine k_newa C Wd ac_int 8 (by decide) (by decide) (by decide) (cells' := 5) (slots' := 817) (Nat.le_of_ble_eq_true rfl) (Nat.le_of_ble_eq_true rfl) (by decide) (by decide) dX6_init_30 (fun q77 e78 H Wd => ?_)
  have Wd : wX D [(e72, .int), (e76, .int), (e78, .int)] s [(h0, .inr (6, [.ref q69, .int 0, .int 0, .ref q73, .null, .int 0, .int 0, .int 0, .int 0, .int 0, .int 0, .int 0, .int 0, .int 0, .null, .null, .null])), (q69, .inr (10, [.ref q71, .int 0, .int 0, .int 0, .int 0, .int 0])), (q71, .inl (e72, 800, .inl (fun _ => 0))), (q73, .inr (8, [.ref q75, .int 0])), (q75, .inl (e76, 1, .inl (fun _ => 0))), (q77, .inl (e78, 8, .inl (fun _ => 0)))] _ A s.heap _ := Wd
  refine k_putF C Wd KX6 0 14 [(h0, .inr (6, [.ref q69, .int 0, .int 0, .ref q73, .null, .int 0, .int 0, .int 0, .int 0, .int 0, .int 0, .int 0, .int 0, .int 0, .ref q77, .null, .null])), (q69, .inr (10, [.ref q71, .int 0, .int 0, .int 0, .int 0, .int 0])), (q71, .inl (e72, 800, .inl (fun _ => 0))), (q73, .inr (8, [.ref q75, .int 0])), (q75, .inl (e76, 1, .inl (fun _ => 0))), (q77, .inl (e78, 8, .inl (fun _ => 0)))] rfl (by decide) fl_X6_27 rfl hin rfl rfl rfl (Nat.le_of_ble_eq_true rfl) rfl dX6_init_32 (fun H locs Wd => ?_)
  refine lv_aload_n C.1 C.2.1 dX6_init_35 rfl (lv_at hl 0 rfl) ?_
  refine lv_bipush (v := 8) C.1 C.2.1 dX6_init_36 (by decide) ?_
  refine k_newa C Wd ac_int 8 (by decide) (by decide) (by decide) (cells' := 6) (slots' := 825) (Nat.le_of_ble_eq_true rfl) (Nat.le_of_ble_eq_true rfl) (by decide) (by decide) dX6_init_38 (fun q79 e80 H Wd => ?_)
  have Wd : wX D [(e72, .int), (e76, .int), (e78, .int), (e80, .int)] s [(h0, .inr (6, [.ref q69, .int 0, .int 0, .ref q73, .null, .int 0, .int 0, .int 0, .int 0, .int 0, .int 0, .int 0, .int 0, .int 0, .ref q77, .null, .null])), (q69, .inr (10, [.ref q71, .int 0, .int 0, .int 0, .int 0, .int 0])), (q71, .inl (e72, 800, .inl (fun _ => 0))), (q73, .inr (8, [.ref q75, .int 0])), (q75, .inl (e76, 1, .inl (fun _ => 0))), (q77, .inl (e78, 8, .inl (fun _ => 0))), (q79, .inl (e80, 8, .inl (fun _ => 0)))] _ A s.heap _ := Wd
  refine k_putF C Wd KX6 0 15 [(h0, .inr (6, [.ref q69, .int 0, .int 0, .ref q73, .null, .int 0, .int 0, .int 0, .int 0, .int 0, .int 0, .int 0, .int 0, .int 0, .ref q77, .ref q79, .null])), (q69, .inr (10, [.ref q71, .int 0, .int 0, .int 0, .int 0, .int 0])), (q71, .inl (e72, 800, .inl (fun _ => 0))), (q73, .inr (8, [.ref q75, .int 0])), (q75, .inl (e76, 1, .inl (fun _ => 0))), (q77, .inl (e78, 8, .inl (fun _ => 0))), (q79, .inl (e80, 8, .inl (fun _ => 0)))] rfl (by decide) fl_X6_31 rfl hin rfl rfl rfl (Nat.le_of_ble_eq_true rfl) rfl dX6_init_40 (fun H locs Wd => ?_)
  refine lv_aload_n C.1 C.2.1 dX6_init_43 rfl (lv_at hl 0 rfl) ?_
  refine lv_bipush (v := 8) C.1 C.2.1 dX6_init_44 (by decide) ?_
  refine k_newa C Wd ac_int 8 (by decide) (by decide) (by decide) (cells' := 7) (slots' := 833) (Nat.le_of_ble_eq_true rfl) (Nat.le_of_ble_eq_true rfl) (by decide) (by decide) dX6_init_46 (fun q81 e82 H Wd => ?_)
  have Wd : wX D [(e72, .int), (e76, .int), (e78, .int), (e80, .int), (e82, .int)] s [(h0, .inr (6, [.ref q69, .int 0, .int 0, .ref q73, .null, .int 0, .int 0, .int 0, .int 0, .int 0, .int 0, .int 0, .int 0, .int 0, .ref q77, .ref q79, .null])), (q69, .inr (10, [.ref q71, .int 0, .int 0, .int 0, .int 0, .int 0])), (q71, .inl (e72, 800, .inl (fun _ => 0))), (q73, .inr (8, [.ref q75, .int 0])), (q75, .inl (e76, 1, .inl (fun _ => 0))), (q77, .inl (e78, 8, .inl (fun _ => 0))), (q79, .inl (e80, 8, .inl (fun _ => 0))), (q81, .inl (e82, 8, .inl (fun _ => 0)))] _ A s.heap _ := Wd
  refine k_putF C Wd KX6 0 16 [(h0, .inr (6, [.ref q69, .int 0, .int 0, .ref q73, .null, .int 0, .int 0, .int 0, .int 0, .int 0, .int 0, .int 0, .int 0, .int 0, .ref q77, .ref q79, .ref q81])), (q69, .inr (10, [.ref q71, .int 0, .int 0, .int 0, .int 0, .int 0])), (q71, .inl (e72, 800, .inl (fun _ => 0))), (q73, .inr (8, [.ref q75, .int 0])), (q75, .inl (e76, 1, .inl (fun _ => 0))), (q77, .inl (e78, 8, .inl (fun _ => 0))), (q79, .inl (e80, 8, .inl (fun _ => 0))), (q81, .inl (e82, 8, .inl (fun _ => 0)))] rfl (by decide) fl_X6_34 rfl hin rfl rfl rfl (Nat.le_of_ble_eq_true rfl) rfl dX6_init_48 (fun H locs Wd => ?_)
  refine lv_aload_n C.1 C.2.1 dX6_init_51 rfl (lv_at hl 0 rfl) ?_
  refine lv_iconst (v := 0) C.1 C.2.1 dX6_init_52 (by decide) ?_
  refine k_put C Wd KX6 0 1 [(h0, .inr (6, [.ref q69, .int 0, .int 0, .ref q73, .null, .int 0, .int 0, .int 0, .int 0, .int 0, .int 0, .int 0, .int 0, .int 0, .ref q77, .ref q79, .ref q81])), (q69, .inr (10, [.ref q71, .int 0, .int 0, .int 0, .int 0, .int 0])), (q71, .inl (e72, 800, .inl (fun _ => 0))), (q73, .inr (8, [.ref q75, .int 0])), (q75, .inl (e76, 1, .inl (fun _ => 0))), (q77, .inl (e78, 8, .inl (fun _ => 0))), (q79, .inl (e80, 8, .inl (fun _ => 0))), (q81, .inl (e82, 8, .inl (fun _ => 0)))] rfl (by decide) fl_X6_37 rfl rfl rfl (Nat.le_of_ble_eq_true rfl) rfl dX6_init_53 (fun H locs Wd => ?_)
  refine lv_aload_n C.1 C.2.1 dX6_init_56 rfl (lv_at hl 0 rfl) ?_
  refine lv_iconst (v := (-1)) C.1 C.2.1 dX6_init_57 (by decide) ?_
  refine k_put C Wd KX6 0 2 [(h0, .inr (6, [.ref q69, .int 0, .int (-1), .ref q73, .null, .int 0, .int 0, .int 0, .int 0, .int 0, .int 0, .int 0, .int 0, .int 0, .ref q77, .ref q79, .ref q81])), (q69, .inr (10, [.ref q71, .int 0, .int 0, .int 0, .int 0, .int 0])), (q71, .inl (e72, 800, .inl (fun _ => 0))), (q73, .inr (8, [.ref q75, .int 0])), (q75, .inl (e76, 1, .inl (fun _ => 0))), (q77, .inl (e78, 8, .inl (fun _ => 0))), (q79, .inl (e80, 8, .inl (fun _ => 0))), (q81, .inl (e82, 8, .inl (fun _ => 0)))] rfl (by decide) fl_X6_41 rfl rfl rfl (Nat.le_of_ble_eq_true rfl) rfl dX6_init_58 (fun H locs Wd => ?_)
  exact k_vret C hr hlk Wd (q69, q73, q77, q79, q81, q71, e72) trivial [0, 1, 2] rfl (by decide) [0] rfl (by decide) (by decide) dX6_init_61
set_option maxHeartbeats 4000000 in
set_option maxRecDepth 100000 in
theorem kcX1_init (l : Launch) (D : va_G) (h0 : Nat) (sz : Nat)  : Met l yX1_init (Cond.code yX1_init cX1_init 1 none :: gG) { frames := 2, cells := 14, slots := 923, locals := 85 } (cPre D [] [(h0, .inr (1, [.null, .int 0, .null, .null, .null, .null, .null, .null, .null, .null, .null, .null, .null, .null]))] sz [.ref h0]) (va_Qv (fun (_ : Nat × Nat × Nat × Nat × Nat × Nat × Nat × Nat × Nat × Nat × Nat × Nat × Nat × ClassId) => True) (fun u t => cB D (va_A [(h0, .inr (1, [.null, .int 0, .null, .null, .null, .null, .null, .null, .null, .null, .null, .null, .null, .null]))] sz) ((fun u => match u with | (q121, q125, q127, q129, q131, q133, q135, q137, q139, q141, q143, q145, q147, e148) => [(e148, .int)]) u) ((fun u => match u with | (q121, q125, q127, q129, q131, q133, q135, q137, q139, q141, q143, q145, q147, e148) => [(h0, .inr (1, [.ref q121, .int 0, .ref q125, .ref q127, .ref q129, .ref q131, .ref q133, .ref q135, .ref q137, .ref q139, .ref q141, .ref q143, .ref q145, .ref q147])), (q147, .inl (e148, 480, .inl (fun _ => 0)))]) u) t) (va_A [(h0, .inr (1, [.null, .int 0, .null, .null, .null, .null, .null, .null, .null, .null, .null, .null, .null, .null]))] sz)) 14 923 (va_A [(h0, .inr (1, [.null, .int 0, .null, .null, .null, .null, .null, .null, .null, .null, .null, .null, .null, .null]))] sz) := by
  refine Met.ofW (cc := cX1_init) (maxL := 1) (ret := none) (by decide) rfl ?_
  intro p e s m args below meth c s₁ B hml hv
  obtain ⟨rfl, aks, rfl, Wd⟩ := k_enter hv
  have C : CallFix p m c cX1_init 1 s _ gG RX1 := ⟨B.exec, B.bytes, hml, findClass_of_methodNamed B.named, fun w h => atoms_spec (ws := Cond.code yX1_init cX1_init 1 none :: gG) B.pre w (List.mem_cons_of_mem _ h)⟩
  have hr := B.returns
  have hlk := B.notSynchronized
  have hin : meth.name = "<init>" := (name_of_methodNamed B.named B.method).1
  generalize va_A [(h0, .inr (1, [.null, .int 0, .null, .null, .null, .null, .null, .null, .null, .null, .null, .null, .null, .null]))] s.heap.size = A at Wd ⊢
  refine k_locals (Nat.le_of_ble_eq_true rfl) [(0, .ref h0)] rfl (fun ls hl => ?_)
  refine lv_aload_n C.1 C.2.1 dX1_init_0 rfl (lv_at hl 0 rfl) ?_
  refine k_oinit C hl.1 ml_X1_3 im_objectInit cd_obj (Nat.le_of_ble_eq_true rfl) (Nat.le_of_ble_eq_true rfl) dX1_init_1 ?_
  refine lv_aload_n C.1 C.2.1 dX1_init_4 rfl (lv_at hl 0 rfl) ?_
  refine k_new C Wd KX8 cl_X1_9 is_X8 in_X8 [.null, .int 0] (by decide +kernel) (cells' := 1) (slots' := 2) (Nat.le_of_ble_eq_true rfl) (Nat.le_of_ble_eq_true rfl) (by decide) (by decide) dX1_init_5 (fun q121 H Wd => ?_)
  have Wd : wX D [] s [(h0, .inr (1, [.null, .int 0, .null, .null, .null, .null, .null, .null, .null, .null, .null, .null, .null, .null])), (q121, .inr (8, [.null, .int 0]))] _ A s.heap _ := Wd
  refine lv_dup C.1 C.2.1 dX1_init_8 rfl ?_
  refine lv_iconst (v := 1) C.1 C.2.1 dX1_init_9 (by decide) ?_
  refine k_cv Wd [1] [0] rfl (wr := [(h0, .inr (1, [.null, .int 0, .null, .null, .null, .null, .null, .null, .null, .null, .null, .null, .null, .null]))]) rfl (by decide) (by decide) (cells' := 2) (slots' := 3) (by decide) (by decide) (k_runI (rest := [.ref q121, .ref h0]) C aks Wd cs_X1_11 (kcX8_init_v2 l D q121 _ ) [1] rfl (by decide) [] rfl rfl rfl ⟨(Nat.le_of_ble_eq_true rfl), (Nat.le_of_ble_eq_true rfl)⟩ hl.1 rfl rfl (Nat.le_of_ble_eq_true rfl) ⟨(Nat.le_of_ble_eq_true rfl), (Nat.le_of_ble_eq_true rfl)⟩ dX1_init_10) (fun u H locs w122 Wd => ?_)
  obtain ⟨q123, e124⟩ := u
  have Wd : wX D [(e124, .int)] s [(h0, .inr (1, [.null, .int 0, .null, .null, .null, .null, .null, .null, .null, .null, .null, .null, .null, .null])), (q121, .inr (8, [.ref q123, .int 0])), (q123, .inl (e124, 1, .inl (fun _ => 0)))] _ A s.heap _ := Wd
  refine k_put C Wd KX1 0 0 [(h0, .inr (1, [.ref q121, .int 0, .null, .null, .null, .null, .null, .null, .null, .null, .null, .null, .null, .null])), (q121, .inr (8, [.ref q123, .int 0])), (q123, .inl (e124, 1, .inl (fun _ => 0)))] rfl (by decide) fl_X1_14 rfl rfl rfl (Nat.le_of_ble_eq_true rfl) rfl dX1_init_13 (fun H locs Wd => ?_)
  refine lv_aload_n C.1 C.2.1 dX1_init_16 rfl (lv_at hl 0 rfl) ?_
  refine lv_bipush (v := 40) C.1 C.2.1 dX1_init_17 (by decide) ?_
  refine k_newa C Wd ac_int 40 (by decide) (by decide) (by decide) (cells' := 3) (slots' := 43) (Nat.le_of_ble_eq_true rfl) (Nat.le_of_ble_eq_true rfl) (by decide) (by decide) dX1_init_19 (fun q125 e126 H Wd => ?_)
  have Wd : wX D [(e124, .int), (e126, .int)] s [(h0, .inr (1, [.ref q121, .int 0, .null, .null, .null, .null, .null, .null, .null, .null, .null, .null, .null, .null])), (q121, .inr (8, [.ref q123, .int 0])), (q123, .inl (e124, 1, .inl (fun _ => 0))), (q125, .inl (e126, 40, .inl (fun _ => 0)))] _ A s.heap _ := Wd
  refine k_putF C Wd KX1 0 2 [(h0, .inr (1, [.ref q121, .int 0, .ref q125, .null, .null, .null, .null, .null, .null, .null, .null, .null, .null, .null])), (q121, .inr (8, [.ref q123, .int 0])), (q123, .inl (e124, 1, .inl (fun _ => 0))), (q125, .inl (e126, 40, .inl (fun _ => 0)))] rfl (by decide) fl_X1_20 rfl hin rfl rfl rfl (Nat.le_of_ble_eq_true rfl) rfl dX1_init_21 (fun H locs Wd => ?_)
  refine lv_aload_n C.1 C.2.1 dX1_init_24 rfl (lv_at hl 0 rfl) ?_
  refine lv_bipush (v := 40) C.1 C.2.1 dX1_init_25 (by decide) ?_
  refine k_newa C Wd ac_int 40 (by decide) (by decide) (by decide) (cells' := 4) (slots' := 83) (Nat.le_of_ble_eq_true rfl) (Nat.le_of_ble_eq_true rfl) (by decide) (by decide) dX1_init_27 (fun q127 e128 H Wd => ?_)
  have Wd : wX D [(e124, .int), (e126, .int), (e128, .int)] s [(h0, .inr (1, [.ref q121, .int 0, .ref q125, .null, .null, .null, .null, .null, .null, .null, .null, .null, .null, .null])), (q121, .inr (8, [.ref q123, .int 0])), (q123, .inl (e124, 1, .inl (fun _ => 0))), (q125, .inl (e126, 40, .inl (fun _ => 0))), (q127, .inl (e128, 40, .inl (fun _ => 0)))] _ A s.heap _ := Wd
  refine k_putF C Wd KX1 0 3 [(h0, .inr (1, [.ref q121, .int 0, .ref q125, .ref q127, .null, .null, .null, .null, .null, .null, .null, .null, .null, .null])), (q121, .inr (8, [.ref q123, .int 0])), (q123, .inl (e124, 1, .inl (fun _ => 0))), (q125, .inl (e126, 40, .inl (fun _ => 0))), (q127, .inl (e128, 40, .inl (fun _ => 0)))] rfl (by decide) fl_X1_24 rfl hin rfl rfl rfl (Nat.le_of_ble_eq_true rfl) rfl dX1_init_29 (fun H locs Wd => ?_)
  refine lv_aload_n C.1 C.2.1 dX1_init_32 rfl (lv_at hl 0 rfl) ?_
  refine lv_bipush (v := 40) C.1 C.2.1 dX1_init_33 (by decide) ?_
  refine k_newa C Wd ac_int 40 (by decide) (by decide) (by decide) (cells' := 5) (slots' := 123) (Nat.le_of_ble_eq_true rfl) (Nat.le_of_ble_eq_true rfl) (by decide) (by decide) dX1_init_35 (fun q129 e130 H Wd => ?_)
  have Wd : wX D [(e124, .int), (e126, .int), (e128, .int), (e130, .int)] s [(h0, .inr (1, [.ref q121, .int 0, .ref q125, .ref q127, .null, .null, .null, .null, .null, .null, .null, .null, .null, .null])), (q121, .inr (8, [.ref q123, .int 0])), (q123, .inl (e124, 1, .inl (fun _ => 0))), (q125, .inl (e126, 40, .inl (fun _ => 0))), (q127, .inl (e128, 40, .inl (fun _ => 0))), (q129, .inl (e130, 40, .inl (fun _ => 0)))] _ A s.heap _ := Wd
  refine k_putF C Wd KX1 0 4 [(h0, .inr (1, [.ref q121, .int 0, .ref q125, .ref q127, .ref q129, .null, .null, .null, .null, .null, .null, .null, .null, .null])), (q121, .inr (8, [.ref q123, .int 0])), (q123, .inl (e124, 1, .inl (fun _ => 0))), (q125, .inl (e126, 40, .inl (fun _ => 0))), (q127, .inl (e128, 40, .inl (fun _ => 0))), (q129, .inl (e130, 40, .inl (fun _ => 0)))] rfl (by decide) fl_X1_27 rfl hin rfl rfl rfl (Nat.le_of_ble_eq_true rfl) rfl dX1_init_37 (fun H locs Wd => ?_)
  refine lv_aload_n C.1 C.2.1 dX1_init_40 rfl (lv_at hl 0 rfl) ?_
  refine lv_bipush (v := 40) C.1 C.2.1 dX1_init_41 (by decide) ?_
  refine k_newa C Wd ac_int 40 (by decide) (by decide) (by decide) (cells' := 6) (slots' := 163) (Nat.le_of_ble_eq_true rfl) (Nat.le_of_ble_eq_true rfl) (by decide) (by decide) dX1_init_43 (fun q131 e132 H Wd => ?_)
  have Wd : wX D [(e124, .int), (e126, .int), (e128, .int), (e130, .int), (e132, .int)] s [(h0, .inr (1, [.ref q121, .int 0, .ref q125, .ref q127, .ref q129, .null, .null, .null, .null, .null, .null, .null, .null, .null])), (q121, .inr (8, [.ref q123, .int 0])), (q123, .inl (e124, 1, .inl (fun _ => 0))), (q125, .inl (e126, 40, .inl (fun _ => 0))), (q127, .inl (e128, 40, .inl (fun _ => 0))), (q129, .inl (e130, 40, .inl (fun _ => 0))), (q131, .inl (e132, 40, .inl (fun _ => 0)))] _ A s.heap _ := Wd
  refine k_putF C Wd KX1 0 5 [(h0, .inr (1, [.ref q121, .int 0, .ref q125, .ref q127, .ref q129, .ref q131, .null, .null, .null, .null, .null, .null, .null, .null])), (q121, .inr (8, [.ref q123, .int 0])), (q123, .inl (e124, 1, .inl (fun _ => 0))), (q125, .inl (e126, 40, .inl (fun _ => 0))), (q127, .inl (e128, 40, .inl (fun _ => 0))), (q129, .inl (e130, 40, .inl (fun _ => 0))), (q131, .inl (e132, 40, .inl (fun _ => 0)))] rfl (by decide) fl_X1_30 rfl hin rfl rfl rfl (Nat.le_of_ble_eq_true rfl) rfl dX1_init_45 (fun H locs Wd => ?_)
  refine lv_aload_n C.1 C.2.1 dX1_init_48 rfl (lv_at hl 0 rfl) ?_
  refine lv_bipush (v := 40) C.1 C.2.1 dX1_init_49 (by decide) ?_
  refine k_newa C Wd ac_int 40 (by decide) (by decide) (by decide) (cells' := 7) (slots' := 203) (Nat.le_of_ble_eq_true rfl) (Nat.le_of_ble_eq_true rfl) (by decide) (by decide) dX1_init_51 (fun q133 e134 H Wd => ?_)
  have Wd : wX D [(e124, .int), (e126, .int), (e128, .int), (e130, .int), (e132, .int), (e134, .int)] s [(h0, .inr (1, [.ref q121, .int 0, .ref q125, .ref q127, .ref q129, .ref q131, .null, .null, .null, .null, .null, .null, .null, .null])), (q121, .inr (8, [.ref q123, .int 0])), (q123, .inl (e124, 1, .inl (fun _ => 0))), (q125, .inl (e126, 40, .inl (fun _ => 0))), (q127, .inl (e128, 40, .inl (fun _ => 0))), (q129, .inl (e130, 40, .inl (fun _ => 0))), (q131, .inl (e132, 40, .inl (fun _ => 0))), (q133, .inl (e134, 40, .inl (fun _ => 0)))] _ A s.heap _ := Wd
  refine k_putF C Wd KX1 0 6 [(h0, .inr (1, [.ref q121, .int 0, .ref q125, .ref q127, .ref q129, .ref q131, .ref q133, .null, .null, .null, .null, .null, .null, .null])), (q121, .inr (8, [.ref q123, .int 0])), (q123, .inl (e124, 1, .inl (fun _ => 0))), (q125, .inl (e126, 40, .inl (fun _ => 0))), (q127, .inl (e128, 40, .inl (fun _ => 0))), (q129, .inl (e130, 40, .inl (fun _ => 0))), (q131, .inl (e132, 40, .inl (fun _ => 0))), (q133, .inl (e134, 40, .inl (fun _ => 0)))] rfl (by decide) fl_X1_33 rfl hin rfl rfl rfl (Nat.le_of_ble_eq_true rfl) rfl dX1_init_53 (fun H locs Wd => ?_)
  refine lv_aload_n C.1 C.2.1 dX1_init_56 rfl (lv_at hl 0 rfl) ?_
  refine lv_bipush (v := 40) C.1 C.2.1 dX1_init_57 (by decide) ?_
  refine k_newa C Wd ac_int 40 (by decide) (by decide) (by decide) (cells' := 8) (slots' := 243) (Nat.le_of_ble_eq_true rfl) (Nat.le_of_ble_eq_true rfl) (by decide) (by decide) dX1_init_59 (fun q135 e136 H Wd => ?_)
  have Wd : wX D [(e124, .int), (e126, .int), (e128, .int), (e130, .int), (e132, .int), (e134, .int), (e136, .int)] s [(h0, .inr (1, [.ref q121, .int 0, .ref q125, .ref q127, .ref q129, .ref q131, .ref q133, .null, .null, .null, .null, .null, .null, .null])), (q121, .inr (8, [.ref q123, .int 0])), (q123, .inl (e124, 1, .inl (fun _ => 0))), (q125, .inl (e126, 40, .inl (fun _ => 0))), (q127, .inl (e128, 40, .inl (fun _ => 0))), (q129, .inl (e130, 40, .inl (fun _ => 0))), (q131, .inl (e132, 40, .inl (fun _ => 0))), (q133, .inl (e134, 40, .inl (fun _ => 0))), (q135, .inl (e136, 40, .inl (fun _ => 0)))] _ A s.heap _ := Wd
  refine k_putF C Wd KX1 0 7 [(h0, .inr (1, [.ref q121, .int 0, .ref q125, .ref q127, .ref q129, .ref q131, .ref q133, .ref q135, .null, .null, .null, .null, .null, .null])), (q121, .inr (8, [.ref q123, .int 0])), (q123, .inl (e124, 1, .inl (fun _ => 0))), (q125, .inl (e126, 40, .inl (fun _ => 0))), (q127, .inl (e128, 40, .inl (fun _ => 0))), (q129, .inl (e130, 40, .inl (fun _ => 0))), (q131, .inl (e132, 40, .inl (fun _ => 0))), (q133, .inl (e134, 40, .inl (fun _ => 0))), (q135, .inl (e136, 40, .inl (fun _ => 0)))] rfl (by decide) fl_X1_36 rfl hin rfl rfl rfl (Nat.le_of_ble_eq_true rfl) rfl dX1_init_61 (fun H locs Wd => ?_)
  refine lv_aload_n C.1 C.2.1 dX1_init_64 rfl (lv_at hl 0 rfl) ?_
  refine lv_bipush (v := 40) C.1 C.2.1 dX1_init_65 (by decide) ?_
  refine k_newa C Wd ac_int 40 (by decide) (by decide) (by decide) (cells' := 9) (slots' := 283) (Nat.le_of_ble_eq_true rfl) (Nat.le_of_ble_eq_true rfl) (by decide) (by decide) dX1_init_67 (fun q137 e138 H Wd => ?_)
  have Wd : wX D [(e124, .int), (e126, .int), (e128, .int), (e130, .int), (e132, .int), (e134, .int), (e136, .int), (e138, .int)] s [(h0, .inr (1, [.ref q121, .int 0, .ref q125, .ref q127, .ref q129, .ref q131, .ref q133, .ref q135, .null, .null, .null, .null, .null, .null])), (q121, .inr (8, [.ref q123, .int 0])), (q123, .inl (e124, 1, .inl (fun _ => 0))), (q125, .inl (e126, 40, .inl (fun _ => 0))), (q127, .inl (e128, 40, .inl (fun _ => 0))), (q129, .inl (e130, 40, .inl (fun _ => 0))), (q131, .inl (e132, 40, .inl (fun _ => 0))), (q133, .inl (e134, 40, .inl (fun _ => 0))), (q135, .inl (e136, 40, .inl (fun _ => 0))), (q137, .inl (e138, 40, .inl (fun _ => 0)))] _ A s.heap _ := Wd
  refine k_putF C Wd KX1 0 8 [(h0, .inr (1, [.ref q121, .int 0, .ref q125, .ref q127, .ref q129, .ref q131, .ref q133, .ref q135, .ref q137, .null, .null, .null, .null, .null])), (q121, .inr (8, [.ref q123, .int 0])), (q123, .inl (e124, 1, .inl (fun _ => 0))), (q125, .inl (e126, 40, .inl (fun _ => 0))), (q127, .inl (e128, 40, .inl (fun _ => 0))), (q129, .inl (e130, 40, .inl (fun _ => 0))), (q131, .inl (e132, 40, .inl (fun _ => 0))), (q133, .inl (e134, 40, .inl (fun _ => 0))), (q135, .inl (e136, 40, .inl (fun _ => 0))), (q137, .inl (e138, 40, .inl (fun _ => 0)))] rfl (by decide) fl_X1_39 rfl hin rfl rfl rfl (Nat.le_of_ble_eq_true rfl) rfl dX1_init_69 (fun H locs Wd => ?_)
  refine lv_aload_n C.1 C.2.1 dX1_init_72 rfl (lv_at hl 0 rfl) ?_
  refine lv_bipush (v := 40) C.1 C.2.1 dX1_init_73 (by decide) ?_
  refine k_newa C Wd ac_int 40 (by decide) (by decide) (by decide) (cells' := 10) (slots' := 323) (Nat.le_of_ble_eq_true rfl) (Nat.le_of_ble_eq_true rfl) (by decide) (by decide) dX1_init_75 (fun q139 e140 H Wd => ?_)
  have Wd : wX D [(e124, .int), (e126, .int), (e128, .int), (e130, .int), (e132, .int), (e134, .int), (e136, .int), (e138, .int), (e140, .int)] s [(h0, .inr (1, [.ref q121, .int 0, .ref q125, .ref q127, .ref q129, .ref q131, .ref q133, .ref q135, .ref q137, .null, .null, .null, .null, .null])), (q121, .inr (8, [.ref q123, .int 0])), (q123, .inl (e124, 1, .inl (fun _ => 0))), (q125, .inl (e126, 40, .inl (fun _ => 0))), (q127, .inl (e128, 40, .inl (fun _ => 0))), (q129, .inl (e130, 40, .inl (fun _ => 0))), (q131, .inl (e132, 40, .inl (fun _ => 0))), (q133, .inl (e134, 40, .inl (fun _ => 0))), (q135, .inl (e136, 40, .inl (fun _ => 0))), (q137, .inl (e138, 40, .inl (fun _ => 0))), (q139, .inl (e140, 40, .inl (fun _ => 0)))] _ A s.heap _ := Wd
  refine k_putF C Wd KX1 0 9 [(h0, .inr (1, [.ref q121, .int 0, .ref q125, .ref q127, .ref q129, .ref q131, .ref q133, .ref q135, .ref q137, .ref q139, .null, .null, .null, .null])), (q121, .inr (8, [.ref q123, .int 0])), (q123, .inl (e124, 1, .inl (fun _ => 0))), (q125, .inl (e126, 40, .inl (fun _ => 0))), (q127, .inl (e128, 40, .inl (fun _ => 0))), (q129, .inl (e130, 40, .inl (fun _ => 0))), (q131, .inl (e132, 40, .inl (fun _ => 0))), (q133, .inl (e134, 40, .inl (fun _ => 0))), (q135, .inl (e136, 40, .inl (fun _ => 0))), (q137, .inl (e138, 40, .inl (fun _ => 0))), (q139, .inl (e140, 40, .inl (fun _ => 0)))] rfl (by decide) fl_X1_42 rfl hin rfl rfl rfl (Nat.le_of_ble_eq_true rfl) rfl dX1_init_77 (fun H locs Wd => ?_)
  refine lv_aload_n C.1 C.2.1 dX1_init_80 rfl (lv_at hl 0 rfl) ?_
  refine lv_bipush (v := 40) C.1 C.2.1 dX1_init_81 (by decide) ?_
  refine k_newa C Wd ac_int 40 (by decide) (by decide) (by decide) (cells' := 11) (slots' := 363) (Nat.le_of_ble_eq_true rfl) (Nat.le_of_ble_eq_true rfl) (by decide) (by decide) dX1_init_83 (fun q141 e142 H Wd => ?_)
  have Wd : wX D [(e124, .int), (e126, .int), (e128, .int), (e130, .int), (e132, .int), (e134, .int), (e136, .int), (e138, .int), (e140, .int), (e142, .int)] s [(h0, .inr (1, [.ref q121, .int 0, .ref q125, .ref q127, .ref q129, .ref q131, .ref q133, .ref q135, .ref q137, .ref q139, .null, .null, .null, .null])), (q121, .inr (8, [.ref q123, .int 0])), (q123, .inl (e124, 1, .inl (fun _ => 0))), (q125, .inl (e126, 40, .inl (fun _ => 0))), (q127, .inl (e128, 40, .inl (fun _ => 0))), (q129, .inl (e130, 40, .inl (fun _ => 0))), (q131, .inl (e132, 40, .inl (fun _ => 0))), (q133, .inl (e134, 40, .inl (fun _ => 0))), (q135, .inl (e136, 40, .inl (fun _ => 0))), (q137, .inl (e138, 40, .inl (fun _ => 0))), (q139, .inl (e140, 40, .inl (fun _ => 0))), (q141, .inl (e142, 40, .inl (fun _ => 0)))] _ A s.heap _ := Wd
  refine k_putF C Wd KX1 0 10 [(h0, .inr (1, [.ref q121, .int 0, .ref q125, .ref q127, .ref q129, .ref q131, .ref q133, .ref q135, .ref q137, .ref q139, .ref q141, .null, .null, .null])), (q121, .inr (8, [.ref q123, .int 0])), (q123, .inl (e124, 1, .inl (fun _ => 0))), (q125, .inl (e126, 40, .inl (fun _ => 0))), (q127, .inl (e128, 40, .inl (fun _ => 0))), (q129, .inl (e130, 40, .inl (fun _ => 0))), (q131, .inl (e132, 40, .inl (fun _ => 0))), (q133, .inl (e134, 40, .inl (fun _ => 0))), (q135, .inl (e136, 40, .inl (fun _ => 0))), (q137, .inl (e138, 40, .inl (fun _ => 0))), (q139, .inl (e140, 40, .inl (fun _ => 0))), (q141, .inl (e142, 40, .inl (fun _ => 0)))] rfl (by decide) fl_X1_45 rfl hin rfl rfl rfl (Nat.le_of_ble_eq_true rfl) rfl dX1_init_85 (fun H locs Wd => ?_)
  refine lv_aload_n C.1 C.2.1 dX1_init_88 rfl (lv_at hl 0 rfl) ?_
  refine lv_bipush (v := 40) C.1 C.2.1 dX1_init_89 (by decide) ?_
  refine k_newa C Wd ac_int 40 (by decide) (by decide) (by decide) (cells' := 12) (slots' := 403) (Nat.le_of_ble_eq_true rfl) (Nat.le_of_ble_eq_true rfl) (by decide) (by decide) dX1_init_91 (fun q143 e144 H Wd => ?_)
  have Wd : wX D [(e124, .int), (e126, .int), (e128, .int), (e130, .int), (e132, .int), (e134, .int), (e136, .int), (e138, .int), (e140, .int), (e142, .int), (e144, .int)] s [(h0, .inr (1, [.ref q121, .int 0, .ref q125, .ref q127, .ref q129, .ref q131, .ref q133, .ref q135, .ref q137, .ref q139, .ref q141, .null, .null, .null])), (q121, .inr (8, [.ref q123, .int 0])), (q123, .inl (e124, 1, .inl (fun _ => 0))), (q125, .inl (e126, 40, .inl (fun _ => 0))), (q127, .inl (e128, 40, .inl (fun _ => 0))), (q129, .inl (e130, 40, .inl (fun _ => 0))), (q131, .inl (e132, 40, .inl (fun _ => 0))), (q133, .inl (e134, 40, .inl (fun _ => 0))), (q135, .inl (e136, 40, .inl (fun _ => 0))), (q137, .inl (e138, 40, .inl (fun _ => 0))), (q139, .inl (e140, 40, .inl (fun _ => 0))), (q141, .inl (e142, 40, .inl (fun _ => 0))), (q143, .inl (e144, 40, .inl (fun _ => 0)))] _ A s.heap _ := Wd
  refine k_putF C Wd KX1 0 11 [(h0, .inr (1, [.ref q121, .int 0, .ref q125, .ref q127, .ref q129, .ref q131, .ref q133, .ref q135, .ref q137, .ref q139, .ref q141, .ref q143, .null, .null])), (q121, .inr (8, [.ref q123, .int 0])), (q123, .inl (e124, 1, .inl (fun _ => 0))), (q125, .inl (e126, 40, .inl (fun _ => 0))), (q127, .inl (e128, 40, .inl (fun _ => 0))), (q129, .inl (e130, 40, .inl (fun _ => 0))), (q131, .inl (e132, 40, .inl (fun _ => 0))), (q133, .inl (e134, 40, .inl (fun _ => 0))), (q135, .inl (e136, 40, .inl (fun _ => 0))), (q137, .inl (e138, 40, .inl (fun _ => 0))), (q139, .inl (e140, 40, .inl (fun _ => 0))), (q141, .inl (e142, 40, .inl (fun _ => 0))), (q143, .inl (e144, 40, .inl (fun _ => 0)))] rfl (by decide) fl_X1_48 rfl hin rfl rfl rfl (Nat.le_of_ble_eq_true rfl) rfl dX1_init_93 (fun H locs Wd => ?_)
  refine lv_aload_n C.1 C.2.1 dX1_init_96 rfl (lv_at hl 0 rfl) ?_
  refine lv_bipush (v := 40) C.1 C.2.1 dX1_init_97 (by decide) ?_
  refine k_newa C Wd ac_int 40 (by decide) (by decide) (by decide) (cells' := 13) (slots' := 443) (Nat.le_of_ble_eq_true rfl) (Nat.le_of_ble_eq_true rfl) (by decide) (by decide) dX1_init_99 (fun q145 e146 H Wd => ?_)
  have Wd : wX D [(e124, .int), (e126, .int), (e128, .int), (e130, .int), (e132, .int), (e134, .int), (e136, .int), (e138, .int), (e140, .int), (e142, .int), (e144, .int), (e146, .int)] s [(h0, .inr (1, [.ref q121, .int 0, .ref q125, .ref q127, .ref q129, .ref q131, .ref q133, .ref q135, .ref q137, .ref q139, .ref q141, .ref q143, .null, .null])), (q121, .inr (8, [.ref q123, .int 0])), (q123, .inl (e124, 1, .inl (fun _ => 0))), (q125, .inl (e126, 40, .inl (fun _ => 0))), (q127, .inl (e128, 40, .inl (fun _ => 0))), (q129, .inl (e130, 40, .inl (fun _ => 0))), (q131, .inl (e132, 40, .inl (fun _ => 0))), (q133, .inl (e134, 40, .inl (fun _ => 0))), (q135, .inl (e136, 40, .inl (fun _ => 0))), (q137, .inl (e138, 40, .inl (fun _ => 0))), (q139, .inl (e140, 40, .inl (fun _ => 0))), (q141, .inl (e142, 40, .inl (fun _ => 0))), (q143, .inl (e144, 40, .inl (fun _ => 0))), (q145, .inl (e146, 40, .inl (fun _ => 0)))] _ A s.heap _ := Wd
  refine k_putF C Wd KX1 0 12 [(h0, .inr (1, [.ref q121, .int 0, .ref q125, .ref q127, .ref q129, .ref q131, .ref q133, .ref q135, .ref q137, .ref q139, .ref q141, .ref q143, .ref q145, .null])), (q121, .inr (8, [.ref q123, .int 0])), (q123, .inl (e124, 1, .inl (fun _ => 0))), (q125, .inl (e126, 40, .inl (fun _ => 0))), (q127, .inl (e128, 40, .inl (fun _ => 0))), (q129, .inl (e130, 40, .inl (fun _ => 0))), (q131, .inl (e132, 40, .inl (fun _ => 0))), (q133, .inl (e134, 40, .inl (fun _ => 0))), (q135, .inl (e136, 40, .inl (fun _ => 0))), (q137, .inl (e138, 40, .inl (fun _ => 0))), (q139, .inl (e140, 40, .inl (fun _ => 0))), (q141, .inl (e142, 40, .inl (fun _ => 0))), (q143, .inl (e144, 40, .inl (fun _ => 0))), (q145, .inl (e146, 40, .inl (fun _ => 0)))] rfl (by decide) fl_X1_51 rfl hin rfl rfl rfl (Nat.le_of_ble_eq_true rfl) rfl dX1_init_101 (fun H locs Wd => ?_)
  refine lv_aload_n C.1 C.2.1 dX1_init_104 rfl (lv_at hl 0 rfl) ?_
  refine lv_sipush (v := 480) C.1 C.2.1 dX1_init_105 (by decide) ?_
  refine k_newa C Wd ac_int 480 (by decide) (by decide) (by decide) (cells' := 14) (slots' := 923) (Nat.le_of_ble_eq_true rfl) (Nat.le_of_ble_eq_true rfl) (by decide) (by decide) dX1_init_108 (fun q147 e148 H Wd => ?_)
  have Wd : wX D [(e124, .int), (e126, .int), (e128, .int), (e130, .int), (e132, .int), (e134, .int), (e136, .int), (e138, .int), (e140, .int), (e142, .int), (e144, .int), (e146, .int), (e148, .int)] s [(h0, .inr (1, [.ref q121, .int 0, .ref q125, .ref q127, .ref q129, .ref q131, .ref q133, .ref q135, .ref q137, .ref q139, .ref q141, .ref q143, .ref q145, .null])), (q121, .inr (8, [.ref q123, .int 0])), (q123, .inl (e124, 1, .inl (fun _ => 0))), (q125, .inl (e126, 40, .inl (fun _ => 0))), (q127, .inl (e128, 40, .inl (fun _ => 0))), (q129, .inl (e130, 40, .inl (fun _ => 0))), (q131, .inl (e132, 40, .inl (fun _ => 0))), (q133, .inl (e134, 40, .inl (fun _ => 0))), (q135, .inl (e136, 40, .inl (fun _ => 0))), (q137, .inl (e138, 40, .inl (fun _ => 0))), (q139, .inl (e140, 40, .inl (fun _ => 0))), (q141, .inl (e142, 40, .inl (fun _ => 0))), (q143, .inl (e144, 40, .inl (fun _ => 0))), (q145, .inl (e146, 40, .inl (fun _ => 0))), (q147, .inl (e148, 480, .inl (fun _ => 0)))] _ A s.heap _ := Wd
  refine k_putF C Wd KX1 0 13 [(h0, .inr (1, [.ref q121, .int 0, .ref q125, .ref q127, .ref q129, .ref q131, .ref q133, .ref q135, .ref q137, .ref q139, .ref q141, .ref q143, .ref q145, .ref q147])), (q121, .inr (8, [.ref q123, .int 0])), (q123, .inl (e124, 1, .inl (fun _ => 0))), (q125, .inl (e126, 40, .inl (fun _ => 0))), (q127, .inl (e128, 40, .inl (fun _ => 0))), (q129, .inl (e130, 40, .inl (fun _ => 0))), (q131, .inl (e132, 40, .inl (fun _ => 0))), (q133, .inl (e134, 40, .inl (fun _ => 0))), (q135, .inl (e136, 40, .inl (fun _ => 0))), (q137, .inl (e138, 40, .inl (fun _ => 0))), (q139, .inl (e140, 40, .inl (fun _ => 0))), (q141, .inl (e142, 40, .inl (fun _ => 0))), (q143, .inl (e144, 40, .inl (fun _ => 0))), (q145, .inl (e146, 40, .inl (fun _ => 0))), (q147, .inl (e148, 480, .inl (fun _ => 0)))] rfl (by decide) fl_X1_54 rfl hin rfl rfl rfl (Nat.le_of_ble_eq_true rfl) rfl dX1_init_110 (fun H locs Wd => ?_)
  refine lv_aload_n C.1 C.2.1 dX1_init_113 rfl (lv_at hl 0 rfl) ?_
  refine lv_iconst (v := 0) C.1 C.2.1 dX1_init_114 (by decide) ?_
  refine k_put C Wd KX1 0 1 [(h0, .inr (1, [.ref q121, .int 0, .ref q125, .ref q127, .ref q129, .ref q131, .ref q133, .ref q135, .ref q137, .ref q139, .ref q141, .ref q143, .ref q145, .ref q147])), (q121, .inr (8, [.ref q123, .int 0])), (q123, .inl (e124, 1, .inl (fun _ => 0))), (q125, .inl (e126, 40, .inl (fun _ => 0))), (q127, .inl (e128, 40, .inl (fun _ => 0))), (q129, .inl (e130, 40, .inl (fun _ => 0))), (q131, .inl (e132, 40, .inl (fun _ => 0))), (q133, .inl (e134, 40, .inl (fun _ => 0))), (q135, .inl (e136, 40, .inl (fun _ => 0))), (q137, .inl (e138, 40, .inl (fun _ => 0))), (q139, .inl (e140, 40, .inl (fun _ => 0))), (q141, .inl (e142, 40, .inl (fun _ => 0))), (q143, .inl (e144, 40, .inl (fun _ => 0))), (q145, .inl (e146, 40, .inl (fun _ => 0))), (q147, .inl (e148, 480, .inl (fun _ => 0)))] rfl (by decide) fl_X1_57 rfl rfl rfl (Nat.le_of_ble_eq_true rfl) rfl dX1_init_115 (fun H locs Wd => ?_)
  exact k_vret C hr hlk Wd (q121, q125, q127, q129, q131, q133, q135, q137, q139, q141, q143, q145, q147, e148) trivial [0, 14] rfl (by decide) [12] rfl (by decide) (by decide) dX1_init_118
set_option maxHeartbeats 4000000 in
set_option maxRecDepth 100000 in
theorem kcX3_init (l : Launch) (D : va_G) (h0 : Nat) (sz : Nat)  : Met l yX3_init (Cond.code yX3_init cX3_init 1 none :: gG) { frames := 3, cells := 18, slots := 1343, locals := 105 } (cPre D [] [(h0, .inr (3, [.null, .null, .int 0, .int 0, .int 0, .null, .null]))] sz [.ref h0]) (va_Qv (fun (_ : Nat × Nat × Nat × Nat × Nat × Nat × Nat × Nat × Nat × Nat × Nat × Nat × Nat × Nat × Nat × Nat × Nat × ClassId × ClassId) => True) (fun u t => cB D (va_A [(h0, .inr (3, [.null, .null, .int 0, .int 0, .int 0, .null, .null]))] sz) ((fun u => match u with | (q170, q186, q188, q190, q172, q173, q174, q175, q176, q177, q178, q179, q180, q181, q182, q183, q184, e185, e189) => [(e185, .int), (e189, .int)]) u) ((fun u => match u with | (q170, q186, q188, q190, q172, q173, q174, q175, q176, q177, q178, q179, q180, q181, q182, q183, q184, e185, e189) => [(h0, .inr (3, [.ref q170, .ref q186, .int 0, .int 0, .int 0, .ref q188, .ref q190])), (q170, .inr (1, [.ref q172, .int 0, .ref q173, .ref q174, .ref q175, .ref q176, .ref q177, .ref q178, .ref q179, .ref q180, .ref q181, .ref q182, .ref q183, .ref q184])), (q184, .inl (e185, 480, .inl (fun _ => 0))), (q188, .inl (e189, 6, .inl (fun _ => 0)))]) u) t) (va_A [(h0, .inr (3, [.null, .null, .int 0, .int 0, .int 0, .null, .null]))] sz)) 18 1343 (va_A [(h0, .inr (3, [.null, .null, .int 0, .int 0, .int 0, .null, .null]))] sz) := by
  refine Met.ofW (cc := cX3_init) (maxL := 1) (ret := none) (by decide) rfl ?_
  intro p e s m args below meth c s₁ B hml hv
  obtain ⟨rfl, aks, rfl, Wd⟩ := k_enter hv
  have C : CallFix p m c cX3_init 1 s _ gG RX3 := ⟨B.exec, B.bytes, hml, findClass_of_methodNamed B.named, fun w h => atoms_spec (ws := Cond.code yX3_init cX3_init 1 none :: gG) B.pre w (List.mem_cons_of_mem _ h)⟩
  have hr := B.returns
  have hlk := B.notSynchronized
  have hin : meth.name = "<init>" := (name_of_methodNamed B.named B.method).1
  generalize va_A [(h0, .inr (3, [.null, .null, .int 0, .int 0, .int 0, .null, .null]))] s.heap.size = A at Wd ⊢
  refine k_locals (Nat.le_of_ble_eq_true rfl) [(0, .ref h0)] rfl (fun ls hl => ?_)
  refine lv_aload_n C.1 C.2.1 dX3_init_0 rfl (lv_at hl 0 rfl) ?_
  refine k_oinit C hl.1 ml_X3_3 im_objectInit cd_obj (Nat.le_of_ble_eq_true rfl) (Nat.le_of_ble_eq_true rfl) dX3_init_1 ?_
  refine lv_aload_n C.1 C.2.1 dX3_init_4 rfl (lv_at hl 0 rfl) ?_
  refine k_new C Wd KX1 cl_X3_9 is_X1 in_X1 [.null, .int 0, .null, .null, .null, .null, .null, .null, .null, .null, .null, .null, .null, .null] (by decide +kernel) (cells' := 1) (slots' := 14) (Nat.le_of_ble_eq_true rfl) (Nat.le_of_ble_eq_true rfl) (by decide) (by decide) dX3_init_5 (fun q170 H Wd => ?_)
  have Wd : wX D [] s [(h0, .inr (3, [.null, .null, .int 0, .int 0, .int 0, .null, .null])), (q170, .inr (1, [.null, .int 0, .null, .null, .null, .null, .null, .null, .null, .null, .null, .null, .null, .null]))] _ A s.heap _ := Wd
  refine lv_dup C.1 C.2.1 dX3_init_8 rfl ?_
  refine k_cv Wd [1] [0] rfl (wr := [(h0, .inr (3, [.null, .null, .int 0, .int 0, .int 0, .null, .null]))]) rfl (by decide) (by decide) (cells' := 15) (slots' := 937) (by decide) (by decide) (k_runI (rest := [.ref q170, .ref h0]) C aks Wd cs_X3_11 (kcX1_init l D q170 _ ) [1] rfl (by decide) [] rfl rfl rfl ⟨(Nat.le_of_ble_eq_true rfl), (Nat.le_of_ble_eq_true rfl)⟩ hl.1 rfl rfl (Nat.le_of_ble_eq_true rfl) ⟨(Nat.le_of_ble_eq_true rfl), (Nat.le_of_ble_eq_true rfl)⟩ dX3_init_9) (fun u H locs w171 Wd => ?_)
  obtain ⟨q172, q173, q174, q175, q176, q177, q178, q179, q180, q181, q182, q183, q184, e185⟩ := u
  have Wd : wX D [(e185, .int)] s [(h0, .inr (3, [.null, .null, .int 0, .int 0, .int 0, .null, .null])), (q170, .inr (1, [.ref q172, .int 0, .ref q173, .ref q174, .ref q175, .ref q176, .ref q177, .ref q178, .ref q179, .ref q180, .ref q181, .ref q182, .ref q183, .ref q184])), (q184, .inl (e185, 480, .inl (fun _ => 0)))] _ A s.heap _ := Wd
  refine k_putF C Wd KX3 0 0 [(h0, .inr (3, [.ref q170, .null, .int 0, .int 0, .int 0, .null, .null])), (q170, .inr (1, [.ref q172, .int 0, .ref q173, .ref q174, .ref q175, .ref q176, .ref q177, .ref q178, .ref q179, .ref q180, .ref q181, .ref q182, .ref q183, .ref q184])), (q184, .inl (e185, 480, .inl (fun _ => 0)))] rfl (by decide) fl_X3_12 rfl hin rfl rfl rfl (Nat.le_of_ble_eq_true rfl) rfl dX3_init_12 (fun H locs Wd => ?_)
  refine lv_aload_n C.1 C.2.1 dX3_init_15 rfl (lv_at hl 0 rfl) ?_
  refine lv_bipush (v := 100) C.1 C.2.1 dX3_init_16 (by decide) ?_
  refine k_newa C Wd ac_int 100 (by decide) (by decide) (by decide) (cells' := 16) (slots' := 1037) (Nat.le_of_ble_eq_true rfl) (Nat.le_of_ble_eq_true rfl) (by decide) (by decide) dX3_init_18 (fun q186 e187 H Wd => ?_)
  have Wd : wX D [(e185, .int), (e187, .int)] s [(h0, .inr (3, [.ref q170, .null, .int 0, .int 0, .int 0, .null, .null])), (q170, .inr (1, [.ref q172, .int 0, .ref q173, .ref q174, .ref q175, .ref q176, .ref q177, .ref q178, .ref q179, .ref q180, .ref q181, .ref q182, .ref q183, .ref q184])), (q184, .inl (e185, 480, .inl (fun _ => 0))), (q186, .inl (e187, 100, .inl (fun _ => 0)))] _ A s.heap _ := Wd
  refine k_putF C Wd KX3 0 1 [(h0, .inr (3, [.ref q170, .ref q186, .int 0, .int 0, .int 0, .null, .null])), (q170, .inr (1, [.ref q172, .int 0, .ref q173, .ref q174, .ref q175, .ref q176, .ref q177, .ref q178, .ref q179, .ref q180, .ref q181, .ref q182, .ref q183, .ref q184])), (q184, .inl (e185, 480, .inl (fun _ => 0))), (q186, .inl (e187, 100, .inl (fun _ => 0)))] rfl (by decide) fl_X3_18 rfl hin rfl rfl rfl (Nat.le_of_ble_eq_true rfl) rfl dX3_init_20 (fun H locs Wd => ?_)
  refine lv_aload_n C.1 C.2.1 dX3_init_23 rfl (lv_at hl 0 rfl) ?_
  refine lv_bipush (v := 6) C.1 C.2.1 dX3_init_24 (by decide) ?_
  refine k_newa C Wd ac_int 6 (by decide) (by decide) (by decide) (cells' := 17) (slots' := 1043) (Nat.le_of_ble_eq_true rfl) (Nat.le_of_ble_eq_true rfl) (by decide) (by decide) dX3_init_26 (fun q188 e189 H Wd => ?_)
  have Wd : wX D [(e185, .int), (e187, .int), (e189, .int)] s [(h0, .inr (3, [.ref q170, .ref q186, .int 0, .int 0, .int 0, .null, .null])), (q170, .inr (1, [.ref q172, .int 0, .ref q173, .ref q174, .ref q175, .ref q176, .ref q177, .ref q178, .ref q179, .ref q180, .ref q181, .ref q182, .ref q183, .ref q184])), (q184, .inl (e185, 480, .inl (fun _ => 0))), (q186, .inl (e187, 100, .inl (fun _ => 0))), (q188, .inl (e189, 6, .inl (fun _ => 0)))] _ A s.heap _ := Wd
  refine k_putF C Wd KX3 0 5 [(h0, .inr (3, [.ref q170, .ref q186, .int 0, .int 0, .int 0, .ref q188, .null])), (q170, .inr (1, [.ref q172, .int 0, .ref q173, .ref q174, .ref q175, .ref q176, .ref q177, .ref q178, .ref q179, .ref q180, .ref q181, .ref q182, .ref q183, .ref q184])), (q184, .inl (e185, 480, .inl (fun _ => 0))), (q186, .inl (e187, 100, .inl (fun _ => 0))), (q188, .inl (e189, 6, .inl (fun _ => 0)))] rfl (by decide) fl_X3_22 rfl hin rfl rfl rfl (Nat.le_of_ble_eq_true rfl) rfl dX3_init_28 (fun H locs Wd => ?_)
  refine lv_aload_n C.1 C.2.1 dX3_init_31 rfl (lv_at hl 0 rfl) ?_
  refine lv_sipush (v := 300) C.1 C.2.1 dX3_init_32 (by decide) ?_
  refine k_newa C Wd ac_int 300 (by decide) (by decide) (by decide) (cells' := 18) (slots' := 1343) (Nat.le_of_ble_eq_true rfl) (Nat.le_of_ble_eq_true rfl) (by decide) (by decide) dX3_init_35 (fun q190 e191 H Wd => ?_)
  have Wd : wX D [(e185, .int), (e187, .int), (e189, .int), (e191, .int)] s [(h0, .inr (3, [.ref q170, .ref q186, .int 0, .int 0, .int 0, .ref q188, .null])), (q170, .inr (1, [.ref q172, .int 0, .ref q173, .ref q174, .ref q175, .ref q176, .ref q177, .ref q178, .ref q179, .ref q180, .ref q181, .ref q182, .ref q183, .ref q184])), (q184, .inl (e185, 480, .inl (fun _ => 0))), (q186, .inl (e187, 100, .inl (fun _ => 0))), (q188, .inl (e189, 6, .inl (fun _ => 0))), (q190, .inl (e191, 300, .inl (fun _ => 0)))] _ A s.heap _ := Wd
  refine k_putF C Wd KX3 0 6 [(h0, .inr (3, [.ref q170, .ref q186, .int 0, .int 0, .int 0, .ref q188, .ref q190])), (q170, .inr (1, [.ref q172, .int 0, .ref q173, .ref q174, .ref q175, .ref q176, .ref q177, .ref q178, .ref q179, .ref q180, .ref q181, .ref q182, .ref q183, .ref q184])), (q184, .inl (e185, 480, .inl (fun _ => 0))), (q186, .inl (e187, 100, .inl (fun _ => 0))), (q188, .inl (e189, 6, .inl (fun _ => 0))), (q190, .inl (e191, 300, .inl (fun _ => 0)))] rfl (by decide) fl_X3_25 rfl hin rfl rfl rfl (Nat.le_of_ble_eq_true rfl) rfl dX3_init_37 (fun H locs Wd => ?_)
  exact k_vret C hr hlk Wd (q170, q186, q188, q190, q172, q173, q174, q175, q176, q177, q178, q179, q180, q181, q182, q183, q184, e185, e189) trivial [0, 1, 2, 4] rfl (by decide) [0, 2] rfl (by decide) (by decide) dX3_init_40
set_option maxHeartbeats 4000000 in
set_option maxRecDepth 100000 in
theorem kcX5_init (l : Launch) (D : va_G) (h0 : Nat) (sz : Nat)  : Met l yX5_init (Cond.code yX5_init cX5_init 1 none :: gG) { frames := 1, cells := 25, slots := 11327, locals := 64 } (cPre D [] [(h0, .inr (5, [.int 0, .int 0, .null, .null, .null, .null, .null]))] sz [.ref h0]) (va_Qv (fun (_ : Unit) => True) (fun u t => cB D (va_A [(h0, .inr (5, [.int 0, .int 0, .null, .null, .null, .null, .null]))] sz) ((fun (_ : Unit) => ([] : List (ClassId × FieldType))) u) ((fun (_ : Unit) => ([] : va_W)) u) t) (va_A [(h0, .inr (5, [.int 0, .int 0, .null, .null, .null, .null, .null]))] sz)) 25 11327 (va_A [(h0, .inr (5, [.int 0, .int 0, .null, .null, .null, .null, .null]))] sz) := by
  refine Met.ofW (cc := cX5_init) (maxL := 1) (ret := none) (by decide) rfl ?_
  intro p e s m args below meth c s₁ B hml hv
  obtain ⟨rfl, aks, rfl, Wd⟩ := k_enter hv
  have C : CallFix p m c cX5_init 1 s _ gG RX5 := ⟨B.exec, B.bytes, hml, findClass_of_methodNamed B.named, fun w h => atoms_spec (ws := Cond.code yX5_init cX5_init 1 none :: gG) B.pre w (List.mem_cons_of_mem _ h)⟩
  have hr := B.returns
  have hlk := B.notSynchronized
  have hin : meth.name = "<init>" := (name_of_methodNamed B.named B.method).1
  generalize va_A [(h0, .inr (5, [.int 0, .int 0, .null, .null, .null, .null, .null]))] s.heap.size = A at Wd ⊢
  refine k_locals (Nat.le_of_ble_eq_true rfl) [(0, .ref h0)] rfl (fun ls hl => ?_)
  refine lv_aload_n C.1 C.2.1 dX5_init_0 rfl (lv_at hl 0 rfl) ?_
  refine k_oinit C hl.1 ml_X5_3 im_objectInit cd_obj (Nat.le_of_ble_eq_true rfl) (Nat.le_of_ble_eq_true rfl) dX5_init_1 ?_
  refine lv_aload_n C.1 C.2.1 dX5_init_4 rfl (lv_at hl 0 rfl) ?_
  refine lv_iconst (v := 3) C.1 C.2.1 dX5_init_5 (by decide) ?_
  refine k_newa C Wd ac_int 3 (by decide) (by decide) (by decide) (cells' := 1) (slots' := 3) (Nat.le_of_ble_eq_true rfl) (Nat.le_of_ble_eq_true rfl) (by decide) (by decide) dX5_init_6 (fun q224 e225 H Wd => ?_)
  have Wd : wX D [(e225, .int)] s [(h0, .inr (5, [.int 0, .int 0, .null, .null, .null, .null, .null])), (q224, .inl (e225, 3, .inl (fun _ => 0)))] _ A s.heap _ := Wd
  refine k_putF C Wd KX5 0 2 [(h0, .inr (5, [.int 0, .int 0, .ref q224, .null, .null, .null, .null])), (q224, .inl (e225, 3, .inl (fun _ => 0)))] rfl (by decide) fl_X5_9 rfl hin rfl rfl rfl (Nat.le_of_ble_eq_true rfl) rfl dX5_init_8 (fun H locs Wd => ?_)
  refine lv_aload_n C.1 C.2.1 dX5_init_11 rfl (lv_at hl 0 rfl) ?_
  refine lv_bipush (v := 40) C.1 C.2.1 dX5_init_12 (by decide) ?_
  refine k_newa C Wd ac_int 40 (by decide) (by decide) (by decide) (cells' := 2) (slots' := 43) (Nat.le_of_ble_eq_true rfl) (Nat.le_of_ble_eq_true rfl) (by decide) (by decide) dX5_init_14 (fun q226 e227 H Wd => ?_)
  have Wd : wX D [(e225, .int), (e227, .int)] s [(h0, .inr (5, [.int 0, .int 0, .ref q224, .null, .null, .null, .null])), (q224, .inl (e225, 3, .inl (fun _ => 0))), (q226, .inl (e227, 40, .inl (fun _ => 0)))] _ A s.heap _ := Wd
  refine k_putF C Wd KX5 0 3 [(h0, .inr (5, [.int 0, .int 0, .ref q224, .ref q226, .null, .null, .null])), (q224, .inl (e225, 3, .inl (fun _ => 0))), (q226, .inl (e227, 40, .inl (fun _ => 0)))] rfl (by decide) fl_X5_15 rfl hin rfl rfl rfl (Nat.le_of_ble_eq_true rfl) rfl dX5_init_16 (fun H locs Wd => ?_)
  refine lv_aload_n C.1 C.2.1 dX5_init_19 rfl (lv_at hl 0 rfl) ?_
  refine lv_bipush (v := 20) C.1 C.2.1 dX5_init_20 (by decide) ?_
  refine lv_sipush (v := 512) C.1 C.2.1 dX5_init_22 (by decide) ?_
  refine k_mna C Wd cl_X5_18 aks.2.2 ac_int 0 rfl 20 512 (by decide) (by decide) (by decide) (by decide) (by decide) (by decide) (cells' := 23) (slots' := 10303) (Nat.le_of_ble_eq_true rfl) (Nat.le_of_ble_eq_true rfl) (by decide) (by decide) dX5_init_25 (fun q228 r230 e229 H Wd => ?_)
  have Wd : wX D [(e225, .int), (e227, .int), (e229, .array .int)] s [(h0, .inr (5, [.int 0, .int 0, .ref q224, .ref q226, .null, .null, .null])), (q224, .inl (e225, 3, .inl (fun _ => 0))), (q226, .inl (e227, 40, .inl (fun _ => 0))), (q228, .inl (e229, 20, .inr (.inr (.inr (.inr (fun i => if i < 20 then some (r230 i) else none)))))), ((r230 0), .inl (e225, 512, .inl (fun _ => 0))), ((r230 1), .inl (e225, 512, .inl (fun _ => 0))), ((r230 2), .inl (e225, 512, .inl (fun _ => 0))), ((r230 3), .inl (e225, 512, .inl (fun _ => 0))), ((r230 4), .inl (e225, 512, .inl (fun _ => 0))), ((r230 5), .inl (e225, 512, .inl (fun _ => 0))), ((r230 6), .inl (e225, 512, .inl (fun _ => 0))), ((r230 7), .inl (e225, 512, .inl (fun _ => 0))), ((r230 8), .inl (e225, 512, .inl (fun _ => 0))), ((r230 9), .inl (e225, 512, .inl (fun _ => 0))), ((r230 10), .inl (e225, 512, .inl (fun _ => 0))), ((r230 11), .inl (e225, 512, .inl (fun _ => 0))), ((r230 12), .inl (e225, 512, .inl (fun _ => 0))), ((r230 13), .inl (e225, 512, .inl (fun _ => 0))), ((r230 14), .inl (e225, 512, .inl (fun _ => 0))), ((r230 15), .inl (e225, 512, .inl (fun _ => 0))), ((r230 16), .inl (e225, 512, .inl (fun _ => 0))), ((r230 17), .inl (e225, 512, .inl (fun _ => 0))), ((r230 18), .inl (e225, 512, .inl (fun _ => 0))), ((r230 19), .inl (e225, 512, .inl (fun _ => 0)))] _ A s.heap _ := Wd
  refine k_putF C Wd KX5 0 4 [(h0, .inr (5, [.int 0, .int 0, .ref q224, .ref q226, .ref q228, .null, .null])), (q224, .inl (e225, 3, .inl (fun _ => 0))), (q226, .inl (e227, 40, .inl (fun _ => 0))), (q228, .inl (e229, 20, .inr (.inr (.inr (.inr (fun i => if i < 20 then some (r230 i) else none)))))), ((r230 0), .inl (e225, 512, .inl (fun _ => 0))), ((r230 1), .inl (e225, 512, .inl (fun _ => 0))), ((r230 2), .inl (e225, 512, .inl (fun _ => 0))), ((r230 3), .inl (e225, 512, .inl (fun _ => 0))), ((r230 4), .inl (e225, 512, .inl (fun _ => 0))), ((r230 5), .inl (e225, 512, .inl (fun _ => 0))), ((r230 6), .inl (e225, 512, .inl (fun _ => 0))), ((r230 7), .inl (e225, 512, .inl (fun _ => 0))), ((r230 8), .inl (e225, 512, .inl (fun _ => 0))), ((r230 9), .inl (e225, 512, .inl (fun _ => 0))), ((r230 10), .inl (e225, 512, .inl (fun _ => 0))), ((r230 11), .inl (e225, 512, .inl (fun _ => 0))), ((r230 12), .inl (e225, 512, .inl (fun _ => 0))), ((r230 13), .inl (e225, 512, .inl (fun _ => 0))), ((r230 14), .inl (e225, 512, .inl (fun _ => 0))), ((r230 15), .inl (e225, 512, .inl (fun _ => 0))), ((r230 16), .inl (e225, 512, .inl (fun _ => 0))), ((r230 17), .inl (e225, 512, .inl (fun _ => 0))), ((r230 18), .inl (e225, 512, .inl (fun _ => 0))), ((r230 19), .inl (e225, 512, .inl (fun _ => 0)))] rfl (by decide) fl_X5_20 rfl hin rfl rfl rfl (Nat.le_of_ble_eq_true rfl) rfl dX5_init_29 (fun H locs Wd => ?_)
  refine lv_aload_n C.1 C.2.1 dX5_init_32 rfl (lv_at hl 0 rfl) ?_
  refine lv_sipush (v := 512) C.1 C.2.1 dX5_init_33 (by decide) ?_
  refine k_newa C Wd ac_int 512 (by decide) (by decide) (by decide) (cells' := 24) (slots' := 10815) (Nat.le_of_ble_eq_true rfl) (Nat.le_of_ble_eq_true rfl) (by decide) (by decide) dX5_init_36 (fun q231 e232 H Wd => ?_)
  have Wd : wX D [(e225, .int), (e227, .int), (e229, .array .int), (e232, .int)] s [(h0, .inr (5, [.int 0, .int 0, .ref q224, .ref q226, .ref q228, .null, .null])), (q224, .inl (e225, 3, .inl (fun _ => 0))), (q226, .inl (e227, 40, .inl (fun _ => 0))), (q228, .inl (e229, 20, .inr (.inr (.inr (.inr (fun i => if i < 20 then some (r230 i) else none)))))), ((r230 0), .inl (e225, 512, .inl (fun _ => 0))), ((r230 1), .inl (e225, 512, .inl (fun _ => 0))), ((r230 2), .inl (e225, 512, .inl (fun _ => 0))), ((r230 3), .inl (e225, 512, .inl (fun _ => 0))), ((r230 4), .inl (e225, 512, .inl (fun _ => 0))), ((r230 5), .inl (e225, 512, .inl (fun _ => 0))), ((r230 6), .inl (e225, 512, .inl (fun _ => 0))), ((r230 7), .inl (e225, 512, .inl (fun _ => 0))), ((r230 8), .inl (e225, 512, .inl (fun _ => 0))), ((r230 9), .inl (e225, 512, .inl (fun _ => 0))), ((r230 10), .inl (e225, 512, .inl (fun _ => 0))), ((r230 11), .inl (e225, 512, .inl (fun _ => 0))), ((r230 12), .inl (e225, 512, .inl (fun _ => 0))), ((r230 13), .inl (e225, 512, .inl (fun _ => 0))), ((r230 14), .inl (e225, 512, .inl (fun _ => 0))), ((r230 15), .inl (e225, 512, .inl (fun _ => 0))), ((r230 16), .inl (e225, 512, .inl (fun _ => 0))), ((r230 17), .inl (e225, 512, .inl (fun _ => 0))), ((r230 18), .inl (e225, 512, .inl (fun _ => 0))), ((r230 19), .inl (e225, 512, .inl (fun _ => 0))), (q231, .inl (e232, 512, .inl (fun _ => 0)))] _ A s.heap _ := Wd
  refine k_putF C Wd KX5 0 5 [(h0, .inr (5, [.int 0, .int 0, .ref q224, .ref q226, .ref q228, .ref q231, .null])), (q224, .inl (e225, 3, .inl (fun _ => 0))), (q226, .inl (e227, 40, .inl (fun _ => 0))), (q228, .inl (e229, 20, .inr (.inr (.inr (.inr (fun i => if i < 20 then some (r230 i) else none)))))), ((r230 0), .inl (e225, 512, .inl (fun _ => 0))), ((r230 1), .inl (e225, 512, .inl (fun _ => 0))), ((r230 2), .inl (e225, 512, .inl (fun _ => 0))), ((r230 3), .inl (e225, 512, .inl (fun _ => 0))), ((r230 4), .inl (e225, 512, .inl (fun _ => 0))), ((r230 5), .inl (e225, 512, .inl (fun _ => 0))), ((r230 6), .inl (e225, 512, .inl (fun _ => 0))), ((r230 7), .inl (e225, 512, .inl (fun _ => 0))), ((r230 8), .inl (e225, 512, .inl (fun _ => 0))), ((r230 9), .inl (e225, 512, .inl (fun _ => 0))), ((r230 10), .inl (e225, 512, .inl (fun _ => 0))), ((r230 11), .inl (e225, 512, .inl (fun _ => 0))), ((r230 12), .inl (e225, 512, .inl (fun _ => 0))), ((r230 13), .inl (e225, 512, .inl (fun _ => 0))), ((r230 14), .inl (e225, 512, .inl (fun _ => 0))), ((r230 15), .inl (e225, 512, .inl (fun _ => 0))), ((r230 16), .inl (e225, 512, .inl (fun _ => 0))), ((r230 17), .inl (e225, 512, .inl (fun _ => 0))), ((r230 18), .inl (e225, 512, .inl (fun _ => 0))), ((r230 19), .inl (e225, 512, .inl (fun _ => 0))), (q231, .inl (e232, 512, .inl (fun _ => 0)))] rfl (by decide) fl_X5_23 rfl hin rfl rfl rfl (Nat.le_of_ble_eq_true rfl) rfl dX5_init_38 (fun H locs Wd => ?_)
  refine lv_aload_n C.1 C.2.1 dX5_init_41 rfl (lv_at hl 0 rfl) ?_
  refine lv_sipush (v := 512) C.1 C.2.1 dX5_init_42 (by decide) ?_
  refine k_newa C Wd ac_int 512 (by decide) (by decide) (by decide) (cells' := 25) (slots' := 11327) (Nat.le_of_ble_eq_true rfl) (Nat.le_of_ble_eq_true rfl) (by decide) (by decide) dX5_init_45 (fun q233 e234 H Wd => ?_)
  have Wd : wX D [(e225, .int), (e227, .int), (e229, .array .int), (e232, .int), (e234, .int)] s [(h0, .inr (5, [.int 0, .int 0, .ref q224, .ref q226, .ref q228, .ref q231, .null])), (q224, .inl (e225, 3, .inl (fun _ => 0))), (q226, .inl (e227, 40, .inl (fun _ => 0))), (q228, .inl (e229, 20, .inr (.inr (.inr (.inr (fun i => if i < 20 then some (r230 i) else none)))))), ((r230 0), .inl (e225, 512, .inl (fun _ => 0))), ((r230 1), .inl (e225, 512, .inl (fun _ => 0))), ((r230 2), .inl (e225, 512, .inl (fun _ => 0))), ((r230 3), .inl (e225, 512, .inl (fun _ => 0))), ((r230 4), .inl (e225, 512, .inl (fun _ => 0))), ((r230 5), .inl (e225, 512, .inl (fun _ => 0))), ((r230 6), .inl (e225, 512, .inl (fun _ => 0))), ((r230 7), .inl (e225, 512, .inl (fun _ => 0))), ((r230 8), .inl (e225, 512, .inl (fun _ => 0))), ((r230 9), .inl (e225, 512, .inl (fun _ => 0))), ((r230 10), .inl (e225, 512, .inl (fun _ => 0))), ((r230 11), .inl (e225, 512, .inl (fun _ => 0))), ((r230 12), .inl (e225, 512, .inl (fun _ => 0))), ((r230 13), .inl (e225, 512, .inl (fun _ => 0))), ((r230 14), .inl (e225, 512, .inl (fun _ => 0))), ((r230 15), .inl (e225, 512, .inl (fun _ => 0))), ((r230 16), .inl (e225, 512, .inl (fun _ => 0))), ((r230 17), .inl (e225, 512, .inl (fun _ => 0))), ((r230 18), .inl (e225, 512, .inl (fun _ => 0))), ((r230 19), .inl (e225, 512, .inl (fun _ => 0))), (q231, .inl (e232, 512, .inl (fun _ => 0))), (q233, .inl (e234, 512, .inl (fun _ => 0)))] _ A s.heap _ := Wd
  refine k_putF C Wd KX5 0 6 [(h0, .inr (5, [.int 0, .int 0, .ref q224, .ref q226, .ref q228, .ref q231, .ref q233])), (q224, .inl (e225, 3, .inl (fun _ => 0))), (q226, .inl (e227, 40, .inl (fun _ => 0))), (q228, .inl (e229, 20, .inr (.inr (.inr (.inr (fun i => if i < 20 then some (r230 i) else none)))))), ((r230 0), .inl (e225, 512, .inl (fun _ => 0))), ((r230 1), .inl (e225, 512, .inl (fun _ => 0))), ((r230 2), .inl (e225, 512, .inl (fun _ => 0))), ((r230 3), .inl (e225, 512, .inl (fun _ => 0))), ((r230 4), .inl (e225, 512, .inl (fun _ => 0))), ((r230 5), .inl (e225, 512, .inl (fun _ => 0))), ((r230 6), .inl (e225, 512, .inl (fun _ => 0))), ((r230 7), .inl (e225, 512, .inl (fun _ => 0))), ((r230 8), .inl (e225, 512, .inl (fun _ => 0))), ((r230 9), .inl (e225, 512, .inl (fun _ => 0))), ((r230 10), .inl (e225, 512, .inl (fun _ => 0))), ((r230 11), .inl (e225, 512, .inl (fun _ => 0))), ((r230 12), .inl (e225, 512, .inl (fun _ => 0))), ((r230 13), .inl (e225, 512, .inl (fun _ => 0))), ((r230 14), .inl (e225, 512, .inl (fun _ => 0))), ((r230 15), .inl (e225, 512, .inl (fun _ => 0))), ((r230 16), .inl (e225, 512, .inl (fun _ => 0))), ((r230 17), .inl (e225, 512, .inl (fun _ => 0))), ((r230 18), .inl (e225, 512, .inl (fun _ => 0))), ((r230 19), .inl (e225, 512, .inl (fun _ => 0))), (q231, .inl (e232, 512, .inl (fun _ => 0))), (q233, .inl (e234, 512, .inl (fun _ => 0)))] rfl (by decide) fl_X5_26 rfl hin rfl rfl rfl (Nat.le_of_ble_eq_true rfl) rfl dX5_init_47 (fun H locs Wd => ?_)
  refine lv_aload_n C.1 C.2.1 dX5_init_50 rfl (lv_at hl 0 rfl) ?_
  refine lv_iconst (v := (-1)) C.1 C.2.1 dX5_init_51 (by decide) ?_
  refine k_put C Wd KX5 0 0 [(h0, .inr (5, [.int (-1), .int 0, .ref q224, .ref q226, .ref q228, .ref q231, .ref q233])), (q224, .inl (e225, 3, .inl (fun _ => 0))), (q226, .inl (e227, 40, .inl (fun _ => 0))), (q228, .inl (e229, 20, .inr (.inr (.inr (.inr (fun i => if i < 20 then some (r230 i) else none)))))), ((r230 0), .inl (e225, 512, .inl (fun _ => 0))), ((r230 1), .inl (e225, 512, .inl (fun _ => 0))), ((r230 2), .inl (e225, 512, .inl (fun _ => 0))), ((r230 3), .inl (e225, 512, .inl (fun _ => 0))), ((r230 4), .inl (e225, 512, .inl (fun _ => 0))), ((r230 5), .inl (e225, 512, .inl (fun _ => 0))), ((r230 6), .inl (e225, 512, .inl (fun _ => 0))), ((r230 7), .inl (e225, 512, .inl (fun _ => 0))), ((r230 8), .inl (e225, 512, .inl (fun _ => 0))), ((r230 9), .inl (e225, 512, .inl (fun _ => 0))), ((r230 10), .inl (e225, 512, .inl (fun _ => 0))), ((r230 11), .inl (e225, 512, .inl (fun _ => 0))), ((r230 12), .inl (e225, 512, .inl (fun _ => 0))), ((r230 13), .inl (e225, 512, .inl (fun _ => 0))), ((r230 14), .inl (e225, 512, .inl (fun _ => 0))), ((r230 15), .inl (e225, 512, .inl (fun _ => 0))), ((r230 16), .inl (e225, 512, .inl (fun _ => 0))), ((r230 17), .inl (e225, 512, .inl (fun _ => 0))), ((r230 18), .inl (e225, 512, .inl (fun _ => 0))), ((r230 19), .inl (e225, 512, .inl (fun _ => 0))), (q231, .inl (e232, 512, .inl (fun _ => 0))), (q233, .inl (e234, 512, .inl (fun _ => 0)))] rfl (by decide) fl_X5_29 rfl rfl rfl (Nat.le_of_ble_eq_true rfl) rfl dX5_init_52 (fun H locs Wd => ?_)
  exact k_vret C hr hlk Wd () trivial [] rfl (by decide) [] rfl (by decide) (by decide) dX5_init_55
set_option maxHeartbeats 4000000 in
set_option maxRecDepth 100000 in
theorem kcX8_init_v3 (l : Launch) (D : va_G) (h0 : Nat) (sz : Nat)  : Met l yX8_init (Cond.code yX8_init cX8_init 2 none :: gG) { frames := 1, cells := 1, slots := 40, locals := 64 } (cPre D [] [(h0, .inr (8, [.null, .int 0]))] sz [.ref h0, .int 40]) (va_Qv (fun (_ : Nat × ClassId) => True) (fun u t => cB D (va_A [(h0, .inr (8, [.null, .int 0]))] sz) ((fun u => match u with | (q244, e245) => [(e245, .int)]) u) ((fun u => match u with | (q244, e245) => [(h0, .inr (8, [.ref q244, .int 0])), (q244, .inl (e245, 40, .inl (fun _ => 0)))]) u) t) (va_A [(h0, .inr (8, [.null, .int 0]))] sz)) 1 40 (va_A [(h0, .inr (8, [.null, .int 0]))] sz) := by
  refine Met.ofW (cc := cX8_init) (maxL := 2) (ret := none) (by decide) rfl ?_
  intro p e s m args below meth c s₁ B hml hv
  obtain ⟨rfl, aks, rfl, Wd⟩ := k_enter hv
  have C : CallFix p m c cX8_init 2 s _ gG RX8 := ⟨B.exec, B.bytes, hml, findClass_of_methodNamed B.named, fun w h => atoms_spec (ws := Cond.code yX8_init cX8_init 2 none :: gG) B.pre w (List.mem_cons_of_mem _ h)⟩
  have hr := B.returns
  have hlk := B.notSynchronized
  have hin : meth.name = "<init>" := (name_of_methodNamed B.named B.method).1
  generalize va_A [(h0, .inr (8, [.null, .int 0]))] s.heap.size = A at Wd ⊢
  refine k_locals (Nat.le_of_ble_eq_true rfl) [(0, .ref h0), (1, .int 40)] rfl (fun ls hl => ?_)
  refine lv_aload_n C.1 C.2.1 dX8_init_0 rfl (lv_at hl 0 rfl) ?_
  refine k_oinit C hl.1 ml_X8_3 im_objectInit cd_obj (Nat.le_of_ble_eq_true rfl) (Nat.le_of_ble_eq_true rfl) dX8_init_1 ?_
  refine lv_aload_n C.1 C.2.1 dX8_init_4 rfl (lv_at hl 0 rfl) ?_
  refine lv_iload_n C.1 C.2.1 dX8_init_5 rfl (lv_at hl 1 rfl) ?_
  refine lv_iconst (v := 1) C.1 C.2.1 dX8_init_6 (by decide) ?_
  refine k_mmax (v := 40) C hl.1 ml_X8_9 st_Lib_Math_max_name in_J9 cd_max (Nat.le_of_ble_eq_true rfl) (Nat.le_of_ble_eq_true rfl) (Nat.le_of_ble_eq_true rfl) (Nat.le_of_ble_eq_true rfl) (by decide) dX8_init_7 ?_
  refine k_newa C Wd ac_int 40 (by decide) (by decide) (by decide) (cells' := 1) (slots' := 40) (Nat.le_of_ble_eq_true rfl) (Nat.le_of_ble_eq_true rfl) (by decide) (by decide) dX8_init_10 (fun q244 e245 H Wd => ?_)
  have Wd : wX D [(e245, .int)] s [(h0, .inr (8, [.null, .int 0])), (q244, .inl (e245, 40, .inl (fun _ => 0)))] _ A s.heap _ := Wd
  refine k_putF C Wd KX8 0 0 [(h0, .inr (8, [.ref q244, .int 0])), (q244, .inl (e245, 40, .inl (fun _ => 0)))] rfl (by decide) fl_X8_15 rfl hin rfl rfl rfl (Nat.le_of_ble_eq_true rfl) rfl dX8_init_12 (fun H locs Wd => ?_)
  refine lv_aload_n C.1 C.2.1 dX8_init_15 rfl (lv_at hl 0 rfl) ?_
  refine lv_iconst (v := 0) C.1 C.2.1 dX8_init_16 (by decide) ?_
  refine k_put C Wd KX8 0 1 [(h0, .inr (8, [.ref q244, .int 0])), (q244, .inl (e245, 40, .inl (fun _ => 0)))] rfl (by decide) fl_X8_21 rfl rfl rfl (Nat.le_of_ble_eq_true rfl) rfl dX8_init_17 (fun H locs Wd => ?_)
  exact k_vret C hr hlk Wd (q244, e245) trivial [0, 1] rfl (by decide) [0] rfl (by decide) (by decide) dX8_init_20
set_option maxHeartbeats 4000000 in
set_option maxRecDepth 100000 in
theorem kcX9_init (l : Launch) (D : va_G) (h0 : Nat) (sz : Nat)  : Met l yX9_init (Cond.code yX9_init cX9_init 1 none :: gG) { frames := 2, cells := 6, slots := 90, locals := 85 } (cPre D [] [(h0, .inr (9, [.null, .null, .int 0, .null, .null]))] sz [.ref h0]) (va_Qv (fun (_ : Nat × Nat × Nat × Nat × Nat × ClassId × Nat) => True) (fun u t => cB D (va_A [(h0, .inr (9, [.null, .null, .int 0, .null, .null]))] sz) ((fun u => match u with | (q257, q261, q265, q267, q259, e260, q263) => [(e260, .int)]) u) ((fun u => match u with | (q257, q261, q265, q267, q259, e260, q263) => [(h0, .inr (9, [.ref q257, .ref q261, .int 0, .ref q265, .ref q267])), (q257, .inr (8, [.ref q259, .int 0])), (q259, .inl (e260, 40, .inl (fun _ => 0))), (q261, .inr (8, [.ref q263, .int 0]))]) u) t) (va_A [(h0, .inr (9, [.null, .null, .int 0, .null, .null]))] sz)) 6 90 (va_A [(h0, .inr (9, [.null, .null, .int 0, .null, .null]))] sz) := by
  refine Met.ofW (cc := cX9_init) (maxL := 1) (ret := none) (by decide) rfl ?_
  intro p e s m args below meth c s₁ B hml hv
  obtain ⟨rfl, aks, rfl, Wd⟩ := k_enter hv
  have C : CallFix p m c cX9_init 1 s _ gG RX9 := ⟨B.exec, B.bytes, hml, findClass_of_methodNamed B.named, fun w h => atoms_spec (ws := Cond.code yX9_init cX9_init 1 none :: gG) B.pre w (List.mem_cons_of_mem _ h)⟩
  have hr := B.returns
  have hlk := B.notSynchronized
  have hin : meth.name = "<init>" := (name_of_methodNamed B.named B.method).1
  generalize va_A [(h0, .inr (9, [.null, .null, .int 0, .null, .null]))] s.heap.size = A at Wd ⊢
  refine k_locals (Nat.le_of_ble_eq_true rfl) [(0, .ref h0)] rfl (fun ls hl => ?_)
  refine lv_aload_n C.1 C.2.1 dX9_init_0 rfl (lv_at hl 0 rfl) ?_
  refine k_oinit C hl.1 ml_X9_3 im_objectInit cd_obj (Nat.le_of_ble_eq_true rfl) (Nat.le_of_ble_eq_true rfl) dX9_init_1 ?_
  refine lv_aload_n C.1 C.2.1 dX9_init_4 rfl (lv_at hl 0 rfl) ?_
  refine k_new C Wd KX8 cl_X9_9 is_X8 in_X8 [.null, .int 0] (by decide +kernel) (cells' := 1) (slots' := 2) (Nat.le_of_ble_eq_true rfl) (Nat.le_of_ble_eq_true rfl) (by decide) (by decide) dX9_init_5 (fun q257 H Wd => ?_)
  have Wd : wX D [] s [(h0, .inr (9, [.null, .null, .int 0, .null, .null])), (q257, .inr (8, [.null, .int 0]))] _ A s.heap _ := Wd
  refine lv_dup C.1 C.2.1 dX9_init_8 rfl ?_
  refine lv_bipush (v := 40) C.1 C.2.1 dX9_init_9 (by decide) ?_
  refine k_cv Wd [1] [0] rfl (wr := [(h0, .inr (9, [.null, .null, .int 0, .null, .null]))]) rfl (by decide) (by decide) (cells' := 2) (slots' := 42) (by decide) (by decide) (k_runI (rest := [.ref q257, .ref h0]) C aks Wd cs_X9_11 (kcX8_init_v3 l D q257 _ ) [1] rfl (by decide) [] rfl rfl rfl ⟨(Nat.le_of_ble_eq_true rfl), (Nat.le_of_ble_eq_true rfl)⟩ hl.1 rfl rfl (Nat.le_of_ble_eq_true rfl) ⟨(Nat.le_of_ble_eq_true rfl), (Nat.le_of_ble_eq_true rfl)⟩ dX9_init_11) (fun u H locs w258 Wd => ?_)
  obtain ⟨q259, e260⟩ := u
  have Wd : wX D [(e260, .int)] s [(h0, .inr (9, [.null, .null, .int 0, .null, .null])), (q257, .inr (8, [.ref q259, .int 0])), (q259, .inl (e260, 40, .inl (fun _ => 0)))] _ A s.heap _ := Wd
  refine k_putF C Wd KX9 0 0 [(h0, .inr (9, [.ref q257, .null, .int 0, .null, .null])), (q257, .inr (8, [.ref q259, .int 0])), (q259, .inl (e260, 40, .inl (fun _ => 0)))] rfl (by decide) fl_X9_14 rfl hin rfl rfl rfl (Nat.le_of_ble_eq_true rfl) rfl dX9_init_14 (fun H locs Wd => ?_)
  refine lv_aload_n C.1 C.2.1 dX9_init_17 rfl (lv_at hl 0 rfl) ?_
  refine k_new C Wd KX8 cl_X9_9 is_X8 in_X8 [.null, .int 0] (by decide +kernel) (cells' := 3) (slots' := 44) (Nat.le_of_ble_eq_true rfl) (Nat.le_of_ble_eq_true rfl) (by decide) (by decide) dX9_init_18 (fun q261 H Wd => ?_)
  have Wd : wX D [(e260, .int)] s [(h0, .inr (9, [.ref q257, .null, .int 0, .null, .null])), (q257, .inr (8, [.ref q259, .int 0])), (q259, .inl (e260, 40, .inl (fun _ => 0))), (q261, .inr (8, [.null, .int 0]))] _ A s.heap _ := Wd
  refine lv_dup C.1 C.2.1 dX9_init_21 rfl ?_
  refine lv_bipush (v := 40) C.1 C.2.1 dX9_init_22 (by decide) ?_
  refine k_cv Wd [3] [0, 1, 2] rfl (wr := [(h0, .inr (9, [.ref q257, .null, .int 0, .null, .null])), (q257, .inr (8, [.ref q259, .int 0])), (q259, .inl (e260, 40, .inl (fun _ => 0)))]) rfl (by decide) (by decide) (cells' := 4) (slots' := 84) (by decide) (by decide) (k_runI (rest := [.ref q261, .ref h0]) C aks Wd cs_X9_11 (kcX8_init_v3 l D q261 _ ) [3] rfl (by decide) [] rfl rfl rfl ⟨(Nat.le_of_ble_eq_true rfl), (Nat.le_of_ble_eq_true rfl)⟩ hl.1 rfl rfl (Nat.le_of_ble_eq_true rfl) ⟨(Nat.le_of_ble_eq_true rfl), (Nat.le_of_ble_eq_true rfl)⟩ dX9_init_24) (fun u H locs w262 Wd => ?_)
  obtain ⟨q263, e264⟩ := u
  have Wd : wX D [(e260, .int), (e264, .int)] s [(h0, .inr (9, [.ref q257, .null, .int 0, .null, .null])), (q257, .inr (8, [.ref q259, .int 0])), (q259, .inl (e260, 40, .inl (fun _ => 0))), (q261, .inr (8, [.ref q263, .int 0])), (q263, .inl (e264, 40, .inl (fun _ => 0)))] _ A s.heap _ := Wd
  refine k_putF C Wd KX9 0 1 [(h0, .inr (9, [.ref q257, .ref q261, .int 0, .null, .null])), (q257, .inr (8, [.ref q259, .int 0])), (q259, .inl (e260, 40, .inl (fun _ => 0))), (q261, .inr (8, [.ref q263, .int 0])), (q263, .inl (e264, 40, .inl (fun _ => 0)))] rfl (by decide) fl_X9_20 rfl hin rfl rfl rfl (Nat.le_of_ble_eq_true rfl) rfl dX9_init_27 (fun H locs Wd => ?_)
  refine lv_aload_n C.1 C.2.1 dX9_init_30 rfl (lv_at hl 0 rfl) ?_
  refine lv_iconst (v := 3) C.1 C.2.1 dX9_init_31 (by decide) ?_
  refine k_newa C Wd ac_int 3 (by decide) (by decide) (by decide) (cells' := 5) (slots' := 87) (Nat.le_of_ble_eq_true rfl) (Nat.le_of_ble_eq_true rfl) (by decide) (by decide) dX9_init_32 (fun q265 e266 H Wd => ?_)
  have Wd : wX D [(e260, .int), (e264, .int), (e266, .int)] s [(h0, .inr (9, [.ref q257, .ref q261, .int 0, .null, .null])), (q257, .inr (8, [.ref q259, .int 0])), (q259, .inl (e260, 40, .inl (fun _ => 0))), (q261, .inr (8, [.ref q263, .int 0])), (q263, .inl (e264, 40, .inl (fun _ => 0))), (q265, .inl (e266, 3, .inl (fun _ => 0)))] _ A s.heap _ := Wd
  refine k_putF C Wd KX9 0 3 [(h0, .inr (9, [.ref q257, .ref q261, .int 0, .ref q265, .null])), (q257, .inr (8, [.ref q259, .int 0])), (q259, .inl (e260, 40, .inl (fun _ => 0))), (q261, .inr (8, [.ref q263, .int 0])), (q263, .inl (e264, 40, .inl (fun _ => 0))), (q265, .inl (e266, 3, .inl (fun _ => 0)))] rfl (by decide) fl_X9_23 rfl hin rfl rfl rfl (Nat.le_of_ble_eq_true rfl) rfl dX9_init_34 (fun H locs Wd => ?_)
  refine lv_aload_n C.1 C.2.1 dX9_init_37 rfl (lv_at hl 0 rfl) ?_
  refine lv_iconst (v := 3) C.1 C.2.1 dX9_init_38 (by decide) ?_
  refine k_newa C Wd ac_int 3 (by decide) (by decide) (by decide) (cells' := 6) (slots' := 90) (Nat.le_of_ble_eq_true rfl) (Nat.le_of_ble_eq_true rfl) (by decide) (by decide) dX9_init_39 (fun q267 e268 H Wd => ?_)
  have Wd : wX D [(e260, .int), (e264, .int), (e266, .int), (e268, .int)] s [(h0, .inr (9, [.ref q257, .ref q261, .int 0, .ref q265, .null])), (q257, .inr (8, [.ref q259, .int 0])), (q259, .inl (e260, 40, .inl (fun _ => 0))), (q261, .inr (8, [.ref q263, .int 0])), (q263, .inl (e264, 40, .inl (fun _ => 0))), (q265, .inl (e266, 3, .inl (fun _ => 0))), (q267, .inl (e268, 3, .inl (fun _ => 0)))] _ A s.heap _ := Wd
  refine k_putF C Wd KX9 0 4 [(h0, .inr (9, [.ref q257, .ref q261, .int 0, .ref q265, .ref q267])), (q257, .inr (8, [.ref q259, .int 0])), (q259, .inl (e260, 40, .inl (fun _ => 0))), (q261, .inr (8, [.ref q263, .int 0])), (q263, .inl (e264, 40, .inl (fun _ => 0))), (q265, .inl (e266, 3, .inl (fun _ => 0))), (q267, .inl (e268, 3, .inl (fun _ => 0)))] rfl (by decide) fl_X9_27 rfl hin rfl rfl rfl (Nat.le_of_ble_eq_true rfl) rfl dX9_init_41 (fun H locs Wd => ?_)
  refine lv_aload_n C.1 C.2.1 dX9_init_44 rfl (lv_at hl 0 rfl) ?_
  refine lv_iconst (v := 0) C.1 C.2.1 dX9_init_45 (by decide) ?_
  refine k_put C Wd KX9 0 2 [(h0, .inr (9, [.ref q257, .ref q261, .int 0, .ref q265, .ref q267])), (q257, .inr (8, [.ref q259, .int 0])), (q259, .inl (e260, 40, .inl (fun _ => 0))), (q261, .inr (8, [.ref q263, .int 0])), (q263, .inl (e264, 40, .inl (fun _ => 0))), (q265, .inl (e266, 3, .inl (fun _ => 0))), (q267, .inl (e268, 3, .inl (fun _ => 0)))] rfl (by decide) fl_X9_30 rfl rfl rfl (Nat.le_of_ble_eq_true rfl) rfl dX9_init_46 (fun H locs Wd => ?_)
  exact k_vret C hr hlk Wd (q257, q261, q265, q267, q259, e260, q263) trivial [0, 1, 2, 3] rfl (by decide) [0] rfl (by decide) (by decide) dX9_init_49
set_option maxHeartbeats 4000000 in
set_option maxRecDepth 100000 in
theorem kcX0_init (l : Launch) (D : va_G) (h0 : Nat) (sz : Nat)  : Met l yX0_init (Cond.code yX0_init cX0_init 1 none :: gG) { frames := 3, cells := 17, slots := 1939, locals := 105 } (cPre D [] [(h0, .inr (0, [.null, .null]))] sz [.ref h0]) (va_Qv (fun (_ : Unit) => True) (fun u t => cB D (va_A [(h0, .inr (0, [.null, .null]))] sz) ((fun (_ : Unit) => ([] : List (ClassId × FieldType))) u) ((fun (_ : Unit) => ([] : va_W)) u) t) (va_A [(h0, .inr (0, [.null, .null]))] sz)) 17 1939 (va_A [(h0, .inr (0, [.null, .null]))] sz) := by
  refine Met.ofW (cc := cX0_init) (maxL := 1) (ret := none) (by decide) rfl ?_
  intro p e s m args below meth c s₁ B hml hv
  obtain ⟨rfl, aks, rfl, Wd⟩ := k_enter hv
  have C : CallFix p m c cX0_init 1 s _ gG RX0 := ⟨B.exec, B.bytes, hml, findClass_of_methodNamed B.named, fun w h => atoms_spec (ws := Cond.code yX0_init cX0_init 1 none :: gG) B.pre w (List.mem_cons_of_mem _ h)⟩
  have hr := B.returns
  have hlk := B.notSynchronized
  have hin : meth.name = "<init>" := (name_of_methodNamed B.named B.method).1
  generalize va_A [(h0, .inr (0, [.null, .null]))] s.heap.size = A at Wd ⊢
  refine k_locals (Nat.le_of_ble_eq_true rfl) [(0, .ref h0)] rfl (fun ls hl => ?_)
  refine lv_aload_n C.1 C.2.1 dX0_init_0 rfl (lv_at hl 0 rfl) ?_
  refine k_oinit C hl.1 ml_X0_3 im_objectInit cd_obj (Nat.le_of_ble_eq_true rfl) (Nat.le_of_ble_eq_true rfl) dX0_init_1 ?_
  refine lv_aload_n C.1 C.2.1 dX0_init_4 rfl (lv_at hl 0 rfl) ?_
  refine k_new C Wd KX8 cl_X0_9 is_X8 in_X8 [.null, .int 0] (by decide +kernel) (cells' := 1) (slots' := 2) (Nat.le_of_ble_eq_true rfl) (Nat.le_of_ble_eq_true rfl) (by decide) (by decide) dX0_init_5 (fun q414 H Wd => ?_)
  have Wd : wX D [] s [(h0, .inr (0, [.null, .null])), (q414, .inr (8, [.null, .int 0]))] _ A s.heap _ := Wd
  refine lv_dup C.1 C.2.1 dX0_init_8 rfl ?_
  refine lv_sipush (v := 1000) C.1 C.2.1 dX0_init_9 (by decide) ?_
  refine k_cv Wd [1] [0] rfl (wr := [(h0, .inr (0, [.null, .null]))]) rfl (by decide) (by decide) (cells' := 2) (slots' := 1002) (by decide) (by decide) (k_runI (rest := [.ref q414, .ref h0]) C aks Wd cs_X0_11 (kcX8_init_v1 l D q414 _ ) [1] rfl (by decide) [] rfl rfl rfl ⟨(Nat.le_of_ble_eq_true rfl), (Nat.le_of_ble_eq_true rfl)⟩ hl.1 rfl rfl (Nat.le_of_ble_eq_true rfl) ⟨(Nat.le_of_ble_eq_true rfl), (Nat.le_of_ble_eq_true rfl)⟩ dX0_init_12) (fun u H locs w415 Wd => ?_)
  obtain ⟨q416, e417⟩ := u
  have Wd : wX D [(e417, .int)] s [(h0, .inr (0, [.null, .null])), (q414, .inr (8, [.ref q416, .int 0])), (q416, .inl (e417, 1000, .inl (fun _ => 0)))] _ A s.heap _ := Wd
  refine k_putF C Wd KX0 0 0 [(h0, .inr (0, [.ref q414, .null])), (q414, .inr (8, [.ref q416, .int 0])), (q416, .inl (e417, 1000, .inl (fun _ => 0)))] rfl (by decide) fl_X0_14 rfl hin rfl rfl rfl (Nat.le_of_ble_eq_true rfl) rfl dX0_init_15 (fun H locs Wd => ?_)
  refine lv_aload_n C.1 C.2.1 dX0_init_18 rfl (lv_at hl 0 rfl) ?_
  refine k_new C Wd KX1 cl_X0_20 is_X1 in_X1 [.null, .int 0, .null, .null, .null, .null, .null, .null, .null, .null, .null, .null, .null, .null] (by decide +kernel) (cells' := 3) (slots' := 1016) (Nat.le_of_ble_eq_true rfl) (Nat.le_of_ble_eq_true rfl) (by decide) (by decide) dX0_init_19 (fun q418 H Wd => ?_)
  have Wd : wX D [(e417, .int)] s [(h0, .inr (0, [.ref q414, .null])), (q414, .inr (8, [.ref q416, .int 0])), (q416, .inl (e417, 1000, .inl (fun _ => 0))), (q418, .inr (1, [.null, .int 0, .null, .null, .null, .null, .null, .null, .null, .null, .null, .null, .null, .null]))] _ A s.heap _ := Wd
  refine lv_dup C.1 C.2.1 dX0_init_22 rfl ?_
  refine k_cv Wd [3] [0, 1, 2] rfl (wr := [(h0, .inr (0, [.ref q414, .null])), (q414, .inr (8, [.ref q416, .int 0])), (q416, .inl (e417, 1000, .inl (fun _ => 0)))]) rfl (by decide) (by decide) (cells' := 17) (slots' := 1939) (by decide) (by decide) (k_runI (rest := [.ref q418, .ref h0]) C aks Wd cs_X0_22 (kcX1_init l D q418 _ ) [3] rfl (by decide) [] rfl rfl rfl ⟨(Nat.le_of_ble_eq_true rfl), (Nat.le_of_ble_eq_true rfl)⟩ hl.1 rfl rfl (Nat.le_of_ble_eq_true rfl) ⟨(Nat.le_of_ble_eq_true rfl), (Nat.le_of_ble_eq_true rfl)⟩ dX0_init_23) (fun u H locs w419 Wd => ?_)
  obtain ⟨q420, q421, q422, q423, q424, q425, q426, q427, q428, q429, q430, q431, q432, e433⟩ := u
  have Wd : wX D [(e417, .int), (e433, .int)] s [(h0, .inr (0, [.ref q414, .null])), (q414, .inr (8, [.ref q416, .int 0])), (q416, .inl (e417, 1000, .inl (fun _ => 0))), (q418, .inr (1, [.ref q420, .int 0, .ref q421, .ref q422, .ref q423, .ref q424, .ref q425, .ref q426, .ref q427, .ref q428, .ref q429, .ref q430, .ref q431, .ref q432])), (q432, .inl (e433, 480, .inl (fun _ => 0)))] _ A s.heap _ := Wd
  refine k_putF C Wd KX0 0 1 [(h0, .inr (0, [.ref q414, .ref q418])), (q414, .inr (8, [.ref q416, .int 0])), (q416, .inl (e417, 1000, .inl (fun _ => 0))), (q418, .inr (1, [.ref q420, .int 0, .ref q421, .ref q422, .ref q423, .ref q424, .ref q425, .ref q426, .ref q427, .ref q428, .ref q429, .ref q430, .ref q431, .ref q432])), (q432, .inl (e433, 480, .inl (fun _ => 0)))] rfl (by decide) fl_X0_23 rfl hin rfl rfl rfl (Nat.le_of_ble_eq_true rfl) rfl dX0_init_26 (fun H locs Wd => ?_)
  exact k_vret C hr hlk Wd () trivial [] rfl (by decide) [] rfl (by decide) (by decide) dX0_init_29
set_option maxHeartbeats 4000000 in
set_option maxRecDepth 100000 in
theorem kcX2_init (l : Launch) (D : va_G) (h0 : Nat) (sz : Nat)  : Met l yX2_init (Cond.code yX2_init cX2_init 1 none :: gG) { frames := 4, cells := 38, slots := 2700, locals := 125 } (cPre D [] [(h0, .inr (2, [.int 0, .int 0, .int 0, .int 0, .null, .null]))] sz [.ref h0]) (va_Qv (fun (_ : Nat × Nat × Nat × Nat × Nat × Nat × Nat × Nat × Nat × Nat × Nat × Nat × Nat × Nat × Nat × Nat × Nat × Nat × Nat × ClassId × ClassId × Nat × Nat × Nat × Nat × Nat × Nat × Nat × Nat × Nat × Nat × Nat × Nat × Nat × Nat × Nat × Nat × Nat × ClassId × ClassId) => True) (fun u t => cB D (va_A [(h0, .inr (2, [.int 0, .int 0, .int 0, .int 0, .null, .null]))] sz) ((fun u => match u with | (q490, q511, q492, q493, q494, q495, q496, q497, q498, q499, q500, q501, q502, q503, q504, q505, q506, q507, q508, e509, e510, q513, q514, q515, q516, q517, q518, q519, q520, q521, q522, q523, q524, q525, q526, q527, q528, q529, e530, e531) => [(e509, .int), (e510, .int), (e530, .int), (e531, .int)]) u) ((fun u => match u with | (q490, q511, q492, q493, q494, q495, q496, q497, q498, q499, q500, q501, q502, q503, q504, q505, q506, q507, q508, e509, e510, q513, q514, q515, q516, q517, q518, q519, q520, q521, q522, q523, q524, q525, q526, q527, q528, q529, e530, e531) => [(h0, .inr (2, [.int (-1), .int (-1), .int 0, .int 0, .ref q490, .ref q511])), (q490, .inr (3, [.ref q492, .ref q493, .int 0, .int 0, .int 0, .ref q494, .ref q495])), (q492, .inr (1, [.ref q496, .int 0, .ref q497, .ref q498, .ref q499, .ref q500, .ref q501, .ref q502, .ref q503, .ref q504, .ref q505, .ref q506, .ref q507, .ref q508])), (q508, .inl (e509, 480, .inl (fun _ => 0))), (q494, .inl (e510, 6, .inl (fun _ => 0))), (q511, .inr (3, [.ref q513, .ref q514, .int 0, .int 0, .int 0, .ref q515, .ref q516])), (q513, .inr (1, [.ref q517, .int 0, .ref q518, .ref q519, .ref q520, .ref q521, .ref q522, .ref q523, .ref q524, .ref q525, .ref q526, .ref q527, .ref q528, .ref q529])), (q529, .inl (e530, 480, .inl (fun _ => 0))), (q515, .inl (e531, 6, .inl (fun _ => 0)))]) u) t) (va_A [(h0, .inr (2, [.int 0, .int 0, .int 0, .int 0, .null, .null]))] sz)) 38 2700 (va_A [(h0, .inr (2, [.int 0, .int 0, .int 0, .int 0, .null, .null]))] sz) := by
  refine Met.ofW (cc := cX2_init) (maxL := 1) (ret := none) (by decide) rfl ?_
  intro p e s m args below meth c s₁ B hml hv
  obtain ⟨rfl, aks, rfl, Wd⟩ := k_enter hv
  have C : CallFix p m c cX2_init 1 s _ gG RX2 := ⟨B.exec, B.bytes, hml, findClass_of_methodNamed B.named, fun w h => atoms_spec (ws := Cond.code yX2_init cX2_init 1 none :: gG) B.pre w (List.mem_cons_of_mem _ h)⟩
  have hr := B.returns
  have hlk := B.notSynchronized
  have hin : meth.name = "<init>" := (name_of_methodNamed B.named B.method).1
  generalize va_A [(h0, .inr (2, [.int 0, .int 0, .int 0, .int 0, .null, .null]))] s.heap.size = A at Wd ⊢
  refine k_locals (Nat.le_of_ble_eq_true rfl) [(0, .ref h0)] rfl (fun ls hl => ?_)
  refine lv_aload_n C.1 C.2.1 dX2_init_0 rfl (lv_at hl 0 rfl) ?_
  refine k_oinit C hl.1 ml_X2_3 im_objectInit cd_obj (Nat.le_of_ble_eq_true rfl) (Nat.le_of_ble_eq_true rfl) dX2_init_1 ?_
  refine lv_aload_n C.1 C.2.1 dX2_init_4 rfl (lv_at hl 0 rfl) ?_
  refine k_new C Wd KX3 cl_X2_9 is_X3 in_X3 [.null, .null, .int 0, .int 0, .int 0, .null, .null] (by decide +kernel) (cells' := 1) (slots' := 7) (Nat.le_of_ble_eq_true rfl) (Nat.le_of_ble_eq_true rfl) (by decide) (by decide) dX2_init_5 (fun q490 H Wd => ?_)
  have Wd : wX D [] s [(h0, .inr (2, [.int 0, .int 0, .int 0, .int 0, .null, .null])), (q490, .inr (3, [.null, .null, .int 0, .int 0, .int 0, .null, .null]))] _ A s.heap _ := Wd
  refine lv_dup C.1 C.2.1 dX2_init_8 rfl ?_
  refine k_cv Wd [1] [0] rfl (wr := [(h0, .inr (2, [.int 0, .int 0, .int 0, .int 0, .null, .null]))]) rfl (by decide) (by decide) (cells' := 19) (slots' := 1350) (by decide) (by decide) (k_runI (rest := [.ref q490, .ref h0]) C aks Wd cs_X2_11 (kcX3_init l D q490 _ ) [1] rfl (by decide) [] rfl rfl rfl ⟨(Nat.le_of_ble_eq_true rfl), (Nat.le_of_ble_eq_true rfl)⟩ hl.1 rfl rfl (Nat.le_of_ble_eq_true rfl) ⟨(Nat.le_of_ble_eq_true rfl), (Nat.le_of_ble_eq_true rfl)⟩ dX2_init_9) (fun u H locs w491 Wd => ?_)
  obtain ⟨q492, q493, q494, q495, q496, q497, q498, q499, q500, q501, q502, q503, q504, q505, q506, q507, q508, e509, e510⟩ := u
  have Wd : wX D [(e509, .int), (e510, .int)] s [(h0, .inr (2, [.int 0, .int 0, .int 0, .int 0, .null, .null])), (q490, .inr (3, [.ref q492, .ref q493, .int 0, .int 0, .int 0, .ref q494, .ref q495])), (q492, .inr (1, [.ref q496, .int 0, .ref q497, .ref q498, .ref q499, .ref q500, .ref q501, .ref q502, .ref q503, .ref q504, .ref q505, .ref q506, .ref q507, .ref q508])), (q508, .inl (e509, 480, .inl (fun _ => 0))), (q494, .inl (e510, 6, .inl (fun _ => 0)))] _ A s.heap _ := Wd
  refine k_putF C Wd KX2 0 4 [(h0, .inr (2, [.int 0, .int 0, .int 0, .int 0, .ref q490, .null])), (q490, .inr (3, [.ref q492, .ref q493, .int 0, .int 0, .int 0, .ref q494, .ref q495])), (q492, .inr (1, [.ref q496, .int 0, .ref q497, .ref q498, .ref q499, .ref q500, .ref q501, .ref q502, .ref q503, .ref q504, .ref q505, .ref q506, .ref q507, .ref q508])), (q508, .inl (e509, 480, .inl (fun _ => 0))), (q494, .inl (e510, 6, .inl (fun _ => 0)))] rfl (by decide) fl_X2_12 rfl hin rfl rfl rfl (Nat.le_of_ble_eq_true rfl) rfl dX2_init_12 (fun H locs Wd => ?_)
  refine lv_aload_n C.1 C.2.1 dX2_init_15 rfl (lv_at hl 0 rfl) ?_
  refine k_new C Wd KX3 cl_X2_9 is_X3 in_X3 [.null, .null, .int 0, .int 0, .int 0, .null, .null] (by decide +kernel) (cells' := 20) (slots' := 1357) (Nat.le_of_ble_eq_true rfl) (Nat.le_of_ble_eq_true rfl) (by decide) (by decide) dX2_init_16 (fun q511 H Wd => ?_)
  have Wd : wX D [(e509, .int), (e510, .int)] s [(h0, .inr (2, [.int 0, .int 0, .int 0, .int 0, .ref q490, .null])), (q490, .inr (3, [.ref q492, .ref q493, .int 0, .int 0, .int 0, .ref q494, .ref q495])), (q492, .inr (1, [.ref q496, .int 0, .ref q497, .ref q498, .ref q499, .ref q500, .ref q501, .ref q502, .ref q503, .ref q504, .ref q505, .ref q506, .ref q507, .ref q508])), (q508, .inl (e509, 480, .inl (fun _ => 0))), (q494, .inl (e510, 6, .inl (fun _ => 0))), (q511, .inr (3, [.null, .null, .int 0, .int 0, .int 0, .null, .null]))] _ A s.heap _ := Wd
  refine lv_dup C.1 C.2.1 dX2_init_19 rfl ?_
  refine k_cv Wd [5] [0, 1, 2, 3, 4] rfl (wr := [(h0, .inr (2, [.int 0, .int 0, .int 0, .int 0, .ref q490, .null])), (q490, .inr (3, [.ref q492, .ref q493, .int 0, .int 0, .int 0, .ref q494, .ref q495])), (q492, .inr (1, [.ref q496, .int 0, .ref q497, .ref q498, .ref q499, .ref q500, .ref q501, .ref q502, .ref q503, .ref q504, .ref q505, .ref q506, .ref q507, .ref q508])), (q508, .inl (e509, 480, .inl (fun _ => 0))), (q494, .inl (e510, 6, .inl (fun _ => 0)))]) rfl (by decide) (by decide) (cells' := 38) (slots' := 2700) (by decide) (by decide) (k_runI (rest := [.ref q511, .ref h0]) C aks Wd cs_X2_11 (kcX3_init l D q511 _ ) [5] rfl (by decide) [] rfl rfl rfl ⟨(Nat.le_of_ble_eq_true rfl), (Nat.le_of_ble_eq_true rfl)⟩ hl.1 rfl rfl (Nat.le_of_ble_eq_true rfl) ⟨(Nat.le_of_ble_eq_true rfl), (Nat.le_of_ble_eq_true rfl)⟩ dX2_init_20) (fun u H locs w512 Wd => ?_)
  obtain ⟨q513, q514, q515, q516, q517, q518, q519, q520, q521, q522, q523, q524, q525, q526, q527, q528, q529, e530, e531⟩ := u
  have Wd : wX D [(e509, .int), (e510, .int), (e530, .int), (e531, .int)] s [(h0, .inr (2, [.int 0, .int 0, .int 0, .int 0, .ref q490, .null])), (q490, .inr (3, [.ref q492, .ref q493, .int 0, .int 0, .int 0, .ref q494, .ref q495])), (q492, .inr (1, [.ref q496, .int 0, .ref q497, .ref q498, .ref q499, .ref q500, .ref q501, .ref q502, .ref q503, .ref q504, .ref q505, .ref q506, .ref q507, .ref q508])), (q508, .inl (e509, 480, .inl (fun _ => 0))), (q494, .inl (e510, 6, .inl (fun _ => 0))), (q511, .inr (3, [.ref q513, .ref q514, .int 0, .int 0, .int 0, .ref q515, .ref q516])), (q513, .inr (1, [.ref q517, .int 0, .ref q518, .ref q519, .ref q520, .ref q521, .ref q522, .ref q523, .ref q524, .ref q525, .ref q526, .ref q527, .ref q528, .ref q529])), (q529, .inl (e530, 480, .inl (fun _ => 0))), (q515, .inl (e531, 6, .inl (fun _ => 0)))] _ A s.heap _ := Wd
  refine k_putF C Wd KX2 0 5 [(h0, .inr (2, [.int 0, .int 0, .int 0, .int 0, .ref q490, .ref q511])), (q490, .inr (3, [.ref q492, .ref q493, .int 0, .int 0, .int 0, .ref q494, .ref q495])), (q492, .inr (1, [.ref q496, .int 0, .ref q497, .ref q498, .ref q499, .ref q500, .ref q501, .ref q502, .ref q503, .ref q504, .ref q505, .ref q506, .ref q507, .ref q508])), (q508, .inl (e509, 480, .inl (fun _ => 0))), (q494, .inl (e510, 6, .inl (fun _ => 0))), (q511, .inr (3, [.ref q513, .ref q514, .int 0, .int 0, .int 0, .ref q515, .ref q516])), (q513, .inr (1, [.ref q517, .int 0, .ref q518, .ref q519, .ref q520, .ref q521, .ref q522, .ref q523, .ref q524, .ref q525, .ref q526, .ref q527, .ref q528, .ref q529])), (q529, .inl (e530, 480, .inl (fun _ => 0))), (q515, .inl (e531, 6, .inl (fun _ => 0)))] rfl (by decide) fl_X2_18 rfl hin rfl rfl rfl (Nat.le_of_ble_eq_true rfl) rfl dX2_init_23 (fun H locs Wd => ?_)
  refine lv_aload_n C.1 C.2.1 dX2_init_26 rfl (lv_at hl 0 rfl) ?_
  refine lv_iconst (v := (-1)) C.1 C.2.1 dX2_init_27 (by decide) ?_
  refine k_put C Wd KX2 0 0 [(h0, .inr (2, [.int (-1), .int 0, .int 0, .int 0, .ref q490, .ref q511])), (q490, .inr (3, [.ref q492, .ref q493, .int 0, .int 0, .int 0, .ref q494, .ref q495])), (q492, .inr (1, [.ref q496, .int 0, .ref q497, .ref q498, .ref q499, .ref q500, .ref q501, .ref q502, .ref q503, .ref q504, .ref q505, .ref q506, .ref q507, .ref q508])), (q508, .inl (e509, 480, .inl (fun _ => 0))), (q494, .inl (e510, 6, .inl (fun _ => 0))), (q511, .inr (3, [.ref q513, .ref q514, .int 0, .int 0, .int 0, .ref q515, .ref q516])), (q513, .inr (1, [.ref q517, .int 0, .ref q518, .ref q519, .ref q520, .ref q521, .ref q522, .ref q523, .ref q524, .ref q525, .ref q526, .ref q527, .ref q528, .ref q529])), (q529, .inl (e530, 480, .inl (fun _ => 0))), (q515, .inl (e531, 6, .inl (fun _ => 0)))] rfl (by decide) fl_X2_21 rfl rfl rfl (Nat.le_of_ble_eq_true rfl) rfl dX2_init_28 (fun H locs Wd => ?_)
  refine lv_aload_n C.1 C.2.1 dX2_init_31 rfl (lv_at hl 0 rfl) ?_
  refine lv_iconst (v := (-1)) C.1 C.2.1 dX2_init_32 (by decide) ?_
  refine k_put C Wd KX2 0 1 [(h0, .inr (2, [.int (-1), .int (-1), .int 0, .int 0, .ref q490, .ref q511])), (q490, .inr (3, [.ref q492, .ref q493, .int 0, .int 0, .int 0, .ref q494, .ref q495])), (q492, .inr (1, [.ref q496, .int 0, .ref q497, .ref q498, .ref q499, .ref q500, .ref q501, .ref q502, .ref q503, .ref q504, .ref q505, .ref q506, .ref q507, .ref q508])), (q508, .inl (e509, 480, .inl (fun _ => 0))), (q494, .inl (e510, 6, .inl (fun _ => 0))), (q511, .inr (3, [.ref q513, .ref q514, .int 0, .int 0, .int 0, .ref q515, .ref q516])), (q513, .inr (1, [.ref q517, .int 0, .ref q518, .ref q519, .ref q520, .ref q521, .ref q522, .ref q523, .ref q524, .ref q525, .ref q526, .ref q527, .ref q528, .ref q529])), (q529, .inl (e530, 480, .inl (fun _ => 0))), (q515, .inl (e531, 6, .inl (fun _ => 0)))] rfl (by decide) fl_X2_25 rfl rfl rfl (Nat.le_of_ble_eq_true rfl) rfl dX2_init_33 (fun H locs Wd => ?_)
  exact k_vret C hr hlk Wd (q490, q511, q492, q493, q494, q495, q496, q497, q498, q499, q500, q501, q502, q503, q504, q505, q506, q507, q508, e509, e510, q513, q514, q515, q516, q517, q518, q519, q520, q521, q522, q523, q524, q525, q526, q527, q528, q529, e530, e531) trivial [0, 1, 2, 3, 4, 5, 6, 7, 8] rfl (by decide) [0, 1, 2, 3] rfl (by decide) (by decide) dX2_init_36
set_option maxHeartbeats 4000000 in
set_option maxRecDepth 100000 in
theorem kcX4_init (l : Launch) (D : va_G) (h0 : Nat) (sz : Nat)  : Met l yX4_init (Cond.code yX4_init cX4_init 2 none :: gG) { frames := 5, cells := 156, slots := 7825, locals := 145 } (cPre D [] [(h0, .inr (4, [.null, .null, .null, .int 0, .int 0, .null, .null, .null, .null, .null]))] sz [.ref h0]) (va_Qv (fun (_ : Nat × Nat × Nat × Nat × Nat × Nat × Nat × Nat × ClassId × Nat × Nat × Nat × Nat × Nat × Nat × Nat × Nat × Nat × Nat × Nat × Nat × Nat × Nat × Nat × Nat × Nat × Nat × ClassId × (Nat → Nat) × ClassId × ClassId × Nat × ClassId × Nat × ClassId × Nat × Nat × Nat × Nat × Nat × Nat × Nat × Nat × Nat × Nat × Nat × Nat × Nat × Nat × Nat × Nat × Nat × Nat × Nat × ClassId × ClassId × Nat × Nat × Nat × Nat × Nat × Nat × Nat × Nat × Nat × Nat × Nat × Nat × Nat × Nat × Nat × Nat × Nat × ClassId × ClassId) => True) (fun u t => cB D (va_A [(h0, .inr (4, [.null, .null, .null, .int 0, .int 0, .null, .null, .null, .null, .null]))] sz) ((fun u => match u with | (q715, q703, q707, q573, q696, q699, q701, q711, e574, q576, q586, q596, q606, q616, q626, q636, q646, q656, q666, q676, q686, q578, q579, q580, q581, q582, q584, e697, r698, e583, e700, q705, e706, q709, e710, q717, q718, q719, q720, q721, q722, q723, q724, q725, q726, q727, q728, q729, q730, q731, q732, q733, q734, q735, e736, e737, q738, q739, q740, q741, q742, q743, q744, q745, q746, q747, q748, q749, q750, q751, q752, q753, q754, e755, e756) => [(e574, .object RX9), (e583, .int), (e697, .array .int), (e700, .int), (e706, .int), (e710, .int), (e736, .int), (e737, .int), (e755, .int), (e756, .int)]) u) ((fun u => match u with | (q715, q703, q707, q573, q696, q699, q701, q711, e574, q576, q586, q596, q606, q616, q626, q636, q646, q656, q666, q676, q686, q578, q579, q580, q581, q582, q584, e697, r698, e583, e700, q705, e706, q709, e710, q717, q718, q719, q720, q721, q722, q723, q724, q725, q726, q727, q728, q729, q730, q731, q732, q733, q734, q735, e736, e737, q738, q739, q740, q741, q742, q743, q744, q745, q746, q747, q748, q749, q750, q751, q752, q753, q754, e755, e756) => [(h0, .inr (4, [.ref q715, .ref q703, .ref q707, .int (-1), .int (-1), .ref q573, .ref q696, .ref q699, .ref q701, .ref q711])), (q573, .inl (e574, 12, .inr (.inr (.inr (.inr (va_up (va_up (va_up (va_up (va_up (va_up (va_up (va_up (va_up (va_up (va_up (va_up (fun _ => none) 0 (some q576)) 1 (some q586)) 2 (some q596)) 3 (some q606)) 4 (some q616)) 5 (some q626)) 6 (some q636)) 7 (some q646)) 8 (some q656)) 9 (some q666)) 10 (some q676)) 11 (some q686))))))), (q576, .inr (9, [.ref q578, .ref q579, .int 0, .ref q580, .ref q581])), (q578, .inr (8, [.ref q582, .int 0])), (q579, .inr (8, [.ref q584, .int 0])), (q696, .inl (e697, 6, .inr (.inr (.inr (.inr (fun i => if i < 6 then some (r698 i) else none)))))), ((r698 0), .inl (e583, 8, .inl (fun _ => 0))), ((r698 1), .inl (e583, 8, .inl (fun _ => 0))), ((r698 2), .inl (e583, 8, .inl (fun _ => 0))), ((r698 3), .inl (e583, 8, .inl (fun _ => 0))), ((r698 4), .inl (e583, 8, .inl (fun _ => 0))), ((r698 5), .inl (e583, 8, .inl (fun _ => 0))), (q699, .inl (e700, 6, .inl (fun _ => 0))), (q703, .inr (8, [.ref q705, .int 0])), (q705, .inl (e706, 1000, .inl (fun _ => 0))), (q707, .inr (8, [.ref q709, .int 0])), (q709, .inl (e710, 480, .inl (fun _ => 0))), (q715, .inr (2, [.int (-1), .int (-1), .int 0, .int 0, .ref q717, .ref q718])), (q717, .inr (3, [.ref q719, .ref q720, .int 0, .int 0, .int 0, .ref q721, .ref q722])), (q719, .inr (1, [.ref q723, .int 0, .ref q724, .ref q725, .ref q726, .ref q727, .ref q728, .ref q729, .ref q730, .ref q731, .ref q732, .ref q733, .ref q734, .ref q735])), (q735, .inl (e736, 480, .inl (fun _ => 0))), (q721, .inl (e737, 6, .inl (fun _ => 0))), (q718, .inr (3, [.ref q738, .ref q739, .int 0, .int 0, .int 0, .ref q740, .ref q741])), (q738, .inr (1, [.ref q742, .int 0, .ref q743, .ref q744, .ref q745, .ref q746, .ref q747, .ref q748, .ref q749, .ref q750, .ref q751, .ref q752, .ref q753, .ref q754])), (q754, .inl (e755, 480, .inl (fun _ => 0))), (q740, .inl (e756, 6, .inl (fun _ => 0)))]) u) t) (va_A [(h0, .inr (4, [.null, .null, .null, .int 0, .int 0, .null, .null, .null, .null, .null]))] sz)) 156 7825 (va_A [(h0, .inr (4, [.null, .null, .null, .int 0, .int 0, .null, .null, .null, .null, .null]))] sz) := by
  refine Met.ofW (cc := cX4_init) (maxL := 2) (ret := none) (by decide) rfl ?_
  intro p e s m args below meth c s₁ B hml hv
  obtain ⟨rfl, aks, rfl, Wd⟩ := k_enter hv
  have C : CallFix p m c cX4_init 2 s _ gG RX4 := ⟨B.exec, B.bytes, hml, findClass_of_methodNamed B.named, fun w h => atoms_spec (ws := Cond.code yX4_init cX4_init 2 none :: gG) B.pre w (List.mem_cons_of_mem _ h)⟩
  have hr := B.returns
  have hlk := B.notSynchronized
  have hin : meth.name = "<init>" := (name_of_methodNamed B.named B.method).1
  generalize va_A [(h0, .inr (4, [.null, .null, .null, .int 0, .int 0, .null, .null, .null, .null, .null]))] s.heap.size = A at Wd ⊢
  refine k_locals (Nat.le_of_ble_eq_true rfl) [(0, .ref h0)] rfl (fun ls hl => ?_)
  refine lv_aload_n C.1 C.2.1 dX4_init_0 rfl (lv_at hl 0 rfl) ?_
  refine k_oinit C hl.1 ml_X4_3 im_objectInit cd_obj (Nat.le_of_ble_eq_true rfl) (Nat.le_of_ble_eq_true rfl) dX4_init_1 ?_
  refine lv_aload_n C.1 C.2.1 dX4_init_4 rfl (lv_at hl 0 rfl) ?_
  refine lv_bipush (v := 12) C.1 C.2.1 dX4_init_5 (by decide) ?_
  refine k_newq C Wd cl_X4_9 aks.2.1 12 (by decide) (by decide) (by decide) (cells' := 1) (slots' := 12) (Nat.le_of_ble_eq_true rfl) (Nat.le_of_ble_eq_true rfl) (by decide) (by decide) dX4_init_7 (fun q573 e574 H Wd => ?_)
  have Wd : wX D [(e574, .object RX9)] s [(h0, .inr (4, [.null, .null, .null, .int 0, .int 0, .null, .null, .null, .null, .null])), (q573, .inl (e574, 12, .inr (.inr (.inr (.inr (fun _ => none))))))] _ A s.heap _ := Wd
  refine k_putF C Wd KX4 0 5 [(h0, .inr (4, [.null, .null, .null, .int 0, .int 0, .ref q573, .null, .null, .null, .null])), (q573, .inl (e574, 12, .inr (.inr (.inr (.inr (fun _ => none))))))] rfl (by decide) fl_X4_11 rfl hin rfl rfl rfl (Nat.le_of_ble_eq_true rfl) rfl dX4_init_10 (fun H locs Wd => ?_)
  refine lv_iconst (v := 0) C.1 C.2.1 dX4_init_13 (by decide) ?_
  refine lv_istore_n (lv' := [(1, .int 0), (0, .ref h0)]) C.1 C.2.1 dX4_init_14 rfl hl (by decide) rfl (fun ls hl => ?_)
  refine lv_iload_n C.1 C.2.1 dX4_init_15 rfl (lv_at hl 0 rfl) ?_
  refine lv_bipush (v := 12) C.1 C.2.1 dX4_init_16 (by decide) ?_
  refine lv_icmp_ge (tgt := 40) C.1 C.2.1 dX4_init_18 (by decide) (fun c575 => absurd c575 (by decide)) (fun _ => ?_)
  refine lv_aload_n C.1 C.2.1 dX4_init_21 rfl (lv_at hl 1 rfl) ?_
  refine k_get C Wd KX4 0 5 rfl (by decide) fl_X4_11 rfl dX4_init_22 ?_
  refine lv_iload_n C.1 C.2.1 dX4_init_25 rfl (lv_at hl 0 rfl) ?_
  refine k_new C Wd KX9 cl_X4_9 is_X9 in_X9 [.null, .null, .int 0, .null, .null] (by decide +kernel) (cells' := 2) (slots' := 17) (Nat.le_of_ble_eq_true rfl) (Nat.le_of_ble_eq_true rfl) (by decide) (by decide) dX4_init_26 (fun q576 H Wd => ?_)
  have Wd : wX D [(e574, .object RX9)] s [(h0, .inr (4, [.null, .null, .null, .int 0, .int 0, .ref q573, .null, .null, .null, .null])), (q573, .inl (e574, 12, .inr (.inr (.inr (.inr (fun _ => none)))))), (q576, .inr (9, [.null, .null, .int 0, .null, .null]))] _ A s.heap _ := Wd
  refine lv_dup C.1 C.2.1 dX4_init_29 rfl ?_
  refine k_cv Wd [2] [0, 1] rfl (wr := [(h0, .inr (4, [.null, .null, .null, .int 0, .int 0, .ref q573, .null, .null, .null, .null])), (q573, .inl (e574, 12, .inr (.inr (.inr (.inr (fun _ => none))))))]) rfl (by decide) (by decide) (cells' := 8) (slots' := 107) (by decide) (by decide) (k_runI (rest := [.ref q576, .int 0, .ref q573]) C aks Wd cs_X4_17 (kcX9_init l D q576 _ ) [2] rfl (by decide) [] rfl rfl rfl ⟨(Nat.le_of_ble_eq_true rfl), (Nat.le_of_ble_eq_true rfl)⟩ hl.1 rfl rfl (Nat.le_of_ble_eq_true rfl) ⟨(Nat.le_of_ble_eq_true rfl), (Nat.le_of_ble_eq_true rfl)⟩ dX4_init_30) (fun u H locs w577 Wd => ?_)
  obtain ⟨q578, q579, q580, q581, q582, e583, q584⟩ := u
  have Wd : wX D [(e574, .object RX9), (e583, .int)] s [(h0, .inr (4, [.null, .null, .null, .int 0, .int 0, .ref q573, .null, .null, .null, .null])), (q573, .inl (e574, 12, .inr (.inr (.inr (.inr (fun _ => none)))))), (q576, .inr (9, [.ref q578, .ref q579, .int 0, .ref q580, .ref q581])), (q578, .inr (8, [.ref q582, .int 0])), (q582, .inl (e583, 40, .inl (fun _ => 0))), (q579, .inr (8, [.ref q584, .int 0]))] _ A s.heap _ := Wd
  refine k_astq C Wd 1 0 2 9 [(h0, .inr (4, [.null, .null, .null, .int 0, .int 0, .ref q573, .null, .null, .null, .null])), (q573, .inl (e574, 12, .inr (.inr (.inr (.inr (va_up (fun _ => none) 0 (some q576))))))), (q576, .inr (9, [.ref q578, .ref q579, .int 0, .ref q580, .ref q581])), (q578, .inr (8, [.ref q582, .int 0])), (q582, .inl (e583, 40, .inl (fun _ => 0))), (q579, .inr (8, [.ref q584, .int 0]))] rfl rfl rfl rfl (vp_in_iff.mpr (by decide)) rfl rfl dX4_init_33 (fun H locs Wd => ?_)
  refine lv_iinc (v := 1) (lv' := [(1, .int 1), (0, .ref h0)]) C.1 C.2.1 dX4_init_34 hl (k := 0) rfl (by decide) (by decide) rfl (fun ls hl => ?_)
  refine lv_goto (tgt := 15) C.1 C.2.1 dX4_init_37 (by decide) ?_
  refine lv_iload_n C.1 C.2.1 dX4_init_15 rfl (lv_at hl 0 rfl) ?_
  refine lv_bipush (v := 12) C.1 C.2.1 dX4_init_16 (by decide) ?_
  refine lv_icmp_ge (tgt := 40) C.1 C.2.1 dX4_init_18 (by decide) (fun c585 => absurd c585 (by decide)) (fun _ => ?_)
  refine lv_aload_n C.1 C.2.1 dX4_init_21 rfl (lv_at hl 1 rfl) ?_
  refine k_get C Wd KX4 0 5 rfl (by decide) fl_X4_11 rfl dX4_init_22 ?_
  refine lv_iload_n C.1 C.2.1 dX4_init_25 rfl (lv_at hl 0 rfl) ?_
  refine k_new C Wd KX9 cl_X4_9 is_X9 in_X9 [.null, .null, .int 0, .null, .null] (by decide +kernel) (cells' := 9) (slots' := 112) (Nat.le_of_ble_eq_true rfl) (Nat.le_of_ble_eq_true rfl) (by decide) (by decide) dX4_init_26 (fun q586 H Wd => ?_)
  have Wd : wX D [(e574, .object RX9), (e583, .int)] s [(h0, .inr (4, [.null, .null, .null, .int 0, .int 0, .ref q573, .null, .null, .null, .null])), (q573, .inl (e574, 12, .inr (.inr (.inr (.inr (va_up (fun _ => none) 0 (some q576))))))), (q576, .inr (9, [.ref q578, .ref q579, .int 0, .ref q580, .ref q581])), (q578, .inr (8, [.ref q582, .int 0])), (q582, .inl (e583, 40, .inl (fun _ => 0))), (q579, .inr (8, [.ref q584, .int 0])), (q586, .inr (9, [.null, .null, .int 0, .null, .null]))] _ A s.heap _ := Wd
  refine lv_dup C.1 C.2.1 dX4_init_29 rfl ?_
  refine k_cv Wd [6] [0, 1, 2, 3, 4, 5] rfl (wr := [(h0, .inr (4, [.null, .null, .null, .int 0, .int 0, .ref q573, .null, .null, .null, .null])), (q573, .inl (e574, 12, .inr (.inr (.inr (.inr (va_up (fun _ => none) 0 (some q576))))))), (q576, .inr (9, [.ref q578, .ref q579, .int 0, .ref q580, .ref q581])), (q578, .inr (8, [.ref q582, .int 0])), (q582, .inl (e583, 40, .inl (fun _ => 0))), (q579, .inr (8, [.ref q584, .int 0]))]) rfl (by decide) (by decide) (cells' := 15) (slots' := 202) (by decide) (by decide) (k_runI (rest := [.ref q586, .int 1, .ref q573]) C aks Wd cs_X4_17 (kcX9_init l D q586 _ ) [6] rfl (by decide) [] rfl rfl rfl ⟨(Nat.le_of_ble_eq_true rfl), (Nat.le_of_ble_eq_true rfl)⟩ hl.1 rfl rfl (Nat.le_of_ble_eq_true rfl) ⟨(Nat.le_of_ble_eq_true rfl), (Nat.le_of_ble_eq_true rfl)⟩ dX4_init_30) (fun u H locs w587 Wd => ?_)
  obtain ⟨q588, q589, q590, q591, q592, e593, q594⟩ := u
  have Wd : wX D [(e574, .object RX9), (e583, .int), (e593, .int)] s [(h0, .inr (4, [.null, .null, .null, .int 0, .int 0, .ref q573, .null, .null, .null, .null])), (q573, .inl (e574, 12, .inr (.inr (.inr (.inr (va_up (fun _ => none) 0 (some q576))))))), (q576, .inr (9, [.ref q578, .ref q579, .int 0, .ref q580, .ref q581])), (q578, .inr (8, [.ref q582, .int 0])), (q582, .inl (e583, 40, .inl (fun _ => 0))), (q579, .inr (8, [.ref q584, .int 0])), (q586, .inr (9, [.ref q588, .ref q589, .int 0, .ref q590, .ref q591])), (q588, .inr (8, [.ref q592, .int 0])), (q592, .inl (e593, 40, .inl (fun _ => 0))), (q589, .inr (8, [.ref q594, .int 0]))] _ A s.heap _ := Wd
  refine k_astq C Wd 1 0 6 9 [(h0, .inr (4, [.null, .null, .null, .int 0, .int 0, .ref q573, .null, .null, .null, .null])), (q573, .inl (e574, 12, .inr (.inr (.inr (.inr (va_up (va_up (fun _ => none) 0 (some q576)) 1 (some q586))))))), (q576, .inr (9, [.ref q578, .ref q579, .int 0, .ref q580, .ref q581])), (q578, .inr (8, [.ref q582, .int 0])), (q582, .inl (e583, 40, .inl (fun _ => 0))), (q579, .inr (8, [.ref q584, .int 0])), (q586, .inr (9, [.ref q588, .ref q589, .int 0, .ref q590, .ref q591])), (q588, .inr (8, [.ref q592, .int 0])), (q592, .inl (e593, 40, .inl (fun _ => 0))), (q589, .inr (8, [.ref q594, .int 0]))] rfl rfl rfl rfl (vp_in_iff.mpr (by decide)) rfl rfl dX4_init_33 (fun H locs Wd => ?_)
  refine lv_iinc (v := 2) (lv' := [(1, .int 2), (0, .ref h0)]) C.1 C.2.1 dX4_init_34 hl (k := 0) rfl (by decide) (by decide) rfl (fun ls hl => ?_)
  refine lv_goto (tgt := 15) C.1 C.2.1 dX4_init_37 (by decide) ?_
  refine lv_iload_n C.1 C.2.1 dX4_init_15 rfl (lv_at hl 0 rfl) ?_
  refine lv_bipush (v := 12) C.1 C.2.1 dX4_init_16 (by decide) ?_
  refine lv_icmp_ge (tgt := 40) C.1 C.2.1 dX4_init_18 (by decide) (fun c595 => absurd c595 (by decide)) (fun _ => ?_)
  refine lv_aload_n C.1 C.2.1 dX4_init_21 rfl (lv_at hl 1 rfl) ?_
  refine k_get C Wd KX4 0 5 rfl (by decide) fl_X4_11 rfl dX4_init_22 ?_
  refine lv_iload_n C.1 C.2.1 dX4_init_25 rfl (lv_at hl 0 rfl) ?_
  refine k_new C Wd KX9 cl_X4_9 is_X9 in_X9 [.null, .null, .int 0, .null, .null] (by decide +kernel) (cells' := 16) (slots' := 207) (Nat.le_of_ble_eq_true rfl) (Nat.le_of_ble_eq_true rfl) (by decide) (by decide) dX4_init_26 (fun q596 H Wd => ?_)
  have Wd : wX D [(e574, .object RX9), (e583, .int), (e593, .int)] s [(h0, .inr (4, [.null, .null, .null, .int 0, .int 0, .ref q573, .null, .null, .null, .null])), (q573, .inl (e574, 12, .inr (.inr (.inr (.inr (va_up (va_up (fun _ => none) 0 (some q576)) 1 (some q586))))))), (q576, .inr (9, [.ref q578, .ref q579, .int 0, .ref q580, .ref q581])), (q578, .inr (8, [.ref q582, .int 0])), (q582, .inl (e583, 40, .inl (fun _ => 0))), (q579, .inr (8, [.ref q584, .int 0])), (q586, .inr (9, [.ref q588, .ref q589, .int 0, .ref q590, .ref q591])), (q588, .inr (8, [.ref q592, .int 0])), (q592, .inl (e593, 40, .inl (fun _ => 0))), (q589, .inr (8, [.ref q594, .int 0])), (q596, .inr (9, [.null, .null, .int 0, .null, .null]))] _ A s.heap _ := Wd
  refine lv_dup C.1 C.2.1 dX4_init_29 rfl ?_
  refine k_cv Wd [10] [0, 1, 2, 3, 4, 5, 6, 7, 8, 9] rfl (wr := [(h0, .inr (4, [.null, .null, .null, .int 0, .int 0, .ref q573, .null, .null, .null, .null])), (q573, .inl (e574, 12, .inr (.inr (.inr (.inr (va_up (va_up (fun _ => none) 0 (some q576)) 1 (some q586))))))), (q576, .inr (9, [.ref q578, .ref q579, .int 0, .ref q580, .ref q581])), (q578, .inr (8, [.ref q582, .int 0])), (q582, .inl (e583, 40, .inl (fun _ => 0))), (q579, .inr (8, [.ref q584, .int 0])), (q586, .inr (9, [.ref q588, .ref q589, .int 0, .ref q590, .ref q591])), (q588, .inr (8, [.ref q592, .int 0])), (q592, .inl (e593, 40, .inl (fun _ => 0))), (q589, .inr (8, [.ref q594, .int 0]))]) rfl (by decide) (by decide) (cells' := 22) (slots' := 297) (by decide) (by decide) (k_runI (rest := [.ref q596, .int 2, .ref q573]) C aks Wd cs_X4_17 (kcX9_init l D q596 _ ) [10] rfl (by decide) [] rfl rfl rfl ⟨(Nat.le_of_ble_eq_true rfl), (Nat.le_of_ble_eq_true rfl)⟩ hl.1 rfl rfl (Nat.le_of_ble_eq_true rfl) ⟨(Nat.le_of_ble_eq_true rfl), (Nat.le_of_ble_eq_true rfl)⟩ dX4_init_30) (fun u H locs w597 Wd => ?_)
  obtain ⟨q598, q599, q600, q601, q602, e603, q604⟩ := u
  have Wd : wX D [(e574, .object RX9), (e583, .int), (e593, .int), (e603, .int)] s [(h0, .inr (4, [.null, .null, .null, .int 0, .int 0, .ref q573, .null, .null, .null, .null])), (q573, .inl (e574, 12, .inr (.inr (.inr (.inr (va_up (va_up (fun _ => none) 0 (some q576)) 1 (some q586))))))), (q576, .inr (9, [.ref q578, .ref q579, .int 0, .ref q580, .ref q581])), (q578, .inr (8, [.ref q582, .int 0])), (q582, .inl (e583, 40, .inl (fun _ => 0))), (q579, .inr (8, [.ref q584, .int 0])), (q586, .inr (9, [.ref q588, .ref q589, .int 0, .ref q590, .ref q591])), (q588, .inr (8, [.ref q592, .int 0])), (q592, .inl (e593, 40, .inl (fun _ => 0))), (q589, .inr (8, [.ref q594, .int 0])), (q596, .inr (9, [.ref q598, .ref q599, .int 0, .ref q600, .ref q601])), (q598, .inr (8, [.ref q602, .int 0])), (q602, .inl (e603, 40, .inl (fun _ => 0))), (q599, .inr (8, [.ref q604, .int 0]))] _ A s.heap _ := Wd
  refine k_astq C Wd 1 0 10 9 [(h0, .inr (4, [.null, .null, .null, .int 0, .int 0, .ref q573, .null, .null, .null, .null])), (q573, .inl (e574, 12, .inr (.inr (.inr (.inr (va_up (va_up (va_up (fun _ => none) 0 (some q576)) 1 (some q586)) 2 (some q596))))))), (q576, .inr (9, [.ref q578, .ref q579, .int 0, .ref q580, .ref q581])), (q578, .inr (8, [.ref q582, .int 0])), (q582, .inl (e583, 40, .inl (fun _ => 0))), (q579, .inr (8, [.ref q584, .int 0])), (q586, .inr (9, [.ref q588, .ref q589, .int 0, .ref q590, .ref q591])), (q588, .inr (8, [.ref q592, .int 0])), (q592, .inl (e593, 40, .inl (fun _ => 0))), (q589, .inr (8, [.ref q594, .int 0])), (q596, .inr (9, [.ref q598, .ref q599, .int 0, .ref q600, .ref q601])), (q598, .inr (8, [.ref q602, .int 0])), (q602, .inl (e603, 40, .inl (fun _ => 0))), (q599, .inr (8, [.ref q604, .int 0]))] rfl rfl rfl rfl (vp_in_iff.mpr (by decide)) rfl rfl dX4_init_33 (fun H locs Wd => ?_)
  refine lv_iinc (v := 3) (lv' := [(1, .int 3), (0, .ref h0)]) C.1 C.2.1 dX4_init_34 hl (k := 0) rfl (by decide) (by decide) rfl (fun ls hl => ?_)
  refine lv_goto (tgt := 15) C.1 C.2.1 dX4_init_37 (by decide) ?_
  refine lv_iload_n C.1 C.2.1 dX4_init_15 rfl (lv_at hl 0 rfl) ?_
  refine lv_bipush (v := 12) C.1 C.2.1 dX4_init_16 (by decide) ?_
  refine lv_icmp_ge (tgt := 40) C.1 C.2.1 dX4_init_18 (by decide) (fun c605 => absurd c605 (by decide)) (fun _ => ?_)
  refine lv_aload_n C.1 C.2.1 dX4_init_21 rfl (lv_at hl 1 rfl) ?_
  refine k_get C Wd KX4 0 5 rfl (by decide) fl_X4_11 rfl dX4_init_22 ?_
  refine lv_iload_n C.1 C.2.1 dX4_init_25 rfl (lv_at hl 0 rfl) ?_
  refine k_new C Wd KX9 cl_X4_9 is_X9 in_X9 [.null, .null, .int 0, .null, .null] (by decide +kernel) (cells' := 23) (slots' := 302) (Nat.le_of_ble_eq_true rfl) (Nat.le_of_ble_eq_true rfl) (by decide) (by decide) dX4_init_26 (fun q606 H Wd => ?_)
  have Wd : wX D [(e574, .object RX9), (e583, .int), (e593, .int), (e603, .int)] s [(h0, .inr (4, [.null, .null, .null, .int 0, .int 0, .ref q573, .null, .null, .null, .null])), (q573, .inl (e574, 12, .inr (.inr (.inr (.inr (va_up (va_up (va_up (fun _ => none) 0 (some q576)) 1 (some q586)) 2 (some q596))))))), (q576, .inr (9, [.ref q578, .ref q579, .int 0, .ref q580, .ref q581])), (q578, .inr (8, [.ref q582, .int 0])), (q582, .inl (e583, 40, .inl (fun _ => 0))), (q579, .inr (8, [.ref q584, .int 0])), (q586, .inr (9, [.ref q588, .ref q589, .int 0, .ref q590, .ref q591])), (q588, .inr (8, [.ref q592, .int 0])), (q592, .inl (e593, 40, .inl (fun _ => 0))), (q589, .inr (8, [.ref q594, .int 0])), (q596, .inr (9, [.ref q598, .ref q599, .int 0, .ref q600, .ref q601])), (q598, .inr (8, [.ref q602, .int 0])), (q602, .inl (e603, 40, .inl (fun _ => 0))), (q599, .inr (8, [.ref q604, .int 0])), (q606, .inr (9, [.null, .null, .int 0, .null, .null]))] _ A s.heap _ := Wd
  refine lv_dup C.1 C.2.1 dX4_init_29 rfl ?_
  refine k_cv Wd [14] [0, 1, 2, 3, 4, 5, 6, 7, 8, 9, 10, 11, 12, 13] rfl (wr := [(h0, .inr (4, [.null, .null, .null, .int 0, .int 0, .ref q573, .null, .null, .null, .null])), (q573, .inl (e574, 12, .inr (.inr (.inr (.inr (va_up (va_up (va_up (fun _ => none) 0 (some q576)) 1 (some q586)) 2 (some q596))))))), (q576, .inr (9, [.ref q578, .ref q579, .int 0, .ref q580, .ref q581])), (q578, .inr (8, [.ref q582, .int 0])), (q582, .inl (e583, 40, .inl (fun _ => 0))), (q579, .inr (8, [.ref q584, .int 0])), (q586, .inr (9, [.ref q588, .ref q589, .int 0, .ref q590, .ref q591])), (q588, .inr (8, [.ref q592, .int 0])), (q592, .inl (e593, 40, .inl (fun _ => 0))), (q589, .inr (8, [.ref q594, .int 0])), (q596, .inr (9, [.ref q598, .ref q599, .int 0, .ref q600, .ref q601])), (q598, .inr (8, [.ref q602, .int 0])), (q602, .inl (e603, 40, .inl (fun _ => 0))), (q599, .inr (8, [.ref q604, .int 0]))]) rfl (by decide) (by decide) (cells' := 29) (slots' := 392) (by decide) (by decide) (k_runI (rest := [.ref q606, .int 3, .ref q573]) C aks Wd cs_X4_17 (kcX9_init l D q606 _ ) [14] rfl (by decide) [] rfl rfl rfl ⟨(Nat.le_of_ble_eq_true rfl), (Nat.le_of_ble_eq_true rfl)⟩ hl.1 rfl rfl (Nat.le_of_ble_eq_true rfl) ⟨(Nat.le_of_ble_eq_true rfl), (Nat.le_of_ble_eq_true rfl)⟩ dX4_init_30) (fun u H locs w607 Wd => ?_)
  obtain ⟨q608, q609, q610, q611, q612, e613, q614⟩ := u
  have Wd : wX D [(e574, .object RX9), (e583, .int), (e593, .int), (e603, .int), (e613, .int)] s [(h0, .inr (4, [.null, .null, .null, .int 0, .int 0, .ref q573, .null, .null, .null, .null])), (q573, .inl (e574, 12, .inr (.inr (.inr (.inr (va_up (va_up (va_up (fun _ => none) 0 (some q576)) 1 (some q586)) 2 (some q596))))))), (q576, .inr (9, [.ref q578, .ref q579, .int 0, .ref q580, .ref q581])), (q578, .inr (8, [.ref q582, .int 0])), (q582, .inl (e583, 40, .inl (fun _ => 0))), (q579, .inr (8, [.ref q584, .int 0])), (q586, .inr (9, [.ref q588, .ref q589, .int 0, .ref q590, .ref q591])), (q588, .inr (8, [.ref q592, .int 0])), (q592, .inl (e593, 40, .inl (fun _ => 0))), (q589, .inr (8, [.ref q594, .int 0])), (q596, .inr (9, [.ref q598, .ref q599, .int 0, .ref q600, .ref q601])), (q598, .inr (8, [.ref q602, .int 0])), (q602, .inl (e603, 40, .inl (fun _ => 0))), (q599, .inr (8, [.ref q604, .int 0])), (q606, .inr (9, [.ref q608, .ref q609, .int 0, .ref q610, .ref q611])), (q608, .inr (8, [.ref q612, .int 0])), (q612, .inl (e613, 40, .inl (fun _ => 0))), (q609, .inr (8, [.ref q614, .int 0]))] _ A s.heap _ := Wd
  refine k_astq C Wd 1 0 14 9 [(h0, .inr (4, [.null, .null, .null, .int 0, .int 0, .ref q573, .null, .null, .null, .null])), (q573, .inl (e574, 12, .inr (.inr (.inr (.inr (va_up (va_up (va_up (va_up (fun _ => none) 0 (some q576)) 1 (some q586)) 2 (some q596)) 3 (some q606))))))), (q576, .inr (9, [.ref q578, .ref q579, .int 0, .ref q580, .ref q581])), (q578, .inr (8, [.ref q582, .int 0])), (q582, .inl (e583, 40, .inl (fun _ => 0))), (q579, .inr (8, [.ref q584, .int 0])), (q586, .inr (9, [.ref q588, .ref q589, .int 0, .ref q590, .ref q591])), (q588, .inr (8, [.ref q592, .int 0])), (q592, .inl (e593, 40, .inl (fun _ => 0))), (q589, .inr (8, [.ref q594, .int 0])), (q596, .inr (9, [.ref q598, .ref q599, .int 0, .ref q600, .ref q601])), (q598, .inr (8, [.ref q602, .int 0])), (q602, .inl (e603, 40, .inl (fun _ => 0))), (q599, .inr (8, [.ref q604, .int 0])), (q606, .inr (9, [.ref q608, .ref q609, .int 0, .ref q610, .ref q611])), (q608, .inr (8, [.ref q612, .int 0])), (q612, .inl (e613, 40, .inl (fun _ => 0))), (q609, .inr (8, [.ref q614, .int 0]))] rfl rfl rfl rfl (vp_in_iff.mpr (by decide)) rfl rfl dX4_init_33 (fun H locs Wd => ?_)
  refine lv_iinc (v := 4) (lv' := [(1, .int 4), (0, .ref h0)]) C.1 C.2.1 dX4_init_34 hl (k := 0) rfl (by decide) (by decide) rfl (fun ls hl => ?_)
  refine lv_goto (tgt := 15) C.1 C.2.1 dX4_init_37 (by decide) ?_
  refine lv_iload_n C.1 C.2.1 dX4_init_15 rfl (lv_at hl 0 rfl) ?_
  refine lv_bipush (v := 12) C.1 C.2.1 dX4_init_16 (by decide) ?_
  refine lv_icmp_ge (tgt := 40) C.1 C.2.1 dX4_init_18 (by decide) (fun c615 => absurd c615 (by decide)) (fun _ => ?_)
  refine lv_aload_n C.1 C.2.1 dX4_init_21 rfl (lv_at hl 1 rfl) ?_
  refine k_get C Wd KX4 0 5 rfl (by decide) fl_X4_11 rfl dX4_init_22 ?_
  refine lv_iload_n C.1 C.2.1 dX4_init_25 rfl (lv_at hl 0 rfl) ?_
  refine k_new C Wd KX9 cl_X4_9 is_X9 in_X9 [.null, .null, .int 0, .null, .null] (by decide +kernel) (cells' := 30) (slots' := 397) (Nat.le_of_ble_eq_true rfl) (Nat.le_of_ble_eq_true rfl) (by decide) (by decide) dX4_init_26 (fun q616 H Wd => ?_)
  have Wd : wX D [(e574, .object RX9), (e583, .int), (e593, .int), (e603, .int), (e613, .int)] s [(h0, .inr (4, [.null, .null, .null, .int 0, .int 0, .ref q573, .null, .null, .null, .null])), (q573, .inl (e574, 12, .inr (.inr (.inr (.inr (va_up (va_up (va_up (va_up (fun _ => none) 0 (some q576)) 1 (some q586)) 2 (some q596)) 3 (some q606))))))), (q576, .inr (9, [.ref q578, .ref q579, .int 0, .ref q580, .ref q581])), (q578, .inr (8, [.ref q582, .int 0])), (q582, .inl (e583, 40, .inl (fun _ => 0))), (q579, .inr (8, [.ref q584, .int 0])), (q586, .inr (9, [.ref q588, .ref q589, .int 0, .ref q590, .ref q591])), (q588, .inr (8, [.ref q592, .int 0])), (q592, .inl (e593, 40, .inl (fun _ => 0))), (q589, .inr (8, [.ref q594, .int 0])), (q596, .inr (9, [.ref q598, .ref q599, .int 0, .ref q600, .ref q601])), (q598, .inr (8, [.ref q602, .int 0])), (q602, .inl (e603, 40, .inl (fun _ => 0))), (q599, .inr (8, [.ref q604, .int 0])), (q606, .inr (9, [.ref q608, .ref q609, .int 0, .ref q610, .ref q611])), (q608, .inr (8, [.ref q612, .int 0])), (q612, .inl (e613, 40, .inl (fun _ => 0))), (q609, .inr (8, [.ref q614, .int 0])), (q616, .inr (9, [.null, .null, .int 0, .null, .null]))] _ A s.heap _ := Wd
  refine lv_dup C.1 C.2.1 dX4_init_29 rfl ?_
  refine k_cv Wd [18] [0, 1, 2, 3, 4, 5, 6, 7, 8, 9, 10, 11, 12, 13, 14, 15, 16, 17] rfl (wr := [(h0, .inr (4, [.null, .null, .null, .int 0, .int 0, .ref q573, .null, .null, .null, .null])), (q573, .inl (e574, 12, .inr (.inr (.inr (.inr (va_up (va_up (va_up (va_up (fun _ => none) 0 (some q576)) 1 (some q586)) 2 (some q596)) 3 (some q606))))))), (q576, .inr (9, [.ref q578, .ref q579, .int 0, .ref q580, .ref q581])), (q578, .inr (8, [.ref q582, .int 0])), (q582, .inl (e583, 40, .inl (fun _ => 0))), (q579, .inr (8, [.ref q584, .int 0])), (q586, .inr (9, [.ref q588, .ref q589, .int 0, .ref q590, .ref q591])), (q588, .inr (8, [.ref q592, .int 0])), (q592, .inl (e593, 40, .inl (fun _ => 0))), (q589, .inr (8, [.ref q594, .int 0])), (q596, .inr (9, [.ref q598, .ref q599, .int 0, .ref q600, .ref q601])), (q598, .inr (8, [.ref q602, .int 0])), (q602, .inl (e603, 40, .inl (fun _ => 0))), (q599, .inr (8, [.ref q604, .int 0])), (q606, .inr (9, [.ref q608, .ref q609, .int 0, .ref q610, .ref q611])), (q608, .inr (8, [.ref q612, .int 0])), (q612, .inl (e613, 40, .inl (fun _ => 0))), (q609, .inr (8, [.ref q614, .int 0]))]) rfl (by decide) (by decide) (cells' := 36) (slots' := 487) (by decide) (by decide) (k_runI (rest := [.ref q616, .int 4, .ref q573]) C aks Wd cs_X4_17 (kcX9_init l D q616 _ ) [18] rfl (by decide) [] rfl rfl rfl ⟨(Nat.le_of_ble_eq_true rfl), (Nat.le_of_ble_eq_true rfl)⟩ hl.1 rfl rfl (Nat.le_of_ble_eq_true rfl) ⟨(Nat.le_of_ble_eq_true rfl), (Nat.le_of_ble_eq_true rfl)⟩ dX4_init_30) (fun u H locs w617 Wd => ?_)
  obtain ⟨q618, q619, q620, q621, q622, e623, q624⟩ := u
  have Wd : wX D [(e574, .object RX9), (e583, .int), (e593, .int), (e603, .int), (e613, .int), (e623, .int)] s [(h0, .inr (4, [.null, .null, .null, .int 0, .int 0, .ref q573, .null, .null, .null, .null])), (q573, .inl (e574, 12, .inr (.inr (.inr (.inr (va_up (va_up (va_up (va_up (fun _ => none) 0 (some q576)) 1 (some q586)) 2 (some q596)) 3 (some q606))))))), (q576, .inr (9, [.ref q578, .ref q579, .int 0, .ref q580, .ref q581])), (q578, .inr (8, [.ref q582, .int 0])), (q582, .inl (e583, 40, .inl (fun _ => 0))), (q579, .inr (8, [.ref q584, .int 0])), (q586, .inr (9, [.ref q588, .ref q589, .int 0, .ref q590, .ref q591])), (q588, .inr (8, [.ref q592, .int 0])), (q592, .inl (e593, 40, .inl (fun _ => 0))), (q589, .inr (8, [.ref q594, .int 0])), (q596, .inr (9, [.ref q598, .ref q599, .int 0, .ref q600, .ref q601])), (q598, .inr (8, [.ref q602, .int 0])), (q602, .inl (e603, 40, .inl (fun _ => 0))), (q599, .inr (8, [.ref q604, .int 0])), (q606, .inr (9, [.ref q608, .ref q609, .int 0, .ref q610, .ref q611])), (q608, .inr (8, [.ref q612, .int 0])), (q612, .inl (e613, 40, .inl (fun _ => 0))), (q609, .inr (8, [.ref q614, .int 0])), (q616, .inr (9, [.ref q618, .ref q619, .int 0, .ref q620, .ref q621])), (q618, .inr (8, [.ref q622, .int 0])), (q622, .inl (e623, 40, .inl (fun _ => 0))), (q619, .inr (8, [.ref q624, .int 0]))] _ A s.heap _ := Wd
  refine k_astq C Wd 1 0 18 9 [(h0, .inr (4, [.null, .null, .null, .int 0, .int 0, .ref q573, .null, .null, .null, .null])), (q573, .inl (e574, 12, .inr (.inr (.inr (.inr (va_up (va_up (va_up (va_up (va_up (fun _ => none) 0 (some q576)) 1 (some q586)) 2 (some q596)) 3 (some q606)) 4 (some q616))))))), (q576, .inr (9, [.ref q578, .ref q579, .int 0, .ref q580, .ref q581])), (q578, .inr (8, [.ref q582, .int 0])), (q582, .inl (e583, 40, .inl (fun _ => 0))), (q579, .inr (8, [.ref q584, .int 0])), (q586, .inr (9, [.ref q588, .ref q589, .int 0, .ref q590, .ref q591])), (q588, .inr (8, [.ref q592, .int 0])), (q592, .inl (e593, 40, .inl (fun _ => 0))), (q589, .inr (8, [.ref q594, .int 0])), (q596, .inr (9, [.ref q598, .ref q599, .int 0, .ref q600, .ref q601])), (q598, .inr (8, [.ref q602, .int 0])), (q602, .inl (e603, 40, .inl (fun _ => 0))), (q599, .inr (8, [.ref q604, .int 0])), (q606, .inr (9, [.ref q608, .ref q609, .int 0, .ref q610, .ref q611])), (q608, .inr (8, [.ref q612, .int 0])), (q612, .inl (e613, 40, .inl (fun _ => 0))), (q609, .inr (8, [.ref q614, .int 0])), (q616, .inr (9, [.ref q618, .ref q619, .int 0, .ref q620, .ref q621])), (q618, .inr (8, [.ref q622, .int 0])), (q622, .inl (e623, 40, .inl (fun _ => 0))), (q619, .inr (8, [.ref q624, .int 0]))] rfl rfl rfl rfl (vp_in_iff.mpr (by decide)) rfl rfl dX4_init_33 (fun H locs Wd => ?_)
  refine lv_iinc (v := 5) (lv' := [(1, .int 5), (0, .ref h0)]) C.1 C.2.1 dX4_init_34 hl (k := 0) rfl (by decide) (by decide) rfl (fun ls hl => ?_)
  refine lv_goto (tgt := 15) C.1 C.2.1 dX4_init_37 (by decide) ?_
  refine lv_iload_n C.1 C.2.1 dX4_init_15 rfl (lv_at hl 0 rfl) ?_
  refine lv_bipush (v := 12) C.1 C.2.1 dX4_init_16 (by decide) ?_
  refine lv_icmp_ge (tgt := 40) C.1 C.2.1 dX4_init_18 (by decide) (fun c625 => absurd c625 (by decide)) (fun _ => ?_)
  refine lv_aload_n C.1 C.2.1 dX4_init_21 rfl (lv_at hl 1 rfl) ?_
  refine k_get C Wd KX4 0 5 rfl (by decide) fl_X4_11 rfl dX4_init_22 ?_
  refine lv_iload_n C.1 C.2.1 dX4_init_25 rfl (lv_at hl 0 rfl) ?_
  refine k_new C Wd KX9 cl_X4_9 is_X9 in_X9 [.null, .null, .int 0, .null, .null] (by decide +kernel) (cells' := 37) (slots' := 492) (Nat.le_of_ble_eq_true rfl) (Nat.le_of_ble_eq_true rfl) (by decide) (by decide) dX4_init_26 (fun q626 H Wd => ?_)
  have Wd : wX D [(e574, .object RX9), (e583, .int), (e593, .int), (e603, .int), (e613, .int), (e623, .int)] s [(h0, .inr (4, [.null, .null, .null, .int 0, .int 0, .ref q573, .null, .null, .null, .null])), (q573, .inl (e574, 12, .inr (.inr (.inr (.inr (va_up (va_up (va_up (va_up (va_up (fun _ => none) 0 (some q576)) 1 (some q586)) 2 (some q596)) 3 (some q606)) 4 (some q616))))))), (q576, .inr (9, [.ref q578, .ref q579, .int 0, .ref q580, .ref q581])), (q578, .inr (8, [.ref q582, .int 0])), (q582, .inl (e583, 40, .inl (fun _ => 0))), (q579, .inr (8, [.ref q584, .int 0])), (q586, .inr (9, [.ref q588, .ref q589, .int 0, .ref q590, .ref q591])), (q588, .inr (8, [.ref q592, .int 0])), (q592, .inl (e593, 40, .inl (fun _ => 0))), (q589, .inr (8, [.ref q594, .int 0])), (q596, .inr (9, [.ref q598, .ref q599, .int 0, .ref q600, .ref q601])), (q598, .inr (8, [.ref q602, .int 0])), (q602, .inl (e603, 40, .inl (fun _ => 0))), (q599, .inr (8, [.ref q604, .int 0])), (q606, .inr (9, [.ref q608, .ref q609, .int 0, .ref q610, .ref q611])), (q608, .inr (8, [.ref q612, .int 0])), (q612, .inl (e613, 40, .inl (fun _ => 0))), (q609, .inr (8, [.ref q614, .int 0])), (q616, .inr (9, [.ref q618, .ref q619, .int 0, .ref q620, .ref q621])), (q618, .inr (8, [.ref q622, .int 0])), (q622, .inl (e623, 40, .inl (fun _ => 0))), (q619, .inr (8, [.ref q624, .int 0])), (q626, .inr (9, [.null, .null, .int 0, .null, .null]))] _ A s.heap _ := Wd
  refine lv_dup C.1 C.2.1 dX4_init_29 rfl ?_
  refine k_cv Wd [22] [0, 1, 2, 3, 4, 5, 6, 7, 8, 9, 10, 11, 12, 13, 14, 15, 16, 17, 18, 19, 20, 21] rfl (wr := [(h0, .inr (4, [.null, .null, .null, .int 0, .int 0, .ref q573, .null, .null, .null, .null])), (q573, .inl (e574, 12, .inr (.inr (.inr (.inr (va_up (va_up (va_up (va_up (va_up (fun _ => none) 0 (some q576)) 1 (some q586)) 2 (some q596)) 3 (some q606)) 4 (some q616))))))), (q576, .inr (9, [.ref q578, .ref q579, .int 0, .ref q580, .ref q581])), (q578, .inr (8, [.ref q582, .int 0])), (q582, .inl (e583, 40, .inl (fun _ => 0))), (q579, .inr (8, [.ref q584, .int 0])), (q586, .inr (9, [.ref q588, .ref q589, .int 0, .ref q590, .ref q591])), (q588, .inr (8, [.ref q592, .int 0])), (q592, .inl (e593, 40, .inl (fun _ => 0))), (q589, .inr (8, [.ref q594, .int 0])), (q596, .inr (9, [.ref q598, .ref q599, .int 0, .ref q600, .ref q601])), (q598, .inr (8, [.ref q602, .int 0])), (q602, .inl (e603, 40, .inl (fun _ => 0))), (q599, .inr (8, [.ref q604, .int 0])), (q606, .inr (9, [.ref q608, .ref q609, .int 0, .ref q610, .ref q611])), (q608, .inr (8, [.ref q612, .int 0])), (q612, .inl (e613, 40, .inl (fun _ => 0))), (q609, .inr (8, [.ref q614, .int 0])), (q616, .inr (9, [.ref q618, .ref q619, .int 0, .ref q620, .ref q621])), (q618, .inr (8, [.ref q622, .int 0])), (q622, .inl (e623, 40, .inl (fun _ => 0))), (q619, .inr (8, [.ref q624, .int 0]))]) rfl (by decide) (by decide) (cells' := 43) (slots' := 582) (by decide) (by decide) (k_runI (rest := [.ref q626, .int 5, .ref q573]) C aks Wd cs_X4_17 (kcX9_init l D q626 _ ) [22] rfl (by decide) [] rfl rfl rfl ⟨(Nat.le_of_ble_eq_true rfl), (Nat.le_of_ble_eq_true rfl)⟩ hl.1 rfl rfl (Nat.le_of_ble_eq_true rfl) ⟨(Nat.le_of_ble_eq_true rfl), (Nat.le_of_ble_eq_true rfl)⟩ dX4_init_30) (fun u H locs w627 Wd => ?_)
  obtain ⟨q628, q629, q630, q631, q632, e633, q634⟩ := u
  have Wd : wX D [(e574, .object RX9), (e583, .int), (e593, .int), (e603, .int), (e613, .int), (e623, .int), (e633, .int)] s [(h0, .inr (4, [.null, .null, .null, .int 0, .int 0, .ref q573, .null, .null, .null, .null])), (q573, .inl (e574, 12, .inr (.inr (.inr (.inr (va_up (va_up (va_up (va_up (va_up (fun _ => none) 0 (some q576)) 1 (some q586)) 2 (some q596)) 3 (some q606)) 4 (some q616))))))), (q576, .inr (9, [.ref q578, .ref q579, .int 0, .ref q580, .ref q581])), (q578, .inr (8, [.ref q582, .int 0])), (q582, .inl (e583, 40, .inl (fun _ => 0))), (q579, .inr (8, [.ref q584, .int 0])), (q586, .inr (9, [.ref q588, .ref q589, .int 0, .ref q590, .ref q591])), (q588, .inr (8, [.ref q592, .int 0])), (q592, .inl (e593, 40, .inl (fun _ => 0))), (q589, .inr (8, [.ref q594, .int 0])), (q596, .inr (9, [.ref q598, .ref q599, .int 0, .ref q600, .ref q601])), (q598, .inr (8, [.ref q602, .int 0])), (q602, .inl (e603, 40, .inl (fun _ => 0))), (q599, .inr (8, [.ref q604, .int 0])), (q606, .inr (9, [.ref q608, .ref q609, .int 0, .ref q610, .ref q611])), (q608, .inr (8, [.ref q612, .int 0])), (q612, .inl (e613, 40, .inl (fun _ => 0))), (q609, .inr (8, [.ref q614, .int 0])), (q616, .inr (9, [.ref q618, .ref q619, .int 0, .ref q620, .ref q621])), (q618, .inr (8, [.ref q622, .int 0])), (q622, .inl (e623, 40, .inl (fun _ => 0))), (q619, .inr (8, [.ref q624, .int 0])), (q626, .inr (9, [.ref q628, .ref q629, .int 0, .ref q630, .ref q631])), (q628, .inr (8, [.ref q632, .int 0])), (q632, .inl (e633, 40, .inl (fun _ => 0))), (q629, .inr (8, [.ref q634, .int 0]))] _ A s.heap _ := Wd
  refine k_astq C Wd 1 0 22 9 [(h0, .inr (4, [.null, .null, .null, .int 0, .int 0, .ref q573, .null, .null, .null, .null])), (q573, .inl (e574, 12, .inr (.inr (.inr (.inr (va_up (va_up (va_up (va_up (va_up (va_up (fun _ => none) 0 (some q576)) 1 (some q586)) 2 (some q596)) 3 (some q606)) 4 (some q616)) 5 (some q626))))))), (q576, .inr (9, [.ref q578, .ref q579, .int 0, .ref q580, .ref q581])), (q578, .inr (8, [.ref q582, .int 0])), (q582, .inl (e583, 40, .inl (fun _ => 0))), (q579, .inr (8, [.ref q584, .int 0])), (q586, .inr (9, [.ref q588, .ref q589, .int 0, .ref q590, .ref q591])), (q588, .inr (8, [.ref q592, .int 0])), (q592, .inl (e593, 40, .inl (fun _ => 0))), (q589, .inr (8, [.ref q594, .int 0])), (q596, .inr (9, [.ref q598, .ref q599, .int 0, .ref q600, .ref q601])), (q598, .inr (8, [.ref q602, .int 0])), (q602, .inl (e603, 40, .inl (fun _ => 0))), (q599, .inr (8, [.ref q604, .int 0])), (q606, .inr (9, [.ref q608, .ref q609, .int 0, .ref q610, .ref q611])), (q608, .inr (8, [.ref q612, .int 0])), (q612, .inl (e613, 40, .inl (fun _ => 0))), (q609, .inr (8, [.ref q614, .int 0])), (q616, .inr (9, [.ref q618, .ref q619, .int 0, .ref q620, .ref q621])), (q618, .inr (8, [.ref q622, .int 0])), (q622, .inl (e623, 40, .inl (fun _ => 0))), (q619, .inr (8, [.ref q624, .int 0])), (q626, .inr (9, [.ref q628, .ref q629, .int 0, .ref q630, .ref q631])), (q628, .inr (8, [.ref q632, .int 0])), (q632, .inl (e633, 40, .inl (fun _ => 0))), (q629, .inr (8, [.ref q634, .int 0]))] rfl rfl rfl rfl (vp_in_iff.mpr (by decide)) rfl rfl dX4_init_33 (fun H locs Wd => ?_)
  refine lv_iinc (v := 6) (lv' := [(1, .int 6), (0, .ref h0)]) C.1 C.2.1 dX4_init_34 hl (k := 0) rfl (by decide) (by decide) rfl (fun ls hl => ?_)
  refine lv_goto (tgt := 15) C.1 C.2.1 dX4_init_37 (by decide) ?_
  refine lv_iload_n C.1 C.2.1 dX4_init_15 rfl (lv_at hl 0 rfl) ?_
  refine lv_bipush (v := 12) C.1 C.2.1 dX4_init_16 (by decide) ?_
  refine lv_icmp_ge (tgt := 40) C.1 C.2.1 dX4_init_18 (by decide) (fun c635 => absurd c635 (by decide)) (fun _ => ?_)
  refine lv_aload_n C.1 C.2.1 dX4_init_21 rfl (lv_at hl 1 rfl) ?_
  refine k_get C Wd KX4 0 5 rfl (by decide) fl_X4_11 rfl dX4_init_22 ?_
  refine lv_iload_n C.1 C.2.1 dX4_init_25 rfl (lv_at hl 0 rfl) ?_
  refine k_new C Wd KX9 cl_X4_9 is_X9 in_X9 [.null, .null, .int 0, .null, .null] (by decide +kernel) (cells' := 44) (slots' := 587) (Nat.le_of_ble_eq_true rfl) (Nat.le_of_ble_eq_true rfl) (by decide) (by decide) dX4_init_26 (fun q636 H Wd => ?_)
  have Wd : wX D [(e574, .object RX9), (e583, .int), (e593, .int), (e603, .int), (e613, .int), (e623, .int), (e633, .int)] s [(h0, .inr (4, [.null, .null, .null, .int 0, .int 0, .ref q573, .null, .null, .null, .null])), (q573, .inl (e574, 12, .inr (.inr (.inr (.inr (va_up (va_up (va_up (va_up (va_up (va_up (fun _ => none) 0 (some q576)) 1 (some q586)) 2 (some q596)) 3 (some q606)) 4 (some q616)) 5 (some q626))))))), (q576, .inr (9, [.ref q578, .ref q579, .int 0, .ref q580, .ref q581])), (q578, .inr (8, [.ref q582, .int 0])), (q582, .inl (e583, 40, .inl (fun _ => 0))), (q579, .inr (8, [.ref q584, .int 0])), (q586, .inr (9, [.ref q588, .ref q589, .int 0, .ref q590, .ref q591])), (q588, .inr (8, [.ref q592, .int 0])), (q592, .inl (e593, 40, .inl (fun _ => 0))), (q589, .inr (8, [.ref q594, .int 0])), (q596, .inr (9, [.ref q598, .ref q599, .int 0, .ref q600, .ref q601])), (q598, .inr (8, [.ref q602, .int 0])), (q602, .inl (e603, 40, .inl (fun _ => 0))), (q599, .inr (8, [.ref q604, .int 0])), (q606, .inr (9, [.ref q608, .ref q609, .int 0, .ref q610, .ref q611])), (q608, .inr (8, [.ref q612, .int 0])), (q612, .inl (e613, 40, .inl (fun _ => 0))), (q609, .inr (8, [.ref q614, .int 0])), (q616, .inr (9, [.ref q618, .ref q619, .int 0, .ref q620, .ref q621])), (q618, .inr (8, [.ref q622, .int 0])), (q622, .inl (e623, 40, .inl (fun _ => 0))), (q619, .inr (8, [.ref q624, .int 0])), (q626, .inr (9, [.ref q628, .ref q629, .int 0, .ref q630, .ref q631])), (q628, .inr (8, [.ref q632, .int 0])), (q632, .inl (e633, 40, .inl (fun _ => 0))), (q629, .inr (8, [.ref q634, .int 0])), (q636, .inr (9, [.null, .null, .int 0, .null, .null]))] _ A s.heap _ := Wd
  refine lv_dup C.1 C.2.1 dX4_init_29 rfl ?_
  refine k_cv Wd [26] [0, 1, 2, 3, 4, 5, 6, 7, 8, 9, 10, 11, 12, 13, 14, 15, 16, 17, 18, 19, 20, 21, 22, 23, 24, 25] rfl (wr := [(h0, .inr (4, [.null, .null, .null, .int 0, .int 0, .ref q573, .null, .null, .null, .null])), (q573, .inl (e574, 12, .inr (.inr (.inr (.inr (va_up (va_up (va_up (va_up (va_up (va_up (fun _ => none) 0 (some q576)) 1 (some q586)) 2 (some q596)) 3 (some q606)) 4 (some q616)) 5 (some q626))))))), (q576, .inr (9, [.ref q578, .ref q579, .int 0, .ref q580, .ref q581])), (q578, .inr (8, [.ref q582, .int 0])), (q582, .inl (e583, 40, .inl (fun _ => 0))), (q579, .inr (8, [.ref q584, .int 0])), (q586, .inr (9, [.ref q588, .ref q589, .int 0, .ref q590, .ref q591])), (q588, .inr (8, [.ref q592, .int 0])), (q592, .inl (e593, 40, .inl (fun _ => 0))), (q589, .inr (8, [.ref q594, .int 0])), (q596, .inr (9, [.ref q598, .ref q599, .int 0, .ref q600, .ref q601])), (q598, .inr (8, [.ref q602, .int 0])), (q602, .inl (e603, 40, .inl (fun _ => 0))), (q599, .inr (8, [.ref q604, .int 0])), (q606, .inr (9, [.ref q608, .ref q609, .int 0, .ref q610, .ref q611])), (q608, .inr (8, [.ref q612, .int 0])), (q612, .inl (e613, 40, .inl (fun _ => 0))), (q609, .inr (8, [.ref q614, .int 0])), (q616, .inr (9, [.ref q618, .ref q619, .int 0, .ref q620, .ref q621])), (q618, .inr (8, [.ref q622, .int 0])), (q622, .inl (e623, 40, .inl (fun _ => 0))), (q619, .inr (8, [.ref q624, .int 0])), (q626, .inr (9, [.ref q628, .ref q629, .int 0, .ref q630, .ref q631])), (q628, .inr (8, [.ref q632, .int 0])), (q632, .inl (e633, 40, .inl (fun _ => 0))), (q629, .inr (8, [.ref q634, .int 0]))]) rfl (by decide) (by decide) (cells' := 50) (slots' := 677) (by decide) (by decide) (k_runI (rest := [.ref q636, .int 6, .ref q573]) C aks Wd cs_X4_17 (kcX9_init l D q636 _ ) [26] rfl (by decide) [] rfl rfl rfl ⟨(Nat.le_of_ble_eq_true rfl), (Nat.le_of_ble_eq_true rfl)⟩ hl.1 rfl rfl (Nat.le_of_ble_eq_true rfl) ⟨(Nat.le_of_ble_eq_true rfl), (Nat.le_of_ble_eq_true rfl)⟩ dX4_init_30) (fun u H locs w637 Wd => ?_)
  obtain ⟨q638, q639, q640, q641, q642, e643, q644⟩ := u
  have Wd : wX D [(e574, .object RX9), (e583, .int), (e593, .int), (e603, .int), (e613, .int), (e623, .int), (e633, .int), (e643, .int)] s [(h0, .inr (4, [.null, .null, .null, .int 0, .int 0, .ref q573, .null, .null, .null, .null])), (q573, .inl (e574, 12, .inr (.inr (.inr (.inr (va_up (va_up (va_up (va_up (va_up (va_up (fun _ => none) 0 (some q576)) 1 (some q586)) 2 (some q596)) 3 (some q606)) 4 (some q616)) 5 (some q626))))))), (q576, .inr (9, [.ref q578, .ref q579, .int 0, .ref q580, .ref q581])), (q578, .inr (8, [.ref q582, .int 0])), (q582, .inl (e583, 40, .inl (fun _ => 0))), (q579, .inr (8, [.ref q584, .int 0])), (q586, .inr (9, [.ref q588, .ref q589, .int 0, .ref q590, .ref q591])), (q588, .inr (8, [.ref q592, .int 0])), (q592, .inl (e593, 40, .inl (fun _ => 0))), (q589, .inr (8, [.ref q594, .int 0])), (q596, .inr (9, [.ref q598, .ref q599, .int 0, .ref q600, .ref q601])), (q598, .inr (8, [.ref q602, .int 0])), (q602, .inl (e603, 40, .inl (fun _ => 0))), (q599, .inr (8, [.ref q604, .int 0])), (q606, .inr (9, [.ref q608, .ref q609, .int 0, .ref q610, .ref q611])), (q608, .inr (8, [.ref q612, .int 0])), (q612, .inl (e613, 40, .inl (fun _ => 0))), (q609, .inr (8, [.ref q614, .int 0])), (q616, .inr (9, [.ref q618, .ref q619, .int 0, .ref q620, .ref q621])), (q618, .inr (8, [.ref q622, .int 0])), (q622, .inl (e623, 40, .inl (fun _ => 0))), (q619, .inr (8, [.ref q624, .int 0])), (q626, .inr (9, [.ref q628, .ref q629, .int 0, .ref q630, .ref q631])), (q628, .inr (8, [.ref q632, .int 0])), (q632, .inl (e633, 40, .inl (fun _ => 0))), (q629, .inr (8, [.ref q634, .int 0])), (q636, .inr (9, [.ref q638, .ref q639, .int 0, .ref q640, .ref q641])), (q638, .inr (8, [.ref q642, .int 0])), (q642, .inl (e643, 40, .inl (fun _ => 0))), (q639, .inr (8, [.ref q644, .int 0]))] _ A s.heap _ := Wd
  refine k_astq C Wd 1 0 26 9 [(h0, .inr (4, [.null, .null, .null, .int 0, .int 0, .ref q573, .null, .null, .null, .null])), (q573, .inl (e574, 12, .inr (.inr (.inr (.inr (va_up (va_up (va_up (va_up (va_up (va_up (va_up (fun _ => none) 0 (some q576)) 1 (some q586)) 2 (some q596)) 3 (some q606)) 4 (some q616)) 5 (some q626)) 6 (some q636))))))), (q576, .inr (9, [.ref q578, .ref q579, .int 0, .ref q580, .ref q581])), (q578, .inr (8, [.ref q582, .int 0])), (q582, .inl (e583, 40, .inl (fun _ => 0))), (q579, .inr (8, [.ref q584, .int 0])), (q586, .inr (9, [.ref q588, .ref q589, .int 0, .ref q590, .ref q591])), (q588, .inr (8, [.ref q592, .int 0])), (q592, .inl (e593, 40, .inl (fun _ => 0))), (q589, .inr (8, [.ref q594, .int 0])), (q596, .inr (9, [.ref q598, .ref q599, .int 0, .ref q600, .ref q601])), (q598, .inr (8, [.ref q602, .int 0])), (q602, .inl (e603, 40, .inl (fun _ => 0))), (q599, .inr (8, [.ref q604, .int 0])), (q606, .inr (9, [.ref q608, .ref q609, .int 0, .ref q610, .ref q611])), (q608, .inr (8, [.ref q612, .int 0])), (q612, .inl (e613, 40, .inl (fun _ => 0))), (q609, .inr (8, [.ref q614, .int 0])), (q616, .inr (9, [.ref q618, .ref q619, .int 0, .ref q620, .ref q621])), (q618, .inr (8, [.ref q622, .int 0])), (q622, .inl (e623, 40, .inl (fun _ => 0))), (q619, .inr (8, [.ref q624, .int 0])), (q626, .inr (9, [.ref q628, .ref q629, .int 0, .ref q630, .ref q631])), (q628, .inr (8, [.ref q632, .int 0])), (q632, .inl (e633, 40, .inl (fun _ => 0))), (q629, .inr (8, [.ref q634, .int 0])), (q636, .inr (9, [.ref q638, .ref q639, .int 0, .ref q640, .ref q641])), (q638, .inr (8, [.ref q642, .int 0])), (q642, .inl (e643, 40, .inl (fun _ => 0))), (q639, .inr (8, [.ref q644, .int 0]))] rfl rfl rfl rfl (vp_in_iff.mpr (by decide)) rfl rfl dX4_init_33 (fun H locs Wd => ?_)
  refine lv_iinc (v := 7) (lv' := [(1, .int 7), (0, .ref h0)]) C.1 C.2.1 dX4_init_34 hl (k := 0) rfl (by decide) (by decide) rfl (fun ls hl => ?_)
  refine lv_goto (tgt := 15) C.1 C.2.1 dX4_init_37 (by decide) ?_
  refine lv_iload_n C.1 C.2.1 dX4_init_15 rfl (lv_at hl 0 rfl) ?_
  refine lv_bipush (v := 12) C.1 C.2.1 dX4_init_16 (by decide) ?_
  refine lv_icmp_ge (tgt := 40) C.1 C.2.1 dX4_init_18 (by decide) (fun c645 => absurd c645 (by decide)) (fun _ => ?_)
  refine lv_aload_n C.1 C.2.1 dX4_init_21 rfl (lv_at hl 1 rfl) ?_
  refine k_get C Wd KX4 0 5 rfl (by decide) fl_X4_11 rfl dX4_init_22 ?_
  refine lv_iload_n C.1 C.2.1 dX4_init_25 rfl (lv_at hl 0 rfl) ?_
  refine k_new C Wd KX9 cl_X4_9 is_X9 in_X9 [.null, .null, .int 0, .null, .null] (by decide +kernel) (cells' := 51) (slots' := 682) (Nat.le_of_ble_eq_true rfl) (Nat.le_of_ble_eq_true rfl) (by decide) (by decide) dX4_init_26 (fun q646 H Wd => ?_)
  have Wd : wX D [(e574, .object RX9), (e583, .int), (e593, .int), (e603, .int), (e613, .int), (e623, .int), (e633, .int), (e643, .int)] s [(h0, .inr (4, [.null, .null, .null, .int 0, .int 0, .ref q573, .null, .null, .null, .null])), (q573, .inl (e574, 12, .inr (.inr (.inr (.inr (va_up (va_up (va_up (va_up (va_up (va_up (va_up (fun _ => none) 0 (some q576)) 1 (some q586)) 2 (some q596)) 3 (some q606)) 4 (some q616)) 5 (some q626)) 6 (some q636))))))), (q576, .inr (9, [.ref q578, .ref q579, .int 0, .ref q580, .ref q581])), (q578, .inr (8, [.ref q582, .int 0])), (q582, .inl (e583, 40, .inl (fun _ => 0))), (q579, .inr (8, [.ref q584, .int 0])), (q586, .inr (9, [.ref q588, .ref q589, .int 0, .ref q590, .ref q591])), (q588, .inr (8, [.ref q592, .int 0])), (q592, .inl (e593, 40, .inl (fun _ => 0))), (q589, .inr (8, [.ref q594, .int 0])), (q596, .inr (9, [.ref q598, .ref q599, .int 0, .ref q600, .ref q601])), (q598, .inr (8, [.ref q602, .int 0])), (q602, .inl (e603, 40, .inl (fun _ => 0))), (q599, .inr (8, [.ref q604, .int 0])), (q606, .inr (9, [.ref q608, .ref q609, .int 0, .ref q610, .ref q611])), (q608, .inr (8, [.ref q612, .int 0])), (q612, .inl (e613, 40, .inl (fun _ => 0))), (q609, .inr (8, [.ref q614, .int 0])), (q616, .inr (9, [.ref q618, .ref q619, .int 0, .ref q620, .ref q621])), (q618, .inr (8, [.ref q622, .int 0])), (q622, .inl (e623, 40, .inl (fun _ => 0))), (q619, .inr (8, [.ref q624, .int 0])), (q626, .inr (9, [.ref q628, .ref q629, .int 0, .ref q630, .ref q631])), (q628, .inr (8, [.ref q632, .int 0])), (q632, .inl (e633, 40, .inl (fun _ => 0))), (q629, .inr (8, [.ref q634, .int 0])), (q636, .inr (9, [.ref q638, .ref q639, .int 0, .ref q640, .ref q641])), (q638, .inr (8, [.ref q642, .int 0])), (q642, .inl (e643, 40, .inl (fun _ => 0))), (q639, .inr (8, [.ref q644, .int 0])), (q646, .inr (9, [.null, .null, .int 0, .null, .null]))] _ A s.heap _ := Wd
  refine lv_dup C.1 C.2.1 dX4_init_29 rfl ?_
  refine k_cv Wd [30] [0, 1, 2, 3, 4, 5, 6, 7, 8, 9, 10, 11, 12, 13, 14, 15, 16, 17, 18, 19, 20, 21, 22, 23, 24, 25, 26, 27, 28, 29] rfl (wr := [(h0, .inr (4, [.null, .null, .null, .int 0, .int 0, .ref q573, .null, .null, .null, .null])), (q573, .inl (e574, 12, .inr (.inr (.inr (.inr (va_up (va_up (va_up (va_up (va_up (va_up (va_up (fun _ => none) 0 (some q576)) 1 (some q586)) 2 (some q596)) 3 (some q606)) 4 (some q616)) 5 (some q626)) 6 (some q636))))))), (q576, .inr (9, [.ref q578, .ref q579, .int 0, .ref q580, .ref q581])), (q578, .inr (8, [.ref q582, .int 0])), (q582, .inl (e583, 40, .inl (fun _ => 0))), (q579, .inr (8, [.ref q584, .int 0])), (q586, .inr (9, [.ref q588, .ref q589, .int 0, .ref q590, .ref q591])), (q588, .inr (8, [.ref q592, .int 0])), (q592, .inl (e593, 40, .inl (fun _ => 0))), (q589, .inr (8, [.ref q594, .int 0])), (q596, .inr (9, [.ref q598, .ref q599, .int 0, .ref q600, .ref q601])), (q598, .inr (8, [.ref q602, .int 0])), (q602, .inl (e603, 40, .inl (fun _ => 0))), (q599, .inr (8, [.ref q604, .int 0])), (q606, .inr (9, [.ref q608, .ref q609, .int 0, .ref q610, .ref q611])), (q608, .inr (8, [.ref q612, .int 0])), (q612, .inl (e613, 40, .inl (fun _ => 0))), (q609, .inr (8, [.ref q614, .int 0])), (q616, .inr (9, [.ref q618, .ref q619, .int 0, .ref q620, .ref q621])), (q618, .inr (8, [.ref q622, .int 0])), (q622, .inl (e623, 40, .inl (fun _ => 0))), (q619, .inr (8, [.ref q624, .int 0])), (q626, .inr (9, [.ref q628, .ref q629, .int 0, .ref q630, .ref q631])), (q628, .inr (8, [.ref q632, .int 0])), (q632, .inl (e633, 40, .inl (fun _ => 0))), (q629, .inr (8, [.ref q634, .int 0])), (q636, .inr (9, [.ref q638, .ref q639, .int 0, .ref q640, .ref q641])), (q638, .inr (8, [.ref q642, .int 0])), (q642, .inl (e643, 40, .inl (fun _ => 0))), (q639, .inr (8, [.ref q644, .int 0]))]) rfl (by decide) (by decide) (cells' := 57) (slots' := 772) (by decide) (by decide) (k_runI (rest := [.ref q646, .int 7, .ref q573]) C aks Wd cs_X4_17 (kcX9_init l D q646 _ ) [30] rfl (by decide) [] rfl rfl rfl ⟨(Nat.le_of_ble_eq_true rfl), (Nat.le_of_ble_eq_true rfl)⟩ hl.1 rfl rfl (Nat.le_of_ble_eq_true rfl) ⟨(Nat.le_of_ble_eq_true rfl), (Nat.le_of_ble_eq_true rfl)⟩ dX4_init_30) (fun u H locs w647 Wd => ?_)
  obtain ⟨q648, q649, q650, q651, q652, e653, q654⟩ := u
  have Wd : wX D [(e574, .object RX9), (e583, .int), (e593, .int), (e603, .int), (e613, .int), (e623, .int), (e633, .int), (e643, .int), (e653, .int)] s [(h0, .inr (4, [.null, .null, .null, .int 0, .int 0, .ref q573, .null, .null, .null, .null])), (q573, .inl (e574, 12, .inr (.inr (.inr (.inr (va_up (va_up (va_up (va_up (va_up (va_up (va_up (fun _ => none) 0 (some q576)) 1 (some q586)) 2 (some q596)) 3 (some q606)) 4 (some q616)) 5 (some q626)) 6 (some q636))))))), (q576, .inr (9, [.ref q578, .ref q579, .int 0, .ref q580, .ref q581])), (q578, .inr (8, [.ref q582, .int 0])), (q582, .inl (e583, 40, .inl (fun _ => 0))), (q579, .inr (8, [.ref q584, .int 0])), (q586, .inr (9, [.ref q588, .ref q589, .int 0, .ref q590, .ref q591])), (q588, .inr (8, [.ref q592, .int 0])), (q592, .inl (e593, 40, .inl (fun _ => 0))), (q589, .inr (8, [.ref q594, .int 0])), (q596, .inr (9, [.ref q598, .ref q599, .int 0, .ref q600, .ref q601])), (q598, .inr (8, [.ref q602, .int 0])), (q602, .inl (e603, 40, .inl (fun _ => 0))), (q599, .inr (8, [.ref q604, .int 0])), (q606, .inr (9, [.ref q608, .ref q609, .int 0, .ref q610, .ref q611])), (q608, .inr (8, [.ref q612, .int 0])), (q612, .inl (e613, 40, .inl (fun _ => 0))), (q609, .inr (8, [.ref q614, .int 0])), (q616, .inr (9, [.ref q618, .ref q619, .int 0, .ref q620, .ref q621])), (q618, .inr (8, [.ref q622, .int 0])), (q622, .inl (e623, 40, .inl (fun _ => 0))), (q619, .inr (8, [.ref q624, .int 0])), (q626, .inr (9, [.ref q628, .ref q629, .int 0, .ref q630, .ref q631])), (q628, .inr (8, [.ref q632, .int 0])), (q632, .inl (e633, 40, .inl (fun _ => 0))), (q629, .inr (8, [.ref q634, .int 0])), (q636, .inr (9, [.ref q638, .ref q639, .int 0, .ref q640, .ref q641])), (q638, .inr (8, [.ref q642, .int 0])), (q642, .inl (e643, 40, .inl (fun _ => 0))), (q639, .inr (8, [.ref q644, .int 0])), (q646, .inr (9, [.ref q648, .ref q649, .int 0, .ref q650, .ref q651])), (q648, .inr (8, [.ref q652, .int 0])), (q652, .inl (e653, 40, .inl (fun _ => 0))), (q649, .inr (8, [.ref q654, .int 0]))] _ A s.heap _ := Wd
  refine k_astq C Wd 1 0 30 9 [(h0, .inr (4, [.null, .null, .null, .int 0, .int 0, .ref q573, .null, .null, .null, .null])), (q573, .inl (e574, 12, .inr (.inr (.inr (.inr (va_up (va_up (va_up (va_up (va_up (va_up (va_up (va_up (fun _ => none) 0 (some q576)) 1 (some q586)) 2 (some q596)) 3 (some q606)) 4 (some q616)) 5 (some q626)) 6 (some q636)) 7 (some q646))))))), (q576, .inr (9, [.ref q578, .ref q579, .int 0, .ref q580, .ref q581])), (q578, .inr (8, [.ref q582, .int 0])), (q582, .inl (e583, 40, .inl (fun _ => 0))), (q579, .inr (8, [.ref q584, .int 0])), (q586, .inr (9, [.ref q588, .ref q589, .int 0, .ref q590, .ref q591])), (q588, .inr (8, [.ref q592, .int 0])), (q592, .inl (e593, 40, .inl (fun _ => 0))), (q589, .inr (8, [.ref q594, .int 0])), (q596, .inr (9, [.ref q598, .ref q599, .int 0, .ref q600, .ref q601])), (q598, .inr (8, [.ref q602, .int 0])), (q602, .inl (e603, 40, .inl (fun _ => 0))), (q599, .inr (8, [.ref q604, .int 0])), (q606, .inr (9, [.ref q608, .ref q609, .int 0, .ref q610, .ref q611])), (q608, .inr (8, [.ref q612, .int 0])), (q612, .inl (e613, 40, .inl (fun _ => 0))), (q609, .inr (8, [.ref q614, .int 0])), (q616, .inr (9, [.ref q618, .ref q619, .int 0, .ref q620, .ref q621])), (q618, .inr (8, [.ref q622, .int 0])), (q622, .inl (e623, 40, .inl (fun _ => 0))), (q619, .inr (8, [.ref q624, .int 0])), (q626, .inr (9, [.ref q628, .ref q629, .int 0, .ref q630, .ref q631])), (q628, .inr (8, [.ref q632, .int 0])), (q632, .inl (e633, 40, .inl (fun _ => 0))), (q629, .inr (8, [.ref q634, .int 0])), (q636, .inr (9, [.ref q638, .ref q639, .int 0, .ref q640, .ref q641])), (q638, .inr (8, [.ref q642, .int 0])), (q642, .inl (e643, 40, .inl (fun _ => 0))), (q639, .inr (8, [.ref q644, .int 0])), (q646, .inr (9, [.ref q648, .ref q649, .int 0, .ref q650, .ref q651])), (q648, .inr (8, [.ref q652, .int 0])), (q652, .inl (e653, 40, .inl (fun _ => 0))), (q649, .inr (8, [.ref q654, .int 0]))] rfl rfl rfl rfl (vp_in_iff.mpr (by decide)) rfl rfl dX4_init_33 (fun H locs Wd => ?_)
  refine lv_iinc (v := 8) (lv' := [(1, .int 8), (0, .ref h0)]) C.1 C.2.1 dX4_init_34 hl (k := 0) rfl (by decide) (by decide) rfl (fun ls hl => ?_)
  refine lv_goto (tgt := 15) C.1 C.2.1 dX4_init_37 (by decide) ?_
  refine lv_iload_n C.1 C.2.1 dX4_init_15 rfl (lv_at hl 0 rfl) ?_
  refine lv_bipush (v := 12) C.1 C.2.1 dX4_init_16 (by decide) ?_
  refine lv_icmp_ge (tgt := 40) C.1 C.2.1 dX4_init_18 (by decide) (fun c655 => absurd c655 (by decide)) (fun _ => ?_)
  refine lv_aload_n C.1 C.2.1 dX4_init_21 rfl (lv_at hl 1 rfl) ?_
  refine k_get C Wd KX4 0 5 rfl (by decide) fl_X4_11 rfl dX4_init_22 ?_
  refine lv_iload_n C.1 C.2.1 dX4_init_25 rfl (lv_at hl 0 rfl) ?_
  refine k_new C Wd KX9 cl_X4_9 is_X9 in_X9 [.null, .null, .int 0, .null, .null] (by decide +kernel) (cells' := 58) (slots' := 777) (Nat.le_of_ble_eq_true rfl) (Nat.le_of_ble_eq_true rfl) (by decide) (by decide) dX4_init_26 (fun q656 H Wd => ?_)
  have Wd : wX D [(e574, .object RX9), (e583, .int), (e593, .int), (e603, .int), (e613, .int), (e623, .int), (e633, .int), (e643, .int), (e653, .int)] s [(h0, .inr (4, [.null, .null, .null, .int 0, .int 0, .ref q573, .null, .null, .null, .null])), (q573, .inl (e574, 12, .inr (.inr (.inr (.inr (va_up (va_up (va_up (va_up (va_up (va_up (va_up (va_up (fun _ => none) 0 (some q576)) 1 (some q586)) 2 (some q596)) 3 (some q606)) 4 (some q616)) 5 (some q626)) 6 (some q636)) 7 (some q646))))))), (q576, .inr (9, [.ref q578, .ref q579, .int 0, .ref q580, .ref q581])), (q578, .inr (8, [.ref q582, .int 0])), (q582, .inl (e583, 40, .inl (fun _ => 0))), (q579, .inr (8, [.ref q584, .int 0])), (q586, .inr (9, [.ref q588, .ref q589, .int 0, .ref q590, .ref q591])), (q588, .inr (8, [.ref q592, .int 0])), (q592, .inl (e593, 40, .inl (fun _ => 0))), (q589, .inr (8, [.ref q594, .int 0])), (q596, .inr (9, [.ref q598, .ref q599, .int 0, .ref q600, .ref q601])), (q598, .inr (8, [.ref q602, .int 0])), (q602, .inl (e603, 40, .inl (fun _ => 0))), (q599, .inr (8, [.ref q604, .int 0])), (q606, .inr (9, [.ref q608, .ref q609, .int 0, .ref q610, .ref q611])), (q608, .inr (8, [.ref q612, .int 0])), (q612, .inl (e613, 40, .inl (fun _ => 0))), (q609, .inr (8, [.ref q614, .int 0])), (q616, .inr (9, [.ref q618, .ref q619, .int 0, .ref q620, .ref q621])), (q618, .inr (8, [.ref q622, .int 0])), (q622, .inl (e623, 40, .inl (fun _ => 0))), (q619, .inr (8, [.ref q624, .int 0])), (q626, .inr (9, [.ref q628, .ref q629, .int 0, .ref q630, .ref q631])), (q628, .inr (8, [.ref q632, .int 0])), (q632, .inl (e633, 40, .inl (fun _ => 0))), (q629, .inr (8, [.ref q634, .int 0])), (q636, .inr (9, [.ref q638, .ref q639, .int 0, .ref q640, .ref q641])), (q638, .inr (8, [.ref q642, .int 0])), (q642, .inl (e643, 40, .inl (fun _ => 0))), (q639, .inr (8, [.ref q644, .int 0])), (q646, .inr (9, [.ref q648, .ref q649, .int 0, .ref q650, .ref q651])), (q648, .inr (8, [.ref q652, .int 0])), (q652, .inl (e653, 40, .inl (fun _ => 0))), (q649, .inr (8, [.ref q654, .int 0])), (q656, .inr (9, [.null, .null, .int 0, .null, .null]))] _ A s.heap _ := Wd
  refine lv_dup C.1 C.2.1 dX4_init_29 rfl ?_
  refine k_cv Wd [34] [0, 1, 2, 3, 4, 5, 6, 7, 8, 9, 10, 11, 12, 13, 14, 15, 16, 17, 18, 19, 20, 21, 22, 23, 24, 25, 26, 27, 28, 29, 30, 31, 32, 33] rfl (wr := [(h0, .inr (4, [.null, .null, .null, .int 0, .int 0, .ref q573, .null, .null, .null, .null])), (q573, .inl (e574, 12, .inr (.inr (.inr (.inr (va_up (va_up (va_up (va_up (va_up (va_up (va_up (va_up (fun _ => none) 0 (some q576)) 1 (some q586)) 2 (some q596)) 3 (some q606)) 4 (some q616)) 5 (some q626)) 6 (some q636)) 7 (some q646))))))), (q576, .inr (9, [.ref q578, .ref q579, .int 0, .ref q580, .ref q581])), (q578, .inr (8, [.ref q582, .int 0])), (q582, .inl (e583, 40, .inl (fun _ => 0))), (q579, .inr (8, [.ref q584, .int 0])), (q586, .inr (9, [.ref q588, .ref q589, .int 0, .ref q590, .ref q591])), (q588, .inr (8, [.ref q592, .int 0])), (q592, .inl (e593, 40, .inl (fun _ => 0))), (q589, .inr (8, [.ref q594, .int 0])), (q596, .inr (9, [.ref q598, .ref q599, .int 0, .ref q600, .ref q601])), (q598, .inr (8, [.ref q602, .int 0])), (q602, .inl (e603, 40, .inl (fun _ => 0))), (q599, .inr (8, [.ref q604, .int 0])), (q606, .inr (9, [.ref q608, .ref q609, .int 0, .ref q610, .ref q611])), (q608, .inr (8, [.ref q612, .int 0])), (q612, .inl (e613, 40, .inl (fun _ => 0))), (q609, .inr (8, [.ref q614, .int 0])), (q616, .inr (9, [.ref q618, .ref q619, .int 0, .ref q620, .ref q621])), (q618, .inr (8, [.ref q622, .int 0])), (q622, .inl (e623, 40, .inl (fun _ => 0))), (q619, .inr (8, [.ref q624, .int 0])), (q626, .inr (9, [.ref q628, .ref q629, .int 0, .ref q630, .ref q631])), (q628, .inr (8, [.ref q632, .int 0])), (q632, .inl (e633, 40, .inl (fun _ => 0))), (q629, .inr (8, [.ref q634, .int 0])), (q636, .inr (9, [.ref q638, .ref q639, .int 0, .ref q640, .ref q641])), (q638, .inr (8, [.ref q642, .int 0])), (q642, .inl (e643, 40, .inl (fun _ => 0))), (q639, .inr (8, [.ref q644, .int 0])), (q646, .inr (9, [.ref q648, .ref q649, .int 0, .ref q650, .ref q651])), (q648, .inr (8, [.ref q652, .int 0])), (q652, .inl (e653, 40, .inl (fun _ => 0))), (q649, .inr (8, [.ref q654, .int 0]))]) rfl (by decide) (by decide) (cells' := 64) (slots' := 867) (by decide) (by decide) (k_runI (rest := [.ref q656, .int 8, .ref q573]) C aks Wd cs_X4_17 (kcX9_init l D q656 _ ) [34] rfl (by decide) [] rfl rfl rfl ⟨(Nat.le_of_ble_eq_true rfl), (Nat.le_of_ble_eq_true rfl)⟩ hl.1 rfl rfl (Nat.le_of_ble_eq_true rfl) ⟨(Nat.le_of_ble_eq_true rfl), (Nat.le_of_ble_eq_true rfl)⟩ dX4_init_30) (fun u H locs w657 Wd => ?_)
  obtain ⟨q658, q659, q660, q661, q662, e663, q664⟩ := u
  have Wd : wX D [(e574, .object RX9), (e583, .int), (e593, .int), (e603, .int), (e613, .int), (e623, .int), (e633, .int), (e643, .int), (e653, .int), (e663, .int)] s [(h0, .inr (4, [.null, .null, .null, .int 0, .int 0, .ref q573, .null, .null, .null, .null])), (q573, .inl (e574, 12, .inr (.inr (.inr (.inr (va_up (va_up (va_up (va_up (va_up (va_up (va_up (va_up (fun _ => none) 0 (some q576)) 1 (some q586)) 2 (some q596)) 3 (some q606)) 4 (some q616)) 5 (some q626)) 6 (some q636)) 7 (some q646))))))), (q576, .inr (9, [.ref q578, .ref q579, .int 0, .ref q580, .ref q581])), (q578, .inr (8, [.ref q582, .int 0])), (q582, .inl (e583, 40, .inl (fun _ => 0))), (q579, .inr (8, [.ref q584, .int 0])), (q586, .inr (9, [.ref q588, .ref q589, .int 0, .ref q590, .ref q591])), (q588, .inr (8, [.ref q592, .int 0])), (q592, .inl (e593, 40, .inl (fun _ => 0))), (q589, .inr (8, [.ref q594, .int 0])), (q596, .inr (9, [.ref q598, .ref q599, .int 0, .ref q600, .ref q601])), (q598, .inr (8, [.ref q602, .int 0])), (q602, .inl (e603, 40, .inl (fun _ => 0))), (q599, .inr (8, [.ref q604, .int 0])), (q606, .inr (9, [.ref q608, .ref q609, .int 0, .ref q610, .ref q611])), (q608, .inr (8, [.ref q612, .int 0])), (q612, .inl (e613, 40, .inl (fun _ => 0))), (q609, .inr (8, [.ref q614, .int 0])), (q616, .inr (9, [.ref q618, .ref q619, .int 0, .ref q620, .ref q621])), (q618, .inr (8, [.ref q622, .int 0])), (q622, .inl (e623, 40, .inl (fun _ => 0))), (q619, .inr (8, [.ref q624, .int 0])), (q626, .inr (9, [.ref q628, .ref q629, .int 0, .ref q630, .ref q631])), (q628, .inr (8, [.ref q632, .int 0])), (q632, .inl (e633, 40, .inl (fun _ => 0))), (q629, .inr (8, [.ref q634, .int 0])), (q636, .inr (9, [.ref q638, .ref q639, .int 0, .ref q640, .ref q641])), (q638, .inr (8, [.ref q642, .int 0])), (q642, .inl (e643, 40, .inl (fun _ => 0))), (q639, .inr (8, [.ref q644, .int 0])), (q646, .inr (9, [.ref q648, .ref q649, .int 0, .ref q650, .ref q651])), (q648, .inr (8, [.ref q652, .int 0])), (q652, .inl (e653, 40, .inl (fun _ => 0))), (q649, .inr (8, [.ref q654, .int 0])), (q656, .inr (9, [.ref q658, .ref q659, .int 0, .ref q660, .ref q661])), (q658, .inr (8, [.ref q662, .int 0])), (q662, .inl (e663, 40, .inl (fun _ => 0))), (q659, .inr (8, [.ref q664, .int 0]))] _ A s.heap _ := Wd
  refine k_astq C Wd 1 0 34 9 [(h0, .inr (4, [.null, .null, .null, .int 0, .int 0, .ref q573, .null, .null, .null, .null])), (q573, .inl (e574, 12, .inr (.inr (.inr (.inr (va_up (va_up (va_up (va_up (va_up (va_up (va_up (va_up (va_up (fun _ => none) 0 (some q576)) 1 (some q586)) 2 (some q596)) 3 (some q606)) 4 (some q616)) 5 (some q626)) 6 (some q636)) 7 (some q646)) 8 (some q656))))))), (q576, .inr (9, [.ref q578, .ref q579, .int 0, .ref q580, .ref q581])), (q578, .inr (8, [.ref q582, .int 0])), (q582, .inl (e583, 40, .inl (fun _ => 0))), (q579, .inr (8, [.ref q584, .int 0])), (q586, .inr (9, [.ref q588, .ref q589, .int 0, .ref q590, .ref q591])), (q588, .inr (8, [.ref q592, .int 0])), (q592, .inl (e593, 40, .inl (fun _ => 0))), (q589, .inr (8, [.ref q594, .int 0])), (q596, .inr (9, [.ref q598, .ref q599, .int 0, .ref q600, .ref q601])), (q598, .inr (8, [.ref q602, .int 0])), (q602, .inl (e603, 40, .inl (fun _ => 0))), (q599, .inr (8, [.ref q604, .int 0])), (q606, .inr (9, [.ref q608, .ref q609, .int 0, .ref q610, .ref q611])), (q608, .inr (8, [.ref q612, .int 0])), (q612, .inl (e613, 40, .inl (fun _ => 0))), (q609, .inr (8, [.ref q614, .int 0])), (q616, .inr (9, [.ref q618, .ref q619, .int 0, .ref q620, .ref q621])), (q618, .inr (8, [.ref q622, .int 0])), (q622, .inl (e623, 40, .inl (fun _ => 0))), (q619, .inr (8, [.ref q624, .int 0])), (q626, .inr (9, [.ref q628, .ref q629, .int 0, .ref q630, .ref q631])), (q628, .inr (8, [.ref q632, .int 0])), (q632, .inl (e633, 40, .inl (fun _ => 0))), (q629, .inr (8, [.ref q634, .int 0])), (q636, .inr (9, [.ref q638, .ref q639, .int 0, .ref q640, .ref q641])), (q638, .inr (8, [.ref q642, .int 0])), (q642, .inl (e643, 40, .inl (fun _ => 0))), (q639, .inr (8, [.ref q644, .int 0])), (q646, .inr (9, [.ref q648, .ref q649, .int 0, .ref q650, .ref q651])), (q648, .inr (8, [.ref q652, .int 0])), (q652, .inl (e653, 40, .inl (fun _ => 0))), (q649, .inr (8, [.ref q654, .int 0])), (q656, .inr (9, [.ref q658, .ref q659, .int 0, .ref q660, .ref q661])), (q658, .inr (8, [.ref q662, .int 0])), (q662, .inl (e663, 40, .inl (fun _ => 0))), (q659, .inr (8, [.ref q664, .int 0]))] rfl rfl rfl rfl (vp_in_iff.mpr (by decide)) rfl rfl dX4_init_33 (fun H locs Wd => ?_)
  refine lv_iinc (v := 9) (lv' := [(1, .int 9), (0, .ref h0)]) C.1 C.2.1 dX4_init_34 hl (k := 0) rfl (by decide) (by decide) rfl (fun ls hl => ?_)
  refine lv_goto (tgt := 15) C.1 C.2.1 dX4_init_37 (by decide) ?_
  refine lv_iload_n C.1 C.2.1 dX4_init_15 rfl (lv_at hl 0 rfl) ?_
  refine lv_bipush (v := 12) C.1 C.2.1 dX4_init_16 (by decide) ?_
  refine lv_icmp_ge (tgt := 40) C.1 C.2.1 dX4_init_18 (by decide) (fun c665 => absurd c665 (by decide)) (fun _ => ?_)
  refine lv_aload_n C.1 C.2.1 dX4_init_21 rfl (lv_at hl 1 rfl) ?_
  refine k_get C Wd KX4 0 5 rfl (by decide) fl_X4_11 rfl dX4_init_22 ?_
  refine lv_iload_n C.1 C.2.1 dX4_init_25 rfl (lv_at hl 0 rfl) ?_
  refine k_new C Wd KX9 cl_X4_9 is_X9 in_X9 [.null, .null, .int 0, .null, .null] (by decide +kernel) (cells' := 65) (slots' := 872) (Nat.le_of_ble_eq_true rfl) (Nat.le_of_ble_eq_true rfl) (by decide) (by decide) dX4_init_26 (fun q666 H Wd => ?_)
  have Wd : wX D [(e574, .object RX9), (e583, .int), (e593, .int), (e603, .int), (e613, .int), (e623, .int), (e633, .int), (e643, .int), (e653, .int), (e663, .int)] s [(h0, .inr (4, [.null, .null, .null, .int 0, .int 0, .ref q573, .null, .null, .null, .null])), (q573, .inl (e574, 12, .inr (.inr (.inr (.inr (va_up (va_up (va_up (va_up (va_up (va_up (va_up (va_up (va_up (fun _ => none) 0 (some q576)) 1 (some q586)) 2 (some q596)) 3 (some q606)) 4 (some q616)) 5 (some q626)) 6 (some q636)) 7 (some q646)) 8 (some q656))))))), (q576, .inr (9, [.ref q578, .ref q579, .int 0, .ref q580, .ref q581])), (q578, .inr (8, [.ref q582, .int 0])), (q582, .inl (e583, 40, .inl (fun _ => 0))), (q579, .inr (8, [.ref q584, .int 0])), (q586, .inr (9, [.ref q588, .ref q589, .int 0, .ref q590, .ref q591])), (q588, .inr (8, [.ref q592, .int 0])), (q592, .inl (e593, 40, .inl (fun _ => 0))), (q589, .inr (8, [.ref q594, .int 0])), (q596, .inr (9, [.ref q598, .ref q599, .int 0, .ref q600, .ref q601])), (q598, .inr (8, [.ref q602, .int 0])), (q602, .inl (e603, 40, .inl (fun _ => 0))), (q599, .inr (8, [.ref q604, .int 0])), (q606, .inr (9, [.ref q608, .ref q609, .int 0, .ref q610, .ref q611])), (q608, .inr (8, [.ref q612, .int 0])), (q612, .inl (e613, 40, .inl (fun _ => 0))), (q609, .inr (8, [.ref q614, .int 0])), (q616, .inr (9, [.ref q618, .ref q619, .int 0, .ref q620, .ref q621])), (q618, .inr (8, [.ref q622, .int 0])), (q622, .inl (e623, 40, .inl (fun _ => 0))), (q619, .inr (8, [.ref q624, .int 0])), (q626, .inr (9, [.ref q628, .ref q629, .int 0, .ref q630, .ref q631])), (q628, .inr (8, [.ref q632, .int 0])), (q632, .inl (e633, 40, .inl (fun _ => 0))), (q629, .inr (8, [.ref q634, .int 0])), (q636, .inr (9, [.ref q638, .ref q639, .int 0, .ref q640, .ref q641])), (q638, .inr (8, [.ref q642, .int 0])), (q642, .inl (e643, 40, .inl (fun _ => 0))), (q639, .inr (8, [.ref q644, .int 0])), (q646, .inr (9, [.ref q648, .ref q649, .int 0, .ref q650, .ref q651])), (q648, .inr (8, [.ref q652, .int 0])), (q652, .inl (e653, 40, .inl (fun _ => 0))), (q649, .inr (8, [.ref q654, .int 0])), (q656, .inr (9, [.ref q658, .ref q659, .int 0, .ref q660, .ref q661])), (q658, .inr (8, [.ref q662, .int 0])), (q662, .inl (e663, 40, .inl (fun _ => 0))), (q659, .inr (8, [.ref q664, .int 0])), (q666, .inr (9, [.null, .null, .int 0, .null, .null]))] _ A s.heap _ := Wd
  refine lv_dup C.1 C.2.1 dX4_init_29 rfl ?_
  refine k_cv Wd [38] [0, 1, 2, 3, 4, 5, 6, 7, 8, 9, 10, 11, 12, 13, 14, 15, 16, 17, 18, 19, 20, 21, 22, 23, 24, 25, 26, 27, 28, 29, 30, 31, 32, 33, 34, 35, 36, 37] rfl (wr := [(h0, .inr (4, [.null, .null, .null, .int 0, .int 0, .ref q573, .null, .null, .null, .null])), (q573, .inl (e574, 12, .inr (.inr (.inr (.inr (va_up (va_up (va_up (va_up (va_up (va_up (va_up (va_up (va_up (fun _ => none) 0 (some q576)) 1 (some q586)) 2 (some q596)) 3 (some q606)) 4 (some q616)) 5 (some q626)) 6 (some q636)) 7 (some q646)) 8 (some q656))))))), (q576, .inr (9, [.ref q578, .ref q579, .int 0, .ref q580, .ref q581])), (q578, .inr (8, [.ref q582, .int 0])), (q582, .inl (e583, 40, .inl (fun _ => 0))), (q579, .inr (8, [.ref q584, .int 0])), (q586, .inr (9, [.ref q588, .ref q589, .int 0, .ref q590, .ref q591])), (q588, .inr (8, [.ref q592, .int 0])), (q592, .inl (e593, 40, .inl (fun _ => 0))), (q589, .inr (8, [.ref q594, .int 0])), (q596, .inr (9, [.ref q598, .ref q599, .int 0, .ref q600, .ref q601])), (q598, .inr (8, [.ref q602, .int 0])), (q602, .inl (e603, 40, .inl (fun _ => 0))), (q599, .inr (8, [.ref q604, .int 0])), (q606, .inr (9, [.ref q608, .ref q609, .int 0, .ref q610, .ref q611])), (q608, .inr (8, [.ref q612, .int 0])), (q612, .inl (e613, 40, .inl (fun _ => 0))), (q609, .inr (8, [.ref q614, .int 0])), (q616, .inr (9, [.ref q618, .ref q619, .int 0, .ref q620, .ref q621])), (q618, .inr (8, [.ref q622, .int 0])), (q622, .inl (e623, 40, .inl (fun _ => 0))), (q619, .inr (8, [.ref q624, .int 0])), (q626, .inr (9, [.ref q628, .ref q629, .int 0, .ref q630, .ref q631])), (q628, .inr (8, [.ref q632, .int 0])), (q632, .inl (e633, 40, .inl (fun _ => 0))), (q629, .inr (8, [.ref q634, .int 0])), (q636, .inr (9, [.ref q638, .ref q639, .int 0, .ref q640, .ref q641])), (q638, .inr (8, [.ref q642, .int 0])), (q642, .inl (e643, 40, .inl (fun _ => 0))), (q639, .inr (8, [.ref q644, .int 0])), (q646, .inr (9, [.ref q648, .ref q649, .int 0, .ref q650, .ref q651])), (q648, .inr (8, [.ref q652, .int 0])), (q652, .inl (e653, 40, .inl (fun _ => 0))), (q649, .inr (8, [.ref q654, .int 0])), (q656, .inr (9, [.ref q658, .ref q659, .int 0, .ref q660, .ref q661])), (q658, .inr (8, [.ref q662, .int 0])), (q662, .inl (e663, 40, .inl (fun _ => 0))), (q659, .inr (8, [.ref q664, .int 0]))]) rfl (by decide) (by decide) (cells' := 71) (slots' := 962) (by decide) (by decide) (k_runI (rest := [.ref q666, .int 9, .ref q573]) C aks Wd cs_X4_17 (kcX9_init l D q666 _ ) [38] rfl (by decide) [] rfl rfl rfl ⟨(Nat.le_of_ble_eq_true rfl), (Nat.le_of_ble_eq_true rfl)⟩ hl.1 rfl rfl (Nat.le_of_ble_eq_true rfl) ⟨(Nat.le_of_ble_eq_true rfl), (Nat.le_of_ble_eq_true rfl)⟩ dX4_init_30) (fun u H locs w667 Wd => ?_)
  obtain ⟨q668, q669, q670, q671, q672, e673, q674⟩ := u
  have Wd : wX D [(e574, .object RX9), (e583, .int), (e593, .int), (e603, .int), (e613, .int), (e623, .int), (e633, .int), (e643, .int), (e653, .int), (e663, .int), (e673, .int)] s [(h0, .inr (4, [.null, .null, .null, .int 0, .int 0, .ref q573, .null, .null, .null, .null])), (q573, .inl (e574, 12, .inr (.inr (.inr (.inr (va_up (va_up (va_up (va_up (va_up (va_up (va_up (va_up (va_up (fun _ => none) 0 (some q576)) 1 (some q586)) 2 (some q596)) 3 (some q606)) 4 (some q616)) 5 (some q626)) 6 (some q636)) 7 (some q646)) 8 (some q656))))))), (q576, .inr (9, [.ref q578, .ref q579, .int 0, .ref q580, .ref q581])), (q578, .inr (8, [.ref q582, .int 0])), (q582, .inl (e583, 40, .inl (fun _ => 0))), (q579, .inr (8, [.ref q584, .int 0])), (q586, .inr (9, [.ref q588, .ref q589, .int 0, .ref q590, .ref q591])), (q588, .inr (8, [.ref q592, .int 0])), (q592, .inl (e593, 40, .inl (fun _ => 0))), (q589, .inr (8, [.ref q594, .int 0])), (q596, .inr (9, [.ref q598, .ref q599, .int 0, .ref q600, .ref q601])), (q598, .inr (8, [.ref q602, .int 0])), (q602, .inl (e603, 40, .inl (fun _ => 0))), (q599, .inr (8, [.ref q604, .int 0])), (q606, .inr (9, [.ref q608, .ref q609, .int 0, .ref q610, .ref q611])), (q608, .inr (8, [.ref q612, .int 0])), (q612, .inl (e613, 40, .inl (fun _ => 0))), (q609, .inr (8, [.ref q614, .int 0])), (q616, .inr (9, [.ref q618, .ref q619, .int 0, .ref q620, .ref q621])), (q618, .inr (8, [.ref q622, .int 0])), (q622, .inl (e623, 40, .inl (fun _ => 0))), (q619, .inr (8, [.ref q624, .int 0])), (q626, .inr (9, [.ref q628, .ref q629, .int 0, .ref q630, .ref q631])), (q628, .inr (8, [.ref q632, .int 0])), (q632, .inl (e633, 40, .inl (fun _ => 0))), (q629, .inr (8, [.ref q634, .int 0])), (q636, .inr (9, [.ref q638, .ref q639, .int 0, .ref q640, .ref q641])), (q638, .inr (8, [.ref q642, .int 0])), (q642, .inl (e643, 40, .inl (fun _ => 0))), (q639, .inr (8, [.ref q644, .int 0])), (q646, .inr (9, [.ref q648, .ref q649, .int 0, .ref q650, .ref q651])), (q648, .inr (8, [.ref q652, .int 0])), (q652, .inl (e653, 40, .inl (fun _ => 0))), (q649, .inr (8, [.ref q654, .int 0])), (q656, .inr (9, [.ref q658, .ref q659, .int 0, .ref q660, .ref q661])), (q658, .inr (8, [.ref q662, .int 0])), (q662, .inl (e663, 40, .inl (fun _ => 0))), (q659, .inr (8, [.ref q664, .int 0])), (q666, .inr (9, [.ref q668, .ref q669, .int 0, .ref q670, .ref q671])), (q668, .inr (8, [.ref q672, .int 0])), (q672, .inl (e673, 40, .inl (fun _ => 0))), (q669, .inr (8, [.ref q674, .int 0]))] _ A s.heap _ := Wd
  refine k_astq C Wd 1 0 38 9 [(h0, .inr (4, [.null, .null, .null, .int 0, .int 0, .ref q573, .null, .null, .null, .null])), (q573, .inl (e574, 12, .inr (.inr (.inr (.inr (va_up (va_up (va_up (va_up (va_up (va_up (va_up (va_up (va_up (va_up (fun _ => none) 0 (some q576)) 1 (some q586)) 2 (some q596)) 3 (some q606)) 4 (some q616)) 5 (some q626)) 6 (some q636)) 7 (some q646)) 8 (some q656)) 9 (some q666))))))), (q576, .inr (9, [.ref q578, .ref q579, .int 0, .ref q580, .ref q581])), (q578, .inr (8, [.ref q582, .int 0])), (q582, .inl (e583, 40, .inl (fun _ => 0))), (q579, .inr (8, [.ref q584, .int 0])), (q586, .inr (9, [.ref q588, .ref q589, .int 0, .ref q590, .ref q591])), (q588, .inr (8, [.ref q592, .int 0])), (q592, .inl (e593, 40, .inl (fun _ => 0))), (q589, .inr (8, [.ref q594, .int 0])), (q596, .inr (9, [.ref q598, .ref q599, .int 0, .ref q600, .ref q601])), (q598, .inr (8, [.ref q602, .int 0])), (q602, .inl (e603, 40, .inl (fun _ => 0))), (q599, .inr (8, [.ref q604, .int 0])), (q606, .inr (9, [.ref q608, .ref q609, .int 0, .ref q610, .ref q611])), (q608, .inr (8, [.ref q612, .int 0])), (q612, .inl (e613, 40, .inl (fun _ => 0))), (q609, .inr (8, [.ref q614, .int 0])), (q616, .inr (9, [.ref q618, .ref q619, .int 0, .ref q620, .ref q621])), (q618, .inr (8, [.ref q622, .int 0])), (q622, .inl (e623, 40, .inl (fun _ => 0))), (q619, .inr (8, [.ref q624, .int 0])), (q626, .inr (9, [.ref q628, .ref q629, .int 0, .ref q630, .ref q631])), (q628, .inr (8, [.ref q632, .int 0])), (q632, .inl (e633, 40, .inl (fun _ => 0))), (q629, .inr (8, [.ref q634, .int 0])), (q636, .inr (9, [.ref q638, .ref q639, .int 0, .ref q640, .ref q641])), (q638, .inr (8, [.ref q642, .int 0])), (q642, .inl (e643, 40, .inl (fun _ => 0))), (q639, .inr (8, [.ref q644, .int 0])), (q646, .inr (9, [.ref q648, .ref q649, .int 0, .ref q650, .ref q651])), (q648, .inr (8, [.ref q652, .int 0])), (q652, .inl (e653, 40, .inl (fun _ => 0))), (q649, .inr (8, [.ref q654, .int 0])), (q656, .inr (9, [.ref q658, .ref q659, .int 0, .ref q660, .ref q661])), (q658, .inr (8, [.ref q662, .int 0])), (q662, .inl (e663, 40, .inl (fun _ => 0))), (q659, .inr (8, [.ref q664, .int 0])), (q666, .inr (9, [.ref q668, .ref q669, .int 0, .ref q670, .ref q671])), (q668, .inr (8, [.ref q672, .int 0])), (q672, .inl (e673, 40, .inl (fun _ => 0))), (q669, .inr (8, [.ref q674, .int 0]))] rfl rfl rfl rfl (vp_in_iff.mpr (by decide)) rfl rfl dX4_init_33 (fun H locs Wd => ?_)
  refine lv_iinc (v := 10) (lv' := [(1, .int 10), (0, .ref h0)]) C.1 C.2.1 dX4_init_34 hl (k := 0) rfl (by decide) (by decide) rfl (fun ls hl => ?_)
  refine lv_goto (tgt := 15) C.1 C.2.1 dX4_init_37 (by decide) ?_
  refine lv_iload_n C.1 C.2.1 dX4_init_15 rfl (lv_at hl 0 rfl) ?_
  refine lv_bipush (v := 12) C.1 C.2.1 dX4_init_16 (by decide) ?_
  refine lv_icmp_ge (tgt := 40) C.1 C.2.1 dX4_init_18 (by decide) (fun c675 => absurd c675 (by decide)) (fun _ => ?_)
  refine lv_aload_n C.1 C.2.1 dX4_init_21 rfl (lv_at hl 1 rfl) ?_
  refine k_get C Wd KX4 0 5 rfl (by decide) fl_X4_11 rfl dX4_init_22 ?_
  refine lv_iload_n C.1 C.2.1 dX4_init_25 rfl (lv_at hl 0 rfl) ?_
  refine k_new C Wd KX9 cl_X4_9 is_X9 in_X9 [.null, .null, .int 0, .null, .null] (by decide +kernel) (cells' := 72) (slots' := 967) (Nat.le_of_ble_eq_true rfl) (Nat.le_of_ble_eq_true rfl) (by decide) (by decide) dX4_init_26 (fun q676 H Wd => ?_)
  have Wd : wX D [(e574, .object RX9), (e583, .int), (e593, .int), (e603, .int), (e613, .int), (e623, .int), (e633, .int), (e643, .int), (e653, .int), (e663, .int), (e673, .int)] s [(h0, .inr (4, [.null, .null, .null, .int 0, .int 0, .ref q573, .null, .null, .null, .null])), (q573, .inl (e574, 12, .inr (.inr (.inr (.inr (va_up (va_up (va_up (va_up (va_up (va_up (va_up (va_up (va_up (va_up (fun _ => none) 0 (some q576)) 1 (some q586)) 2 (some q596)) 3 (some q606)) 4 (some q616)) 5 (some q626)) 6 (some q636)) 7 (some q646)) 8 (some q656)) 9 (some q666))))))), (q576, .inr (9, [.ref q578, .ref q579, .int 0, .ref q580, .ref q581])), (q578, .inr (8, [.ref q582, .int 0])), (q582, .inl (e583, 40, .inl (fun _ => 0))), (q579, .inr (8, [.ref q584, .int 0])), (q586, .inr (9, [.ref q588, .ref q589, .int 0, .ref q590, .ref q591])), (q588, .inr (8, [.ref q592, .int 0])), (q592, .inl (e593, 40, .inl (fun _ => 0))), (q589, .inr (8, [.ref q594, .int 0])), (q596, .inr (9, [.ref q598, .ref q599, .int 0, .ref q600, .ref q601])), (q598, .inr (8, [.ref q602, .int 0])), (q602, .inl (e603, 40, .inl (fun _ => 0))), (q599, .inr (8, [.ref q604, .int 0])), (q606, .inr (9, [.ref q608, .ref q609, .int 0, .ref q610, .ref q611])), (q608, .inr (8, [.ref q612, .int 0])), (q612, .inl (e613, 40, .inl (fun _ => 0))), (q609, .inr (8, [.ref q614, .int 0])), (q616, .inr (9, [.ref q618, .ref q619, .int 0, .ref q620, .ref q621])), (q618, .inr (8, [.ref q622, .int 0])), (q622, .inl (e623, 40, .inl (fun _ => 0))), (q619, .inr (8, [.ref q624, .int 0])), (q626, .inr (9, [.ref q628, .ref q629, .int 0, .ref q630, .ref q631])), (q628, .inr (8, [.ref q632, .int 0])), (q632, .inl (e633, 40, .inl (fun _ => 0))), (q629, .inr (8, [.ref q634, .int 0])), (q636, .inr (9, [.ref q638, .ref q639, .int 0, .ref q640, .ref q641])), (q638, .inr (8, [.ref q642, .int 0])), (q642, .inl (e643, 40, .inl (fun _ => 0))), (q639, .inr (8, [.ref q644, .int 0])), (q646, .inr (9, [.ref q648, .ref q649, .int 0, .ref q650, .ref q651])), (q648, .inr (8, [.ref q652, .int 0])), (q652, .inl (e653, 40, .inl (fun _ => 0))), (q649, .inr (8, [.ref q654, .int 0])), (q656, .inr (9, [.ref q658, .ref q659, .int 0, .ref q660, .ref q661])), (q658, .inr (8, [.ref q662, .int 0])), (q662, .inl (e663, 40, .inl (fun _ => 0))), (q659, .inr (8, [.ref q664, .int 0])), (q666, .inr (9, [.ref q668, .ref q669, .int 0, .ref q670, .ref q671])), (q668, .inr (8, [.ref q672, .int 0])), (q672, .inl (e673, 40, .inl (fun _ => 0))), (q669, .inr (8, [.ref q674, .int 0])), (q676, .inr (9, [.null, .null, .int 0, .null, .null]))] _ A s.heap _ := Wd
  refine lv_dup C.1 C.2.1 dX4_init_29 rfl ?_
  refine k_cv Wd [42] [0, 1, 2, 3, 4, 5, 6, 7, 8, 9, 10, 11, 12, 13, 14, 15, 16, 17, 18, 19, 20, 21, 22, 23, 24, 25, 26, 27, 28, 29, 30, 31, 32, 33, 34, 35, 36, 37, 38, 39, 40, 41] rfl (wr := [(h0, .inr (4, [.null, .null, .null, .int 0, .int 0, .ref q573, .null, .null, .null, .null])), (q573, .inl (e574, 12, .inr (.inr (.inr (.inr (va_up (va_up (va_up (va_up (va_up (va_up (va_up (va_up (va_up (va_up (fun _ => none) 0 (some q576)) 1 (some q586)) 2 (some q596)) 3 (some q606)) 4 (some q616)) 5 (some q626)) 6 (some q636)) 7 (some q646)) 8 (some q656)) 9 (some q666))))))), (q576, .inr (9, [.ref q578, .ref q579, .int 0, .ref q580, .ref q581])), (q578, .inr (8, [.ref q582, .int 0])), (q582, .inl (e583, 40, .inl (fun _ => 0))), (q579, .inr (8, [.ref q584, .int 0])), (q586, .inr (9, [.ref q588, .ref q589, .int 0, .ref q590, .ref q591])), (q588, .inr (8, [.ref q592, .int 0])), (q592, .inl (e593, 40, .inl (fun _ => 0))), (q589, .inr (8, [.ref q594, .int 0])), (q596, .inr (9, [.ref q598, .ref q599, .int 0, .ref q600, .ref q601])), (q598, .inr (8, [.ref q602, .int 0])), (q602, .inl (e603, 40, .inl (fun _ => 0))), (q599, .inr (8, [.ref q604, .int 0])), (q606, .inr (9, [.ref q608, .ref q609, .int 0, .ref q610, .ref q611])), (q608, .inr (8, [.ref q612, .int 0])), (q612, .inl (e613, 40, .inl (fun _ => 0))), (q609, .inr (8, [.ref q614, .int 0])), (q616, .inr (9, [.ref q618, .ref q619, .int 0, .ref q620, .ref q621])), (q618, .inr (8, [.ref q622, .int 0])), (q622, .inl (e623, 40, .inl (fun _ => 0))), (q619, .inr (8, [.ref q624, .int 0])), (q626, .inr (9, [.ref q628, .ref q629, .int 0, .ref q630, .ref q631])), (q628, .inr (8, [.ref q632, .int 0])), (q632, .inl (e633, 40, .inl (fun _ => 0))), (q629, .inr (8, [.ref q634, .int 0])), (q636, .inr (9, [.ref q638, .ref q639, .int 0, .ref q640, .ref q641])), (q638, .inr (8, [.ref q642, .int 0])), (q642, .inl (e643, 40, .inl (fun _ => 0))), (q639, .inr (8, [.ref q644, .int 0])), (q646, .inr (9, [.ref q648, .ref q649, .int 0, .ref q650, .ref q651])), (q648, .inr (8, [.ref q652, .int 0])), (q652, .inl (e653, 40, .inl (fun _ => 0))), (q649, .inr (8, [.ref q654, .int 0])), (q656, .inr (9, [.ref q658, .ref q659, .int 0, .ref q660, .ref q661])), (q658, .inr (8, [.ref q662, .int 0])), (q662, .inl (e663, 40, .inl (fun _ => 0))), (q659, .inr (8, [.ref q664, .int 0])), (q666, .inr (9, [.ref q668, .ref q669, .int 0, .ref q670, .ref q671])), (q668, .inr (8, [.ref q672, .int 0])), (q672, .inl (e673, 40, .inl (fun _ => 0))), (q669, .inr (8, [.ref q674, .int 0]))]) rfl (by decide) (by decide) (cells' := 78) (slots' := 1057) (by decide) (by decide) (k_runI (rest := [.ref q676, .int 10, .ref q573]) C aks Wd cs_X4_17 (kcX9_init l D q676 _ ) [42] rfl (by decide) [] rfl rfl rfl ⟨(Nat.le_of_ble_eq_true rfl), (Nat.le_of_ble_eq_true rfl)⟩ hl.1 rfl rfl (Nat.le_of_ble_eq_true rfl) ⟨(Nat.le_of_ble_eq_true rfl), (Nat.le_of_ble_eq_true rfl)⟩ dX4_init_30) (fun u H locs w677 Wd => ?_)
  obtain ⟨q678, q679, q680, q681, q682, e683, q684⟩ := u
  have Wd : wX D [(e574, .object RX9), (e583, .int), (e593, .int), (e603, .int), (e613, .int), (e623, .int), (e633, .int), (e643, .int), (e653, .int), (e663, .int), (e673, .int), (e683, .int)] s [(h0, .inr (4, [.null, .null, .null, .int 0, .int 0, .ref q573, .null, .null, .null, .null])), (q573, .inl (e574, 12, .inr (.inr (.inr (.inr (va_up (va_up (va_up (va_up (va_up (va_up (va_up (va_up (va_up (va_up (fun _ => none) 0 (some q576)) 1 (some q586)) 2 (some q596)) 3 (some q606)) 4 (some q616)) 5 (some q626)) 6 (some q636)) 7 (some q646)) 8 (some q656)) 9 (some q666))))))), (q576, .inr (9, [.ref q578, .ref q579, .int 0, .ref q580, .ref q581])), (q578, .inr (8, [.ref q582, .int 0])), (q582, .inl (e583, 40, .inl (fun _ => 0))), (q579, .inr (8, [.ref q584, .int 0])), (q586, .inr (9, [.ref q588, .ref q589, .int 0, .ref q590, .ref q591])), (q588, .inr (8, [.ref q592, .int 0])), (q592, .inl (e593, 40, .inl (fun _ => 0))), (q589, .inr (8, [.ref q594, .int 0])), (q596, .inr (9, [.ref q598, .ref q599, .int 0, .ref q600, .ref q601])), (q598, .inr (8, [.ref q602, .int 0])), (q602, .inl (e603, 40, .inl (fun _ => 0))), (q599, .inr (8, [.ref q604, .int 0])), (q606, .inr (9, [.ref q608, .ref q609, .int 0, .ref q610, .ref q611])), (q608, .inr (8, [.ref q612, .int 0])), (q612, .inl (e613, 40, .inl (fun _ => 0))), (q609, .inr (8, [.ref q614, .int 0])), (q616, .inr (9, [.ref q618, .ref q619, .int 0, .ref q620, .ref q621])), (q618, .inr (8, [.ref q622, .int 0])), (q622, .inl (e623, 40, .inl (fun _ => 0))), (q619, .inr (8, [.ref q624, .int 0])), (q626, .inr (9, [.ref q628, .ref q629, .int 0, .ref q630, .ref q631])), (q628, .inr (8, [.ref q632, .int 0])), (q632, .inl (e633, 40, .inl (fun _ => 0))), (q629, .inr (8, [.ref q634, .int 0])), (q636, .inr (9, [.ref q638, .ref q639, .int 0, .ref q640, .ref q641])), (q638, .inr (8, [.ref q642, .int 0])), (q642, .inl (e643, 40, .inl (fun _ => 0))), (q639, .inr (8, [.ref q644, .int 0])), (q646, .inr (9, [.ref q648, .ref q649, .int 0, .ref q650, .ref q651])), (q648, .inr (8, [.ref q652, .int 0])), (q652, .inl (e653, 40, .inl (fun _ => 0))), (q649, .inr (8, [.ref q654, .int 0])), (q656, .inr (9, [.ref q658, .ref q659, .int 0, .ref q660, .ref q661])), (q658, .inr (8, [.ref q662, .int 0])), (q662, .inl (e663, 40, .inl (fun _ => 0))), (q659, .inr (8, [.ref q664, .int 0])), (q666, .inr (9, [.ref q668, .ref q669, .int 0, .ref q670, .ref q671])), (q668, .inr (8, [.ref q672, .int 0])), (q672, .inl (e673, 40, .inl (fun _ => 0))), (q669, .inr (8, [.ref q674, .int 0])), (q676, .inr (9, [.ref q678, .ref q679, .int 0, .ref q680, .ref q681])), (q678, .inr (8, [.ref q682, .int 0])), (q682, .inl (e683, 40, .inl (fun _ => 0))), (q679, .inr (8, [.ref q684, .int 0]))] _ A s.heap _ := Wd
  refine k_astq C Wd 1 0 42 9 [(h0, .inr (4, [.null, .null, .null, .int 0, .int 0, .ref q573, .null, .null, .null, .null])), (q573, .inl (e574, 12, .inr (.inr (.inr (.inr (va_up (va_up (va_up (va_up (va_up (va_up (va_up (va_up (va_up (va_up (va_up (fun _ => none) 0 (some q576)) 1 (some q586)) 2 (some q596)) 3 (some q606)) 4 (some q616)) 5 (some q626)) 6 (some q636)) 7 (some q646)) 8 (some q656)) 9 (some q666)) 10 (some q676))))))), (q576, .inr (9, [.ref q578, .ref q579, .int 0, .ref q580, .ref q581])), (q578, .inr (8, [.ref q582, .int 0])), (q582, .inl (e583, 40, .inl (fun _ => 0))), (q579, .inr (8, [.ref q584, .int 0])), (q586, .inr (9, [.ref q588, .ref q589, .int 0, .ref q590, .ref q591])), (q588, .inr (8, [.ref q592, .int 0])), (q592, .inl (e593, 40, .inl (fun _ => 0))), (q589, .inr (8, [.ref q594, .int 0])), (q596, .inr (9, [.ref q598, .ref q599, .int 0, .ref q600, .ref q601])), (q598, .inr (8, [.ref q602, .int 0])), (q602, .inl (e603, 40, .inl (fun _ => 0))), (q599, .inr (8, [.ref q604, .int 0])), (q606, .inr (9, [.ref q608, .ref q609, .int 0, .ref q610, .ref q611])), (q608, .inr (8, [.ref q612, .int 0])), (q612, .inl (e613, 40, .inl (fun _ => 0))), (q609, .inr (8, [.ref q614, .int 0])), (q616, .inr (9, [.ref q618, .ref q619, .int 0, .ref q620, .ref q621])), (q618, .inr (8, [.ref q622, .int 0])), (q622, .inl (e623, 40, .inl (fun _ => 0))), (q619, .inr (8, [.ref q624, .int 0])), (q626, .inr (9, [.ref q628, .ref q629, .int 0, .ref q630, .ref q631])), (q628, .inr (8, [.ref q632, .int 0])), (q632, .inl (e633, 40, .inl (fun _ => 0))), (q629, .inr (8, [.ref q634, .int 0])), (q636, .inr (9, [.ref q638, .ref q639, .int 0, .ref q640, .ref q641])), (q638, .inr (8, [.ref q642, .int 0])), (q642, .inl (e643, 40, .inl (fun _ => 0))), (q639, .inr (8, [.ref q644, .int 0])), (q646, .inr (9, [.ref q648, .ref q649, .int 0, .ref q650, .ref q651])), (q648, .inr (8, [.ref q652, .int 0])), (q652, .inl (e653, 40, .inl (fun _ => 0))), (q649, .inr (8, [.ref q654, .int 0])), (q656, .inr (9, [.ref q658, .ref q659, .int 0, .ref q660, .ref q661])), (q658, .inr (8, [.ref q662, .int 0])), (q662, .inl (e663, 40, .inl (fun _ => 0))), (q659, .inr (8, [.ref q664, .int 0])), (q666, .inr (9, [.ref q668, .ref q669, .int 0, .ref q670, .ref q671])), (q668, .inr (8, [.ref q672, .int 0])), (q672, .inl (e673, 40, .inl (fun _ => 0))), (q669, .inr (8, [.ref q674, .int 0])), (q676, .inr (9, [.ref q678, .ref q679, .int 0, .ref q680, .ref q681])), (q678, .inr (8, [.ref q682, .int 0])), (q682, .inl (e683, 40, .inl (fun _ => 0))), (q679, .inr (8, [.ref q684, .int 0]))] rfl rfl rfl rfl (vp_in_iff.mpr (by decide)) rfl rfl dX4_init_33 (fun H locs Wd => ?_)
  refine lv_iinc (v := 11) (lv' := [(1, .int 11), (0, .ref h0)]) C.1 C.2.1 dX4_init_34 hl (k := 0) rfl (by decide) (by decide) rfl (fun ls hl => ?_)
  refine lv_goto (tgt := 15) C.1 C.2.1 dX4_init_37 (by decide) ?_
  refine lv_iload_n C.1 C.2.1 dX4_init_15 rfl (lv_at hl 0 rfl) ?_
  refine lv_bipush (v := 12) C.1 C.2.1 dX4_init_16 (by decide) ?_
  refine lv_icmp_ge (tgt := 40) C.1 C.2.1 dX4_init_18 (by decide) (fun c685 => absurd c685 (by decide)) (fun _ => ?_)
  refine lv_aload_n C.1 C.2.1 dX4_init_21 rfl (lv_at hl 1 rfl) ?_
  refine k_get C Wd KX4 0 5 rfl (by decide) fl_X4_11 rfl dX4_init_22 ?_
  refine lv_iload_n C.1 C.2.1 dX4_init_25 rfl (lv_at hl 0 rfl) ?_
  refine k_new C Wd KX9 cl_X4_9 is_X9 in_X9 [.null, .null, .int 0, .null, .null] (by decide +kernel) (cells' := 79) (slots' := 1062) (Nat.le_of_ble_eq_true rfl) (Nat.le_of_ble_eq_true rfl) (by decide) (by decide) dX4_init_26 (fun q686 H Wd => ?_)
  have Wd : wX D [(e574, .object RX9), (e583, .int), (e593, .int), (e603, .int), (e613, .int), (e623, .int), (e633, .int), (e643, .int), (e653, .int), (e663, .int), (e673, .int), (e683, .int)] s [(h0, .inr (4, [.null, .null, .null, .int 0, .int 0, .ref q573, .null, .null, .null, .null])), (q573, .inl (e574, 12, .inr (.inr (.inr (.inr (va_up (va_up (va_up (va_up (va_up (va_up (va_up (va_up (va_up (va_up (va_up (fun _ => none) 0 (some q576)) 1 (some q586)) 2 (some q596)) 3 (some q606)) 4 (some q616)) 5 (some q626)) 6 (some q636)) 7 (some q646)) 8 (some q656)) 9 (some q666)) 10 (some q676))))))), (q576, .inr (9, [.ref q578, .ref q579, .int 0, .ref q580, .ref q581])), (q578, .inr (8, [.ref q582, .int 0])), (q582, .inl (e583, 40, .inl (fun _ => 0))), (q579, .inr (8, [.ref q584, .int 0])), (q586, .inr (9, [.ref q588, .ref q589, .int 0, .ref q590, .ref q591])), (q588, .inr (8, [.ref q592, .int 0])), (q592, .inl (e593, 40, .inl (fun _ => 0))), (q589, .inr (8, [.ref q594, .int 0])), (q596, .inr (9, [.ref q598, .ref q599, .int 0, .ref q600, .ref q601])), (q598, .inr (8, [.ref q602, .int 0])), (q602, .inl (e603, 40, .inl (fun _ => 0))), (q599, .inr (8, [.ref q604, .int 0])), (q606, .inr (9, [.ref q608, .ref q609, .int 0, .ref q610, .ref q611])), (q608, .inr (8, [.ref q612, .int 0])), (q612, .inl (e613, 40, .inl (fun _ => 0))), (q609, .inr (8, [.ref q614, .int 0])), (q616, .inr (9, [.ref q618, .ref q619, .int 0, .ref q620, .ref q621])), (q618, .inr (8, [.ref q622, .int 0])), (q622, .inl (e623, 40, .inl (fun _ => 0))), (q619, .inr (8, [.ref q624, .int 0])), (q626, .inr (9, [.ref q628, .ref q629, .int 0, .ref q630, .ref q631])), (q628, .inr (8, [.ref q632, .int 0])), (q632, .inl (e633, 40, .inl (fun _ => 0))), (q629, .inr (8, [.ref q634, .int 0])), (q636, .inr (9, [.ref q638, .ref q639, .int 0, .ref q640, .ref q641])), (q638, .inr (8, [.ref q642, .int 0])), (q642, .inl (e643, 40, .inl (fun _ => 0))), (q639, .inr (8, [.ref q644, .int 0])), (q646, .inr (9, [.ref q648, .ref q649, .int 0, .ref q650, .ref q651])), (q648, .inr (8, [.ref q652, .int 0])), (q652, .inl (e653, 40, .inl (fun _ => 0))), (q649, .inr (8, [.ref q654, .int 0])), (q656, .inr (9, [.ref q658, .ref q659, .int 0, .ref q660, .ref q661])), (q658, .inr (8, [.ref q662, .int 0])), (q662, .inl (e663, 40, .inl (fun _ => 0))), (q659, .inr (8, [.ref q664, .int 0])), (q666, .inr (9, [.ref q668, .ref q669, .int 0, .ref q670, .ref q671])), (q668, .inr (8, [.ref q672, .int 0])), (q672, .inl (e673, 40, .inl (fun _ => 0))), (q669, .inr (8, [.ref q674, .int 0])), (q676, .inr (9, [.ref q678, .ref q679, .int 0, .ref q680, .ref q681])), (q678, .inr (8, [.ref q682, .int 0])), (q682, .inl (e683, 40, .inl (fun _ => 0))), (q679, .inr (8, [.ref q684, .int 0])), (q686, .inr (9, [.null, .null, .int 0, .null, .null]))] _ A s.heap _ := Wd
  refine lv_dup C.1 C.2.1 dX4_init_29 rfl ?_
  refine k_cv Wd [46] [0, 1, 2, 3, 4, 5, 6, 7, 8, 9, 10, 11, 12, 13, 14, 15, 16, 17, 18, 19, 20, 21, 22, 23, 24, 25, 26, 27, 28, 29, 30, 31, 32, 33, 34, 35, 36, 37, 38, 39, 40, 41, 42, 43, 44, 45] rfl (wr := [(h0, .inr (4, [.null, .null, .null, .int 0, .int 0, .ref q573, .null, .null, .null, .null])), (q573, .inl (e574, 12, .inr (.inr (.inr (.inr (va_up (va_up (va_up (va_up (va_up (va_up (va_up (va_up (va_up (va_up (va_up (fun _ => none) 0 (some q576)) 1 (some q586)) 2 (some q596)) 3 (some q606)) 4 (some q616)) 5 (some q626)) 6 (some q636)) 7 (some q646)) 8 (some q656)) 9 (some q666)) 10 (some q676))))))), (q576, .inr (9, [.ref q578, .ref q579, .int 0, .ref q580, .ref q581])), (q578, .inr (8, [.ref q582, .int 0])), (q582, .inl (e583, 40, .inl (fun _ => 0))), (q579, .inr (8, [.ref q584, .int 0])), (q586, .inr (9, [.ref q588, .ref q589, .int 0, .ref q590, .ref q591])), (q588, .inr (8, [.ref q592, .int 0])), (q592, .inl (e593, 40, .inl (fun _ => 0))), (q589, .inr (8, [.ref q594, .int 0])), (q596, .inr (9, [.ref q598, .ref q599, .int 0, .ref q600, .ref q601])), (q598, .inr (8, [.ref q602, .int 0])), (q602, .inl (e603, 40, .inl (fun _ => 0))), (q599, .inr (8, [.ref q604, .int 0])), (q606, .inr (9, [.ref q608, .ref q609, .int 0, .ref q610, .ref q611])), (q608, .inr (8, [.ref q612, .int 0])), (q612, .inl (e613, 40, .inl (fun _ => 0))), (q609, .inr (8, [.ref q614, .int 0])), (q616, .inr (9, [.ref q618, .ref q619, .int 0, .ref q620, .ref q621])), (q618, .inr (8, [.ref q622, .int 0])), (q622, .inl (e623, 40, .inl (fun _ => 0))), (q619, .inr (8, [.ref q624, .int 0])), (q626, .inr (9, [.ref q628, .ref q629, .int 0, .ref q630, .ref q631])), (q628, .inr (8, [.ref q632, .int 0])), (q632, .inl (e633, 40, .inl (fun _ => 0))), (q629, .inr (8, [.ref q634, .int 0])), (q636, .inr (9, [.ref q638, .ref q639, .int 0, .ref q640, .ref q641])), (q638, .inr (8, [.ref q642, .int 0])), (q642, .inl (e643, 40, .inl (fun _ => 0))), (q639, .inr (8, [.ref q644, .int 0])), (q646, .inr (9, [.ref q648, .ref q649, .int 0, .ref q650, .ref q651])), (q648, .inr (8, [.ref q652, .int 0])), (q652, .inl (e653, 40, .inl (fun _ => 0))), (q649, .inr (8, [.ref q654, .int 0])), (q656, .inr (9, [.ref q658, .ref q659, .int 0, .ref q660, .ref q661])), (q658, .inr (8, [.ref q662, .int 0])), (q662, .inl (e663, 40, .inl (fun _ => 0))), (q659, .inr (8, [.ref q664, .int 0])), (q666, .inr (9, [.ref q668, .ref q669, .int 0, .ref q670, .ref q671])), (q668, .inr (8, [.ref q672, .int 0])), (q672, .inl (e673, 40, .inl (fun _ => 0))), (q669, .inr (8, [.ref q674, .int 0])), (q676, .inr (9, [.ref q678, .ref q679, .int 0, .ref q680, .ref q681])), (q678, .inr (8, [.ref q682, .int 0])), (q682, .inl (e683, 40, .inl (fun _ => 0))), (q679, .inr (8, [.ref q684, .int 0]))]) rfl (by decide) (by decide) (cells' := 85) (slots' := 1152) (by decide) (by decide) (k_runI (rest := [.ref q686, .int 11, .ref q573]) C aks Wd cs_X4_17 (kcX9_init l D q686 _ ) [46] rfl (by decide) [] rfl rfl rfl ⟨(Nat.le_of_ble_eq_true rfl), (Nat.le_of_ble_eq_true rfl)⟩ hl.1 rfl rfl (Nat.le_of_ble_eq_true rfl) ⟨(Nat.le_of_ble_eq_true rfl), (Nat.le_of_ble_eq_true rfl)⟩ dX4_init_30) (fun u H locs w687 Wd => ?_)
  obtain ⟨q688, q689, q690, q691, q692, e693, q694⟩ := u
  have Wd : wX D [(e574, .object RX9), (e583, .int), (e593, .int), (e603, .int), (e613, .int), (e623, .int), (e633, .int), (e643, .int), (e653, .int), (e663, .int), (e673, .int), (e683, .int), (e693, .int)] s [(h0, .inr (4, [.null, .null, .null, .int 0, .int 0, .ref q573, .null, .null, .null, .null])), (q573, .inl (e574, 12, .inr (.inr (.inr (.inr (va_up (va_up (va_up (va_up (va_up (va_up (va_up (va_up (va_up (va_up (va_up (fun _ => none) 0 (some q576)) 1 (some q586)) 2 (some q596)) 3 (some q606)) 4 (some q616)) 5 (some q626)) 6 (some q636)) 7 (some q646)) 8 (some q656)) 9 (some q666)) 10 (some q676))))))), (q576, .inr (9, [.ref q578, .ref q579, .int 0, .ref q580, .ref q581])), (q578, .inr (8, [.ref q582, .int 0])), (q582, .inl (e583, 40, .inl (fun _ => 0))), (q579, .inr (8, [.ref q584, .int 0])), (q586, .inr (9, [.ref q588, .ref q589, .int 0, .ref q590, .ref q591])), (q588, .inr (8, [.ref q592, .int 0])), (q592, .inl (e593, 40, .inl (fun _ => 0))), (q589, .inr (8, [.ref q594, .int 0])), (q596, .inr (9, [.ref q598, .ref q599, .int 0, .ref q600, .ref q601])), (q598, .inr (8, [.ref q602, .int 0])), (q602, .inl (e603, 40, .inl (fun _ => 0))), (q599, .inr (8, [.ref q604, .int 0])), (q606, .inr (9, [.ref q608, .ref q609, .int 0, .ref q610, .ref q611])), (q608, .inr (8, [.ref q612, .int 0])), (q612, .inl (e613, 40, .inl (fun _ => 0))), (q609, .inr (8, [.ref q614, .int 0])), (q616, .inr (9, [.ref q618, .ref q619, .int 0, .ref q620, .ref q621])), (q618, .inr (8, [.ref q622, .int 0])), (q622, .inl (e623, 40, .inl (fun _ => 0))), (q619, .inr (8, [.ref q624, .int 0])), (q626, .inr (9, [.ref q628, .ref q629, .int 0, .ref q630, .ref q631])), (q628, .inr (8, [.ref q632, .int 0])), (q632, .inl (e633, 40, .inl (fun _ => 0))), (q629, .inr (8, [.ref q634, .int 0])), (q636, .inr (9, [.ref q638, .ref q639, .int 0, .ref q640, .ref q641])), (q638, .inr (8, [.ref q642, .int 0])), (q642, .inl (e643, 40, .inl (fun _ => 0))), (q639, .inr (8, [.ref q644, .int 0])), (q646, .inr (9, [.ref q648, .ref q649, .int 0, .ref q650, .ref q651])), (q648, .inr (8, [.ref q652, .int 0])), (q652, .inl (e653, 40, .inl (fun _ => 0))), (q649, .inr (8, [.ref q654, .int 0])), (q656, .inr (9, [.ref q658, .ref q659, .int 0, .ref q660, .ref q661])), (q658, .inr (8, [.ref q662, .int 0])), (q662, .inl (e663, 40, .inl (fun _ => 0))), (q659, .inr (8, [.ref q664, .int 0])), (q666, .inr (9, [.ref q668, .ref q669, .int 0, .ref q670, .ref q671])), (q668, .inr (8, [.ref q672, .int 0])), (q672, .inl (e673, 40, .inl (fun _ => 0))), (q669, .inr (8, [.ref q674, .int 0])), (q676, .inr (9, [.ref q678, .ref q679, .int 0, .ref q680, .ref q681])), (q678, .inr (8, [.ref q682, .int 0])), (q682, .inl (e683, 40, .inl (fun _ => 0))), (q679, .inr (8, [.ref q684, .int 0])), (q686, .inr (9, [.ref q688, .ref q689, .int 0, .ref q690, .ref q691])), (q688, .inr (8, [.ref q692, .int 0])), (q692, .inl (e693, 40, .inl (fun _ => 0))), (q689, .inr (8, [.ref q694, .int 0]))] _ A s.heap _ := Wd
  refine k_astq C Wd 1 0 46 9 [(h0, .inr (4, [.null, .null, .null, .int 0, .int 0, .ref q573, .null, .null, .null, .null])), (q573, .inl (e574, 12, .inr (.inr (.inr (.inr (va_up (va_up (va_up (va_up (va_up (va_up (va_up (va_up (va_up (va_up (va_up (va_up (fun _ => none) 0 (some q576)) 1 (some q586)) 2 (some q596)) 3 (some q606)) 4 (some q616)) 5 (some q626)) 6 (some q636)) 7 (some q646)) 8 (some q656)) 9 (some q666)) 10 (some q676)) 11 (some q686))))))), (q576, .inr (9, [.ref q578, .ref q579, .int 0, .ref q580, .ref q581])), (q578, .inr (8, [.ref q582, .int 0])), (q582, .inl (e583, 40, .inl (fun _ => 0))), (q579, .inr (8, [.ref q584, .int 0])), (q586, .inr (9, [.ref q588, .ref q589, .int 0, .ref q590, .ref q591])), (q588, .inr (8, [.ref q592, .int 0])), (q592, .inl (e593, 40, .inl (fun _ => 0))), (q589, .inr (8, [.ref q594, .int 0])), (q596, .inr (9, [.ref q598, .ref q599, .int 0, .ref q600, .ref q601])), (q598, .inr (8, [.ref q602, .int 0])), (q602, .inl (e603, 40, .inl (fun _ => 0))), (q599, .inr (8, [.ref q604, .int 0])), (q606, .inr (9, [.ref q608, .ref q609, .int 0, .ref q610, .ref q611])), (q608, .inr (8, [.ref q612, .int 0])), (q612, .inl (e613, 40, .inl (fun _ => 0))), (q609, .inr (8, [.ref q614, .int 0])), (q616, .inr (9, [.ref q618, .ref q619, .int 0, .ref q620, .ref q621])), (q618, .inr (8, [.ref q622, .int 0])), (q622, .inl (e623, 40, .inl (fun _ => 0))), (q619, .inr (8, [.ref q624, .int 0])), (q626, .inr (9, [.ref q628, .ref q629, .int 0, .ref q630, .ref q631])), (q628, .inr (8, [.ref q632, .int 0])), (q632, .inl (e633, 40, .inl (fun _ => 0))), (q629, .inr (8, [.ref q634, .int 0])), (q636, .inr (9, [.ref q638, .ref q639, .int 0, .ref q640, .ref q641])), (q638, .inr (8, [.ref q642, .int 0])), (q642, .inl (e643, 40, .inl (fun _ => 0))), (q639, .inr (8, [.ref q644, .int 0])), (q646, .inr (9, [.ref q648, .ref q649, .int 0, .ref q650, .ref q651])), (q648, .inr (8, [.ref q652, .int 0])), (q652, .inl (e653, 40, .inl (fun _ => 0))), (q649, .inr (8, [.ref q654, .int 0])), (q656, .inr (9, [.ref q658, .ref q659, .int 0, .ref q660, .ref q661])), (q658, .inr (8, [.ref q662, .int 0])), (q662, .inl (e663, 40, .inl (fun _ => 0))), (q659, .inr (8, [.ref q664, .int 0])), (q666, .inr (9, [.ref q668, .ref q669, .int 0, .ref q670, .ref q671])), (q668, .inr (8, [.ref q672, .int 0])), (q672, .inl (e673, 40, .inl (fun _ => 0))), (q669, .inr (8, [.ref q674, .int 0])), (q676, .inr (9, [.ref q678, .ref q679, .int 0, .ref q680, .ref q681])), (q678, .inr (8, [.ref q682, .int 0])), (q682, .inl (e683, 40, .inl (fun _ => 0))), (q679, .inr (8, [.ref q684, .int 0])), (q686, .inr (9, [.ref q688, .ref q689, .int 0, .ref q690, .ref q691])), (q688, .inr (8, [.ref q692, .int 0])), (q692, .inl (e693, 40, .inl (fun _ => 0))), (q689, .inr (8, [.ref q694, .int 0]))] rfl rfl rfl rfl (vp_in_iff.mpr (by decide)) rfl rfl dX4_init_33 (fun H locs Wd => ?_)
  refine lv_iinc (v := 12) (lv' := [(1, .int 12), (0, .ref h0)]) C.1 C.2.1 dX4_init_34 hl (k := 0) rfl (by decide) (by decide) rfl (fun ls hl => ?_)
  refine lv_goto (tgt := 15) C.1 C.2.1 dX4_init_37 (by decide) ?_
  refine lv_iload_n C.1 C.2.1 dX4_init_15 rfl (lv_at hl 0 rfl) ?_
  refine lv_bipush (v := 12) C.1 C.2.1 dX4_init_16 (by decide) ?_
  refine lv_icmp_ge (tgt := 40) C.1 C.2.1 dX4_init_18 (by decide) (fun _ => ?_) (fun c695 => absurd c695 (by decide))
  refine lv_aload_n C.1 C.2.1 dX4_init_40 rfl (lv_at hl 1 rfl) ?_
  refine lv_bipush (v := 6) C.1 C.2.1 dX4_init_41 (by decide) ?_
  refine lv_bipush (v := 8) C.1 C.2.1 dX4_init_43 (by decide) ?_
  refine k_mna C Wd cl_X4_18 aks.2.2 ac_int 1 rfl 6 8 (by decide) (by decide) (by decide) (by decide) (by decide) (by decide) (cells' := 92) (slots' := 1206) (Nat.le_of_ble_eq_true rfl) (Nat.le_of_ble_eq_true rfl) (by decide) (by decide) dX4_init_45 (fun q696 r698 e697 H Wd => ?_)
  have Wd : wX D [(e574, .object RX9), (e583, .int), (e593, .int), (e603, .int), (e613, .int), (e623, .int), (e633, .int), (e643, .int), (e653, .int), (e663, .int), (e673, .int), (e683, .int), (e693, .int), (e697, .array .int)] s [(h0, .inr (4, [.null, .null, .null, .int 0, .int 0, .ref q573, .null, .null, .null, .null])), (q573, .inl (e574, 12, .inr (.inr (.inr (.inr (va_up (va_up (va_up (va_up (va_up (va_up (va_up (va_up (va_up (va_up (va_up (va_up (fun _ => none) 0 (some q576)) 1 (some q586)) 2 (some q596)) 3 (some q606)) 4 (some q616)) 5 (some q626)) 6 (some q636)) 7 (some q646)) 8 (some q656)) 9 (some q666)) 10 (some q676)) 11 (some q686))))))), (q576, .inr (9, [.ref q578, .ref q579, .int 0, .ref q580, .ref q581])), (q578, .inr (8, [.ref q582, .int 0])), (q582, .inl (e583, 40, .inl (fun _ => 0))), (q579, .inr (8, [.ref q584, .int 0])), (q586, .inr (9, [.ref q588, .ref q589, .int 0, .ref q590, .ref q591])), (q588, .inr (8, [.ref q592, .int 0])), (q592, .inl (e593, 40, .inl (fun _ => 0))), (q589, .inr (8, [.ref q594, .int 0])), (q596, .inr (9, [.ref q598, .ref q599, .int 0, .ref q600, .ref q601])), (q598, .inr (8, [.ref q602, .int 0])), (q602, .inl (e603, 40, .inl (fun _ => 0))), (q599, .inr (8, [.ref q604, .int 0])), (q606, .inr (9, [.ref q608, .ref q609, .int 0, .ref q610, .ref q611])), (q608, .inr (8, [.ref q612, .int 0])), (q612, .inl (e613, 40, .inl (fun _ => 0))), (q609, .inr (8, [.ref q614, .int 0])), (q616, .inr (9, [.ref q618, .ref q619, .int 0, .ref q620, .ref q621])), (q618, .inr (8, [.ref q622, .int 0])), (q622, .inl (e623, 40, .inl (fun _ => 0))), (q619, .inr (8, [.ref q624, .int 0])), (q626, .inr (9, [.ref q628, .ref q629, .int 0, .ref q630, .ref q631])), (q628, .inr (8, [.ref q632, .int 0])), (q632, .inl (e633, 40, .inl (fun _ => 0))), (q629, .inr (8, [.ref q634, .int 0])), (q636, .inr (9, [.ref q638, .ref q639, .int 0, .ref q640, .ref q641])), (q638, .inr (8, [.ref q642, .int 0])), (q642, .inl (e643, 40, .inl (fun _ => 0))), (q639, .inr (8, [.ref q644, .int 0])), (q646, .inr (9, [.ref q648, .ref q649, .int 0, .ref q650, .ref q651])), (q648, .inr (8, [.ref q652, .int 0])), (q652, .inl (e653, 40, .inl (fun _ => 0))), (q649, .inr (8, [.ref q654, .int 0])), (q656, .inr (9, [.ref q658, .ref q659, .int 0, .ref q660, .ref q661])), (q658, .inr (8, [.ref q662, .int 0])), (q662, .inl (e663, 40, .inl (fun _ => 0))), (q659, .inr (8, [.ref q664, .int 0])), (q666, .inr (9, [.ref q668, .ref q669, .int 0, .ref q670, .ref q671])), (q668, .inr (8, [.ref q672, .int 0])), (q672, .inl (e673, 40, .inl (fun _ => 0))), (q669, .inr (8, [.ref q674, .int 0])), (q676, .inr (9, [.ref q678, .ref q679, .int 0, .ref q680, .ref q681])), (q678, .inr (8, [.ref q682, .int 0])), (q682, .inl (e683, 40, .inl (fun _ => 0))), (q679, .inr (8, [.ref q684, .int 0])), (q686, .inr (9, [.ref q688, .ref q689, .int 0, .ref q690, .ref q691])), (q688, .inr (8, [.ref q692, .int 0])), (q692, .inl (e693, 40, .inl (fun _ => 0))), (q689, .inr (8, [.ref q694, .int 0])), (q696, .inl (e697, 6, .inr (.inr (.inr (.inr (fun i => if i < 6 then some (r698 i) else none)))))), ((r698 0), .inl (e583, 8, .inl (fun _ => 0))), ((r698 1), .inl (e583, 8, .inl (fun _ => 0))), ((r698 2), .inl (e583, 8, .inl (fun _ => 0))), ((r698 3), .inl (e583, 8, .inl (fun _ => 0))), ((r698 4), .inl (e583, 8, .inl (fun _ => 0))), ((r698 5), .inl (e583, 8, .inl (fun _ => 0)))] _ A s.heap _ := Wd
  refine k_putF C Wd KX4 0 6 [(h0, .inr (4, [.null, .null, .null, .int 0, .int 0, .ref q573, .ref q696, .null, .null, .null])), (q573, .inl (e574, 12, .inr (.inr (.inr (.inr (va_up (va_up (va_up (va_up (va_up (va_up (va_up (va_up (va_up (va_up (va_up (va_up (fun _ => none) 0 (some q576)) 1 (some q586)) 2 (some q596)) 3 (some q606)) 4 (some q616)) 5 (some q626)) 6 (some q636)) 7 (some q646)) 8 (some q656)) 9 (some q666)) 10 (some q676)) 11 (some q686))))))), (q576, .inr (9, [.ref q578, .ref q579, .int 0, .ref q580, .ref q581])), (q578, .inr (8, [.ref q582, .int 0])), (q582, .inl (e583, 40, .inl (fun _ => 0))), (q579, .inr (8, [.ref q584, .int 0])), (q586, .inr (9, [.ref q588, .ref q589, .int 0, .ref q590, .ref q591])), (q588, .inr (8, [.ref q592, .int 0])), (q592, .inl (e593, 40, .inl (fun _ => 0))), (q589, .inr (8, [.ref q594, .int 0])), (q596, .inr (9, [.ref q598, .ref q599, .int 0, .ref q600, .ref q601])), (q598, .inr (8, [.ref q602, .int 0])), (q602, .inl (e603, 40, .inl (fun _ => 0))), (q599, .inr (8, [.ref q604, .int 0])), (q606, .inr (9, [.ref q608, .ref q609, .int 0, .ref q610, .ref q611])), (q608, .inr (8, [.ref q612, .int 0])), (q612, .inl (e613, 40, .inl (fun _ => 0))), (q609, .inr (8, [.ref q614, .int 0])), (q616, .inr (9, [.ref q618, .ref q619, .int 0, .ref q620, .ref q621])), (q618, .inr (8, [.ref q622, .int 0])), (q622, .inl (e623, 40, .inl (fun _ => 0))), (q619, .inr (8, [.ref q624, .int 0])), (q626, .inr (9, [.ref q628, .ref q629, .int 0, .ref q630, .ref q631])), (q628, .inr (8, [.ref q632, .int 0])), (q632, .inl (e633, 40, .inl (fun _ => 0))), (q629, .inr (8, [.ref q634, .int 0])), (q636, .inr (9, [.ref q638, .ref q639, .int 0, .ref q640, .ref q641])), (q638, .inr (8, [.ref q642, .int 0])), (q642, .inl (e643, 40, .inl (fun _ => 0))), (q639, .inr (8, [.ref q644, .int 0])), (q646, .inr (9, [.ref q648, .ref q649, .int 0, .ref q650, .ref q651])), (q648, .inr (8, [.ref q652, .int 0])), (q652, .inl (e653, 40, .inl (fun _ => 0))), (q649, .inr (8, [.ref q654, .int 0])), (q656, .inr (9, [.ref q658, .ref q659, .int 0, .ref q660, .ref q661])), (q658, .inr (8, [.ref q662, .int 0])), (q662, .inl (e663, 40, .inl (fun _ => 0))), (q659, .inr (8, [.ref q664, .int 0])), (q666, .inr (9, [.ref q668, .ref q669, .int 0, .ref q670, .ref q671])), (q668, .inr (8, [.ref q672, .int 0])), (q672, .inl (e673, 40, .inl (fun _ => 0))), (q669, .inr (8, [.ref q674, .int 0])), (q676, .inr (9, [.ref q678, .ref q679, .int 0, .ref q680, .ref q681])), (q678, .inr (8, [.ref q682, .int 0])), (q682, .inl (e683, 40, .inl (fun _ => 0))), (q679, .inr (8, [.ref q684, .int 0])), (q686, .inr (9, [.ref q688, .ref q689, .int 0, .ref q690, .ref q691])), (q688, .inr (8, [.ref q692, .int 0])), (q692, .inl (e693, 40, .inl (fun _ => 0))), (q689, .inr (8, [.ref q694, .int 0])), (q696, .inl (e697, 6, .inr (.inr (.inr (.inr (fun i => if i < 6 then some (r698 i) else none)))))), ((r698 0), .inl (e583, 8, .inl (fun _ => 0))), ((r698 1), .inl (e583, 8, .inl (fun _ => 0))), ((r698 2), .inl (e583, 8, .inl (fun _ => 0))), ((r698 3), .inl (e583, 8, .inl (fun _ => 0))), ((r698 4), .inl (e583, 8, .inl (fun _ => 0))), ((r698 5), .inl (e583, 8, .inl (fun _ => 0)))] rfl (by decide) fl_X4_20 rfl hin rfl rfl rfl (Nat.le_of_ble_eq_true rfl) rfl dX4_init_49 (fun H locs Wd => ?_)
  refine lv_aload_n C.1 C.2.1 dX4_init_52 rfl (lv_at hl 1 rfl) ?_
  refine lv_bipush (v := 6) C.1 C.2.1 dX4_init_53 (by decide) ?_
  refine k_newa C Wd ac_int 6 (by decide) (by decide) (by decide) (cells' := 93) (slots' := 1212) (Nat.le_of_ble_eq_true rfl) (Nat.le_of_ble_eq_true rfl) (by decide) (by decide) dX4_init_55 (fun q699 e700 H Wd => ?_)
  have Wd : wX D [(e574, .object RX9), (e583, .int), (e593, .int), (e603, .int), (e613, .int), (e623, .int), (e633, .int), (e643, .int), (e653, .int), (e663, .int), (e673, .int), (e683, .int), (e693, .int), (e697, .array .int), (e700, .int)] s [(h0, .inr (4, [.null, .null, .null, .int 0, .int 0, .ref q573, .ref q696, .null, .null, .null])), (q573, .inl (e574, 12, .inr (.inr (.inr (.inr (va_up (va_up (va_up (va_up (va_up (va_up (va_up (va_up (va_up (va_up (va_up (va_up (fun _ => none) 0 (some q576)) 1 (some q586)) 2 (some q596)) 3 (some q606)) 4 (some q616)) 5 (some q626)) 6 (some q636)) 7 (some q646)) 8 (some q656)) 9 (some q666)) 10 (some q676)) 11 (some q686))))))), (q576, .inr (9, [.ref q578, .ref q579, .int 0, .ref q580, .ref q581])), (q578, .inr (8, [.ref q582, .int 0])), (q582, .inl (e583, 40, .inl (fun _ => 0))), (q579, .inr (8, [.ref q584, .int 0])), (q586, .inr (9, [.ref q588, .ref q589, .int 0, .ref q590, .ref q591])), (q588, .inr (8, [.ref q592, .int 0])), (q592, .inl (e593, 40, .inl (fun _ => 0))), (q589, .inr (8, [.ref q594, .int 0])), (q596, .inr (9, [.ref q598, .ref q599, .int 0, .ref q600, .ref q601])), (q598, .inr (8, [.ref q602, .int 0])), (q602, .inl (e603, 40, .inl (fun _ => 0))), (q599, .inr (8, [.ref q604, .int 0])), (q606, .inr (9, [.ref q608, .ref q609, .int 0, .ref q610, .ref q611])), (q608, .inr (8, [.ref q612, .int 0])), (q612, .inl (e613, 40, .inl (fun _ => 0))), (q609, .inr (8, [.ref q614, .int 0])), (q616, .inr (9, [.ref q618, .ref q619, .int 0, .ref q620, .ref q621])), (q618, .inr (8, [.ref q622, .int 0])), (q622, .inl (e623, 40, .inl (fun _ => 0))), (q619, .inr (8, [.ref q624, .int 0])), (q626, .inr (9, [.ref q628, .ref q629, .int 0, .ref q630, .ref q631])), (q628, .inr (8, [.ref q632, .int 0])), (q632, .inl (e633, 40, .inl (fun _ => 0))), (q629, .inr (8, [.ref q634, .int 0])), (q636, .inr (9, [.ref q638, .ref q639, .int 0, .ref q640, .ref q641])), (q638, .inr (8, [.ref q642, .int 0])), (q642, .inl (e643, 40, .inl (fun _ => 0))), (q639, .inr (8, [.ref q644, .int 0])), (q646, .inr (9, [.ref q648, .ref q649, .int 0, .ref q650, .ref q651])), (q648, .inr (8, [.ref q652, .int 0])), (q652, .inl (e653, 40, .inl (fun _ => 0))), (q649, .inr (8, [.ref q654, .int 0])), (q656, .inr (9, [.ref q658, .ref q659, .int 0, .ref q660, .ref q661])), (q658, .inr (8, [.ref q662, .int 0])), (q662, .inl (e663, 40, .inl (fun _ => 0))), (q659, .inr (8, [.ref q664, .int 0])), (q666, .inr (9, [.ref q668, .ref q669, .int 0, .ref q670, .ref q671])), (q668, .inr (8, [.ref q672, .int 0])), (q672, .inl (e673, 40, .inl (fun _ => 0))), (q669, .inr (8, [.ref q674, .int 0])), (q676, .inr (9, [.ref q678, .ref q679, .int 0, .ref q680, .ref q681])), (q678, .inr (8, [.ref q682, .int 0])), (q682, .inl (e683, 40, .inl (fun _ => 0))), (q679, .inr (8, [.ref q684, .int 0])), (q686, .inr (9, [.ref q688, .ref q689, .int 0, .ref q690, .ref q691])), (q688, .inr (8, [.ref q692, .int 0])), (q692, .inl (e693, 40, .inl (fun _ => 0))), (q689, .inr (8, [.ref q694, .int 0])), (q696, .inl (e697, 6, .inr (.inr (.inr (.inr (fun i => if i < 6 then some (r698 i) else none)))))), ((r698 0), .inl (e583, 8, .inl (fun _ => 0))), ((r698 1), .inl (e583, 8, .inl (fun _ => 0))), ((r698 2), .inl (e583, 8, .inl (fun _ => 0))), ((r698 3), .inl (e583, 8, .inl (fun _ => 0))), ((r698 4), .inl (e583, 8, .inl (fun _ => 0))), ((r698 5), .inl (e583, 8, .inl (fun _ => 0))), (q699, .inl (e700, 6, .inl (fun _ => 0)))] _ A s.heap _ := Wd
  refine k_putF C Wd KX4 0 7 [(h0, .inr (4, [.null, .null, .null, .int 0, .int 0, .ref q573, .ref q696, .ref q699, .null, .null])), (q573, .inl (e574, 12, .inr (.inr (.inr (.inr (va_up (va_up (va_up (va_up (va_up (va_up (va_up (va_up (va_up (va_up (va_up (va_up (fun _ => none) 0 (some q576)) 1 (some q586)) 2 (some q596)) 3 (some q606)) 4 (some q616)) 5 (some q626)) 6 (some q636)) 7 (some q646)) 8 (some q656)) 9 (some q666)) 10 (some q676)) 11 (some q686))))))), (q576, .inr (9, [.ref q578, .ref q579, .int 0, .ref q580, .ref q581])), (q578, .inr (8, [.ref q582, .int 0])), (q582, .inl (e583, 40, .inl (fun _ => 0))), (q579, .inr (8, [.ref q584, .int 0])), (q586, .inr (9, [.ref q588, .ref q589, .int 0, .ref q590, .ref q591])), (q588, .inr (8, [.ref q592, .int 0])), (q592, .inl (e593, 40, .inl (fun _ => 0))), (q589, .inr (8, [.ref q594, .int 0])), (q596, .inr (9, [.ref q598, .ref q599, .int 0, .ref q600, .ref q601])), (q598, .inr (8, [.ref q602, .int 0])), (q602, .inl (e603, 40, .inl (fun _ => 0))), (q599, .inr (8, [.ref q604, .int 0])), (q606, .inr (9, [.ref q608, .ref q609, .int 0, .ref q610, .ref q611])), (q608, .inr (8, [.ref q612, .int 0])), (q612, .inl (e613, 40, .inl (fun _ => 0))), (q609, .inr (8, [.ref q614, .int 0])), (q616, .inr (9, [.ref q618, .ref q619, .int 0, .ref q620, .ref q621])), (q618, .inr (8, [.ref q622, .int 0])), (q622, .inl (e623, 40, .inl (fun _ => 0))), (q619, .inr (8, [.ref q624, .int 0])), (q626, .inr (9, [.ref q628, .ref q629, .int 0, .ref q630, .ref q631])), (q628, .inr (8, [.ref q632, .int 0])), (q632, .inl (e633, 40, .inl (fun _ => 0))), (q629, .inr (8, [.ref q634, .int 0])), (q636, .inr (9, [.ref q638, .ref q639, .int 0, .ref q640, .ref q641])), (q638, .inr (8, [.ref q642, .int 0])), (q642, .inl (e643, 40, .inl (fun _ => 0))), (q639, .inr (8, [.ref q644, .int 0])), (q646, .inr (9, [.ref q648, .ref q649, .int 0, .ref q650, .ref q651])), (q648, .inr (8, [.ref q652, .int 0])), (q652, .inl (e653, 40, .inl (fun _ => 0))), (q649, .inr (8, [.ref q654, .int 0])), (q656, .inr (9, [.ref q658, .ref q659, .int 0, .ref q660, .ref q661])), (q658, .inr (8, [.ref q662, .int 0])), (q662, .inl (e663, 40, .inl (fun _ => 0))), (q659, .inr (8, [.ref q664, .int 0])), (q666, .inr (9, [.ref q668, .ref q669, .int 0, .ref q670, .ref q671])), (q668, .inr (8, [.ref q672, .int 0])), (q672, .inl (e673, 40, .inl (fun _ => 0))), (q669, .inr (8, [.ref q674, .int 0])), (q676, .inr (9, [.ref q678, .ref q679, .int 0, .ref q680, .ref q681])), (q678, .inr (8, [.ref q682, .int 0])), (q682, .inl (e683, 40, .inl (fun _ => 0))), (q679, .inr (8, [.ref q684, .int 0])), (q686, .inr (9, [.ref q688, .ref q689, .int 0, .ref q690, .ref q691])), (q688, .inr (8, [.ref q692, .int 0])), (q692, .inl (e693, 40, .inl (fun _ => 0))), (q689, .inr (8, [.ref q694, .int 0])), (q696, .inl (e697, 6, .inr (.inr (.inr (.inr (fun i => if i < 6 then some (r698 i) else none)))))), ((r698 0), .inl (e583, 8, .inl (fun _ => 0))), ((r698 1), .inl (e583, 8, .inl (fun _ => 0))), ((r698 2), .inl (e583, 8, .inl (fun _ => 0))), ((r698 3), .inl (e583, 8, .inl (fun _ => 0))), ((r698 4), .inl (e583, 8, .inl (fun _ => 0))), ((r698 5), .inl (e583, 8, .inl (fun _ => 0))), (q699, .inl (e700, 6, .inl (fun _ => 0)))] rfl (by decide) fl_X4_23 rfl hin rfl rfl rfl (Nat.le_of_ble_eq_true rfl) rfl dX4_init_57 (fun H locs Wd => ?_)
  refine lv_aload_n C.1 C.2.1 dX4_init_60 rfl (lv_at hl 1 rfl) ?_
  refine k_new C Wd KX0 cl_X4_27 is_X0 in_X0 [.null, .null] (by decide +kernel) (cells' := 94) (slots' := 1214) (Nat.le_of_ble_eq_true rfl) (Nat.le_of_ble_eq_true rfl) (by decide) (by decide) dX4_init_61 (fun q701 H Wd => ?_)
  have Wd : wX D [(e574, .object RX9), (e583, .int), (e593, .int), (e603, .int), (e613, .int), (e623, .int), (e633, .int), (e643, .int), (e653, .int), (e663, .int), (e673, .int), (e683, .int), (e693, .int), (e697, .array .int), (e700, .int)] s [(h0, .inr (4, [.null, .null, .null, .int 0, .int 0, .ref q573, .ref q696, .ref q699, .null, .null])), (q573, .inl (e574, 12, .inr (.inr (.inr (.inr (va_up (va_up (va_up (va_up (va_up (va_up (va_up (va_up (va_up (va_up (va_up (va_up (fun _ => none) 0 (some q576)) 1 (some q586)) 2 (some q596)) 3 (some q606)) 4 (some q616)) 5 (some q626)) 6 (some q636)) 7 (some q646)) 8 (some q656)) 9 (some q666)) 10 (some q676)) 11 (some q686))))))), (q576, .inr (9, [.ref q578, .ref q579, .int 0, .ref q580, .ref q581])), (q578, .inr (8, [.ref q582, .int 0])), (q582, .inl (e583, 40, .inl (fun _ => 0))), (q579, .inr (8, [.ref q584, .int 0])), (q586, .inr (9, [.ref q588, .ref q589, .int 0, .ref q590, .ref q591])), (q588, .inr (8, [.ref q592, .int 0])), (q592, .inl (e593, 40, .inl (fun _ => 0))), (q589, .inr (8, [.ref q594, .int 0])), (q596, .inr (9, [.ref q598, .ref q599, .int 0, .ref q600, .ref q601])), (q598, .inr (8, [.ref q602, .int 0])), (q602, .inl (e603, 40, .inl (fun _ => 0))), (q599, .inr (8, [.ref q604, .int 0])), (q606, .inr (9, [.ref q608, .ref q609, .int 0, .ref q610, .ref q611])), (q608, .inr (8, [.ref q612, .int 0])), (q612, .inl (e613, 40, .inl (fun _ => 0))), (q609, .inr (8, [.ref q614, .int 0])), (q616, .inr (9, [.ref q618, .ref q619, .int 0, .ref q620, .ref q621])), (q618, .inr (8, [.ref q622, .int 0])), (q622, .inl (e623, 40, .inl (fun _ => 0))), (q619, .inr (8, [.ref q624, .int 0])), (q626, .inr (9, [.ref q628, .ref q629, .int 0, .ref q630, .ref q631])), (q628, .inr (8, [.ref q632, .int 0])), (q632, .inl (e633, 40, .inl (fun _ => 0))), (q629, .inr (8, [.ref q634, .int 0])), (q636, .inr (9, [.ref q638, .ref q639, .int 0, .ref q640, .ref q641])), (q638, .inr (8, [.ref q642, .int 0])), (q642, .inl (e643, 40, .inl (fun _ => 0))), (q639, .inr (8, [.ref q644, .int 0])), (q646, .inr (9, [.ref q648, .ref q649, .int 0, .ref q650, .ref q651])), (q648, .inr (8, [.ref q652, .int 0])), (q652, .inl (e653, 40, .inl (fun _ => 0))), (q649, .inr (8, [.ref q654, .int 0])), (q656, .inr (9, [.ref q658, .ref q659, .int 0, .ref q660, .ref q661])), (q658, .inr (8, [.ref q662, .int 0])), (q662, .inl (e663, 40, .inl (fun _ => 0))), (q659, .inr (8, [.ref q664, .int 0])), (q666, .inr (9, [.ref q668, .ref q669, .int 0, .ref q670, .ref q671])), (q668, .inr (8, [.ref q672, .int 0])), (q672, .inl (e673, 40, .inl (fun _ => 0))), (q669, .inr (8, [.ref q674, .int 0])), (q676, .inr (9, [.ref q678, .ref q679, .int 0, .ref q680, .ref q681])), (q678, .inr (8, [.ref q682, .int 0])), (q682, .inl (e683, 40, .inl (fun _ => 0))), (q679, .inr (8, [.ref q684, .int 0])), (q686, .inr (9, [.ref q688, .ref q689, .int 0, .ref q690, .ref q691])), (q688, .inr (8, [.ref q692, .int 0])), (q692, .inl (e693, 40, .inl (fun _ => 0))), (q689, .inr (8, [.ref q694, .int 0])), (q696, .inl (e697, 6, .inr (.inr (.inr (.inr (fun i => if i < 6 then some (r698 i) else none)))))), ((r698 0), .inl (e583, 8, .inl (fun _ => 0))), ((r698 1), .inl (e583, 8, .inl (fun _ => 0))), ((r698 2), .inl (e583, 8, .inl (fun _ => 0))), ((r698 3), .inl (e583, 8, .inl (fun _ => 0))), ((r698 4), .inl (e583, 8, .inl (fun _ => 0))), ((r698 5), .inl (e583, 8, .inl (fun _ => 0))), (q699, .inl (e700, 6, .inl (fun _ => 0))), (q701, .inr (0, [.null, .null]))] _ A s.heap _ := Wd
  refine lv_dup C.1 C.2.1 dX4_init_64 rfl ?_
  refine k_cv Wd [58] [0, 1, 2, 3, 4, 5, 6, 7, 8, 9, 10, 11, 12, 13, 14, 15, 16, 17, 18, 19, 20, 21, 22, 23, 24, 25, 26, 27, 28, 29, 30, 31, 32, 33, 34, 35, 36, 37, 38, 39, 40, 41, 42, 43, 44, 45, 46, 47, 48, 49, 50, 51, 52, 53, 54, 55, 56, 57] rfl (wr := [(h0, .inr (4, [.null, .null, .null, .int 0, .int 0, .ref q573, .ref q696, .ref q699, .null, .null])), (q573, .inl (e574, 12, .inr (.inr (.inr (.inr (va_up (va_up (va_up (va_up (va_up (va_up (va_up (va_up (va_up (va_up (va_up (va_up (fun _ => none) 0 (some q576)) 1 (some q586)) 2 (some q596)) 3 (some q606)) 4 (some q616)) 5 (some q626)) 6 (some q636)) 7 (some q646)) 8 (some q656)) 9 (some q666)) 10 (some q676)) 11 (some q686))))))), (q576, .inr (9, [.ref q578, .ref q579, .int 0, .ref q580, .ref q581])), (q578, .inr (8, [.ref q582, .int 0])), (q582, .inl (e583, 40, .inl (fun _ => 0))), (q579, .inr (8, [.ref q584, .int 0])), (q586, .inr (9, [.ref q588, .ref q589, .int 0, .ref q590, .ref q591])), (q588, .inr (8, [.ref q592, .int 0])), (q592, .inl (e593, 40, .inl (fun _ => 0))), (q589, .inr (8, [.ref q594, .int 0])), (q596, .inr (9, [.ref q598, .ref q599, .int 0, .ref q600, .ref q601])), (q598, .inr (8, [.ref q602, .int 0])), (q602, .inl (e603, 40, .inl (fun _ => 0))), (q599, .inr (8, [.ref q604, .int 0])), (q606, .inr (9, [.ref q608, .ref q609, .int 0, .ref q610, .ref q611])), (q608, .inr (8, [.ref q612, .int 0])), (q612, .inl (e613, 40, .inl (fun _ => 0))), (q609, .inr (8, [.ref q614, .int 0])), (q616, .inr (9, [.ref q618, .ref q619, .int 0, .ref q620, .ref q621])), (q618, .inr (8, [.ref q622, .int 0])), (q622, .inl (e623, 40, .inl (fun _ => 0))), (q619, .inr (8, [.ref q624, .int 0])), (q626, .inr (9, [.ref q628, .ref q629, .int 0, .ref q630, .ref q631])), (q628, .inr (8, [.ref q632, .int 0])), (q632, .inl (e633, 40, .inl (fun _ => 0))), (q629, .inr (8, [.ref q634, .int 0])), (q636, .inr (9, [.ref q638, .ref q639, .int 0, .ref q640, .ref q641])), (q638, .inr (8, [.ref q642, .int 0])), (q642, .inl (e643, 40, .inl (fun _ => 0))), (q639, .inr (8, [.ref q644, .int 0])), (q646, .inr (9, [.ref q648, .ref q649, .int 0, .ref q650, .ref q651])), (q648, .inr (8, [.ref q652, .int 0])), (q652, .inl (e653, 40, .inl (fun _ => 0))), (q649, .inr (8, [.ref q654, .int 0])), (q656, .inr (9, [.ref q658, .ref q659, .int 0, .ref q660, .ref q661])), (q658, .inr (8, [.ref q662, .int 0])), (q662, .inl (e663, 40, .inl (fun _ => 0))), (q659, .inr (8, [.ref q664, .int 0])), (q666, .inr (9, [.ref q668, .ref q669, .int 0, .ref q670, .ref q671])), (q668, .inr (8, [.ref q672, .int 0])), (q672, .inl (e673, 40, .inl (fun _ => 0))), (q669, .inr (8, [.ref q674, .int 0])), (q676, .inr (9, [.ref q678, .ref q679, .int 0, .ref q680, .ref q681])), (q678, .inr (8, [.ref q682, .int 0])), (q682, .inl (e683, 40, .inl (fun _ => 0))), (q679, .inr (8, [.ref q684, .int 0])), (q686, .inr (9, [.ref q688, .ref q689, .int 0, .ref q690, .ref q691])), (q688, .inr (8, [.ref q692, .int 0])), (q692, .inl (e693, 40, .inl (fun _ => 0))), (q689, .inr (8, [.ref q694, .int 0])), (q696, .inl (e697, 6, .inr (.inr (.inr (.inr (fun i => if i < 6 then some (r698 i) else none)))))), ((r698 0), .inl (e583, 8, .inl (fun _ => 0))), ((r698 1), .inl (e583, 8, .inl (fun _ => 0))), ((r698 2), .inl (e583, 8, .inl (fun _ => 0))), ((r698 3), .inl (e583, 8, .inl (fun _ => 0))), ((r698 4), .inl (e583, 8, .inl (fun _ => 0))), ((r698 5), .inl (e583, 8, .inl (fun _ => 0))), (q699, .inl (e700, 6, .inl (fun _ => 0)))]) rfl (by decide) (by decide) (cells' := 111) (slots' := 3153) (by decide) (by decide) (k_runI (rest := [.ref q701, .ref h0]) C aks Wd cs_X4_29 (kcX0_init l D q701 _ ) [58] rfl (by decide) [] rfl rfl rfl ⟨(Nat.le_of_ble_eq_true rfl), (Nat.le_of_ble_eq_true rfl)⟩ hl.1 rfl rfl (Nat.le_of_ble_eq_true rfl) ⟨(Nat.le_of_ble_eq_true rfl), (Nat.le_of_ble_eq_true rfl)⟩ dX4_init_65) (fun _ H locs w702 Wd => ?_)
  have Wd : wX D [(e574, .object RX9), (e583, .int), (e593, .int), (e603, .int), (e613, .int), (e623, .int), (e633, .int), (e643, .int), (e653, .int), (e663, .int), (e673, .int), (e683, .int), (e693, .int), (e697, .array .int), (e700, .int)] s [(h0, .inr (4, [.null, .null, .null, .int 0, .int 0, .ref q573, .ref q696, .ref q699, .null, .null])), (q573, .inl (e574, 12, .inr (.inr (.inr (.inr (va_up (va_up (va_up (va_up (va_up (va_up (va_up (va_up (va_up (va_up (va_up (va_up (fun _ => none) 0 (some q576)) 1 (some q586)) 2 (some q596)) 3 (some q606)) 4 (some q616)) 5 (some q626)) 6 (some q636)) 7 (some q646)) 8 (some q656)) 9 (some q666)) 10 (some q676)) 11 (some q686))))))), (q576, .inr (9, [.ref q578, .ref q579, .int 0, .ref q580, .ref q581])), (q578, .inr (8, [.ref q582, .int 0])), (q582, .inl (e583, 40, .inl (fun _ => 0))), (q579, .inr (8, [.ref q584, .int 0])), (q586, .inr (9, [.ref q588, .ref q589, .int 0, .ref q590, .ref q591])), (q588, .inr (8, [.ref q592, .int 0])), (q592, .inl (e593, 40, .inl (fun _ => 0))), (q589, .inr (8, [.ref q594, .int 0])), (q596, .inr (9, [.ref q598, .ref q599, .int 0, .ref q600, .ref q601])), (q598, .inr (8, [.ref q602, .int 0])), (q602, .inl (e603, 40, .inl (fun _ => 0))), (q599, .inr (8, [.ref q604, .int 0])), (q606, .inr (9, [.ref q608, .ref q609, .int 0, .ref q610, .ref q611])), (q608, .inr (8, [.ref q612, .int 0])), (q612, .inl (e613, 40, .inl (fun _ => 0))), (q609, .inr (8, [.ref q614, .int 0])), (q616, .inr (9, [.ref q618, .ref q619, .int 0, .ref q620, .ref q621])), (q618, .inr (8, [.ref q622, .int 0])), (q622, .inl (e623, 40, .inl (fun _ => 0))), (q619, .inr (8, [.ref q624, .int 0])), (q626, .inr (9, [.ref q628, .ref q629, .int 0, .ref q630, .ref q631])), (q628, .inr (8, [.ref q632, .int 0])), (q632, .inl (e633, 40, .inl (fun _ => 0))), (q629, .inr (8, [.ref q634, .int 0])), (q636, .inr (9, [.ref q638, .ref q639, .int 0, .ref q640, .ref q641])), (q638, .inr (8, [.ref q642, .int 0])), (q642, .inl (e643, 40, .inl (fun _ => 0))), (q639, .inr (8, [.ref q644, .int 0])), (q646, .inr (9, [.ref q648, .ref q649, .int 0, .ref q650, .ref q651])), (q648, .inr (8, [.ref q652, .int 0])), (q652, .inl (e653, 40, .inl (fun _ => 0))), (q649, .inr (8, [.ref q654, .int 0])), (q656, .inr (9, [.ref q658, .ref q659, .int 0, .ref q660, .ref q661])), (q658, .inr (8, [.ref q662, .int 0])), (q662, .inl (e663, 40, .inl (fun _ => 0))), (q659, .inr (8, [.ref q664, .int 0])), (q666, .inr (9, [.ref q668, .ref q669, .int 0, .ref q670, .ref q671])), (q668, .inr (8, [.ref q672, .int 0])), (q672, .inl (e673, 40, .inl (fun _ => 0))), (q669, .inr (8, [.ref q674, .int 0])), (q676, .inr (9, [.ref q678, .ref q679, .int 0, .ref q680, .ref q681])), (q678, .inr (8, [.ref q682, .int 0])), (q682, .inl (e683, 40, .inl (fun _ => 0))), (q679, .inr (8, [.ref q684, .int 0])), (q686, .inr (9, [.ref q688, .ref q689, .int 0, .ref q690, .ref q691])), (q688, .inr (8, [.ref q692, .int 0])), (q692, .inl (e693, 40, .inl (fun _ => 0))), (q689, .inr (8, [.ref q694, .int 0])), (q696, .inl (e697, 6, .inr (.inr (.inr (.inr (fun i => if i < 6 then some (r698 i) else none)))))), ((r698 0), .inl (e583, 8, .inl (fun _ => 0))), ((r698 1), .inl (e583, 8, .inl (fun _ => 0))), ((r698 2), .inl (e583, 8, .inl (fun _ => 0))), ((r698 3), .inl (e583, 8, .inl (fun _ => 0))), ((r698 4), .inl (e583, 8, .inl (fun _ => 0))), ((r698 5), .inl (e583, 8, .inl (fun _ => 0))), (q699, .inl (e700, 6, .inl (fun _ => 0)))] _ A s.heap _ := Wd
  refine k_putF C Wd KX4 0 8 [(h0, .inr (4, [.null, .null, .null, .int 0, .int 0, .ref q573, .ref q696, .ref q699, .ref q701, .null])), (q573, .inl (e574, 12, .inr (.inr (.inr (.inr (va_up (va_up (va_up (va_up (va_up (va_up (va_up (va_up (va_up (va_up (va_up (va_up (fun _ => none) 0 (some q576)) 1 (some q586)) 2 (some q596)) 3 (some q606)) 4 (some q616)) 5 (some q626)) 6 (some q636)) 7 (some q646)) 8 (some q656)) 9 (some q666)) 10 (some q676)) 11 (some q686))))))), (q576, .inr (9, [.ref q578, .ref q579, .int 0, .ref q580, .ref q581])), (q578, .inr (8, [.ref q582, .int 0])), (q582, .inl (e583, 40, .inl (fun _ => 0))), (q579, .inr (8, [.ref q584, .int 0])), (q586, .inr (9, [.ref q588, .ref q589, .int 0, .ref q590, .ref q591])), (q588, .inr (8, [.ref q592, .int 0])), (q592, .inl (e593, 40, .inl (fun _ => 0))), (q589, .inr (8, [.ref q594, .int 0])), (q596, .inr (9, [.ref q598, .ref q599, .int 0, .ref q600, .ref q601])), (q598, .inr (8, [.ref q602, .int 0])), (q602, .inl (e603, 40, .inl (fun _ => 0))), (q599, .inr (8, [.ref q604, .int 0])), (q606, .inr (9, [.ref q608, .ref q609, .int 0, .ref q610, .ref q611])), (q608, .inr (8, [.ref q612, .int 0])), (q612, .inl (e613, 40, .inl (fun _ => 0))), (q609, .inr (8, [.ref q614, .int 0])), (q616, .inr (9, [.ref q618, .ref q619, .int 0, .ref q620, .ref q621])), (q618, .inr (8, [.ref q622, .int 0])), (q622, .inl (e623, 40, .inl (fun _ => 0))), (q619, .inr (8, [.ref q624, .int 0])), (q626, .inr (9, [.ref q628, .ref q629, .int 0, .ref q630, .ref q631])), (q628, .inr (8, [.ref q632, .int 0])), (q632, .inl (e633, 40, .inl (fun _ => 0))), (q629, .inr (8, [.ref q634, .int 0])), (q636, .inr (9, [.ref q638, .ref q639, .int 0, .ref q640, .ref q641])), (q638, .inr (8, [.ref q642, .int 0])), (q642, .inl (e643, 40, .inl (fun _ => 0))), (q639, .inr (8, [.ref q644, .int 0])), (q646, .inr (9, [.ref q648, .ref q649, .int 0, .ref q650, .ref q651])), (q648, .inr (8, [.ref q652, .int 0])), (q652, .inl (e653, 40, .inl (fun _ => 0))), (q649, .inr (8, [.ref q654, .int 0])), (q656, .inr (9, [.ref q658, .ref q659, .int 0, .ref q660, .ref q661])), (q658, .inr (8, [.ref q662, .int 0])), (q662, .inl (e663, 40, .inl (fun _ => 0))), (q659, .inr (8, [.ref q664, .int 0])), (q666, .inr (9, [.ref q668, .ref q669, .int 0, .ref q670, .ref q671])), (q668, .inr (8, [.ref q672, .int 0])), (q672, .inl (e673, 40, .inl (fun _ => 0))), (q669, .inr (8, [.ref q674, .int 0])), (q676, .inr (9, [.ref q678, .ref q679, .int 0, .ref q680, .ref q681])), (q678, .inr (8, [.ref q682, .int 0])), (q682, .inl (e683, 40, .inl (fun _ => 0))), (q679, .inr (8, [.ref q684, .int 0])), (q686, .inr (9, [.ref q688, .ref q689, .int 0, .ref q690, .ref q691])), (q688, .inr (8, [.ref q692, .int 0])), (q692, .inl (e693, 40, .inl (fun _ => 0))), (q689, .inr (8, [.ref q694, .int 0])), (q696, .inl (e697, 6, .inr (.inr (.inr (.inr (fun i => if i < 6 then some (r698 i) else none)))))), ((r698 0), .inl (e583, 8, .inl (fun _ => 0))), ((r698 1), .inl (e583, 8, .inl (fun _ => 0))), ((r698 2), .inl (e583, 8, .inl (fun _ => 0))), ((r698 3), .inl (e583, 8, .inl (fun _ => 0))), ((r698 4), .inl (e583, 8, .inl (fun _ => 0))), ((r698 5), .inl (e583, 8, .inl (fun _ => 0))), (q699, .inl (e700, 6, .inl (fun _ => 0)))] rfl (by decide) fl_X4_30 rfl hin rfl rfl rfl (Nat.le_of_ble_eq_true rfl) rfl dX4_init_68 (fun H locs Wd => ?_)
  refine lv_aload_n C.1 C.2.1 dX4_init_71 rfl (lv_at hl 1 rfl) ?_
  refine k_new C Wd KX8 cl_X4_34 is_X8 in_X8 [.null, .int 0] (by decide +kernel) (cells' := 112) (slots' := 3155) (Nat.le_of_ble_eq_true rfl) (Nat.le_of_ble_eq_true rfl) (by decide) (by decide) dX4_init_72 (fun q703 H Wd => ?_)
  have Wd : wX D [(e574, .object RX9), (e583, .int), (e593, .int), (e603, .int), (e613, .int), (e623, .int), (e633, .int), (e643, .int), (e653, .int), (e663, .int), (e673, .int), (e683, .int), (e693, .int), (e697, .array .int), (e700, .int)] s [(h0, .inr (4, [.null, .null, .null, .int 0, .int 0, .ref q573, .ref q696, .ref q699, .ref q701, .null])), (q573, .inl (e574, 12, .inr (.inr (.inr (.inr (va_up (va_up (va_up (va_up (va_up (va_up (va_up (va_up (va_up (va_up (va_up (va_up (fun _ => none) 0 (some q576)) 1 (some q586)) 2 (some q596)) 3 (some q606)) 4 (some q616)) 5 (some q626)) 6 (some q636)) 7 (some q646)) 8 (some q656)) 9 (some q666)) 10 (some q676)) 11 (some q686))))))), (q576, .inr (9, [.ref q578, .ref q579, .int 0, .ref q580, .ref q581])), (q578, .inr (8, [.ref q582, .int 0])), (q582, .inl (e583, 40, .inl (fun _ => 0))), (q579, .inr (8, [.ref q584, .int 0])), (q586, .inr (9, [.ref q588, .ref q589, .int 0, .ref q590, .ref q591])), (q588, .inr (8, [.ref q592, .int 0])), (q592, .inl (e593, 40, .inl (fun _ => 0))), (q589, .inr (8, [.ref q594, .int 0])), (q596, .inr (9, [.ref q598, .ref q599, .int 0, .ref q600, .ref q601])), (q598, .inr (8, [.ref q602, .int 0])), (q602, .inl (e603, 40, .inl (fun _ => 0))), (q599, .inr (8, [.ref q604, .int 0])), (q606, .inr (9, [.ref q608, .ref q609, .int 0, .ref q610, .ref q611])), (q608, .inr (8, [.ref q612, .int 0])), (q612, .inl (e613, 40, .inl (fun _ => 0))), (q609, .inr (8, [.ref q614, .int 0])), (q616, .inr (9, [.ref q618, .ref q619, .int 0, .ref q620, .ref q621])), (q618, .inr (8, [.ref q622, .int 0])), (q622, .inl (e623, 40, .inl (fun _ => 0))), (q619, .inr (8, [.ref q624, .int 0])), (q626, .inr (9, [.ref q628, .ref q629, .int 0, .ref q630, .ref q631])), (q628, .inr (8, [.ref q632, .int 0])), (q632, .inl (e633, 40, .inl (fun _ => 0))), (q629, .inr (8, [.ref q634, .int 0])), (q636, .inr (9, [.ref q638, .ref q639, .int 0, .ref q640, .ref q641])), (q638, .inr (8, [.ref q642, .int 0])), (q642, .inl (e643, 40, .inl (fun _ => 0))), (q639, .inr (8, [.ref q644, .int 0])), (q646, .inr (9, [.ref q648, .ref q649, .int 0, .ref q650, .ref q651])), (q648, .inr (8, [.ref q652, .int 0])), (q652, .inl (e653, 40, .inl (fun _ => 0))), (q649, .inr (8, [.ref q654, .int 0])), (q656, .inr (9, [.ref q658, .ref q659, .int 0, .ref q660, .ref q661])), (q658, .inr (8, [.ref q662, .int 0])), (q662, .inl (e663, 40, .inl (fun _ => 0))), (q659, .inr (8, [.ref q664, .int 0])), (q666, .inr (9, [.ref q668, .ref q669, .int 0, .ref q670, .ref q671])), (q668, .inr (8, [.ref q672, .int 0])), (q672, .inl (e673, 40, .inl (fun _ => 0))), (q669, .inr (8, [.ref q674, .int 0])), (q676, .inr (9, [.ref q678, .ref q679, .int 0, .ref q680, .ref q681])), (q678, .inr (8, [.ref q682, .int 0])), (q682, .inl (e683, 40, .inl (fun _ => 0))), (q679, .inr (8, [.ref q684, .int 0])), (q686, .inr (9, [.ref q688, .ref q689, .int 0, .ref q690, .ref q691])), (q688, .inr (8, [.ref q692, .int 0])), (q692, .inl (e693, 40, .inl (fun _ => 0))), (q689, .inr (8, [.ref q694, .int 0])), (q696, .inl (e697, 6, .inr (.inr (.inr (.inr (fun i => if i < 6 then some (r698 i) else none)))))), ((r698 0), .inl (e583, 8, .inl (fun _ => 0))), ((r698 1), .inl (e583, 8, .inl (fun _ => 0))), ((r698 2), .inl (e583, 8, .inl (fun _ => 0))), ((r698 3), .inl (e583, 8, .inl (fun _ => 0))), ((r698 4), .inl (e583, 8, .inl (fun _ => 0))), ((r698 5), .inl (e583, 8, .inl (fun _ => 0))), (q699, .inl (e700, 6, .inl (fun _ => 0))), (q703, .inr (8, [.null, .int 0]))] _ A s.heap _ := Wd
  refine lv_dup C.1 C.2.1 dX4_init_75 rfl ?_
  refine lv_sipush (v := 1000) C.1 C.2.1 dX4_init_76 (by decide) ?_
  refine k_cv Wd [58] [0, 1, 2, 3, 4, 5, 6, 7, 8, 9, 10, 11, 12, 13, 14, 15, 16, 17, 18, 19, 20, 21, 22, 23, 24, 25, 26, 27, 28, 29, 30, 31, 32, 33, 34, 35, 36, 37, 38, 39, 40, 41, 42, 43, 44, 45, 46, 47, 48, 49, 50, 51, 52, 53, 54, 55, 56, 57] rfl (wr := [(h0, .inr (4, [.null, .null, .null, .int 0, .int 0, .ref q573, .ref q696, .ref q699, .ref q701, .null])), (q573, .inl (e574, 12, .inr (.inr (.inr (.inr (va_up (va_up (va_up (va_up (va_up (va_up (va_up (va_up (va_up (va_up (va_up (va_up (fun _ => none) 0 (some q576)) 1 (some q586)) 2 (some q596)) 3 (some q606)) 4 (some q616)) 5 (some q626)) 6 (some q636)) 7 (some q646)) 8 (some q656)) 9 (some q666)) 10 (some q676)) 11 (some q686))))))), (q576, .inr (9, [.ref q578, .ref q579, .int 0, .ref q580, .ref q581])), (q578, .inr (8, [.ref q582, .int 0])), (q582, .inl (e583, 40, .inl (fun _ => 0))), (q579, .inr (8, [.ref q584, .int 0])), (q586, .inr (9, [.ref q588, .ref q589, .int 0, .ref q590, .ref q591])), (q588, .inr (8, [.ref q592, .int 0])), (q592, .inl (e593, 40, .inl (fun _ => 0))), (q589, .inr (8, [.ref q594, .int 0])), (q596, .inr (9, [.ref q598, .ref q599, .int 0, .ref q600, .ref q601])), (q598, .inr (8, [.ref q602, .int 0])), (q602, .inl (e603, 40, .inl (fun _ => 0))), (q599, .inr (8, [.ref q604, .int 0])), (q606, .inr (9, [.ref q608, .ref q609, .int 0, .ref q610, .ref q611])), (q608, .inr (8, [.ref q612, .int 0])), (q612, .inl (e613, 40, .inl (fun _ => 0))), (q609, .inr (8, [.ref q614, .int 0])), (q616, .inr (9, [.ref q618, .ref q619, .int 0, .ref q620, .ref q621])), (q618, .inr (8, [.ref q622, .int 0])), (q622, .inl (e623, 40, .inl (fun _ => 0))), (q619, .inr (8, [.ref q624, .int 0])), (q626, .inr (9, [.ref q628, .ref q629, .int 0, .ref q630, .ref q631])), (q628, .inr (8, [.ref q632, .int 0])), (q632, .inl (e633, 40, .inl (fun _ => 0))), (q629, .inr (8, [.ref q634, .int 0])), (q636, .inr (9, [.ref q638, .ref q639, .int 0, .ref q640, .ref q641])), (q638, .inr (8, [.ref q642, .int 0])), (q642, .inl (e643, 40, .inl (fun _ => 0))), (q639, .inr (8, [.ref q644, .int 0])), (q646, .inr (9, [.ref q648, .ref q649, .int 0, .ref q650, .ref q651])), (q648, .inr (8, [.ref q652, .int 0])), (q652, .inl (e653, 40, .inl (fun _ => 0))), (q649, .inr (8, [.ref q654, .int 0])), (q656, .inr (9, [.ref q658, .ref q659, .int 0, .ref q660, .ref q661])), (q658, .inr (8, [.ref q662, .int 0])), (q662, .inl (e663, 40, .inl (fun _ => 0))), (q659, .inr (8, [.ref q664, .int 0])), (q666, .inr (9, [.ref q668, .ref q669, .int 0, .ref q670, .ref q671])), (q668, .inr (8, [.ref q672, .int 0])), (q672, .inl (e673, 40, .inl (fun _ => 0))), (q669, .inr (8, [.ref q674, .int 0])), (q676, .inr (9, [.ref q678, .ref q679, .int 0, .ref q680, .ref q681])), (q678, .inr (8, [.ref q682, .int 0])), (q682, .inl (e683, 40, .inl (fun _ => 0))), (q679, .inr (8, [.ref q684, .int 0])), (q686, .inr (9, [.ref q688, .ref q689, .int 0, .ref q690, .ref q691])), (q688, .inr (8, [.ref q692, .int 0])), (q692, .inl (e693, 40, .inl (fun _ => 0))), (q689, .inr (8, [.ref q694, .int 0])), (q696, .inl (e697, 6, .inr (.inr (.inr (.inr (fun i => if i < 6 then some (r698 i) else none)))))), ((r698 0), .inl (e583, 8, .inl (fun _ => 0))), ((r698 1), .inl (e583, 8, .inl (fun _ => 0))), ((r698 2), .inl (e583, 8, .inl (fun _ => 0))), ((r698 3), .inl (e583, 8, .inl (fun _ => 0))), ((r698 4), .inl (e583, 8, .inl (fun _ => 0))), ((r698 5), .inl (e583, 8, .inl (fun _ => 0))), (q699, .inl (e700, 6, .inl (fun _ => 0)))]) rfl (by decide) (by decide) (cells' := 113) (slots' := 4155) (by decide) (by decide) (k_runI (rest := [.ref q703, .ref h0]) C aks Wd cs_X4_36 (kcX8_init_v1 l D q703 _ ) [58] rfl (by decide) [] rfl rfl rfl ⟨(Nat.le_of_ble_eq_true rfl), (Nat.le_of_ble_eq_true rfl)⟩ hl.1 rfl rfl (Nat.le_of_ble_eq_true rfl) ⟨(Nat.le_of_ble_eq_true rfl), (Nat.le_of_ble_eq_true rfl)⟩ dX4_init_79) (fun u H locs w704 Wd => ?_)
  obtain ⟨q705, e706⟩ := u
  have Wd : wX D [(e574, .object RX9), (e583, .int), (e593, .int), (e603, .int), (e613, .int), (e623, .int), (e633, .int), (e643, .int), (e653, .int), (e663, .int), (e673, .int), (e683, .int), (e693, .int), (e697, .array .int), (e700, .int), (e706, .int)] s [(h0, .inr (4, [.null, .null, .null, .int 0, .int 0, .ref q573, .ref q696, .ref q699, .ref q701, .null])), (q573, .inl (e574, 12, .inr (.inr (.inr (.inr (va_up (va_up (va_up (va_up (va_up (va_up (va_up (va_up (va_up (va_up (va_up (va_up (fun _ => none) 0 (some q576)) 1 (some q586)) 2 (some q596)) 3 (some q606)) 4 (some q616)) 5 (some q626)) 6 (some q636)) 7 (some q646)) 8 (some q656)) 9 (some q666)) 10 (some q676)) 11 (some q686))))))), (q576, .inr (9, [.ref q578, .ref q579, .int 0, .ref q580, .ref q581])), (q578, .inr (8, [.ref q582, .int 0])), (q582, .inl (e583, 40, .inl (fun _ => 0))), (q579, .inr (8, [.ref q584, .int 0])), (q586, .inr (9, [.ref q588, .ref q589, .int 0, .ref q590, .ref q591])), (q588, .inr (8, [.ref q592, .int 0])), (q592, .inl (e593, 40, .inl (fun _ => 0))), (q589, .inr (8, [.ref q594, .int 0])), (q596, .inr (9, [.ref q598, .ref q599, .int 0, .ref q600, .ref q601])), (q598, .inr (8, [.ref q602, .int 0])), (q602, .inl (e603, 40, .inl (fun _ => 0))), (q599, .inr (8, [.ref q604, .int 0])), (q606, .inr (9, [.ref q608, .ref q609, .int 0, .ref q610, .ref q611])), (q608, .inr (8, [.ref q612, .int 0])), (q612, .inl (e613, 40, .inl (fun _ => 0))), (q609, .inr (8, [.ref q614, .int 0])), (q616, .inr (9, [.ref q618, .ref q619, .int 0, .ref q620, .ref q621])), (q618, .inr (8, [.ref q622, .int 0])), (q622, .inl (e623, 40, .inl (fun _ => 0))), (q619, .inr (8, [.ref q624, .int 0])), (q626, .inr (9, [.ref q628, .ref q629, .int 0, .ref q630, .ref q631])), (q628, .inr (8, [.ref q632, .int 0])), (q632, .inl (e633, 40, .inl (fun _ => 0))), (q629, .inr (8, [.ref q634, .int 0])), (q636, .inr (9, [.ref q638, .ref q639, .int 0, .ref q640, .ref q641])), (q638, .inr (8, [.ref q642, .int 0])), (q642, .inl (e643, 40, .inl (fun _ => 0))), (q639, .inr (8, [.ref q644, .int 0])), (q646, .inr (9, [.ref q648, .ref q649, .int 0, .ref q650, .ref q651])), (q648, .inr (8, [.ref q652, .int 0])), (q652, .inl (e653, 40, .inl (fun _ => 0))), (q649, .inr (8, [.ref q654, .int 0])), (q656, .inr (9, [.ref q658, .ref q659, .int 0, .ref q660, .ref q661])), (q658, .inr (8, [.ref q662, .int 0])), (q662, .inl (e663, 40, .inl (fun _ => 0))), (q659, .inr (8, [.ref q664, .int 0])), (q666, .inr (9, [.ref q668, .ref q669, .int 0, .ref q670, .ref q671])), (q668, .inr (8, [.ref q672, .int 0])), (q672, .inl (e673, 40, .inl (fun _ => 0))), (q669, .inr (8, [.ref q674, .int 0])), (q676, .inr (9, [.ref q678, .ref q679, .int 0, .ref q680, .ref q681])), (q678, .inr (8, [.ref q682, .int 0])), (q682, .inl (e683, 40, .inl (fun _ => 0))), (q679, .inr (8, [.ref q684, .int 0])), (q686, .inr (9, [.ref q688, .ref q689, .int 0, .ref q690, .ref q691])), (q688, .inr (8, [.ref q692, .int 0])), (q692, .inl (e693, 40, .inl (fun _ => 0))), (q689, .inr (8, [.ref q694, .int 0])), (q696, .inl (e697, 6, .inr (.inr (.inr (.inr (fun i => if i < 6 then some (r698 i) else none)))))), ((r698 0), .inl (e583, 8, .inl (fun _ => 0))), ((r698 1), .inl (e583, 8, .inl (fun _ => 0))), ((r698 2), .inl (e583, 8, .inl (fun _ => 0))), ((r698 3), .inl (e583, 8, .inl (fun _ => 0))), ((r698 4), .inl (e583, 8, .inl (fun _ => 0))), ((r698 5), .inl (e583, 8, .inl (fun _ => 0))), (q699, .inl (e700, 6, .inl (fun _ => 0))), (q703, .inr (8, [.ref q705, .int 0])), (q705, .inl (e706, 1000, .inl (fun _ => 0)))] _ A s.heap _ := Wd
  refine k_putF C Wd KX4 0 1 [(h0, .inr (4, [.null, .ref q703, .null, .int 0, .int 0, .ref q573, .ref q696, .ref q699, .ref q701, .null])), (q573, .inl (e574, 12, .inr (.inr (.inr (.inr (va_up (va_up (va_up (va_up (va_up (va_up (va_up (va_up (va_up (va_up (va_up (va_up (fun _ => none) 0 (some q576)) 1 (some q586)) 2 (some q596)) 3 (some q606)) 4 (some q616)) 5 (some q626)) 6 (some q636)) 7 (some q646)) 8 (some q656)) 9 (some q666)) 10 (some q676)) 11 (some q686))))))), (q576, .inr (9, [.ref q578, .ref q579, .int 0, .ref q580, .ref q581])), (q578, .inr (8, [.ref q582, .int 0])), (q582, .inl (e583, 40, .inl (fun _ => 0))), (q579, .inr (8, [.ref q584, .int 0])), (q586, .inr (9, [.ref q588, .ref q589, .int 0, .ref q590, .ref q591])), (q588, .inr (8, [.ref q592, .int 0])), (q592, .inl (e593, 40, .inl (fun _ => 0))), (q589, .inr (8, [.ref q594, .int 0])), (q596, .inr (9, [.ref q598, .ref q599, .int 0, .ref q600, .ref q601])), (q598, .inr (8, [.ref q602, .int 0])), (q602, .inl (e603, 40, .inl (fun _ => 0))), (q599, .inr (8, [.ref q604, .int 0])), (q606, .inr (9, [.ref q608, .ref q609, .int 0, .ref q610, .ref q611])), (q608, .inr (8, [.ref q612, .int 0])), (q612, .inl (e613, 40, .inl (fun _ => 0))), (q609, .inr (8, [.ref q614, .int 0])), (q616, .inr (9, [.ref q618, .ref q619, .int 0, .ref q620, .ref q621])), (q618, .inr (8, [.ref q622, .int 0])), (q622, .inl (e623, 40, .inl (fun _ => 0))), (q619, .inr (8, [.ref q624, .int 0])), (q626, .inr (9, [.ref q628, .ref q629, .int 0, .ref q630, .ref q631])), (q628, .inr (8, [.ref q632, .int 0])), (q632, .inl (e633, 40, .inl (fun _ => 0))), (q629, .inr (8, [.ref q634, .int 0])), (q636, .inr (9, [.ref q638, .ref q639, .int 0, .ref q640, .ref q641])), (q638, .inr (8, [.ref q642, .int 0])), (q642, .inl (e643, 40, .inl (fun _ => 0))), (q639, .inr (8, [.ref q644, .int 0])), (q646, .inr (9, [.ref q648, .ref q649, .int 0, .ref q650, .ref q651])), (q648, .inr (8, [.ref q652, .int 0])), (q652, .inl (e653, 40, .inl (fun _ => 0))), (q649, .inr (8, [.ref q654, .int 0])), (q656, .inr (9, [.ref q658, .ref q659, .int 0, .ref q660, .ref q661])), (q658, .inr (8, [.ref q662, .int 0])), (q662, .inl (e663, 40, .inl (fun _ => 0))), (q659, .inr (8, [.ref q664, .int 0])), (q666, .inr (9, [.ref q668, .ref q669, .int 0, .ref q670, .ref q671])), (q668, .inr (8, [.ref q672, .int 0])), (q672, .inl (e673, 40, .inl (fun _ => 0))), (q669, .inr (8, [.ref q674, .int 0])), (q676, .inr (9, [.ref q678, .ref q679, .int 0, .ref q680, .ref q681])), (q678, .inr (8, [.ref q682, .int 0])), (q682, .inl (e683, 40, .inl (fun _ => 0))), (q679, .inr (8, [.ref q684, .int 0])), (q686, .inr (9, [.ref q688, .ref q689, .int 0, .ref q690, .ref q691])), (q688, .inr (8, [.ref q692, .int 0])), (q692, .inl (e693, 40, .inl (fun _ => 0))), (q689, .inr (8, [.ref q694, .int 0])), (q696, .inl (e697, 6, .inr (.inr (.inr (.inr (fun i => if i < 6 then some (r698 i) else none)))))), ((r698 0), .inl (e583, 8, .inl (fun _ => 0))), ((r698 1), .inl (e583, 8, .inl (fun _ => 0))), ((r698 2), .inl (e583, 8, .inl (fun _ => 0))), ((r698 3), .inl (e583, 8, .inl (fun _ => 0))), ((r698 4), .inl (e583, 8, .inl (fun _ => 0))), ((r698 5), .inl (e583, 8, .inl (fun _ => 0))), (q699, .inl (e700, 6, .inl (fun _ => 0))), (q703, .inr (8, [.ref q705, .int 0])), (q705, .inl (e706, 1000, .inl (fun _ => 0)))] rfl (by decide) fl_X4_39 rfl hin rfl rfl rfl (Nat.le_of_ble_eq_true rfl) rfl dX4_init_82 (fun H locs Wd => ?_)
  refine lv_aload_n C.1 C.2.1 dX4_init_85 rfl (lv_at hl 1 rfl) ?_
  refine k_new C Wd KX8 cl_X4_34 is_X8 in_X8 [.null, .int 0] (by decide +kernel) (cells' := 114) (slots' := 4157) (Nat.le_of_ble_eq_true rfl) (Nat.le_of_ble_eq_true rfl) (by decide) (by decide) dX4_init_86 (fun q707 H Wd => ?_)
  have Wd : wX D [(e574, .object RX9), (e583, .int), (e593, .int), (e603, .int), (e613, .int), (e623, .int), (e633, .int), (e643, .int), (e653, .int), (e663, .int), (e673, .int), (e683, .int), (e693, .int), (e697, .array .int), (e700, .int), (e706, .int)] s [(h0, .inr (4, [.null, .ref q703, .null, .int 0, .int 0, .ref q573, .ref q696, .ref q699, .ref q701, .null])), (q573, .inl (e574, 12, .inr (.inr (.inr (.inr (va_up (va_up (va_up (va_up (va_up (va_up (va_up (va_up (va_up (va_up (va_up (va_up (fun _ => none) 0 (some q576)) 1 (some q586)) 2 (some q596)) 3 (some q606)) 4 (some q616)) 5 (some q626)) 6 (some q636)) 7 (some q646)) 8 (some q656)) 9 (some q666)) 10 (some q676)) 11 (some q686))))))), (q576, .inr (9, [.ref q578, .ref q579, .int 0, .ref q580, .ref q581])), (q578, .inr (8, [.ref q582, .int 0])), (q582, .inl (e583, 40, .inl (fun _ => 0))), (q579, .inr (8, [.ref q584, .int 0])), (q586, .inr (9, [.ref q588, .ref q589, .int 0, .ref q590, .ref q591])), (q588, .inr (8, [.ref q592, .int 0])), (q592, .inl (e593, 40, .inl (fun _ => 0))), (q589, .inr (8, [.ref q594, .int 0])), (q596, .inr (9, [.ref q598, .ref q599, .int 0, .ref q600, .ref q601])), (q598, .inr (8, [.ref q602, .int 0])), (q602, .inl (e603, 40, .inl (fun _ => 0))), (q599, .inr (8, [.ref q604, .int 0])), (q606, .inr (9, [.ref q608, .ref q609, .int 0, .ref q610, .ref q611])), (q608, .inr (8, [.ref q612, .int 0])), (q612, .inl (e613, 40, .inl (fun _ => 0))), (q609, .inr (8, [.ref q614, .int 0])), (q616, .inr (9, [.ref q618, .ref q619, .int 0, .ref q620, .ref q621])), (q618, .inr (8, [.ref q622, .int 0])), (q622, .inl (e623, 40, .inl (fun _ => 0))), (q619, .inr (8, [.ref q624, .int 0])), (q626, .inr (9, [.ref q628, .ref q629, .int 0, .ref q630, .ref q631])), (q628, .inr (8, [.ref q632, .int 0])), (q632, .inl (e633, 40, .inl (fun _ => 0))), (q629, .inr (8, [.ref q634, .int 0])), (q636, .inr (9, [.ref q638, .ref q639, .int 0, .ref q640, .ref q641])), (q638, .inr (8, [.ref q642, .int 0])), (q642, .inl (e643, 40, .inl (fun _ => 0))), (q639, .inr (8, [.ref q644, .int 0])), (q646, .inr (9, [.ref q648, .ref q649, .int 0, .ref q650, .ref q651])), (q648, .inr (8, [.ref q652, .int 0])), (q652, .inl (e653, 40, .inl (fun _ => 0))), (q649, .inr (8, [.ref q654, .int 0])), (q656, .inr (9, [.ref q658, .ref q659, .int 0, .ref q660, .ref q661])), (q658, .inr (8, [.ref q662, .int 0])), (q662, .inl (e663, 40, .inl (fun _ => 0))), (q659, .inr (8, [.ref q664, .int 0])), (q666, .inr (9, [.ref q668, .ref q669, .int 0, .ref q670, .ref q671])), (q668, .inr (8, [.ref q672, .int 0])), (q672, .inl (e673, 40, .inl (fun _ => 0))), (q669, .inr (8, [.ref q674, .int 0])), (q676, .inr (9, [.ref q678, .ref q679, .int 0, .ref q680, .ref q681])), (q678, .inr (8, [.ref q682, .int 0])), (q682, .inl (e683, 40, .inl (fun _ => 0))), (q679, .inr (8, [.ref q684, .int 0])), (q686, .inr (9, [.ref q688, .ref q689, .int 0, .ref q690, .ref q691])), (q688, .inr (8, [.ref q692, .int 0])), (q692, .inl (e693, 40, .inl (fun _ => 0))), (q689, .inr (8, [.ref q694, .int 0])), (q696, .inl (e697, 6, .inr (.inr (.inr (.inr (fun i => if i < 6 then some (r698 i) else none)))))), ((r698 0), .inl (e583, 8, .inl (fun _ => 0))), ((r698 1), .inl (e583, 8, .inl (fun _ => 0))), ((r698 2), .inl (e583, 8, .inl (fun _ => 0))), ((r698 3), .inl (e583, 8, .inl (fun _ => 0))), ((r698 4), .inl (e583, 8, .inl (fun _ => 0))), ((r698 5), .inl (e583, 8, .inl (fun _ => 0))), (q699, .inl (e700, 6, .inl (fun _ => 0))), (q703, .inr (8, [.ref q705, .int 0])), (q705, .inl (e706, 1000, .inl (fun _ => 0))), (q707, .inr (8, [.null, .int 0]))] _ A s.heap _ := Wd
  refine lv_dup C.1 C.2.1 dX4_init_89 rfl ?_
  refine lv_sipush (v := 480) C.1 C.2.1 dX4_init_90 (by decide) ?_
  refine k_cv Wd [60] [0, 1, 2, 3, 4, 5, 6, 7, 8, 9, 10, 11, 12, 13, 14, 15, 16, 17, 18, 19, 20, 21, 22, 23, 24, 25, 26, 27, 28, 29, 30, 31, 32, 33, 34, 35, 36, 37, 38, 39, 40, 41, 42, 43, 44, 45, 46, 47, 48, 49, 50, 51, 52, 53, 54, 55, 56, 57, 58, 59] rfl (wr := [(h0, .inr (4, [.null, .ref q703, .null, .int 0, .int 0, .ref q573, .ref q696, .ref q699, .ref q701, .null])), (q573, .inl (e574, 12, .inr (.inr (.inr (.inr (va_up (va_up (va_up (va_up (va_up (va_up (va_up (va_up (va_up (va_up (va_up (va_up (fun _ => none) 0 (some q576)) 1 (some q586)) 2 (some q596)) 3 (some q606)) 4 (some q616)) 5 (some q626)) 6 (some q636)) 7 (some q646)) 8 (some q656)) 9 (some q666)) 10 (some q676)) 11 (some q686))))))), (q576, .inr (9, [.ref q578, .ref q579, .int 0, .ref q580, .ref q581])), (q578, .inr (8, [.ref q582, .int 0])), (q582, .inl (e583, 40, .inl (fun _ => 0))), (q579, .inr (8, [.ref q584, .int 0])), (q586, .inr (9, [.ref q588, .ref q589, .int 0, .ref q590, .ref q591])), (q588, .inr (8, [.ref q592, .int 0])), (q592, .inl (e593, 40, .inl (fun _ => 0))), (q589, .inr (8, [.ref q594, .int 0])), (q596, .inr (9, [.ref q598, .ref q599, .int 0, .ref q600, .ref q601])), (q598, .inr (8, [.ref q602, .int 0])), (q602, .inl (e603, 40, .inl (fun _ => 0))), (q599, .inr (8, [.ref q604, .int 0])), (q606, .inr (9, [.ref q608, .ref q609, .int 0, .ref q610, .ref q611])), (q608, .inr (8, [.ref q612, .int 0])), (q612, .inl (e613, 40, .inl (fun _ => 0))), (q609, .inr (8, [.ref q614, .int 0])), (q616, .inr (9, [.ref q618, .ref q619, .int 0, .ref q620, .ref q621])), (q618, .inr (8, [.ref q622, .int 0])), (q622, .inl (e623, 40, .inl (fun _ => 0))), (q619, .inr (8, [.ref q624, .int 0])), (q626, .inr (9, [.ref q628, .ref q629, .int 0, .ref q630, .ref q631])), (q628, .inr (8, [.ref q632, .int 0])), (q632, .inl (e633, 40, .inl (fun _ => 0))), (q629, .inr (8, [.ref q634, .int 0])), (q636, .inr (9, [.ref q638, .ref q639, .int 0, .ref q640, .ref q641])), (q638, .inr (8, [.ref q642, .int 0])), (q642, .inl (e643, 40, .inl (fun _ => 0))), (q639, .inr (8, [.ref q644, .int 0])), (q646, .inr (9, [.ref q648, .ref q649, .int 0, .ref q650, .ref q651])), (q648, .inr (8, [.ref q652, .int 0])), (q652, .inl (e653, 40, .inl (fun _ => 0))), (q649, .inr (8, [.ref q654, .int 0])), (q656, .inr (9, [.ref q658, .ref q659, .int 0, .ref q660, .ref q661])), (q658, .inr (8, [.ref q662, .int 0])), (q662, .inl (e663, 40, .inl (fun _ => 0))), (q659, .inr (8, [.ref q664, .int 0])), (q666, .inr (9, [.ref q668, .ref q669, .int 0, .ref q670, .ref q671])), (q668, .inr (8, [.ref q672, .int 0])), (q672, .inl (e673, 40, .inl (fun _ => 0))), (q669, .inr (8, [.ref q674, .int 0])), (q676, .inr (9, [.ref q678, .ref q679, .int 0, .ref q680, .ref q681])), (q678, .inr (8, [.ref q682, .int 0])), (q682, .inl (e683, 40, .inl (fun _ => 0))), (q679, .inr (8, [.ref q684, .int 0])), (q686, .inr (9, [.ref q688, .ref q689, .int 0, .ref q690, .ref q691])), (q688, .inr (8, [.ref q692, .int 0])), (q692, .inl (e693, 40, .inl (fun _ => 0))), (q689, .inr (8, [.ref q694, .int 0])), (q696, .inl (e697, 6, .inr (.inr (.inr (.inr (fun i => if i < 6 then some (r698 i) else none)))))), ((r698 0), .inl (e583, 8, .inl (fun _ => 0))), ((r698 1), .inl (e583, 8, .inl (fun _ => 0))), ((r698 2), .inl (e583, 8, .inl (fun _ => 0))), ((r698 3), .inl (e583, 8, .inl (fun _ => 0))), ((r698 4), .inl (e583, 8, .inl (fun _ => 0))), ((r698 5), .inl (e583, 8, .inl (fun _ => 0))), (q699, .inl (e700, 6, .inl (fun _ => 0))), (q703, .inr (8, [.ref q705, .int 0])), (q705, .inl (e706, 1000, .inl (fun _ => 0)))]) rfl (by decide) (by decide) (cells' := 115) (slots' := 4637) (by decide) (by decide) (k_runI (rest := [.ref q707, .ref h0]) C aks Wd cs_X4_36 (kcX8_init l D q707 _ ) [60] rfl (by decide) [] rfl rfl rfl ⟨(Nat.le_of_ble_eq_true rfl), (Nat.le_of_ble_eq_true rfl)⟩ hl.1 rfl rfl (Nat.le_of_ble_eq_true rfl) ⟨(Nat.le_of_ble_eq_true rfl), (Nat.le_of_ble_eq_true rfl)⟩ dX4_init_93) (fun u H locs w708 Wd => ?_)
  obtain ⟨q709, e710⟩ := u
  have Wd : wX D [(e574, .object RX9), (e583, .int), (e593, .int), (e603, .int), (e613, .int), (e623, .int), (e633, .int), (e643, .int), (e653, .int), (e663, .int), (e673, .int), (e683, .int), (e693, .int), (e697, .array .int), (e700, .int), (e706, .int), (e710, .int)] s [(h0, .inr (4, [.null, .ref q703, .null, .int 0, .int 0, .ref q573, .ref q696, .ref q699, .ref q701, .null])), (q573, .inl (e574, 12, .inr (.inr (.inr (.inr (va_up (va_up (va_up (va_up (va_up (va_up (va_up (va_up (va_up (va_up (va_up (va_up (fun _ => none) 0 (some q576)) 1 (some q586)) 2 (some q596)) 3 (some q606)) 4 (some q616)) 5 (some q626)) 6 (some q636)) 7 (some q646)) 8 (some q656)) 9 (some q666)) 10 (some q676)) 11 (some q686))))))), (q576, .inr (9, [.ref q578, .ref q579, .int 0, .ref q580, .ref q581])), (q578, .inr (8, [.ref q582, .int 0])), (q582, .inl (e583, 40, .inl (fun _ => 0))), (q579, .inr (8, [.ref q584, .int 0])), (q586, .inr (9, [.ref q588, .ref q589, .int 0, .ref q590, .ref q591])), (q588, .inr (8, [.ref q592, .int 0])), (q592, .inl (e593, 40, .inl (fun _ => 0))), (q589, .inr (8, [.ref q594, .int 0])), (q596, .inr (9, [.ref q598, .ref q599, .int 0, .ref q600, .ref q601])), (q598, .inr (8, [.ref q602, .int 0])), (q602, .inl (e603, 40, .inl (fun _ => 0))), (q599, .inr (8, [.ref q604, .int 0])), (q606, .inr (9, [.ref q608, .ref q609, .int 0, .ref q610, .ref q611])), (q608, .inr (8, [.ref q612, .int 0])), (q612, .inl (e613, 40, .inl (fun _ => 0))), (q609, .inr (8, [.ref q614, .int 0])), (q616, .inr (9, [.ref q618, .ref q619, .int 0, .ref q620, .ref q621])), (q618, .inr (8, [.ref q622, .int 0])), (q622, .inl (e623, 40, .inl (fun _ => 0))), (q619, .inr (8, [.ref q624, .int 0])), (q626, .inr (9, [.ref q628, .ref q629, .int 0, .ref q630, .ref q631])), (q628, .inr (8, [.ref q632, .int 0])), (q632, .inl (e633, 40, .inl (fun _ => 0))), (q629, .inr (8, [.ref q634, .int 0])), (q636, .inr (9, [.ref q638, .ref q639, .int 0, .ref q640, .ref q641])), (q638, .inr (8, [.ref q642, .int 0])), (q642, .inl (e643, 40, .inl (fun _ => 0))), (q639, .inr (8, [.ref q644, .int 0])), (q646, .inr (9, [.ref q648, .ref q649, .int 0, .ref q650, .ref q651])), (q648, .inr (8, [.ref q652, .int 0])), (q652, .inl (e653, 40, .inl (fun _ => 0))), (q649, .inr (8, [.ref q654, .int 0])), (q656, .inr (9, [.ref q658, .ref q659, .int 0, .ref q660, .ref q661])), (q658, .inr (8, [.ref q662, .int 0])), (q662, .inl (e663, 40, .inl (fun _ => 0))), (q659, .inr (8, [.ref q664, .int 0])), (q666, .inr (9, [.ref q668, .ref q669, .int 0, .ref q670, .ref q671])), (q668, .inr (8, [.ref q672, .int 0])), (q672, .inl (e673, 40, .inl (fun _ => 0))), (q669, .inr (8, [.ref q674, .int 0])), (q676, .inr (9, [.ref q678, .ref q679, .int 0, .ref q680, .ref q681])), (q678, .inr (8, [.ref q682, .int 0])), (q682, .inl (e683, 40, .inl (fun _ => 0))), (q679, .inr (8, [.ref q684, .int 0])), (q686, .inr (9, [.ref q688, .ref q689, .int 0, .ref q690, .ref q691])), (q688, .inr (8, [.ref q692, .int 0])), (q692, .inl (e693, 40, .inl (fun _ => 0))), (q689, .inr (8, [.ref q694, .int 0])), (q696, .inl (e697, 6, .inr (.inr (.inr (.inr (fun i => if i < 6 then some (r698 i) else none)))))), ((r698 0), .inl (e583, 8, .inl (fun _ => 0))), ((r698 1), .inl (e583, 8, .inl (fun _ => 0))), ((r698 2), .inl (e583, 8, .inl (fun _ => 0))), ((r698 3), .inl (e583, 8, .inl (fun _ => 0))), ((r698 4), .inl (e583, 8, .inl (fun _ => 0))), ((r698 5), .inl (e583, 8, .inl (fun _ => 0))), (q699, .inl (e700, 6, .inl (fun _ => 0))), (q703, .inr (8, [.ref q705, .int 0])), (q705, .inl (e706, 1000, .inl (fun _ => 0))), (q707, .inr (8, [.ref q709, .int 0])), (q709, .inl (e710, 480, .inl (fun _ => 0)))] _ A s.heap _ := Wd
  refine k_putF C Wd KX4 0 2 [(h0, .inr (4, [.null, .ref q703, .ref q707, .int 0, .int 0, .ref q573, .ref q696, .ref q699, .ref q701, .null])), (q573, .inl (e574, 12, .inr (.inr (.inr (.inr (va_up (va_up (va_up (va_up (va_up (va_up (va_up (va_up (va_up (va_up (va_up (va_up (fun _ => none) 0 (some q576)) 1 (some q586)) 2 (some q596)) 3 (some q606)) 4 (some q616)) 5 (some q626)) 6 (some q636)) 7 (some q646)) 8 (some q656)) 9 (some q666)) 10 (some q676)) 11 (some q686))))))), (q576, .inr (9, [.ref q578, .ref q579, .int 0, .ref q580, .ref q581])), (q578, .inr (8, [.ref q582, .int 0])), (q582, .inl (e583, 40, .inl (fun _ => 0))), (q579, .inr (8, [.ref q584, .int 0])), (q586, .inr (9, [.ref q588, .ref q589, .int 0, .ref q590, .ref q591])), (q588, .inr (8, [.ref q592, .int 0])), (q592, .inl (e593, 40, .inl (fun _ => 0))), (q589, .inr (8, [.ref q594, .int 0])), (q596, .inr (9, [.ref q598, .ref q599, .int 0, .ref q600, .ref q601])), (q598, .inr (8, [.ref q602, .int 0])), (q602, .inl (e603, 40, .inl (fun _ => 0))), (q599, .inr (8, [.ref q604, .int 0])), (q606, .inr (9, [.ref q608, .ref q609, .int 0, .ref q610, .ref q611])), (q608, .inr (8, [.ref q612, .int 0])), (q612, .inl (e613, 40, .inl (fun _ => 0))), (q609, .inr (8, [.ref q614, .int 0])), (q616, .inr (9, [.ref q618, .ref q619, .int 0, .ref q620, .ref q621])), (q618, .inr (8, [.ref q622, .int 0])), (q622, .inl (e623, 40, .inl (fun _ => 0))), (q619, .inr (8, [.ref q624, .int 0])), (q626, .inr (9, [.ref q628, .ref q629, .int 0, .ref q630, .ref q631])), (q628, .inr (8, [.ref q632, .int 0])), (q632, .inl (e633, 40, .inl (fun _ => 0))), (q629, .inr (8, [.ref q634, .int 0])), (q636, .inr (9, [.ref q638, .ref q639, .int 0, .ref q640, .ref q641])), (q638, .inr (8, [.ref q642, .int 0])), (q642, .inl (e643, 40, .inl (fun _ => 0))), (q639, .inr (8, [.ref q644, .int 0])), (q646, .inr (9, [.ref q648, .ref q649, .int 0, .ref q650, .ref q651])), (q648, .inr (8, [.ref q652, .int 0])), (q652, .inl (e653, 40, .inl (fun _ => 0))), (q649, .inr (8, [.ref q654, .int 0])), (q656, .inr (9, [.ref q658, .ref q659, .int 0, .ref q660, .ref q661])), (q658, .inr (8, [.ref q662, .int 0])), (q662, .inl (e663, 40, .inl (fun _ => 0))), (q659, .inr (8, [.ref q664, .int 0])), (q666, .inr (9, [.ref q668, .ref q669, .int 0, .ref q670, .ref q671])), (q668, .inr (8, [.ref q672, .int 0])), (q672, .inl (e673, 40, .inl (fun _ => 0))), (q669, .inr (8, [.ref q674, .int 0])), (q676, .inr (9, [.ref q678, .ref q679, .int 0, .ref q680, .ref q681])), (q678, .inr (8, [.ref q682, .int 0])), (q682, .inl (e683, 40, .inl (fun _ => 0))), (q679, .inr (8, [.ref q684, .int 0])), (q686, .inr (9, [.ref q688, .ref q689, .int 0, .ref q690, .ref q691])), (q688, .inr (8, [.ref q692, .int 0])), (q692, .inl (e693, 40, .inl (fun _ => 0))), (q689, .inr (8, [.ref q694, .int 0])), (q696, .inl (e697, 6, .inr (.inr (.inr (.inr (fun i => if i < 6 then some (r698 i) else none)))))), ((r698 0), .inl (e583, 8, .inl (fun _ => 0))), ((r698 1), .inl (e583, 8, .inl (fun _ => 0))), ((r698 2), .inl (e583, 8, .inl (fun _ => 0))), ((r698 3), .inl (e583, 8, .inl (fun _ => 0))), ((r698 4), .inl (e583, 8, .inl (fun _ => 0))), ((r698 5), .inl (e583, 8, .inl (fun _ => 0))), (q699, .inl (e700, 6, .inl (fun _ => 0))), (q703, .inr (8, [.ref q705, .int 0])), (q705, .inl (e706, 1000, .inl (fun _ => 0))), (q707, .inr (8, [.ref q709, .int 0])), (q709, .inl (e710, 480, .inl (fun _ => 0)))] rfl (by decide) fl_X4_43 rfl hin rfl rfl rfl (Nat.le_of_ble_eq_true rfl) rfl dX4_init_96 (fun H locs Wd => ?_)
  refine lv_aload_n C.1 C.2.1 dX4_init_99 rfl (lv_at hl 1 rfl) ?_
  refine k_new C Wd KX8 cl_X4_34 is_X8 in_X8 [.null, .int 0] (by decide +kernel) (cells' := 116) (slots' := 4639) (Nat.le_of_ble_eq_true rfl) (Nat.le_of_ble_eq_true rfl) (by decide) (by decide) dX4_init_100 (fun q711 H Wd => ?_)
  have Wd : wX D [(e574, .object RX9), (e583, .int), (e593, .int), (e603, .int), (e613, .int), (e623, .int), (e633, .int), (e643, .int), (e653, .int), (e663, .int), (e673, .int), (e683, .int), (e693, .int), (e697, .array .int), (e700, .int), (e706, .int), (e710, .int)] s [(h0, .inr (4, [.null, .ref q703, .ref q707, .int 0, .int 0, .ref q573, .ref q696, .ref q699, .ref q701, .null])), (q573, .inl (e574, 12, .inr (.inr (.inr (.inr (va_up (va_up (va_up (va_up (va_up (va_up (va_up (va_up (va_up (va_up (va_up (va_up (fun _ => none) 0 (some q576)) 1 (some q586)) 2 (some q596)) 3 (some q606)) 4 (some q616)) 5 (some q626)) 6 (some q636)) 7 (some q646)) 8 (some q656)) 9 (some q666)) 10 (some q676)) 11 (some q686))))))), (q576, .inr (9, [.ref q578, .ref q579, .int 0, .ref q580, .ref q581])), (q578, .inr (8, [.ref q582, .int 0])), (q582, .inl (e583, 40, .inl (fun _ => 0))), (q579, .inr (8, [.ref q584, .int 0])), (q586, .inr (9, [.ref q588, .ref q589, .int 0, .ref q590, .ref q591])), (q588, .inr (8, [.ref q592, .int 0])), (q592, .inl (e593, 40, .inl (fun _ => 0))), (q589, .inr (8, [.ref q594, .int 0])), (q596, .inr (9, [.ref q598, .ref q599, .int 0, .ref q600, .ref q601])), (q598, .inr (8, [.ref q602, .int 0])), (q602, .inl (e603, 40, .inl (fun _ => 0))), (q599, .inr (8, [.ref q604, .int 0])), (q606, .inr (9, [.ref q608, .ref q609, .int 0, .ref q610, .ref q611])), (q608, .inr (8, [.ref q612, .int 0])), (q612, .inl (e613, 40, .inl (fun _ => 0))), (q609, .inr (8, [.ref q614, .int 0])), (q616, .inr (9, [.ref q618, .ref q619, .int 0, .ref q620, .ref q621])), (q618, .inr (8, [.ref q622, .int 0])), (q622, .inl (e623, 40, .inl (fun _ => 0))), (q619, .inr (8, [.ref q624, .int 0])), (q626, .inr (9, [.ref q628, .ref q629, .int 0, .ref q630, .ref q631])), (q628, .inr (8, [.ref q632, .int 0])), (q632, .inl (e633, 40, .inl (fun _ => 0))), (q629, .inr (8, [.ref q634, .int 0])), (q636, .inr (9, [.ref q638, .ref q639, .int 0, .ref q640, .ref q641])), (q638, .inr (8, [.ref q642, .int 0])), (q642, .inl (e643, 40, .inl (fun _ => 0))), (q639, .inr (8, [.ref q644, .int 0])), (q646, .inr (9, [.ref q648, .ref q649, .int 0, .ref q650, .ref q651])), (q648, .inr (8, [.ref q652, .int 0])), (q652, .inl (e653, 40, .inl (fun _ => 0))), (q649, .inr (8, [.ref q654, .int 0])), (q656, .inr (9, [.ref q658, .ref q659, .int 0, .ref q660, .ref q661])), (q658, .inr (8, [.ref q662, .int 0])), (q662, .inl (e663, 40, .inl (fun _ => 0))), (q659, .inr (8, [.ref q664, .int 0])), (q666, .inr (9, [.ref q668, .ref q669, .int 0, .ref q670, .ref q671])), (q668, .inr (8, [.ref q672, .int 0])), (q672, .inl (e673, 40, .inl (fun _ => 0))), (q669, .inr (8, [.ref q674, .int 0])), (q676, .inr (9, [.ref q678, .ref q679, .int 0, .ref q680, .ref q681])), (q678, .inr (8, [.ref q682, .int 0])), (q682, .inl (e683, 40, .inl (fun _ => 0))), (q679, .inr (8, [.ref q684, .int 0])), (q686, .inr (9, [.ref q688, .ref q689, .int 0, .ref q690, .ref q691])), (q688, .inr (8, [.ref q692, .int 0])), (q692, .inl (e693, 40, .inl (fun _ => 0))), (q689, .inr (8, [.ref q694, .int 0])), (q696, .inl (e697, 6, .inr (.inr (.inr (.inr (fun i => if i < 6 then some (r698 i) else none)))))), ((r698 0), .inl (e583, 8, .inl (fun _ => 0))), ((r698 1), .inl (e583, 8, .inl (fun _ => 0))), ((r698 2), .inl (e583, 8, .inl (fun _ => 0))), ((r698 3), .inl (e583, 8, .inl (fun _ => 0))), ((r698 4), .inl (e583, 8, .inl (fun _ => 0))), ((r698 5), .inl (e583, 8, .inl (fun _ => 0))), (q699, .inl (e700, 6, .inl (fun _ => 0))), (q703, .inr (8, [.ref q705, .int 0])), (q705, .inl (e706, 1000, .inl (fun _ => 0))), (q707, .inr (8, [.ref q709, .int 0])), (q709, .inl (e710, 480, .inl (fun _ => 0))), (q711, .inr (8, [.null, .int 0]))] _ A s.heap _ := Wd
  refine lv_dup C.1 C.2.1 dX4_init_103 rfl ?_
  refine lv_sipush (v := 480) C.1 C.2.1 dX4_init_104 (by decide) ?_
  refine k_cv Wd [62] [0, 1, 2, 3, 4, 5, 6, 7, 8, 9, 10, 11, 12, 13, 14, 15, 16, 17, 18, 19, 20, 21, 22, 23, 24, 25, 26, 27, 28, 29, 30, 31, 32, 33, 34, 35, 36, 37, 38, 39, 40, 41, 42, 43, 44, 45, 46, 47, 48, 49, 50, 51, 52, 53, 54, 55, 56, 57, 58, 59, 60, 61] rfl (wr := [(h0, .inr (4, [.null, .ref q703, .ref q707, .int 0, .int 0, .ref q573, .ref q696, .ref q699, .ref q701, .null])), (q573, .inl (e574, 12, .inr (.inr (.inr (.inr (va_up (va_up (va_up (va_up (va_up (va_up (va_up (va_up (va_up (va_up (va_up (va_up (fun _ => none) 0 (some q576)) 1 (some q586)) 2 (some q596)) 3 (some q606)) 4 (some q616)) 5 (some q626)) 6 (some q636)) 7 (some q646)) 8 (some q656)) 9 (some q666)) 10 (some q676)) 11 (some q686))))))), (q576, .inr (9, [.ref q578, .ref q579, .int 0, .ref q580, .ref q581])), (q578, .inr (8, [.ref q582, .int 0])), (q582, .inl (e583, 40, .inl (fun _ => 0))), (q579, .inr (8, [.ref q584, .int 0])), (q586, .inr (9, [.ref q588, .ref q589, .int 0, .ref q590, .ref q591])), (q588, .inr (8, [.ref q592, .int 0])), (q592, .inl (e593, 40, .inl (fun _ => 0))), (q589, .inr (8, [.ref q594, .int 0])), (q596, .inr (9, [.ref q598, .ref q599, .int 0, .ref q600, .ref q601])), (q598, .inr (8, [.ref q602, .int 0])), (q602, .inl (e603, 40, .inl (fun _ => 0))), (q599, .inr (8, [.ref q604, .int 0])), (q606, .inr (9, [.ref q608, .ref q609, .int 0, .ref q610, .ref q611])), (q608, .inr (8, [.ref q612, .int 0])), (q612, .inl (e613, 40, .inl (fun _ => 0))), (q609, .inr (8, [.ref q614, .int 0])), (q616, .inr (9, [.ref q618, .ref q619, .int 0, .ref q620, .ref q621])), (q618, .inr (8, [.ref q622, .int 0])), (q622, .inl (e623, 40, .inl (fun _ => 0))), (q619, .inr (8, [.ref q624, .int 0])), (q626, .inr (9, [.ref q628, .ref q629, .int 0, .ref q630, .ref q631])), (q628, .inr (8, [.ref q632, .int 0])), (q632, .inl (e633, 40, .inl (fun _ => 0))), (q629, .inr (8, [.ref q634, .int 0])), (q636, .inr (9, [.ref q638, .ref q639, .int 0, .ref q640, .ref q641])), (q638, .inr (8, [.ref q642, .int 0])), (q642, .inl (e643, 40, .inl (fun _ => 0))), (q639, .inr (8, [.ref q644, .int 0])), (q646, .inr (9, [.ref q648, .ref q649, .int 0, .ref q650, .ref q651])), (q648, .inr (8, [.ref q652, .int 0])), (q652, .inl (e653, 40, .inl (fun _ => 0))), (q649, .inr (8, [.ref q654, .int 0])), (q656, .inr (9, [.ref q658, .ref q659, .int 0, .ref q660, .ref q661])), (q658, .inr (8, [.ref q662, .int 0])), (q662, .inl (e663, 40, .inl (fun _ => 0))), (q659, .inr (8, [.ref q664, .int 0])), (q666, .inr (9, [.ref q668, .ref q669, .int 0, .ref q670, .ref q671])), (q668, .inr (8, [.ref q672, .int 0])), (q672, .inl (e673, 40, .inl (fun _ => 0))), (q669, .inr (8, [.ref q674, .int 0])), (q676, .inr (9, [.ref q678, .ref q679, .int 0, .ref q680, .ref q681])), (q678, .inr (8, [.ref q682, .int 0])), (q682, .inl (e683, 40, .inl (fun _ => 0))), (q679, .inr (8, [.ref q684, .int 0])), (q686, .inr (9, [.ref q688, .ref q689, .int 0, .ref q690, .ref q691])), (q688, .inr (8, [.ref q692, .int 0])), (q692, .inl (e693, 40, .inl (fun _ => 0))), (q689, .inr (8, [.ref q694, .int 0])), (q696, .inl (e697, 6, .inr (.inr (.inr (.inr (fun i => if i < 6 then some (r698 i) else none)))))), ((r698 0), .inl (e583, 8, .inl (fun _ => 0))), ((r698 1), .inl (e583, 8, .inl (fun _ => 0))), ((r698 2), .inl (e583, 8, .inl (fun _ => 0))), ((r698 3), .inl (e583, 8, .inl (fun _ => 0))), ((r698 4), .inl (e583, 8, .inl (fun _ => 0))), ((r698 5), .inl (e583, 8, .inl (fun _ => 0))), (q699, .inl (e700, 6, .inl (fun _ => 0))), (q703, .inr (8, [.ref q705, .int 0])), (q705, .inl (e706, 1000, .inl (fun _ => 0))), (q707, .inr (8, [.ref q709, .int 0])), (q709, .inl (e710, 480, .inl (fun _ => 0)))]) rfl (by decide) (by decide) (cells' := 117) (slots' := 5119) (by decide) (by decide) (k_runI (rest := [.ref q711, .ref h0]) C aks Wd cs_X4_36 (kcX8_init l D q711 _ ) [62] rfl (by decide) [] rfl rfl rfl ⟨(Nat.le_of_ble_eq_true rfl), (Nat.le_of_ble_eq_true rfl)⟩ hl.1 rfl rfl (Nat.le_of_ble_eq_true rfl) ⟨(Nat.le_of_ble_eq_true rfl), (Nat.le_of_ble_eq_true rfl)⟩ dX4_init_107) (fun u H locs w712 Wd => ?_)
  obtain ⟨q713, e714⟩ := u
  have Wd : wX D [(e574, .object RX9), (e583, .int), (e593, .int), (e603, .int), (e613, .int), (e623, .int), (e633, .int), (e643, .int), (e653, .int), (e663, .int), (e673, .int), (e683, .int), (e693, .int), (e697, .array .int), (e700, .int), (e706, .int), (e710, .int), (e714, .int)] s [(h0, .inr (4, [.null, .ref q703, .ref q707, .int 0, .int 0, .ref q573, .ref q696, .ref q699, .ref q701, .null])), (q573, .inl (e574, 12, .inr (.inr (.inr (.inr (va_up (va_up (va_up (va_up (va_up (va_up (va_up (va_up (va_up (va_up (va_up (va_up (fun _ => none) 0 (some q576)) 1 (some q586)) 2 (some q596)) 3 (some q606)) 4 (some q616)) 5 (some q626)) 6 (some q636)) 7 (some q646)) 8 (some q656)) 9 (some q666)) 10 (some q676)) 11 (some q686))))))), (q576, .inr (9, [.ref q578, .ref q579, .int 0, .ref q580, .ref q581])), (q578, .inr (8, [.ref q582, .int 0])), (q582, .inl (e583, 40, .inl (fun _ => 0))), (q579, .inr (8, [.ref q584, .int 0])), (q586, .inr (9, [.ref q588, .ref q589, .int 0, .ref q590, .ref q591])), (q588, .inr (8, [.ref q592, .int 0])), (q592, .inl (e593, 40, .inl (fun _ => 0))), (q589, .inr (8, [.ref q594, .int 0])), (q596, .inr (9, [.ref q598, .ref q599, .int 0, .ref q600, .ref q601])), (q598, .inr (8, [.ref q602, .int 0])), (q602, .inl (e603, 40, .inl (fun _ => 0))), (q599, .inr (8, [.ref q604, .int 0])), (q606, .inr (9, [.ref q608, .ref q609, .int 0, .ref q610, .ref q611])), (q608, .inr (8, [.ref q612, .int 0])), (q612, .inl (e613, 40, .inl (fun _ => 0))), (q609, .inr (8, [.ref q614, .int 0])), (q616, .inr (9, [.ref q618, .ref q619, .int 0, .ref q620, .ref q621])), (q618, .inr (8, [.ref q622, .int 0])), (q622, .inl (e623, 40, .inl (fun _ => 0))), (q619, .inr (8, [.ref q624, .int 0])), (q626, .inr (9, [.ref q628, .ref q629, .int 0, .ref q630, .ref q631])), (q628, .inr (8, [.ref q632, .int 0])), (q632, .inl (e633, 40, .inl (fun _ => 0))), (q629, .inr (8, [.ref q634, .int 0])), (q636, .inr (9, [.ref q638, .ref q639, .int 0, .ref q640, .ref q641])), (q638, .inr (8, [.ref q642, .int 0])), (q642, .inl (e643, 40, .inl (fun _ => 0))), (q639, .inr (8, [.ref q644, .int 0])), (q646, .inr (9, [.ref q648, .ref q649, .int 0, .ref q650, .ref q651])), (q648, .inr (8, [.ref q652, .int 0])), (q652, .inl (e653, 40, .inl (fun _ => 0))), (q649, .inr (8, [.ref q654, .int 0])), (q656, .inr (9, [.ref q658, .ref q659, .int 0, .ref q660, .ref q661])), (q658, .inr (8, [.ref q662, .int 0])), (q662, .inl (e663, 40, .inl (fun _ => 0))), (q659, .inr (8, [.ref q664, .int 0])), (q666, .inr (9, [.ref q668, .ref q669, .int 0, .ref q670, .ref q671])), (q668, .inr (8, [.ref q672, .int 0])), (q672, .inl (e673, 40, .inl (fun _ => 0))), (q669, .inr (8, [.ref q674, .int 0])), (q676, .inr (9, [.ref q678, .ref q679, .int 0, .ref q680, .ref q681])), (q678, .inr (8, [.ref q682, .int 0])), (q682, .inl (e683, 40, .inl (fun _ => 0))), (q679, .inr (8, [.ref q684, .int 0])), (q686, .inr (9, [.ref q688, .ref q689, .int 0, .ref q690, .ref q691])), (q688, .inr (8, [.ref q692, .int 0])), (q692, .inl (e693, 40, .inl (fun _ => 0))), (q689, .inr (8, [.ref q694, .int 0])), (q696, .inl (e697, 6, .inr (.inr (.inr (.inr (fun i => if i < 6 then some (r698 i) else none)))))), ((r698 0), .inl (e583, 8, .inl (fun _ => 0))), ((r698 1), .inl (e583, 8, .inl (fun _ => 0))), ((r698 2), .inl (e583, 8, .inl (fun _ => 0))), ((r698 3), .inl (e583, 8, .inl (fun _ => 0))), ((r698 4), .inl (e583, 8, .inl (fun _ => 0))), ((r698 5), .inl (e583, 8, .inl (fun _ => 0))), (q699, .inl (e700, 6, .inl (fun _ => 0))), (q703, .inr (8, [.ref q705, .int 0])), (q705, .inl (e706, 1000, .inl (fun _ => 0))), (q707, .inr (8, [.ref q709, .int 0])), (q709, .inl (e710, 480, .inl (fun _ => 0))), (q711, .inr (8, [.ref q713, .int 0])), (q713, .inl (e714, 480, .inl (fun _ => 0)))] _ A s.heap _ := Wd
  refine k_putF C Wd KX4 0 9 [(h0, .inr (4, [.null, .ref q703, .ref q707, .int 0, .int 0, .ref q573, .ref q696, .ref q699, .ref q701, .ref q711])), (q573, .inl (e574, 12, .inr (.inr (.inr (.inr (va_up (va_up (va_up (va_up (va_up (va_up (va_up (va_up (va_up (va_up (va_up (va_up (fun _ => none) 0 (some q576)) 1 (some q586)) 2 (some q596)) 3 (some q606)) 4 (some q616)) 5 (some q626)) 6 (some q636)) 7 (some q646)) 8 (some q656)) 9 (some q666)) 10 (some q676)) 11 (some q686))))))), (q576, .inr (9, [.ref q578, .ref q579, .int 0, .ref q580, .ref q581])), (q578, .inr (8, [.ref q582, .int 0])), (q582, .inl (e583, 40, .inl (fun _ => 0))), (q579, .inr (8, [.ref q584, .int 0])), (q586, .inr (9, [.ref q588, .ref q589, .int 0, .ref q590, .ref q591])), (q588, .inr (8, [.ref q592, .int 0])), (q592, .inl (e593, 40, .inl (fun _ => 0))), (q589, .inr (8, [.ref q594, .int 0])), (q596, .inr (9, [.ref q598, .ref q599, .int 0, .ref q600, .ref q601])), (q598, .inr (8, [.ref q602, .int 0])), (q602, .inl (e603, 40, .inl (fun _ => 0))), (q599, .inr (8, [.ref q604, .int 0])), (q606, .inr (9, [.ref q608, .ref q609, .int 0, .ref q610, .ref q611])), (q608, .inr (8, [.ref q612, .int 0])), (q612, .inl (e613, 40, .inl (fun _ => 0))), (q609, .inr (8, [.ref q614, .int 0])), (q616, .inr (9, [.ref q618, .ref q619, .int 0, .ref q620, .ref q621])), (q618, .inr (8, [.ref q622, .int 0])), (q622, .inl (e623, 40, .inl (fun _ => 0))), (q619, .inr (8, [.ref q624, .int 0])), (q626, .inr (9, [.ref q628, .ref q629, .int 0, .ref q630, .ref q631])), (q628, .inr (8, [.ref q632, .int 0])), (q632, .inl (e633, 40, .inl (fun _ => 0))), (q629, .inr (8, [.ref q634, .int 0])), (q636, .inr (9, [.ref q638, .ref q639, .int 0, .ref q640, .ref q641])), (q638, .inr (8, [.ref q642, .int 0])), (q642, .inl (e643, 40, .inl (fun _ => 0))), (q639, .inr (8, [.ref q644, .int 0])), (q646, .inr (9, [.ref q648, .ref q649, .int 0, .ref q650, .ref q651])), (q648, .inr (8, [.ref q652, .int 0])), (q652, .inl (e653, 40, .inl (fun _ => 0))), (q649, .inr (8, [.ref q654, .int 0])), (q656, .inr (9, [.ref q658, .ref q659, .int 0, .ref q660, .ref q661])), (q658, .inr (8, [.ref q662, .int 0])), (q662, .inl (e663, 40, .inl (fun _ => 0))), (q659, .inr (8, [.ref q664, .int 0])), (q666, .inr (9, [.ref q668, .ref q669, .int 0, .ref q670, .ref q671])), (q668, .inr (8, [.ref q672, .int 0])), (q672, .inl (e673, 40, .inl (fun _ => 0))), (q669, .inr (8, [.ref q674, .int 0])), (q676, .inr (9, [.ref q678, .ref q679, .int 0, .ref q680, .ref q681])), (q678, .inr (8, [.ref q682, .int 0])), (q682, .inl (e683, 40, .inl (fun _ => 0))), (q679, .inr (8, [.ref q684, .int 0])), (q686, .inr (9, [.ref q688, .ref q689, .int 0, .ref q690, .ref q691])), (q688, .inr (8, [.ref q692, .int 0])), (q692, .inl (e693, 40, .inl (fun _ => 0))), (q689, .inr (8, [.ref q694, .int 0])), (q696, .inl (e697, 6, .inr (.inr (.inr (.inr (fun i => if i < 6 then some (r698 i) else none)))))), ((r698 0), .inl (e583, 8, .inl (fun _ => 0))), ((r698 1), .inl (e583, 8, .inl (fun _ => 0))), ((r698 2), .inl (e583, 8, .inl (fun _ => 0))), ((r698 3), .inl (e583, 8, .inl (fun _ => 0))), ((r698 4), .inl (e583, 8, .inl (fun _ => 0))), ((r698 5), .inl (e583, 8, .inl (fun _ => 0))), (q699, .inl (e700, 6, .inl (fun _ => 0))), (q703, .inr (8, [.ref q705, .int 0])), (q705, .inl (e706, 1000, .inl (fun _ => 0))), (q707, .inr (8, [.ref q709, .int 0])), (q709, .inl (e710, 480, .inl (fun _ => 0))), (q711, .inr (8, [.ref q713, .int 0])), (q713, .inl (e714, 480, .inl (fun _ => 0)))] rfl (by decide) fl_X4_46 rfl hin rfl rfl rfl (Nat.le_of_ble_eq_true rfl) rfl dX4_init_110 (fun H locs Wd => ?_)
  refine lv_aload_n C.1 C.2.1 dX4_init_113 rfl (lv_at hl 1 rfl) ?_
  refine k_new C Wd KX2 cl_X4_49 is_X2 in_X2 [.int 0, .int 0, .int 0, .int 0, .null, .null] (by decide +kernel) (cells' := 118) (slots' := 5125) (Nat.le_of_ble_eq_true rfl) (Nat.le_of_ble_eq_true rfl) (by decide) (by decide) dX4_init_114 (fun q715 H Wd => ?_)
  have Wd : wX D [(e574, .object RX9), (e583, .int), (e593, .int), (e603, .int), (e613, .int), (e623, .int), (e633, .int), (e643, .int), (e653, .int), (e663, .int), (e673, .int), (e683, .int), (e693, .int), (e697, .array .int), (e700, .int), (e706, .int), (e710, .int), (e714, .int)] s [(h0, .inr (4, [.null, .ref q703, .ref q707, .int 0, .int 0, .ref q573, .ref q696, .ref q699, .ref q701, .ref q711])), (q573, .inl (e574, 12, .inr (.inr (.inr (.inr (va_up (va_up (va_up (va_up (va_up (va_up (va_up (va_up (va_up (va_up (va_up (va_up (fun _ => none) 0 (some q576)) 1 (some q586)) 2 (some q596)) 3 (some q606)) 4 (some q616)) 5 (some q626)) 6 (some q636)) 7 (some q646)) 8 (some q656)) 9 (some q666)) 10 (some q676)) 11 (some q686))))))), (q576, .inr (9, [.ref q578, .ref q579, .int 0, .ref q580, .ref q581])), (q578, .inr (8, [.ref q582, .int 0])), (q582, .inl (e583, 40, .inl (fun _ => 0))), (q579, .inr (8, [.ref q584, .int 0])), (q586, .inr (9, [.ref q588, .ref q589, .int 0, .ref q590, .ref q591])), (q588, .inr (8, [.ref q592, .int 0])), (q592, .inl (e593, 40, .inl (fun _ => 0))), (q589, .inr (8, [.ref q594, .int 0])), (q596, .inr (9, [.ref q598, .ref q599, .int 0, .ref q600, .ref q601])), (q598, .inr (8, [.ref q602, .int 0])), (q602, .inl (e603, 40, .inl (fun _ => 0))), (q599, .inr (8, [.ref q604, .int 0])), (q606, .inr (9, [.ref q608, .ref q609, .int 0, .ref q610, .ref q611])), (q608, .inr (8, [.ref q612, .int 0])), (q612, .inl (e613, 40, .inl (fun _ => 0))), (q609, .inr (8, [.ref q614, .int 0])), (q616, .inr (9, [.ref q618, .ref q619, .int 0, .ref q620, .ref q621])), (q618, .inr (8, [.ref q622, .int 0])), (q622, .inl (e623, 40, .inl (fun _ => 0))), (q619, .inr (8, [.ref q624, .int 0])), (q626, .inr (9, [.ref q628, .ref q629, .int 0, .ref q630, .ref q631])), (q628, .inr (8, [.ref q632, .int 0])), (q632, .inl (e633, 40, .inl (fun _ => 0))), (q629, .inr (8, [.ref q634, .int 0])), (q636, .inr (9, [.ref q638, .ref q639, .int 0, .ref q640, .ref q641])), (q638, .inr (8, [.ref q642, .int 0])), (q642, .inl (e643, 40, .inl (fun _ => 0))), (q639, .inr (8, [.ref q644, .int 0])), (q646, .inr (9, [.ref q648, .ref q649, .int 0, .ref q650, .ref q651])), (q648, .inr (8, [.ref q652, .int 0])), (q652, .inl (e653, 40, .inl (fun _ => 0))), (q649, .inr (8, [.ref q654, .int 0])), (q656, .inr (9, [.ref q658, .ref q659, .int 0, .ref q660, .ref q661])), (q658, .inr (8, [.ref q662, .int 0])), (q662, .inl (e663, 40, .inl (fun _ => 0))), (q659, .inr (8, [.ref q664, .int 0])), (q666, .inr (9, [.ref q668, .ref q669, .int 0, .ref q670, .ref q671])), (q668, .inr (8, [.ref q672, .int 0])), (q672, .inl (e673, 40, .inl (fun _ => 0))), (q669, .inr (8, [.ref q674, .int 0])), (q676, .inr (9, [.ref q678, .ref q679, .int 0, .ref q680, .ref q681])), (q678, .inr (8, [.ref q682, .int 0])), (q682, .inl (e683, 40, .inl (fun _ => 0))), (q679, .inr (8, [.ref q684, .int 0])), (q686, .inr (9, [.ref q688, .ref q689, .int 0, .ref q690, .ref q691])), (q688, .inr (8, [.ref q692, .int 0])), (q692, .inl (e693, 40, .inl (fun _ => 0))), (q689, .inr (8, [.ref q694, .int 0])), (q696, .inl (e697, 6, .inr (.inr (.inr (.inr (fun i => if i < 6 then some (r698 i) else none)))))), ((r698 0), .inl (e583, 8, .inl (fun _ => 0))), ((r698 1), .inl (e583, 8, .inl (fun _ => 0))), ((r698 2), .inl (e583, 8, .inl (fun _ => 0))), ((r698 3), .inl (e583, 8, .inl (fun _ => 0))), ((r698 4), .inl (e583, 8, .inl (fun _ => 0))), ((r698 5), .inl (e583, 8, .inl (fun _ => 0))), (q699, .inl (e700, 6, .inl (fun _ => 0))), (q703, .inr (8, [.ref q705, .int 0])), (q705, .inl (e706, 1000, .inl (fun _ => 0))), (q707, .inr (8, [.ref q709, .int 0])), (q709, .inl (e710, 480, .inl (fun _ => 0))), (q711, .inr (8, [.ref q713, .int 0])), (q713, .inl (e714, 480, .inl (fun _ => 0))), (q715, .inr (2, [.int 0, .int 0, .int 0, .int 0, .null, .null]))] _ A s.heap _ := Wd
  refine lv_dup C.1 C.2.1 dX4_init_117 rfl ?_
  refine k_cv Wd [64] [0, 1, 2, 3, 4, 5, 6, 7, 8, 9, 10, 11, 12, 13, 14, 15, 16, 17, 18, 19, 20, 21, 22, 23, 24, 25, 26, 27, 28, 29, 30, 31, 32, 33, 34, 35, 36, 37, 38, 39, 40, 41, 42, 43, 44, 45, 46, 47, 48, 49, 50, 51, 52, 53, 54, 55, 56, 57, 58, 59, 60, 61, 62, 63] rfl (wr := [(h0, .inr (4, [.null, .ref q703, .ref q707, .int 0, .int 0, .ref q573, .ref q696, .ref q699, .ref q701, .ref q711])), (q573, .inl (e574, 12, .inr (.inr (.inr (.inr (va_up (va_up (va_up (va_up (va_up (va_up (va_up (va_up (va_up (va_up (va_up (va_up (fun _ => none) 0 (some q576)) 1 (some q586)) 2 (some q596)) 3 (some q606)) 4 (some q616)) 5 (some q626)) 6 (some q636)) 7 (some q646)) 8 (some q656)) 9 (some q666)) 10 (some q676)) 11 (some q686))))))), (q576, .inr (9, [.ref q578, .ref q579, .int 0, .ref q580, .ref q581])), (q578, .inr (8, [.ref q582, .int 0])), (q582, .inl (e583, 40, .inl (fun _ => 0))), (q579, .inr (8, [.ref q584, .int 0])), (q586, .inr (9, [.ref q588, .ref q589, .int 0, .ref q590, .ref q591])), (q588, .inr (8, [.ref q592, .int 0])), (q592, .inl (e593, 40, .inl (fun _ => 0))), (q589, .inr (8, [.ref q594, .int 0])), (q596, .inr (9, [.ref q598, .ref q599, .int 0, .ref q600, .ref q601])), (q598, .inr (8, [.ref q602, .int 0])), (q602, .inl (e603, 40, .inl (fun _ => 0))), (q599, .inr (8, [.ref q604, .int 0])), (q606, .inr (9, [.ref q608, .ref q609, .int 0, .ref q610, .ref q611])), (q608, .inr (8, [.ref q612, .int 0])), (q612, .inl (e613, 40, .inl (fun _ => 0))), (q609, .inr (8, [.ref q614, .int 0])), (q616, .inr (9, [.ref q618, .ref q619, .int 0, .ref q620, .ref q621])), (q618, .inr (8, [.ref q622, .int 0])), (q622, .inl (e623, 40, .inl (fun _ => 0))), (q619, .inr (8, [.ref q624, .int 0])), (q626, .inr (9, [.ref q628, .ref q629, .int 0, .ref q630, .ref q631])), (q628, .inr (8, [.ref q632, .int 0])), (q632, .inl (e633, 40, .inl (fun _ => 0))), (q629, .inr (8, [.ref q634, .int 0])), (q636, .inr (9, [.ref q638, .ref q639, .int 0, .ref q640, .ref q641])), (q638, .inr (8, [.ref q642, .int 0])), (q642, .inl (e643, 40, .inl (fun _ => 0))), (q639, .inr (8, [.ref q644, .int 0])), (q646, .inr (9, [.ref q648, .ref q649, .int 0, .ref q650, .ref q651])), (q648, .inr (8, [.ref q652, .int 0])), (q652, .inl (e653, 40, .inl (fun _ => 0))), (q649, .inr (8, [.ref q654, .int 0])), (q656, .inr (9, [.ref q658, .ref q659, .int 0, .ref q660, .ref q661])), (q658, .inr (8, [.ref q662, .int 0])), (q662, .inl (e663, 40, .inl (fun _ => 0))), (q659, .inr (8, [.ref q664, .int 0])), (q666, .inr (9, [.ref q668, .ref q669, .int 0, .ref q670, .ref q671])), (q668, .inr (8, [.ref q672, .int 0])), (q672, .inl (e673, 40, .inl (fun _ => 0))), (q669, .inr (8, [.ref q674, .int 0])), (q676, .inr (9, [.ref q678, .ref q679, .int 0, .ref q680, .ref q681])), (q678, .inr (8, [.ref q682, .int 0])), (q682, .inl (e683, 40, .inl (fun _ => 0))), (q679, .inr (8, [.ref q684, .int 0])), (q686, .inr (9, [.ref q688, .ref q689, .int 0, .ref q690, .ref q691])), (q688, .inr (8, [.ref q692, .int 0])), (q692, .inl (e693, 40, .inl (fun _ => 0))), (q689, .inr (8, [.ref q694, .int 0])), (q696, .inl (e697, 6, .inr (.inr (.inr (.inr (fun i => if i < 6 then some (r698 i) else none)))))), ((r698 0), .inl (e583, 8, .inl (fun _ => 0))), ((r698 1), .inl (e583, 8, .inl (fun _ => 0))), ((r698 2), .inl (e583, 8, .inl (fun _ => 0))), ((r698 3), .inl (e583, 8, .inl (fun _ => 0))), ((r698 4), .inl (e583, 8, .inl (fun _ => 0))), ((r698 5), .inl (e583, 8, .inl (fun _ => 0))), (q699, .inl (e700, 6, .inl (fun _ => 0))), (q703, .inr (8, [.ref q705, .int 0])), (q705, .inl (e706, 1000, .inl (fun _ => 0))), (q707, .inr (8, [.ref q709, .int 0])), (q709, .inl (e710, 480, .inl (fun _ => 0))), (q711, .inr (8, [.ref q713, .int 0])), (q713, .inl (e714, 480, .inl (fun _ => 0)))]) rfl (by decide) (by decide) (cells' := 156) (slots' := 7825) (by decide) (by decide) (k_runI (rest := [.ref q715, .ref h0]) C aks Wd cs_X4_51 (kcX2_init l D q715 _ ) [64] rfl (by decide) [] rfl rfl rfl ⟨(Nat.le_of_ble_eq_true rfl), (Nat.le_of_ble_eq_true rfl)⟩ hl.1 rfl rfl (Nat.le_of_ble_eq_true rfl) ⟨(Nat.le_of_ble_eq_true rfl), (Nat.le_of_ble_eq_true rfl)⟩ dX4_init_118) (fun u H locs w716 Wd => ?_)
  obtain ⟨q717, q718, q719, q720, q721, q722, q723, q724, q725, q726, q727, q728, q729, q730, q731, q732, q733, q734, q735, e736, e737, q738, q739, q740, q741, q742, q743, q744, q745, q746, q747, q748, q749, q750, q751, q752, q753, q754, e755, e756⟩ := u
  have Wd : wX D [(e574, .object RX9), (e583, .int), (e593, .int), (e603, .int), (e613, .int), (e623, .int), (e633, .int), (e643, .int), (e653, .int), (e663, .int), (e673, .int), (e683, .int), (e693, .int), (e697, .array .int), (e700, .int), (e706, .int), (e710, .int), (e714, .int), (e736, .int), (e737, .int), (e755, .int), (e756, .int)] s [(h0, .inr (4, [.null, .ref q703, .ref q707, .int 0, .int 0, .ref q573, .ref q696, .ref q699, .ref q701, .ref q711])), (q573, .inl (e574, 12, .inr (.inr (.inr (.inr (va_up (va_up (va_up (va_up (va_up (va_up (va_up (va_up (va_up (va_up (va_up (va_up (fun _ => none) 0 (some q576)) 1 (some q586)) 2 (some q596)) 3 (some q606)) 4 (some q616)) 5 (some q626)) 6 (some q636)) 7 (some q646)) 8 (some q656)) 9 (some q666)) 10 (some q676)) 11 (some q686))))))), (q576, .inr (9, [.ref q578, .ref q579, .int 0, .ref q580, .ref q581])), (q578, .inr (8, [.ref q582, .int 0])), (q582, .inl (e583, 40, .inl (fun _ => 0))), (q579, .inr (8, [.ref q584, .int 0])), (q586, .inr (9, [.ref q588, .ref q589, .int 0, .ref q590, .ref q591])), (q588, .inr (8, [.ref q592, .int 0])), (q592, .inl (e593, 40, .inl (fun _ => 0))), (q589, .inr (8, [.ref q594, .int 0])), (q596, .inr (9, [.ref q598, .ref q599, .int 0, .ref q600, .ref q601])), (q598, .inr (8, [.ref q602, .int 0])), (q602, .inl (e603, 40, .inl (fun _ => 0))), (q599, .inr (8, [.ref q604, .int 0])), (q606, .inr (9, [.ref q608, .ref q609, .int 0, .ref q610, .ref q611])), (q608, .inr (8, [.ref q612, .int 0])), (q612, .inl (e613, 40, .inl (fun _ => 0))), (q609, .inr (8, [.ref q614, .int 0])), (q616, .inr (9, [.ref q618, .ref q619, .int 0, .ref q620, .ref q621])), (q618, .inr (8, [.ref q622, .int 0])), (q622, .inl (e623, 40, .inl (fun _ => 0))), (q619, .inr (8, [.ref q624, .int 0])), (q626, .inr (9, [.ref q628, .ref q629, .int 0, .ref q630, .ref q631])), (q628, .inr (8, [.ref q632, .int 0])), (q632, .inl (e633, 40, .inl (fun _ => 0))), (q629, .inr (8, [.ref q634, .int 0])), (q636, .inr (9, [.ref q638, .ref q639, .int 0, .ref q640, .ref q641])), (q638, .inr (8, [.ref q642, .int 0])), (q642, .inl (e643, 40, .inl (fun _ => 0))), (q639, .inr (8, [.ref q644, .int 0])), (q646, .inr (9, [.ref q648, .ref q649, .int 0, .ref q650, .ref q651])), (q648, .inr (8, [.ref q652, .int 0])), (q652, .inl (e653, 40, .inl (fun _ => 0))), (q649, .inr (8, [.ref q654, .int 0])), (q656, .inr (9, [.ref q658, .ref q659, .int 0, .ref q660, .ref q661])), (q658, .inr (8, [.ref q662, .int 0])), (q662, .inl (e663, 40, .inl (fun _ => 0))), (q659, .inr (8, [.ref q664, .int 0])), (q666, .inr (9, [.ref q668, .ref q669, .int 0, .ref q670, .ref q671])), (q668, .inr (8, [.ref q672, .int 0])), (q672, .inl (e673, 40, .inl (fun _ => 0))), (q669, .inr (8, [.ref q674, .int 0])), (q676, .inr (9, [.ref q678, .ref q679, .int 0, .ref q680, .ref q681])), (q678, .inr (8, [.ref q682, .int 0])), (q682, .inl (e683, 40, .inl (fun _ => 0))), (q679, .inr (8, [.ref q684, .int 0])), (q686, .inr (9, [.ref q688, .ref q689, .int 0, .ref q690, .ref q691])), (q688, .inr (8, [.ref q692, .int 0])), (q692, .inl (e693, 40, .inl (fun _ => 0))), (q689, .inr (8, [.ref q694, .int 0])), (q696, .inl (e697, 6, .inr (.inr (.inr (.inr (fun i => if i < 6 then some (r698 i) else none)))))), ((r698 0), .inl (e583, 8, .inl (fun _ => 0))), ((r698 1), .inl (e583, 8, .inl (fun _ => 0))), ((r698 2), .inl (e583, 8, .inl (fun _ => 0))), ((r698 3), .inl (e583, 8, .inl (fun _ => 0))), ((r698 4), .inl (e583, 8, .inl (fun _ => 0))), ((r698 5), .inl (e583, 8, .inl (fun _ => 0))), (q699, .inl (e700, 6, .inl (fun _ => 0))), (q703, .inr (8, [.ref q705, .int 0])), (q705, .inl (e706, 1000, .inl (fun _ => 0))), (q707, .inr (8, [.ref q709, .int 0])), (q709, .inl (e710, 480, .inl (fun _ => 0))), (q711, .inr (8, [.ref q713, .int 0])), (q713, .inl (e714, 480, .inl (fun _ => 0))), (q715, .inr (2, [.int (-1), .int (-1), .int 0, .int 0, .ref q717, .ref q718])), (q717, .inr (3, [.ref q719, .ref q720, .int 0, .int 0, .int 0, .ref q721, .ref q722])), (q719, .inr (1, [.ref q723, .int 0, .ref q724, .ref q725, .ref q726, .ref q727, .ref q728, .ref q729, .ref q730, .ref q731, .ref q732, .ref q733, .ref q734, .ref q735])), (q735, .inl (e736, 480, .inl (fun _ => 0))), (q721, .inl (e737, 6, .inl (fun _ => 0))), (q718, .inr (3, [.ref q738, .ref q739, .int 0, .int 0, .int 0, .ref q740, .ref q741])), (q738, .inr (1, [.ref q742, .int 0, .ref q743, .ref q744, .ref q745, .ref q746, .ref q747, .ref q748, .ref q749, .ref q750, .ref q751, .ref q752, .ref q753, .ref q754])), (q754, .inl (e755, 480, .inl (fun _ => 0))), (q740, .inl (e756, 6, .inl (fun _ => 0)))] _ A s.heap _ := Wd
  refine k_putF C Wd KX4 0 0 [(h0, .inr (4, [.ref q715, .ref q703, .ref q707, .int 0, .int 0, .ref q573, .ref q696, .ref q699, .ref q701, .ref q711])), (q573, .inl (e574, 12, .inr (.inr (.inr (.inr (va_up (va_up (va_up (va_up (va_up (va_up (va_up (va_up (va_up (va_up (va_up (va_up (fun _ => none) 0 (some q576)) 1 (some q586)) 2 (some q596)) 3 (some q606)) 4 (some q616)) 5 (some q626)) 6 (some q636)) 7 (some q646)) 8 (some q656)) 9 (some q666)) 10 (some q676)) 11 (some q686))))))), (q576, .inr (9, [.ref q578, .ref q579, .int 0, .ref q580, .ref q581])), (q578, .inr (8, [.ref q582, .int 0])), (q582, .inl (e583, 40, .inl (fun _ => 0))), (q579, .inr (8, [.ref q584, .int 0])), (q586, .inr (9, [.ref q588, .ref q589, .int 0, .ref q590, .ref q591])), (q588, .inr (8, [.ref q592, .int 0])), (q592, .inl (e593, 40, .inl (fun _ => 0))), (q589, .inr (8, [.ref q594, .int 0])), (q596, .inr (9, [.ref q598, .ref q599, .int 0, .ref q600, .ref q601])), (q598, .inr (8, [.ref q602, .int 0])), (q602, .inl (e603, 40, .inl (fun _ => 0))), (q599, .inr (8, [.ref q604, .int 0])), (q606, .inr (9, [.ref q608, .ref q609, .int 0, .ref q610, .ref q611])), (q608, .inr (8, [.ref q612, .int 0])), (q612, .inl (e613, 40, .inl (fun _ => 0))), (q609, .inr (8, [.ref q614, .int 0])), (q616, .inr (9, [.ref q618, .ref q619, .int 0, .ref q620, .ref q621])), (q618, .inr (8, [.ref q622, .int 0])), (q622, .inl (e623, 40, .inl (fun _ => 0))), (q619, .inr (8, [.ref q624, .int 0])), (q626, .inr (9, [.ref q628, .ref q629, .int 0, .ref q630, .ref q631])), (q628, .inr (8, [.ref q632, .int 0])), (q632, .inl (e633, 40, .inl (fun _ => 0))), (q629, .inr (8, [.ref q634, .int 0])), (q636, .inr (9, [.ref q638, .ref q639, .int 0, .ref q640, .ref q641])), (q638, .inr (8, [.ref q642, .int 0])), (q642, .inl (e643, 40, .inl (fun _ => 0))), (q639, .inr (8, [.ref q644, .int 0])), (q646, .inr (9, [.ref q648, .ref q649, .int 0, .ref q650, .ref q651])), (q648, .inr (8, [.ref q652, .int 0])), (q652, .inl (e653, 40, .inl (fun _ => 0))), (q649, .inr (8, [.ref q654, .int 0])), (q656, .inr (9, [.ref q658, .ref q659, .int 0, .ref q660, .ref q661])), (q658, .inr (8, [.ref q662, .int 0])), (q662, .inl (e663, 40, .inl (fun _ => 0))), (q659, .inr (8, [.ref q664, .int 0])), (q666, .inr (9, [.ref q668, .ref q669, .int 0, .ref q670, .ref q671])), (q668, .inr (8, [.ref q672, .int 0])), (q672, .inl (e673, 40, .inl (fun _ => 0))), (q669, .inr (8, [.ref q674, .int 0])), (q676, .inr (9, [.ref q678, .ref q679, .int 0, .ref q680, .ref q681])), (q678, .inr (8, [.ref q682, .int 0])), (q682, .inl (e683, 40, .inl (fun _ => 0))), (q679, .inr (8, [.ref q684, .int 0])), (q686, .inr (9, [.ref q688, .ref q689, .int 0, .ref q690, .ref q691])), (q688, .inr (8, [.ref q692, .int 0])), (q692, .inl (e693, 40, .inl (fun _ => 0))), (q689, .inr (8, [.ref q694, .int 0])), (q696, .inl (e697, 6, .inr (.inr (.inr (.inr (fun i => if i < 6 then some (r698 i) else none)))))), ((r698 0), .inl (e583, 8, .inl (fun _ => 0))), ((r698 1), .inl (e583, 8, .inl (fun _ => 0))), ((r698 2), .inl (e583, 8, .inl (fun _ => 0))), ((r698 3), .inl (e583, 8, .inl (fun _ => 0))), ((r698 4), .inl (e583, 8, .inl (fun _ => 0))), ((r698 5), .inl (e583, 8, .inl (fun _ => 0))), (q699, .inl (e700, 6, .inl (fun _ => 0))), (q703, .inr (8, [.ref q705, .int 0])), (q705, .inl (e706, 1000, .inl (fun _ => 0))), (q707, .inr (8, [.ref q709, .int 0])), (q709, .inl (e710, 480, .inl (fun _ => 0))), (q711, .inr (8, [.ref q713, .int 0])), (q713, .inl (e714, 480, .inl (fun _ => 0))), (q715, .inr (2, [.int (-1), .int (-1), .int 0, .int 0, .ref q717, .ref q718])), (q717, .inr (3, [.ref q719, .ref q720, .int 0, .int 0, .int 0, .ref q721, .ref q722])), (q719, .inr (1, [.ref q723, .int 0, .ref q724, .ref q725, .ref q726, .ref q727, .ref q728, .ref q729, .ref q730, .ref q731, .ref q732, .ref q733, .ref q734, .ref q735])), (q735, .inl (e736, 480, .inl (fun _ => 0))), (q721, .inl (e737, 6, .inl (fun _ => 0))), (q718, .inr (3, [.ref q738, .ref q739, .int 0, .int 0, .int 0, .ref q740, .ref q741])), (q738, .inr (1, [.ref q742, .int 0, .ref q743, .ref q744, .ref q745, .ref q746, .ref q747, .ref q748, .ref q749, .ref q750, .ref q751, .ref q752, .ref q753, .ref q754])), (q754, .inl (e755, 480, .inl (fun _ => 0))), (q740, .inl (e756, 6, .inl (fun _ => 0)))] rfl (by decide) fl_X4_52 rfl hin rfl rfl rfl (Nat.le_of_ble_eq_true rfl) rfl dX4_init_121 (fun H locs Wd => ?_)
  refine lv_aload_n C.1 C.2.1 dX4_init_124 rfl (lv_at hl 1 rfl) ?_
  refine lv_iconst (v := (-1)) C.1 C.2.1 dX4_init_125 (by decide) ?_
  refine k_put C Wd KX4 0 3 [(h0, .inr (4, [.ref q715, .ref q703, .ref q707, .int (-1), .int 0, .ref q573, .ref q696, .ref q699, .ref q701, .ref q711])), (q573, .inl (e574, 12, .inr (.inr (.inr (.inr (va_up (va_up (va_up (va_up (va_up (va_up (va_up (va_up (va_up (va_up (va_up (va_up (fun _ => none) 0 (some q576)) 1 (some q586)) 2 (some q596)) 3 (some q606)) 4 (some q616)) 5 (some q626)) 6 (some q636)) 7 (some q646)) 8 (some q656)) 9 (some q666)) 10 (some q676)) 11 (some q686))))))), (q576, .inr (9, [.ref q578, .ref q579, .int 0, .ref q580, .ref q581])), (q578, .inr (8, [.ref q582, .int 0])), (q582, .inl (e583, 40, .inl (fun _ => 0))), (q579, .inr (8, [.ref q584, .int 0])), (q586, .inr (9, [.ref q588, .ref q589, .int 0, .ref q590, .ref q591])), (q588, .inr (8, [.ref q592, .int 0])), (q592, .inl (e593, 40, .inl (fun _ => 0))), (q589, .inr (8, [.ref q594, .int 0])), (q596, .inr (9, [.ref q598, .ref q599, .int 0, .ref q600, .ref q601])), (q598, .inr (8, [.ref q602, .int 0])), (q602, .inl (e603, 40, .inl (fun _ => 0))), (q599, .inr (8, [.ref q604, .int 0])), (q606, .inr (9, [.ref q608, .ref q609, .int 0, .ref q610, .ref q611])), (q608, .inr (8, [.ref q612, .int 0])), (q612, .inl (e613, 40, .inl (fun _ => 0))), (q609, .inr (8, [.ref q614, .int 0])), (q616, .inr (9, [.ref q618, .ref q619, .int 0, .ref q620, .ref q621])), (q618, .inr (8, [.ref q622, .int 0])), (q622, .inl (e623, 40, .inl (fun _ => 0))), (q619, .inr (8, [.ref q624, .int 0])), (q626, .inr (9, [.ref q628, .ref q629, .int 0, .ref q630, .ref q631])), (q628, .inr (8, [.ref q632, .int 0])), (q632, .inl (e633, 40, .inl (fun _ => 0))), (q629, .inr (8, [.ref q634, .int 0])), (q636, .inr (9, [.ref q638, .ref q639, .int 0, .ref q640, .ref q641])), (q638, .inr (8, [.ref q642, .int 0])), (q642, .inl (e643, 40, .inl (fun _ => 0))), (q639, .inr (8, [.ref q644, .int 0])), (q646, .inr (9, [.ref q648, .ref q649, .int 0, .ref q650, .ref q651])), (q648, .inr (8, [.ref q652, .int 0])), (q652, .inl (e653, 40, .inl (fun _ => 0))), (q649, .inr (8, [.ref q654, .int 0])), (q656, .inr (9, [.ref q658, .ref q659, .int 0, .ref q660, .ref q661])), (q658, .inr (8, [.ref q662, .int 0])), (q662, .inl (e663, 40, .inl (fun _ => 0))), (q659, .inr (8, [.ref q664, .int 0])), (q666, .inr (9, [.ref q668, .ref q669, .int 0, .ref q670, .ref q671])), (q668, .inr (8, [.ref q672, .int 0])), (q672, .inl (e673, 40, .inl (fun _ => 0))), (q669, .inr (8, [.ref q674, .int 0])), (q676, .inr (9, [.ref q678, .ref q679, .int 0, .ref q680, .ref q681])), (q678, .inr (8, [.ref q682, .int 0])), (q682, .inl (e683, 40, .inl (fun _ => 0))), (q679, .inr (8, [.ref q684, .int 0])), (q686, .inr (9, [.ref q688, .ref q689, .int 0, .ref q690, .ref q691])), (q688, .inr (8, [.ref q692, .int 0])), (q692, .inl (e693, 40, .inl (fun _ => 0))), (q689, .inr (8, [.ref q694, .int 0])), (q696, .inl (e697, 6, .inr (.inr (.inr (.inr (fun i => if i < 6 then some (r698 i) else none)))))), ((r698 0), .inl (e583, 8, .inl (fun _ => 0))), ((r698 1), .inl (e583, 8, .inl (fun _ => 0))), ((r698 2), .inl (e583, 8, .inl (fun _ => 0))), ((r698 3), .inl (e583, 8, .inl (fun _ => 0))), ((r698 4), .inl (e583, 8, .inl (fun _ => 0))), ((r698 5), .inl (e583, 8, .inl (fun _ => 0))), (q699, .inl (e700, 6, .inl (fun _ => 0))), (q703, .inr (8, [.ref q705, .int 0])), (q705, .inl (e706, 1000, .inl (fun _ => 0))), (q707, .inr (8, [.ref q709, .int 0])), (q709, .inl (e710, 480, .inl (fun _ => 0))), (q711, .inr (8, [.ref q713, .int 0])), (q713, .inl (e714, 480, .inl (fun _ => 0))), (q715, .inr (2, [.int (-1), .int (-1), .int 0, .int 0, .ref q717, .ref q718])), (q717, .inr (3, [.ref q719, .ref q720, .int 0, .int 0, .int 0, .ref q721, .ref q722])), (q719, .inr (1, [.ref q723, .int 0, .ref q724, .ref q725, .ref q726, .ref q727, .ref q728, .ref q729, .ref q730, .ref q731, .ref q732, .ref q733, .ref q734, .ref q735])), (q735, .inl (e736, 480, .inl (fun _ => 0))), (q721, .inl (e737, 6, .inl (fun _ => 0))), (q718, .inr (3, [.ref q738, .ref q739, .int 0, .int 0, .int 0, .ref q740, .ref q741])), (q738, .inr (1, [.ref q742, .int 0, .ref q743, .ref q744, .ref q745, .ref q746, .ref q747, .ref q748, .ref q749, .ref q750, .ref q751, .ref q752, .ref q753, .ref q754])), (q754, .inl (e755, 480, .inl (fun _ => 0))), (q740, .inl (e756, 6, .inl (fun _ => 0)))] rfl (by decide) fl_X4_56 rfl rfl rfl (Nat.le_of_ble_eq_true rfl) rfl dX4_init_126 (fun H locs Wd => ?_)
  refine lv_aload_n C.1 C.2.1 dX4_init_129 rfl (lv_at hl 1 rfl) ?_
  refine lv_iconst (v := (-1)) C.1 C.2.1 dX4_init_130 (by decide) ?_
  refine k_put C Wd KX4 0 4 [(h0, .inr (4, [.ref q715, .ref q703, .ref q707, .int (-1), .int (-1), .ref q573, .ref q696, .ref q699, .ref q701, .ref q711])), (q573, .inl (e574, 12, .inr (.inr (.inr (.inr (va_up (va_up (va_up (va_up (va_up (va_up (va_up (va_up (va_up (va_up (va_up (va_up (fun _ => none) 0 (some q576)) 1 (some q586)) 2 (some q596)) 3 (some q606)) 4 (some q616)) 5 (some q626)) 6 (some q636)) 7 (some q646)) 8 (some q656)) 9 (some q666)) 10 (some q676)) 11 (some q686))))))), (q576, .inr (9, [.ref q578, .ref q579, .int 0, .ref q580, .ref q581])), (q578, .inr (8, [.ref q582, .int 0])), (q582, .inl (e583, 40, .inl (fun _ => 0))), (q579, .inr (8, [.ref q584, .int 0])), (q586, .inr (9, [.ref q588, .ref q589, .int 0, .ref q590, .ref q591])), (q588, .inr (8, [.ref q592, .int 0])), (q592, .inl (e593, 40, .inl (fun _ => 0))), (q589, .inr (8, [.ref q594, .int 0])), (q596, .inr (9, [.ref q598, .ref q599, .int 0, .ref q600, .ref q601])), (q598, .inr (8, [.ref q602, .int 0])), (q602, .inl (e603, 40, .inl (fun _ => 0))), (q599, .inr (8, [.ref q604, .int 0])), (q606, .inr (9, [.ref q608, .ref q609, .int 0, .ref q610, .ref q611])), (q608, .inr (8, [.ref q612, .int 0])), (q612, .inl (e613, 40, .inl (fun _ => 0))), (q609, .inr (8, [.ref q614, .int 0])), (q616, .inr (9, [.ref q618, .ref q619, .int 0, .ref q620, .ref q621])), (q618, .inr (8, [.ref q622, .int 0])), (q622, .inl (e623, 40, .inl (fun _ => 0))), (q619, .inr (8, [.ref q624, .int 0])), (q626, .inr (9, [.ref q628, .ref q629, .int 0, .ref q630, .ref q631])), (q628, .inr (8, [.ref q632, .int 0])), (q632, .inl (e633, 40, .inl (fun _ => 0))), (q629, .inr (8, [.ref q634, .int 0])), (q636, .inr (9, [.ref q638, .ref q639, .int 0, .ref q640, .ref q641])), (q638, .inr (8, [.ref q642, .int 0])), (q642, .inl (e643, 40, .inl (fun _ => 0))), (q639, .inr (8, [.ref q644, .int 0])), (q646, .inr (9, [.ref q648, .ref q649, .int 0, .ref q650, .ref q651])), (q648, .inr (8, [.ref q652, .int 0])), (q652, .inl (e653, 40, .inl (fun _ => 0))), (q649, .inr (8, [.ref q654, .int 0])), (q656, .inr (9, [.ref q658, .ref q659, .int 0, .ref q660, .ref q661])), (q658, .inr (8, [.ref q662, .int 0])), (q662, .inl (e663, 40, .inl (fun _ => 0))), (q659, .inr (8, [.ref q664, .int 0])), (q666, .inr (9, [.ref q668, .ref q669, .int 0, .ref q670, .ref q671])), (q668, .inr (8, [.ref q672, .int 0])), (q672, .inl (e673, 40, .inl (fun _ => 0))), (q669, .inr (8, [.ref q674, .int 0])), (q676, .inr (9, [.ref q678, .ref q679, .int 0, .ref q680, .ref q681])), (q678, .inr (8, [.ref q682, .int 0])), (q682, .inl (e683, 40, .inl (fun _ => 0))), (q679, .inr (8, [.ref q684, .int 0])), (q686, .inr (9, [.ref q688, .ref q689, .int 0, .ref q690, .ref q691])), (q688, .inr (8, [.ref q692, .int 0])), (q692, .inl (e693, 40, .inl (fun _ => 0))), (q689, .inr (8, [.ref q694, .int 0])), (q696, .inl (e697, 6, .inr (.inr (.inr (.inr (fun i => if i < 6 then some (r698 i) else none)))))), ((r698 0), .inl (e583, 8, .inl (fun _ => 0))), ((r698 1), .inl (e583, 8, .inl (fun _ => 0))), ((r698 2), .inl (e583, 8, .inl (fun _ => 0))), ((r698 3), .inl (e583, 8, .inl (fun _ => 0))), ((r698 4), .inl (e583, 8, .inl (fun _ => 0))), ((r698 5), .inl (e583, 8, .inl (fun _ => 0))), (q699, .inl (e700, 6, .inl (fun _ => 0))), (q703, .inr (8, [.ref q705, .int 0])), (q705, .inl (e706, 1000, .inl (fun _ => 0))), (q707, .inr (8, [.ref q709, .int 0])), (q709, .inl (e710, 480, .inl (fun _ => 0))), (q711, .inr (8, [.ref q713, .int 0])), (q713, .inl (e714, 480, .inl (fun _ => 0))), (q715, .inr (2, [.int (-1), .int (-1), .int 0, .int 0, .ref q717, .ref q718])), (q717, .inr (3, [.ref q719, .ref q720, .int 0, .int 0, .int 0, .ref q721, .ref q722])), (q719, .inr (1, [.ref q723, .int 0, .ref q724, .ref q725, .ref q726, .ref q727, .ref q728, .ref q729, .ref q730, .ref q731, .ref q732, .ref q733, .ref q734, .ref q735])), (q735, .inl (e736, 480, .inl (fun _ => 0))), (q721, .inl (e737, 6, .inl (fun _ => 0))), (q718, .inr (3, [.ref q738, .ref q739, .int 0, .int 0, .int 0, .ref q740, .ref q741])), (q738, .inr (1, [.ref q742, .int 0, .ref q743, .ref q744, .ref q745, .ref q746, .ref q747, .ref q748, .ref q749, .ref q750, .ref q751, .ref q752, .ref q753, .ref q754])), (q754, .inl (e755, 480, .inl (fun _ => 0))), (q740, .inl (e756, 6, .inl (fun _ => 0)))] rfl (by decide) fl_X4_60 rfl rfl rfl (Nat.le_of_ble_eq_true rfl) rfl dX4_init_131 (fun H locs Wd => ?_)
  exact k_vret C hr hlk Wd (q715, q703, q707, q573, q696, q699, q701, q711, e574, q576, q586, q596, q606, q616, q626, q636, q646, q656, q666, q676, q686, q578, q579, q580, q581, q582, q584, e697, r698, e583, e700, q705, e706, q709, e710, q717, q718, q719, q720, q721, q722, q723, q724, q725, q726, q727, q728, q729, q730, q731, q732, q733, q734, q735, e736, e737, q738, q739, q740, q741, q742, q743, q744, q745, q746, q747, q748, q749, q750, q751, q752, q753, q754, e755, e756) trivial [0, 1, 2, 3, 5, 50, 51, 52, 53, 54, 55, 56, 57, 58, 59, 60, 61, 64, 65, 66, 67, 68, 69, 70, 71, 72] rfl (by decide) [0, 1, 13, 14, 15, 16, 18, 19, 20, 21] rfl (by decide) (by decide) dX4_init_134
set_option maxHeartbeats 4000000 in
set_option maxRecDepth 100000 in
theorem kcX7_init (l : Launch) (D : va_G) (h0 : Nat) (sz : Nat)  : Met l yX7_init (Cond.code yX7_init cX7_init 1 none :: gG) { frames := 3, cells := 18, slots := 955, locals := 105 } (cPre D [] [(h0, .inr (7, [.null, .null, .null, .null, .int 0]))] sz [.ref h0]) (va_Qv (fun (_ : Nat × Nat × Nat × Nat × Nat × Nat × Nat × Nat × Nat × Nat × Nat × Nat × Nat × Nat × Nat × Nat × Nat × ClassId × ClassId × ClassId × ClassId) => True) (fun u t => cB D (va_A [(h0, .inr (7, [.null, .null, .null, .null, .int 0]))] sz) ((fun u => match u with | (q856, q872, q874, q876, q858, q859, q860, q861, q862, q863, q864, q865, q866, q867, q868, q869, q870, e871, e873, e875, e877) => [(e871, .int), (e873, .int), (e875, .int), (e877, .int)]) u) ((fun u => match u with | (q856, q872, q874, q876, q858, q859, q860, q861, q862, q863, q864, q865, q866, q867, q868, q869, q870, e871, e873, e875, e877) => [(h0, .inr (7, [.ref q856, .ref q872, .ref q874, .ref q876, .int 0])), (q856, .inr (1, [.ref q858, .int 0, .ref q859, .ref q860, .ref q861, .ref q862, .ref q863, .ref q864, .ref q865, .ref q866, .ref q867, .ref q868, .ref q869, .ref q870])), (q870, .inl (e871, 480, .inl (fun _ => 0))), (q872, .inl (e873, 6, .inl (fun _ => 0))), (q874, .inl (e875, 6, .inl (fun _ => 0))), (q876, .inl (e877, 6, .inl (fun _ => 0)))]) u) t) (va_A [(h0, .inr (7, [.null, .null, .null, .null, .int 0]))] sz)) 18 955 (va_A [(h0, .inr (7, [.null, .null, .null, .null, .int 0]))] sz) := by
  refine Met.ofW (cc := cX7_init) (maxL := 1) (ret := none) (by decide) rfl ?_
  intro p e s m args below meth c s₁ B hml hv
  obtain ⟨rfl, aks, rfl, Wd⟩ := k_enter hv
  have C : CallFix p m c cX7_init 1 s _ gG RX7 := ⟨B.exec, B.bytes, hml, findClass_of_methodNamed B.named, fun w h => atoms_spec (ws := Cond.code yX7_init cX7_init 1 none :: gG) B.pre w (List.mem_cons_of_mem _ h)⟩
  have hr := B.returns
  have hlk := B.notSynchronized
  have hin : meth.name = "<init>" := (name_of_methodNamed B.named B.method).1
  generalize va_A [(h0, .inr (7, [.null, .null, .null, .null, .int 0]))] s.heap.size = A at Wd ⊢
  refine k_locals (Nat.le_of_ble_eq_true rfl) [(0, .ref h0)] rfl (fun ls hl => ?_)
  refine lv_aload_n C.1 C.2.1 dX7_init_0 rfl (lv_at hl 0 rfl) ?_
  refine k_oinit C hl.1 ml_X7_3 im_objectInit cd_obj (Nat.le_of_ble_eq_true rfl) (Nat.le_of_ble_eq_true rfl) dX7_init_1 ?_
  refine lv_aload_n C.1 C.2.1 dX7_init_4 rfl (lv_at hl 0 rfl) ?_
  refine k_new C Wd KX1 cl_X7_9 is_X1 in_X1 [.null, .int 0, .null, .null, .null, .null, .null, .null, .null, .null, .null, .null, .null, .null] (by decide +kernel) (cells' := 1) (slots' := 14) (Nat.le_of_ble_eq_true rfl) (Nat.le_of_ble_eq_true rfl) (by decide) (by decide) dX7_init_5 (fun q856 H Wd => ?_)
  have Wd : wX D [] s [(h0, .inr (7, [.null, .null, .null, .null, .int 0])), (q856, .inr (1, [.null, .int 0, .null, .null, .null, .null, .null, .null, .null, .null, .null, .null, .null, .null]))] _ A s.heap _ := Wd
  refine lv_dup C.1 C.2.1 dX7_init_8 rfl ?_
  refine k_cv Wd [1] [0] rfl (wr := [(h0, .inr (7, [.null, .null, .null, .null, .int 0]))]) rfl (by decide) (by decide) (cells' := 15) (slots' := 937) (by decide) (by decide) (k_runI (rest := [.ref q856, .ref h0]) C aks Wd cs_X7_11 (kcX1_init l D q856 _ ) [1] rfl (by decide) [] rfl rfl rfl ⟨(Nat.le_of_ble_eq_true rfl), (Nat.le_of_ble_eq_true rfl)⟩ hl.1 rfl rfl (Nat.le_of_ble_eq_true rfl) ⟨(Nat.le_of_ble_eq_true rfl), (Nat.le_of_ble_eq_true rfl)⟩ dX7_init_9) (fun u H locs w857 Wd => ?_)
  obtain ⟨q858, q859, q860, q861, q862, q863, q864, q865, q866, q867, q868, q869, q870, e871⟩ := u
  have Wd : wX D [(e871, .int)] s [(h0, .inr (7, [.null, .null, .null, .null, .int 0])), (q856, .inr (1, [.ref q858, .int 0, .ref q859, .ref q860, .ref q861, .ref q862, .ref q863, .ref q864, .ref q865, .ref q866, .ref q867, .ref q868, .ref q869, .ref q870])), (q870, .inl (e871, 480, .inl (fun _ => 0)))] _ A s.heap _ := Wd
  refine k_putF C Wd KX7 0 0 [(h0, .inr (7, [.ref q856, .null, .null, .null, .int 0])), (q856, .inr (1, [.ref q858, .int 0, .ref q859, .ref q860, .ref q861, .ref q862, .ref q863, .ref q864, .ref q865, .ref q866, .ref q867, .ref q868, .ref q869, .ref q870])), (q870, .inl (e871, 480, .inl (fun _ => 0)))] rfl (by decide) fl_X7_12 rfl hin rfl rfl rfl (Nat.le_of_ble_eq_true rfl) rfl dX7_init_12 (fun H locs Wd => ?_)
  refine lv_aload_n C.1 C.2.1 dX7_init_15 rfl (lv_at hl 0 rfl) ?_
  refine lv_bipush (v := 6) C.1 C.2.1 dX7_init_16 (by decide) ?_
  refine k_newa C Wd ac_int 6 (by decide) (by decide) (by decide) (cells' := 16) (slots' := 943) (Nat.le_of_ble_eq_true rfl) (Nat.le_of_ble_eq_true rfl) (by decide) (by decide) dX7_init_18 (fun q872 e873 H Wd => ?_)
  have Wd : wX D [(e871, .int), (e873, .int)] s [(h0, .inr (7, [.ref q856, .null, .null, .null, .int 0])), (q856, .inr (1, [.ref q858, .int 0, .ref q859, .ref q860, .ref q861, .ref q862, .ref q863, .ref q864, .ref q865, .ref q866, .ref q867, .ref q868, .ref q869, .ref q870])), (q870, .inl (e871, 480, .inl (fun _ => 0))), (q872, .inl (e873, 6, .inl (fun _ => 0)))] _ A s.heap _ := Wd
  refine k_putF C Wd KX7 0 1 [(h0, .inr (7, [.ref q856, .ref q872, .null, .null, .int 0])), (q856, .inr (1, [.ref q858, .int 0, .ref q859, .ref q860, .ref q861, .ref q862, .ref q863, .ref q864, .ref q865, .ref q866, .ref q867, .ref q868, .ref q869, .ref q870])), (q870, .inl (e871, 480, .inl (fun _ => 0))), (q872, .inl (e873, 6, .inl (fun _ => 0)))] rfl (by decide) fl_X7_18 rfl hin rfl rfl rfl (Nat.le_of_ble_eq_true rfl) rfl dX7_init_20 (fun H locs Wd => ?_)
  refine lv_aload_n C.1 C.2.1 dX7_init_23 rfl (lv_at hl 0 rfl) ?_
  refine lv_bipush (v := 6) C.1 C.2.1 dX7_init_24 (by decide) ?_
  refine k_newa C Wd ac_int 6 (by decide) (by decide) (by decide) (cells' := 17) (slots' := 949) (Nat.le_of_ble_eq_true rfl) (Nat.le_of_ble_eq_true rfl) (by decide) (by decide) dX7_init_26 (fun q874 e875 H Wd => ?_)
  have Wd : wX D [(e871, .int), (e873, .int), (e875, .int)] s [(h0, .inr (7, [.ref q856, .ref q872, .null, .null, .int 0])), (q856, .inr (1, [.ref q858, .int 0, .ref q859, .ref q860, .ref q861, .ref q862, .ref q863, .ref q864, .ref q865, .ref q866, .ref q867, .ref q868, .ref q869, .ref q870])), (q870, .inl (e871, 480, .inl (fun _ => 0))), (q872, .inl (e873, 6, .inl (fun _ => 0))), (q874, .inl (e875, 6, .inl (fun _ => 0)))] _ A s.heap _ := Wd
  refine k_putF C Wd KX7 0 2 [(h0, .inr (7, [.ref q856, .ref q872, .ref q874, .null, .int 0])), (q856, .inr (1, [.ref q858, .int 0, .ref q859, .ref q860, .ref q861, .ref q862, .ref q863, .ref q864, .ref q865, .ref q866, .ref q867, .ref q868, .ref q869, .ref q870])), (q870, .inl (e871, 480, .inl (fun _ => 0))), (q872, .inl (e873, 6, .inl (fun _ => 0))), (q874, .inl (e875, 6, .inl (fun _ => 0)))] rfl (by decide) fl_X7_22 rfl hin rfl rfl rfl (Nat.le_of_ble_eq_true rfl) rfl dX7_init_28 (fun H locs Wd => ?_)
  refine lv_aload_n C.1 C.2.1 dX7_init_31 rfl (lv_at hl 0 rfl) ?_
  refine lv_bipush (v := 6) C.1 C.2.1 dX7_init_32 (by decide) ?_
  refine k_newa C Wd ac_int 6 (by decide) (by decide) (by decide) (cells' := 18) (slots' := 955) (Nat.le_of_ble_eq_true rfl) (Nat.le_of_ble_eq_true rfl) (by decide) (by decide) dX7_init_34 (fun q876 e877 H Wd => ?_)
  have Wd : wX D [(e871, .int), (e873, .int), (e875, .int), (e877, .int)] s [(h0, .inr (7, [.ref q856, .ref q872, .ref q874, .null, .int 0])), (q856, .inr (1, [.ref q858, .int 0, .ref q859, .ref q860, .ref q861, .ref q862, .ref q863, .ref q864, .ref q865, .ref q866, .ref q867, .ref q868, .ref q869, .ref q870])), (q870, .inl (e871, 480, .inl (fun _ => 0))), (q872, .inl (e873, 6, .inl (fun _ => 0))), (q874, .inl (e875, 6, .inl (fun _ => 0))), (q876, .inl (e877, 6, .inl (fun _ => 0)))] _ A s.heap _ := Wd
  refine k_putF C Wd KX7 0 3 [(h0, .inr (7, [.ref q856, .ref q872, .ref q874, .ref q876, .int 0])), (q856, .inr (1, [.ref q858, .int 0, .ref q859, .ref q860, .ref q861, .ref q862, .ref q863, .ref q864, .ref q865, .ref q866, .ref q867, .ref q868, .ref q869, .ref q870])), (q870, .inl (e871, 480, .inl (fun _ => 0))), (q872, .inl (e873, 6, .inl (fun _ => 0))), (q874, .inl (e875, 6, .inl (fun _ => 0))), (q876, .inl (e877, 6, .inl (fun _ => 0)))] rfl (by decide) fl_X7_25 rfl hin rfl rfl rfl (Nat.le_of_ble_eq_true rfl) rfl dX7_init_36 (fun H locs Wd => ?_)
  exact k_vret C hr hlk Wd (q856, q872, q874, q876, q858, q859, q860, q861, q862, q863, q864, q865, q866, q867, q868, q869, q870, e871, e873, e875, e877) trivial [0, 1, 2, 3, 4, 5] rfl (by decide) [0, 1, 2, 3] rfl (by decide) (by decide) dX7_init_39
set_option maxHeartbeats 4000000 in
set_option maxRecDepth 100000 in
theorem kcX11_init (l : Launch) (D : va_G) (h0 : Nat) (sz : Nat)  : Met l yX11_init (Cond.code yX11_init cX11_init 2 none :: gG) { frames := 6, cells := 244, slots := 26229, locals := 166 } (cPre D [] [(h0, .inr (11, [.null, .int 0, .null, .null, .null, .null, .null, .null]))] sz [.ref h0]) (va_Qv (fun (_ : Nat × Nat × Nat × Nat × Nat × Nat × Nat × ClassId × Nat × Nat × Nat × Nat × Nat × Nat × Nat × ClassId × Nat × ClassId × Nat × ClassId × Nat × ClassId × Nat × ClassId × Nat × ClassId × Nat × ClassId × Nat × Nat × Nat × Nat × Nat × Nat × ClassId × Nat × Nat × Nat × Nat × Nat × Nat × Nat × Nat × Nat × Nat × Nat × Nat × Nat × Nat × Nat × Nat × Nat × ClassId × ClassId × Nat × Nat × Nat × Nat × Nat × Nat × Nat × Nat × ClassId × Nat × Nat × Nat × Nat × Nat × Nat × Nat × Nat × Nat × Nat × Nat × Nat × Nat × Nat × Nat × Nat × Nat × Nat × ClassId × (Nat → Nat) × ClassId × ClassId × Nat × ClassId × Nat × ClassId × Nat × Nat × Nat × Nat × Nat × Nat × Nat × Nat × Nat × Nat × Nat × Nat × Nat × Nat × Nat × Nat × Nat × Nat × Nat × ClassId × ClassId × Nat × Nat × Nat × Nat × Nat × Nat × Nat × Nat × Nat × Nat × Nat × Nat × Nat × Nat × Nat × Nat × Nat × ClassId × ClassId × Nat × Nat × Nat × Nat × Nat × Nat × Nat × Nat × Nat × Nat × Nat × Nat × Nat × Nat × Nat × Nat × Nat × ClassId × ClassId × ClassId × ClassId) => True) (fun u t => cB D (va_A [(h0, .inr (11, [.null, .int 0, .null, .null, .null, .null, .null, .null]))] sz) ((fun u => match u with | (q900, q933, q937, q946, q967, q969, q1046, e901, q903, q908, q913, q918, q923, q928, q905, e906, q910, e911, q915, e916, q920, e921, q925, e926, q930, e931, q935, e936, q939, q940, q941, q942, q943, q944, e945, q948, q949, q950, q951, q952, q953, q954, q955, q956, q957, q958, q959, q960, q961, q962, q963, q964, e965, e966, q971, q972, q973, q974, q975, q976, q977, q978, e979, q980, q981, q982, q983, q984, q985, q986, q987, q988, q989, q990, q991, q992, q993, q994, q995, q996, q997, e998, r999, e1000, e1001, q1002, e1003, q1004, e1005, q1006, q1007, q1008, q1009, q1010, q1011, q1012, q1013, q1014, q1015, q1016, q1017, q1018, q1019, q1020, q1021, q1022, q1023, q1024, e1025, e1026, q1027, q1028, q1029, q1030, q1031, q1032, q1033, q1034, q1035, q1036, q1037, q1038, q1039, q1040, q1041, q1042, q1043, e1044, e1045, q1048, q1049, q1050, q1051, q1052, q1053, q1054, q1055, q1056, q1057, q1058, q1059, q1060, q1061, q1062, q1063, q1064, e1065, e1066, e1067, e1068) => [(e901, .object RX8), (e906, .int), (e911, .int), (e916, .int), (e921, .int), (e926, .int), (e931, .int), (e936, .int), (e945, .int), (e965, .int), (e966, .int), (e979, .object RX9), (e1000, .int), (e998, .array .int), (e1001, .int), (e1003, .int), (e1005, .int), (e1025, .int), (e1026, .int), (e1044, .int), (e1045, .int), (e1065, .int), (e1066, .int), (e1067, .int), (e1068, .int)]) u) ((fun u => match u with | (q900, q933, q937, q946, q967, q969, q1046, e901, q903, q908, q913, q918, q923, q928, q905, e906, q910, e911, q915, e916, q920, e921, q925, e926, q930, e931, q935, e936, q939, q940, q941, q942, q943, q944, e945, q948, q949, q950, q951, q952, q953, q954, q955, q956, q957, q958, q959, q960, q961, q962, q963, q964, e965, e966, q971, q972, q973, q974, q975, q976, q977, q978, e979, q980, q981, q982, q983, q984, q985, q986, q987, q988, q989, q990, q991, q992, q993, q994, q995, q996, q997, e998, r999, e1000, e1001, q1002, e1003, q1004, e1005, q1006, q1007, q1008, q1009, q1010, q1011, q1012, q1013, q1014, q1015, q1016, q1017, q1018, q1019, q1020, q1021, q1022, q1023, q1024, e1025, e1026, q1027, q1028, q1029, q1030, q1031, q1032, q1033, q1034, q1035, q1036, q1037, q1038, q1039, q1040, q1041, q1042, q1043, e1044, e1045, q1048, q1049, q1050, q1051, q1052, q1053, q1054, q1055, q1056, q1057, q1058, q1059, q1060, q1061, q1062, q1063, q1064, e1065, e1066, e1067, e1068) => [(h0, .inr (11, [.ref q900, .int 0, .ref q933, .ref q937, .ref q946, .ref q967, .ref q969, .ref q1046])), (q900, .inl (e901, 6, .inr (.inr (.inr (.inr (va_up (va_up (va_up (va_up (va_up (va_up (fun _ => none) 0 (some q903)) 1 (some q908)) 2 (some q913)) 3 (some q918)) 4 (some q923)) 5 (some q928))))))), (q903, .inr (8, [.ref q905, .int 0])), (q905, .inl (e906, 480, .inl (fun _ => 0))), (q908, .inr (8, [.ref q910, .int 0])), (q910, .inl (e911, 480, .inl (fun _ => 0))), (q913, .inr (8, [.ref q915, .int 0])), (q915, .inl (e916, 480, .inl (fun _ => 0))), (q918, .inr (8, [.ref q920, .int 0])), (q920, .inl (e921, 480, .inl (fun _ => 0))), (q923, .inr (8, [.ref q925, .int 0])), (q925, .inl (e926, 480, .inl (fun _ => 0))), (q928, .inr (8, [.ref q930, .int 0])), (q930, .inl (e931, 480, .inl (fun _ => 0))), (q933, .inr (8, [.ref q935, .int 0])), (q935, .inl (e936, 1000, .inl (fun _ => 0))), (q937, .inr (6, [.ref q939, .int 0, .int (-1), .ref q940, .null, .int 0, .int 0, .int 0, .int 0, .int 0, .int 0, .int 0, .int 0, .int 0, .ref q941, .ref q942, .ref q943])), (q939, .inr (10, [.ref q944, .int 0, .int 0, .int 0, .int 0, .int 0])), (q944, .inl (e945, 800, .inl (fun _ => 0))), (q946, .inr (3, [.ref q948, .ref q949, .int 0, .int 0, .int 0, .ref q950, .ref q951])), (q948, .inr (1, [.ref q952, .int 0, .ref q953, .ref q954, .ref q955, .ref q956, .ref q957, .ref q958, .ref q959, .ref q960, .ref q961, .ref q962, .ref q963, .ref q964])), (q964, .inl (e965, 480, .inl (fun _ => 0))), (q950, .inl (e966, 6, .inl (fun _ => 0))), (q969, .inr (4, [.ref q971, .ref q972, .ref q973, .int (-1), .int (-1), .ref q974, .ref q975, .ref q976, .ref q977, .ref q978])), (q974, .inl (e979, 12, .inr (.inr (.inr (.inr (va_up (va_up (va_up (va_up (va_up (va_up (va_up (va_up (va_up (va_up (va_up (va_up (fun _ => none) 0 (some q980)) 1 (some q981)) 2 (some q982)) 3 (some q983)) 4 (some q984)) 5 (some q985)) 6 (some q986)) 7 (some q987)) 8 (some q988)) 9 (some q989)) 10 (some q990)) 11 (some q991))))))), (q980, .inr (9, [.ref q992, .ref q993, .int 0, .ref q994, .ref q995])), (q992, .inr (8, [.ref q996, .int 0])), (q993, .inr (8, [.ref q997, .int 0])), (q975, .inl (e998, 6, .inr (.inr (.inr (.inr (fun i => if i < 6 then some (r999 i) else none)))))), ((r999 0), .inl (e1000, 8, .inl (fun _ => 0))), ((r999 1), .inl (e1000, 8, .inl (fun _ => 0))), ((r999 2), .inl (e1000, 8, .inl (fun _ => 0))), ((r999 3), .inl (e1000, 8, .inl (fun _ => 0))), ((r999 4), .inl (e1000, 8, .inl (fun _ => 0))), ((r999 5), .inl (e1000, 8, .inl (fun _ => 0))), (q976, .inl (e1001, 6, .inl (fun _ => 0))), (q972, .inr (8, [.ref q1002, .int 0])), (q1002, .inl (e1003, 1000, .inl (fun _ => 0))), (q973, .inr (8, [.ref q1004, .int 0])), (q1004, .inl (e1005, 480, .inl (fun _ => 0))), (q971, .inr (2, [.int (-1), .int (-1), .int 0, .int 0, .ref q1006, .ref q1007])), (q1006, .inr (3, [.ref q1008, .ref q1009, .int 0, .int 0, .int 0, .ref q1010, .ref q1011])), (q1008, .inr (1, [.ref q1012, .int 0, .ref q1013, .ref q1014, .ref q1015, .ref q1016, .ref q1017, .ref q1018, .ref q1019, .ref q1020, .ref q1021, .ref q1022, .ref q1023, .ref q1024])), (q1024, .inl (e1025, 480, .inl (fun _ => 0))), (q1010, .inl (e1026, 6, .inl (fun _ => 0))), (q1007, .inr (3, [.ref q1027, .ref q1028, .int 0, .int 0, .int 0, .ref q1029, .ref q1030])), (q1027, .inr (1, [.ref q1031, .int 0, .ref q1032, .ref q1033, .ref q1034, .ref q1035, .ref q1036, .ref q1037, .ref q1038, .ref q1039, .ref q1040, .ref q1041, .ref q1042, .ref q1043])), (q1043, .inl (e1044, 480, .inl (fun _ => 0))), (q1029, .inl (e1045, 6, .inl (fun _ => 0))), (q1046, .inr (7, [.ref q1048, .ref q1049, .ref q1050, .ref q1051, .int 0])), (q1048, .inr (1, [.ref q1052, .int 0, .ref q1053, .ref q1054, .ref q1055, .ref q1056, .ref q1057, .ref q1058, .ref q1059, .ref q1060, .ref q1061, .ref q1062, .ref q1063, .ref q1064])), (q1064, .inl (e1065, 480, .inl (fun _ => 0))), (q1049, .inl (e1066, 6, .inl (fun _ => 0))), (q1050, .inl (e1067, 6, .inl (fun _ => 0))), (q1051, .inl (e1068, 6, .inl (fun _ => 0)))]) u) t) (va_A [(h0, .inr (11, [.null, .int 0, .null, .null, .null, .null, .null, .null]))] sz)) 244 26229 (va_A [(h0, .inr (11, [.null, .int 0, .null, .null, .null, .null, .null, .null]))] sz) := by
  refine Met.ofW (cc := cX11_init) (maxL := 2) (ret := none) (by decide) rfl ?_
  intro p e s m args below meth c s₁ B hml hv
  obtain ⟨rfl, aks, rfl, Wd⟩ := k_enter hv
  have C : CallFix p m c cX11_init 2 s _ gG RX11 := ⟨B.exec, B.bytes, hml, findClass_of_methodNamed B.named, fun w h => atoms_spec (ws := Cond.code yX11_init cX11_init 2 none :: gG) B.pre w (List.mem_cons_of_mem _ h)⟩
  have hr := B.returns
  have hlk := B.notSynchronized
  have hin : meth.name = "<init>" := (name_of_methodNamed B.named B.method).1
  generalize va_A [(h0, .inr (11, [.null, .int 0, .null, .null, .null, .null, .null, .null]))] s.heap.size = A at Wd ⊢
  refine k_locals (Nat.le_of_ble_eq_true rfl) [(0, .ref h0)] rfl (fun ls hl => ?_)
  refine lv_aload_n C.1 C.2.1 dX11_init_0 rfl (lv_at hl 0 rfl) ?_
  refine k_oinit C hl.1 ml_X11_1 im_objectInit cd_obj (Nat.le_of_ble_eq_true rfl) (Nat.le_of_ble_eq_true rfl) dX11_init_1 ?_
  refine lv_aload_n C.1 C.2.1 dX11_init_4 rfl (lv_at hl 0 rfl) ?_
  refine lv_bipush (v := 6) C.1 C.2.1 dX11_init_5 (by decide) ?_
  refine k_newq C Wd cl_X11_9 aks.1 6 (by decide) (by decide) (by decide) (cells' := 1) (slots' := 6) (Nat.le_of_ble_eq_true rfl) (Nat.le_of_ble_eq_true rfl) (by decide) (by decide) dX11_init_7 (fun q900 e901 H Wd => ?_)
  have Wd : wX D [(e901, .object RX8)] s [(h0, .inr (11, [.null, .int 0, .null, .null, .null, .null, .null, .null])), (q900, .inl (e901, 6, .inr (.inr (.inr (.inr (fun _ => none))))))] _ A s.heap _ := Wd
  refine k_putF C Wd KX11 0 0 [(h0, .inr (11, [.ref q900, .int 0, .null, .null, .null, .null, .null, .null])), (q900, .inl (e901, 6, .inr (.inr (.inr (.inr (fun _ => none))))))] rfl (by decide) fl_X11_11 rfl hin rfl rfl rfl (Nat.le_of_ble_eq_true rfl) rfl dX11_init_10 (fun H locs Wd => ?_)
  refine lv_iconst (v := 0) C.1 C.2.1 dX11_init_13 (by decide) ?_
  refine lv_istore_n (lv' := [(1, .int 0), (0, .ref h0)]) C.1 C.2.1 dX11_init_14 rfl hl (by decide) rfl (fun ls hl => ?_)
  refine lv_iload_n C.1 C.2.1 dX11_init_15 rfl (lv_at hl 0 rfl) ?_
  refine lv_bipush (v := 6) C.1 C.2.1 dX11_init_16 (by decide) ?_
  refine lv_icmp_ge (tgt := 43) C.1 C.2.1 dX11_init_18 (by decide) (fun c902 => absurd c902 (by decide)) (fun _ => ?_)
  refine lv_aload_n C.1 C.2.1 dX11_init_21 rfl (lv_at hl 1 rfl) ?_
  refine k_get C Wd KX11 0 0 rfl (by decide) fl_X11_11 rfl dX11_init_22 ?_
  refine lv_iload_n C.1 C.2.1 dX11_init_25 rfl (lv_at hl 0 rfl) ?_
  refine k_new C Wd KX8 cl_X11_9 is_X8 in_X8 [.null, .int 0] (by decide +kernel) (cells' := 2) (slots' := 8) (Nat.le_of_ble_eq_true rfl) (Nat.le_of_ble_eq_true rfl) (by decide) (by decide) dX11_init_26 (fun q903 H Wd => ?_)
  have Wd : wX D [(e901, .object RX8)] s [(h0, .inr (11, [.ref q900, .int 0, .null, .null, .null, .null, .null, .null])), (q900, .inl (e901, 6, .inr (.inr (.inr (.inr (fun _ => none)))))), (q903, .inr (8, [.null, .int 0]))] _ A s.heap _ := Wd
  refine lv_dup C.1 C.2.1 dX11_init_29 rfl ?_
  refine lv_sipush (v := 480) C.1 C.2.1 dX11_init_30 (by decide) ?_
  refine k_cv Wd [2] [0, 1] rfl (wr := [(h0, .inr (11, [.ref q900, .int 0, .null, .null, .null, .null, .null, .null])), (q900, .inl (e901, 6, .inr (.inr (.inr (.inr (fun _ => none))))))]) rfl (by decide) (by decide) (cells' := 3) (slots' := 488) (by decide) (by decide) (k_runI (rest := [.ref q903, .int 0, .ref q900]) C aks Wd cs_X11_15 (kcX8_init l D q903 _ ) [2] rfl (by decide) [] rfl rfl rfl ⟨(Nat.le_of_ble_eq_true rfl), (Nat.le_of_ble_eq_true rfl)⟩ hl.1 rfl rfl (Nat.le_of_ble_eq_true rfl) ⟨(Nat.le_of_ble_eq_true rfl), (Nat.le_of_ble_eq_true rfl)⟩ dX11_init_33) (fun u H locs w904 Wd => ?_)
  obtain ⟨q905, e906⟩ := u
  have Wd : wX D [(e901, .object RX8), (e906, .int)] s [(h0, .inr (11, [.ref q900, .int 0, .null, .null, .null, .null, .null, .null])), (q900, .inl (e901, 6, .inr (.inr (.inr (.inr (fun _ => none)))))), (q903, .inr (8, [.ref q905, .int 0])), (q905, .inl (e906, 480, .inl (fun _ => 0)))] _ A s.heap _ := Wd
  refine k_astq C Wd 1 0 2 8 [(h0, .inr (11, [.ref q900, .int 0, .null, .null, .null, .null, .null, .null])), (q900, .inl (e901, 6, .inr (.inr (.inr (.inr (va_up (fun _ => none) 0 (some q903))))))), (q903, .inr (8, [.ref q905, .int 0])), (q905, .inl (e906, 480, .inl (fun _ => 0)))] rfl rfl rfl rfl (vp_in_iff.mpr (by decide)) rfl rfl dX11_init_36 (fun H locs Wd => ?_)
  refine lv_iinc (v := 1) (lv' := [(1, .int 1), (0, .ref h0)]) C.1 C.2.1 dX11_init_37 hl (k := 0) rfl (by decide) (by decide) rfl (fun ls hl => ?_)
  refine lv_goto (tgt := 15) C.1 C.2.1 dX11_init_40 (by decide) ?_
  refine lv_iload_n C.1 C.2.1 dX11_init_15 rfl (lv_at hl 0 rfl) ?_
  refine lv_bipush (v := 6) C.1 C.2.1 dX11_init_16 (by decide) ?_
  refine lv_icmp_ge (tgt := 43) C.1 C.2.1 dX11_init_18 (by decide) (fun c907 => absurd c907 (by decide)) (fun _ => ?_)
  refine lv_aload_n C.1 C.2.1 dX11_init_21 rfl (lv_at hl 1 rfl) ?_
  refine k_get C Wd KX11 0 0 rfl (by decide) fl_X11_11 rfl dX11_init_22 ?_
  refine lv_iload_n C.1 C.2.1 dX11_init_25 rfl (lv_at hl 0 rfl) ?_
  refine k_new C Wd KX8 cl_X11_9 is_X8 in_X8 [.null, .int 0] (by decide +kernel) (cells' := 4) (slots' := 490) (Nat.le_of_ble_eq_true rfl) (Nat.le_of_ble_eq_true rfl) (by decide) (by decide) dX11_init_26 (fun q908 H Wd => ?_)
  have Wd : wX D [(e901, .object RX8), (e906, .int)] s [(h0, .inr (11, [.ref q900, .int 0, .null, .null, .null, .null, .null, .null])), (q900, .inl (e901, 6, .inr (.inr (.inr (.inr (va_up (fun _ => none) 0 (some q903))))))), (q903, .inr (8, [.ref q905, .int 0])), (q905, .inl (e906, 480, .inl (fun _ => 0))), (q908, .inr (8, [.null, .int 0]))] _ A s.heap _ := Wd
  refine lv_dup C.1 C.2.1 dX11_init_29 rfl ?_
  refine lv_sipush (v := 480) C.1 C.2.1 dX11_init_30 (by decide) ?_
  refine k_cv Wd [4] [0, 1, 2, 3] rfl (wr := [(h0, .inr (11, [.ref q900, .int 0, .null, .null, .null, .null, .null, .null])), (q900, .inl (e901, 6, .inr (.inr (.inr (.inr (va_up (fun _ => none) 0 (some q903))))))), (q903, .inr (8, [.ref q905, .int 0])), (q905, .inl (e906, 480, .inl (fun _ => 0)))]) rfl (by decide) (by decide) (cells' := 5) (slots' := 970) (by decide) (by decide) (k_runI (rest := [.ref q908, .int 1, .ref q900]) C aks Wd cs_X11_15 (kcX8_init l D q908 _ ) [4] rfl (by decide) [] rfl rfl rfl ⟨(Nat.le_of_ble_eq_true rfl), (Nat.le_of_ble_eq_true rfl)⟩ hl.1 rfl rfl (Nat.le_of_ble_eq_true rfl) ⟨(Nat.le_of_ble_eq_true rfl), (Nat.le_of_ble_eq_true rfl)⟩ dX11_init_33) (fun u H locs w909 Wd => ?_)
  obtain ⟨q910, e911⟩ := u
  have Wd : wX D [(e901, .object RX8), (e906, .int), (e911, .int)] s [(h0, .inr (11, [.ref q900, .int 0, .null, .null, .null, .null, .null, .null])), (q900, .inl (e901, 6, .inr (.inr (.inr (.inr (va_up (fun _ => none) 0 (some q903))))))), (q903, .inr (8, [.ref q905, .int 0])), (q905, .inl (e906, 480, .inl (fun _ => 0))), (q908, .inr (8, [.ref q910, .int 0])), (q910, .inl (e911, 480, .inl (fun _ => 0)))] _ A s.heap _ := Wd
  refine k_astq C Wd 1 0 4 8 [(h0, .inr (11, [.ref q900, .int 0, .null, .null, .null, .null, .null, .null])), (q900, .inl (e901, 6, .inr (.inr (.inr (.inr (va_up (va_up (fun _ => none) 0 (some q903)) 1 (some q908))))))), (q903, .inr (8, [.ref q905, .int 0])), (q905, .inl (e906, 480, .inl (fun _ => 0))), (q908, .inr (8, [.ref q910, .int 0])), (q910, .inl (e911, 480, .inl (fun _ => 0)))] rfl rfl rfl rfl (vp_in_iff.mpr (by decide)) rfl rfl dX11_init_36 (fun H locs Wd => ?_)
  refine lv_iinc (v := 2) (lv' := [(1, .int 2), (0, .ref h0)]) C.1 C.2.1 dX11_init_37 hl (k := 0) rfl (by decide) (by decide) rfl (fun ls hl => ?_)
  refine lv_goto (tgt := 15) C.1 C.2.1 dX11_init_40 (by decide) ?_
  refine lv_iload_n C.1 C.2.1 dX11_init_15 rfl (lv_at hl 0 rfl) ?_
  refine lv_bipush (v := 6) C.1 C.2.1 dX11_init_16 (by decide) ?_
  refine lv_icmp_ge (tgt := 43) C.1 C.2.1 dX11_init_18 (by decide) (fun c912 => absurd c912 (by decide)) (fun _ => ?_)
  refine lv_aload_n C.1 C.2.1 dX11_init_21 rfl (lv_at hl 1 rfl) ?_
  refine k_get C Wd KX11 0 0 rfl (by decide) fl_X11_11 rfl dX11_init_22 ?_
  refine lv_iload_n C.1 C.2.1 dX11_init_25 rfl (lv_at hl 0 rfl) ?_
  refine k_new C Wd KX8 cl_X11_9 is_X8 in_X8 [.null, .int 0] (by decide +kernel) (cells' := 6) (slots' := 972) (Nat.le_of_ble_eq_true rfl) (Nat.le_of_ble_eq_true rfl) (by decide) (by decide) dX11_init_26 (fun q913 H Wd => ?_)
  have Wd : wX D [(e901, .object RX8), (e906, .int), (e911, .int)] s [(h0, .inr (11, [.ref q900, .int 0, .null, .null, .null, .null, .null, .null])), (q900, .inl (e901, 6, .inr (.inr (.inr (.inr (va_up (va_up (fun _ => none) 0 (some q903)) 1 (some q908))))))), (q903, .inr (8, [.ref q905, .int 0])), (q905, .inl (e906, 480, .inl (fun _ => 0))), (q908, .inr (8, [.ref q910, .int 0])), (q910, .inl (e911, 480, .inl (fun _ => 0))), (q913, .inr (8, [.null, .int 0]))] _ A s.heap _ := Wd
  refine lv_dup C.1 C.2.1 dX11_init_29 rfl ?_
  refine lv_sipush (v := 480) C.1 C.2.1 dX11_init_30 (by decide) ?_
  refine k_cv Wd [6] [0, 1, 2, 3, 4, 5] rfl (wr := [(h0, .inr (11, [.ref q900, .int 0, .null, .null, .null, .null, .null, .null])), (q900, .inl (e901, 6, .inr (.inr (.inr (.inr (va_up (va_up (fun _ => none) 0 (some q903)) 1 (some q908))))))), (q903, .inr (8, [.ref q905, .int 0])), (q905, .inl (e906, 480, .inl (fun _ => 0))), (q908, .inr (8, [.ref q910, .int 0])), (q910, .inl (e911, 480, .inl (fun _ => 0)))]) rfl (by decide) (by decide) (cells' := 7) (slots' := 1452) (by decide) (by decide) (k_runI (rest := [.ref q913, .int 2, .ref q900]) C aks Wd cs_X11_15 (kcX8_init l D q913 _ ) [6] rfl (by decide) [] rfl rfl rfl ⟨(Nat.le_of_ble_eq_true rfl), (Nat.le_of_ble_eq_true rfl)⟩ hl.1 rfl rfl (Nat.le_of_ble_eq_true rfl) ⟨(Nat.le_of_ble_eq_true rfl), (Nat.le_of_ble_eq_true rfl)⟩ dX11_init_33) (fun u H locs w914 Wd => ?_)
  obtain ⟨q915, e916⟩ := u
  have Wd : wX D [(e901, .object RX8), (e906, .int), (e911, .int), (e916, .int)] s [(h0, .inr (11, [.ref q900, .int 0, .null, .null, .null, .null, .null, .null])), (q900, .inl (e901, 6, .inr (.inr (.inr (.inr (va_up (va_up (fun _ => none) 0 (some q903)) 1 (some q908))))))), (q903, .inr (8, [.ref q905, .int 0])), (q905, .inl (e906, 480, .inl (fun _ => 0))), (q908, .inr (8, [.ref q910, .int 0])), (q910, .inl (e911, 480, .inl (fun _ => 0))), (q913, .inr (8, [.ref q915, .int 0])), (q915, .inl (e916, 480, .inl (fun _ => 0)))] _ A s.heap _ := Wd
  refine k_astq C Wd 1 0 6 8 [(h0, .inr (11, [.ref q900, .int 0, .null, .null, .null, .null, .null, .null])), (q900, .inl (e901, 6, .inr (.inr (.inr (.inr (va_up (va_up (va_up (fun _ => none) 0 (some q903)) 1 (some q908)) 2 (some q913))))))), (q903, .inr (8, [.ref q905, .int 0])), (q905, .inl (e906, 480, .inl (fun _ => 0))), (q908, .inr (8, [.ref q910, .int 0])), (q910, .inl (e911, 480, .inl (fun _ => 0))), (q913, .inr (8, [.ref q915, .int 0])), (q915, .inl (e916, 480, .inl (fun _ => 0)))] rfl rfl rfl rfl (vp_in_iff.mpr (by decide)) rfl rfl dX11_init_36 (fun H locs Wd => ?_)
  refine lv_iinc (v := 3) (lv' := [(1, .int 3), (0, .ref h0)]) C.1 C.2.1 dX11_init_37 hl (k := 0) rfl (by decide) (by decide) rfl (fun ls hl => ?_)
  refine lv_goto (tgt := 15) C.1 C.2.1 dX11_init_40 (by decide) ?_
  refine lv_iload_n C.1 C.2.1 dX11_init_15 rfl (lv_at hl 0 rfl) ?_
  refine lv_bipush (v := 6) C.1 C.2.1 dX11_init_16 (by decide) ?_
  refine lv_icmp_ge (tgt := 43) C.1 C.2.1 dX11_init_18 (by decide) (fun c917 => absurd c917 (by decide)) (fun _ => ?_)
  refine lv_aload_n C.1 C.2.1 dX11_init_21 rfl (lv_at hl 1 rfl) ?_
  refine k_get C Wd KX11 0 0 rfl (by decide) fl_X11_11 rfl dX11_init_22 ?_
  refine lv_iload_n C.1 C.2.1 dX11_init_25 rfl (lv_at hl 0 rfl) ?_
  refine k_new C Wd KX8 cl_X11_9 is_X8 in_X8 [.null, .int 0] (by decide +kernel) (cells' := 8) (slots' := 1454) (Nat.le_of_ble_eq_true rfl) (Nat.le_of_ble_eq_true rfl) (by decide) (by decide) dX11_init_26 (fun q918 H Wd => ?_)
  have Wd : wX D [(e901, .object RX8), (e906, .int), (e911, .int), (e916, .int)] s [(h0, .inr (11, [.ref q900, .int 0, .null, .null, .null, .null, .null, .null])), (q900, .inl (e901, 6, .inr (.inr (.inr (.inr (va_up (va_up (va_up (fun _ => none) 0 (some q903)) 1 (some q908)) 2 (some q913))))))), (q903, .inr (8, [.ref q905, .int 0])), (q905, .inl (e906, 480, .inl (fun _ => 0))), (q908, .inr (8, [.ref q910, .int 0])), (q910, .inl (e911, 480, .inl (fun _ => 0))), (q913, .inr (8, [.ref q915, .int 0])), (q915, .inl (e916, 480, .inl (fun _ => 0))), (q918, .inr (8, [.null, .int 0]))] _ A s.heap _ := Wd
  refine lv_dup C.1 C.2.1 dX11_init_29 rfl ?_
  refine lv_sipush (v := 480) C.1 C.2.1 dX11_init_30 (by decide) ?_
  refine k_cv Wd [8] [0, 1, 2, 3, 4, 5, 6, 7] rfl (wr := [(h0, .inr (11, [.ref q900, .int 0, .null, .null, .null, .null, .null, .null])), (q900, .inl (e901, 6, .inr (.inr (.inr (.inr (va_up (va_up (va_up (fun _ => none) 0 (some q903)) 1 (some q908)) 2 (some q913))))))), (q903, .inr (8, [.ref q905, .int 0])), (q905, .inl (e906, 480, .inl (fun _ => 0))), (q908, .inr (8, [.ref q910, .int 0])), (q910, .inl (e911, 480, .inl (fun _ => 0))), (q913, .inr (8, [.ref q915, .int 0])), (q915, .inl (e916, 480, .inl (fun _ => 0)))]) rfl (by decide) (by decide) (cells' := 9) (slots' := 1934) (by decide) (by decide) (k_runI (rest := [.ref q918, .int 3, .ref q900]) C aks Wd cs_X11_15 (kcX8_init l D q918 _ ) [8] rfl (by decide) [] rfl rfl rfl ⟨(Nat.le_of_ble_eq_true rfl), (Nat.le_of_ble_eq_true rfl)⟩ hl.1 rfl rfl (Nat.le_of_ble_eq_true rfl) ⟨(Nat.le_of_ble_eq_true rfl), (Nat.le_of_ble_eq_true rfl)⟩ dX11_init_33) (fun u H locs w919 Wd => ?_)
  obtain ⟨q920, e921⟩ := u
  have Wd : wX D [(e901, .object RX8), (e906, .int), (e911, .int), (e916, .int), (e921, .int)] s [(h0, .inr (11, [.ref q900, .int 0, .null, .null, .null, .null, .null, .null])), (q900, .inl (e901, 6, .inr (.inr (.inr (.inr (va_up (va_up (va_up (fun _ => none) 0 (some q903)) 1 (some q908)) 2 (some q913))))))), (q903, .inr (8, [.ref q905, .int 0])), (q905, .inl (e906, 480, .inl (fun _ => 0))), (q908, .inr (8, [.ref q910, .int 0])), (q910, .inl (e911, 480, .inl (fun _ => 0))), (q913, .inr (8, [.ref q915, .int 0])), (q915, .inl (e916, 480, .inl (fun _ => 0))), (q918, .inr (8, [.ref q920, .int 0])), (q920, .inl (e921, 480, .inl (fun _ => 0)))] _ A s.heap _ := Wd
  refine k_astq C Wd 1 0 8 8 [(h0, .inr (11, [.ref q900, .int 0, .null, .null, .null, .null, .null, .null])), (q900, .inl (e901, 6, .inr (.inr (.inr (.inr (va_up (va_up (va_up (va_up (fun _ => none) 0 (some q903)) 1 (some q908)) 2 (some q913)) 3 (some q918))))))), (q903, .inr (8, [.ref q905, .int 0])), (q905, .inl (e906, 480, .inl (fun _ => 0))), (q908, .inr (8, [.ref q910, .int 0])), (q910, .inl (e911, 480, .inl (fun _ => 0))), (q913, .inr (8, [.ref q915, .int 0])), (q915, .inl (e916, 480, .inl (fun _ => 0))), (q918, .inr (8, [.ref q920, .int 0])), (q920, .inl (e921, 480, .inl (fun _ => 0)))] rfl rfl rfl rfl (vp_in_iff.mpr (by decide)) rfl rfl dX11_init_36 (fun H locs Wd => ?_)
  refine lv_iinc (v := 4) (lv' := [(1, .int 4), (0, .ref h0)]) C.1 C.2.1 dX11_init_37 hl (k := 0) rfl (by decide) (by decide) rfl (fun ls hl => ?_)
  refine lv_goto (tgt := 15) C.1 C.2.1 dX11_init_40 (by decide) ?_
  refine lv_iload_n C.1 C.2.1 dX11_init_15 rfl (lv_at hl 0 rfl) ?_
  refine lv_bipush (v := 6) C.1 C.2.1 dX11_init_16 (by decide) ?_
  refine lv_icmp_ge (tgt := 43) C.1 C.2.1 dX11_init_18 (by decide) (fun c922 => absurd c922 (by decide)) (fun _ => ?_)
  refine lv_aload_n C.1 C.2.1 dX11_init_21 rfl (lv_at hl 1 rfl) ?_
  refine k_get C Wd KX11 0 0 rfl (by decide) fl_X11_11 rfl dX11_init_22 ?_
  refine lv_iload_n C.1 C.2.1 dX11_init_25 rfl (lv_at hl 0 rfl) ?_
  refine k_new C Wd KX8 cl_X11_9 is_X8 in_X8 [.null, .int 0] (by decide +kernel) (cells' := 10) (slots' := 1936) (Nat.le_of_ble_eq_true rfl) (Nat.le_of_ble_eq_true rfl) (by decide) (by decide) dX11_init_26 (fun q923 H Wd => ?_)
  have Wd : wX D [(e901, .object RX8), (e906, .int), (e911, .int), (e916, .int), (e921, .int)] s [(h0, .inr (11, [.ref q900, .int 0, .null, .null, .null, .null, .null, .null])), (q900, .inl (e901, 6, .inr (.inr (.inr (.inr (va_up (va_up (va_up (va_up (fun _ => none) 0 (some q903)) 1 (some q908)) 2 (some q913)) 3 (some q918))))))), (q903, .inr (8, [.ref q905, .int 0])), (q905, .inl (e906, 480, .inl (fun _ => 0))), (q908, .inr (8, [.ref q910, .int 0])), (q910, .inl (e911, 480, .inl (fun _ => 0))), (q913, .inr (8, [.ref q915, .int 0])), (q915, .inl (e916, 480, .inl (fun _ => 0))), (q918, .inr (8, [.ref q920, .int 0])), (q920, .inl (e921, 480, .inl (fun _ => 0))), (q923, .inr (8, [.null, .int 0]))] _ A s.heap _ := Wd
  refine lv_dup C.1 C.2.1 dX11_init_29 rfl ?_
  refine lv_sipush (v := 480) C.1 C.2.1 dX11_init_30 (by decide) ?_
  refine k_cv Wd [10] [0, 1, 2, 3, 4, 5, 6, 7, 8, 9] rfl (wr := [(h0, .inr (11, [.ref q900, .int 0, .null, .null, .null, .null, .null, .null])), (q900, .inl (e901, 6, .inr (.inr (.inr (.inr (va_up (va_up (va_up (va_up (fun _ => none) 0 (some q903)) 1 (some q908)) 2 (some q913)) 3 (some q918))))))), (q903, .inr (8, [.ref q905, .int 0])), (q905, .inl (e906, 480, .inl (fun _ => 0))), (q908, .inr (8, [.ref q910, .int 0])), (q910, .inl (e911, 480, .inl (fun _ => 0))), (q913, .inr (8, [.ref q915, .int 0])), (q915, .inl (e916, 480, .inl (fun _ => 0))), (q918, .inr (8, [.ref q920, .int 0])), (q920, .inl (e921, 480, .inl (fun _ => 0)))]) rfl (by decide) (by decide) (cells' := 11) (slots' := 2416) (by decide) (by decide) (k_runI (rest := [.ref q923, .int 4, .ref q900]) C aks Wd cs_X11_15 (kcX8_init l D q923 _ ) [10] rfl (by decide) [] rfl rfl rfl ⟨(Nat.le_of_ble_eq_true rfl), (Nat.le_of_ble_eq_true rfl)⟩ hl.1 rfl rfl (Nat.le_of_ble_eq_true rfl) ⟨(Nat.le_of_ble_eq_true rfl), (Nat.le_of_ble_eq_true rfl)⟩ dX11_init_33) (fun u H locs w924 Wd => ?_)
  obtain ⟨q925, e926⟩ := u
  have Wd : wX D [(e901, .object RX8), (e906, .int), (e911, .int), (e916, .int), (e921, .int), (e926, .int)] s [(h0, .inr (11, [.ref q900, .int 0, .null, .null, .null, .null, .null, .null])), (q900, .inl (e901, 6, .inr (.inr (.inr (.inr (va_up (va_up (va_up (va_up (fun _ => none) 0 (some q903)) 1 (some q908)) 2 (some q913)) 3 (some q918))))))), (q903, .inr (8, [.ref q905, .int 0])), (q905, .inl (e906, 480, .inl (fun _ => 0))), (q908, .inr (8, [.ref q910, .int 0])), (q910, .inl (e911, 480, .inl (fun _ => 0))), (q913, .inr (8, [.ref q915, .int 0])), (q915, .inl (e916, 480, .inl (fun _ => 0))), (q918, .inr (8, [.ref q920, .int 0])), (q920, .inl (e921, 480, .inl (fun _ => 0))), (q923, .inr (8, [.ref q925, .int 0])), (q925, .inl (e926, 480, .inl (fun _ => 0)))] _ A s.heap _ := Wd
  refine k_astq C Wd 1 0 10 8 [(h0, .inr (11, [.ref q900, .int 0, .null, .null, .null, .null, .null, .null])), (q900, .inl (e901, 6, .inr (.inr (.inr (.inr (va_up (va_up (va_up (va_up (va_up (fun _ => none) 0 (some q903)) 1 (some q908)) 2 (some q913)) 3 (some q918)) 4 (some q923))))))), (q903, .inr (8, [.ref q905, .int 0])), (q905, .inl (e906, 480, .inl (fun _ => 0))), (q908, .inr (8, [.ref q910, .int 0])), (q910, .inl (e911, 480, .inl (fun _ => 0))), (q913, .inr (8, [.ref q915, .int 0])), (q915, .inl (e916, 480, .inl (fun _ => 0))), (q918, .inr (8, [.ref q920, .int 0])), (q920, .inl (e921, 480, .inl (fun _ => 0))), (q923, .inr (8, [.ref q925, .int 0])), (q925, .inl (e926, 480, .inl (fun _ => 0)))] rfl rfl rfl rfl (vp_in_iff.mpr (by decide)) rfl rfl dX11_init_36 (fun H locs Wd => ?_)
  refine lv_iinc (v := 5) (lv' := [(1, .int 5), (0, .ref h0)]) C.1 C.2.1 dX11_init_37 hl (k := 0) rfl (by decide) (by decide) rfl (fun ls hl => ?_)
  refine lv_goto (tgt := 15) C.1 C.2.1 dX11_init_40 (by decide) ?_
  refine lv_iload_n C.1 C.2.1 dX11_init_15 rfl (lv_at hl 0 rfl) ?_
  refine lv_bipush (v := 6) C.1 C.2.1 dX11_init_16 (by decide) ?_
  refine lv_icmp_ge (tgt := 43) C.1 C.2.1 dX11_init_18 (by decide) (fun c927 => absurd c927 (by decide)) (fun _ => ?_)
  refine lv_aload_n C.1 C.2.1 dX11_init_21 rfl (lv_at hl 1 rfl) ?_
  refine k_get C Wd KX11 0 0 rfl (by decide) fl_X11_11 rfl dX11_init_22 ?_
  refine lv_iload_n C.1 C.2.1 dX11_init_25 rfl (lv_at hl 0 rfl) ?_
  refine k_new C Wd KX8 cl_X11_9 is_X8 in_X8 [.null, .int 0] (by decide +kernel) (cells' := 12) (slots' := 2418) (Nat.le_of_ble_eq_true rfl) (Nat.le_of_ble_eq_true rfl) (by decide) (by decide) dX11_init_26 (fun q928 H Wd => ?_)
  have Wd : wX D [(e901, .object RX8), (e906, .int), (e911, .int), (e916, .int), (e921, .int), (e926, .int)] s [(h0, .inr (11, [.ref q900, .int 0, .null, .null, .null, .null, .null, .null])), (q900, .inl (e901, 6, .inr (.inr (.inr (.inr (va_up (va_up (va_up (va_up (va_up (fun _ => none) 0 (some q903)) 1 (some q908)) 2 (some q913)) 3 (some q918)) 4 (some q923))))))), (q903, .inr (8, [.ref q905, .int 0])), (q905, .inl (e906, 480, .inl (fun _ => 0))), (q908, .inr (8, [.ref q910, .int 0])), (q910, .inl (e911, 480, .inl (fun _ => 0))), (q913, .inr (8, [.ref q915, .int 0])), (q915, .inl (e916, 480, .inl (fun _ => 0))), (q918, .inr (8, [.ref q920, .int 0])), (q920, .inl (e921, 480, .inl (fun _ => 0))), (q923, .inr (8, [.ref q925, .int 0])), (q925, .inl (e926, 480, .inl (fun _ => 0))), (q928, .inr (8, [.null, .int 0]))] _ A s.heap _ := Wd
  refine lv_dup C.1 C.2.1 dX11_init_29 rfl ?_
  refine lv_sipush (v := 480) C.1 C.2.1 dX11_init_30 (by decide) ?_
  refine k_cv Wd [12] [0, 1, 2, 3, 4, 5, 6, 7, 8, 9, 10, 11] rfl (wr := [(h0, .inr (11, [.ref q900, .int 0, .null, .null, .null, .null, .null, .null])), (q900, .inl (e901, 6, .inr (.inr (.inr (.inr (va_up (va_up (va_up (va_up (va_up (fun _ => none) 0 (some q903)) 1 (some q908)) 2 (some q913)) 3 (some q918)) 4 (some q923))))))), (q903, .inr (8, [.ref q905, .int 0])), (q905, .inl (e906, 480, .inl (fun _ => 0))), (q908, .inr (8, [.ref q910, .int 0])), (q910, .inl (e911, 480, .inl (fun _ => 0))), (q913, .inr (8, [.ref q915, .int 0])), (q915, .inl (e916, 480, .inl (fun _ => 0))), (q918, .inr (8, [.ref q920, .int 0])), (q920, .inl (e921, 480, .inl (fun _ => 0))), (q923, .inr (8, [.ref q925, .int 0])), (q925, .inl (e926, 480, .inl (fun _ => 0)))]) rfl (by decide) (by decide) (cells' := 13) (slots' := 2898) (by decide) (by decide) (k_runI (rest := [.ref q928, .int 5, .ref q900]) C aks Wd cs_X11_15 (kcX8_init l D q928 _ ) [12] rfl (by decide) [] rfl rfl rfl ⟨(Nat.le_of_ble_eq_true rfl), (Nat.le_of_ble_eq_true rfl)⟩ hl.1 rfl rfl (Nat.le_of_ble_eq_true rfl) ⟨(Nat.le_of_ble_eq_true rfl), (Nat.le_of_ble_eq_true rfl)⟩ dX11_init_33) (fun u H locs w929 Wd => ?_)
  obtain ⟨q930, e931⟩ := u
  have Wd : wX D [(e901, .object RX8), (e906, .int), (e911, .int), (e916, .int), (e921, .int), (e926, .int), (e931, .int)] s [(h0, .inr (11, [.ref q900, .int 0, .null, .null, .null, .null, .null, .null])), (q900, .inl (e901, 6, .inr (.inr (.inr (.inr (va_up (va_up (va_up (va_up (va_up (fun _ => none) 0 (some q903)) 1 (some q908)) 2 (some q913)) 3 (some q918)) 4 (some q923))))))), (q903, .inr (8, [.ref q905, .int 0])), (q905, .inl (e906, 480, .inl (fun _ => 0))), (q908, .inr (8, [.ref q910, .int 0])), (q910, .inl (e911, 480, .inl (fun _ => 0))), (q913, .inr (8, [.ref q915, .int 0])), (q915, .inl (e916, 480, .inl (fun _ => 0))), (q918, .inr (8, [.ref q920, .int 0])), (q920, .inl (e921, 480, .inl (fun _ => 0))), (q923, .inr (8, [.ref q925, .int 0])), (q925, .inl (e926, 480, .inl (fun _ => 0))), (q928, .inr (8, [.ref q930, .int 0])), (q930, .inl (e931, 480, .inl (fun _ => 0)))] _ A s.heap _ := Wd
  refine k_astq C Wd 1 0 12 8 [(h0, .inr (11, [.ref q900, .int 0, .null, .null, .null, .null, .null, .null])), (q900, .inl (e901, 6, .inr (.inr (.inr (.inr (va_up (va_up (va_up (va_up (va_up (va_up (fun _ => none) 0 (some q903)) 1 (some q908)) 2 (some q913)) 3 (some q918)) 4 (some q923)) 5 (some q928))))))), (q903, .inr (8, [.ref q905, .int 0])), (q905, .inl (e906, 480, .inl (fun _ => 0))), (q908, .inr (8, [.ref q910, .int 0])), (q910, .inl (e911, 480, .inl (fun _ => 0))), (q913, .inr (8, [.ref q915, .int 0])), (q915, .inl (e916, 480, .inl (fun _ => 0))), (q918, .inr (8, [.ref q920, .int 0])), (q920, .inl (e921, 480, .inl (fun _ => 0))), (q923, .inr (8, [.ref q925, .int 0])), (q925, .inl (e926, 480, .inl (fun _ => 0))), (q928, .inr (8, [.ref q930, .int 0])), (q930, .inl (e931, 480, .inl (fun _ => 0)))] rfl rfl rfl rfl (vp_in_iff.mpr (by decide)) rfl rfl dX11_init_36 (fun H locs Wd => ?_)
  refine lv_iinc (v := 6) (lv' := [(1, .int 6), (0, .ref h0)]) C.1 C.2.1 dX11_init_37 hl (k := 0) rfl (by decide) (by decide) rfl (fun ls hl => ?_)
  refine lv_goto (tgt := 15) C.1 C.2.1 dX11_init_40 (by decide) ?_
  refine lv_iload_n C.1 C.2.1 dX11_init_15 rfl (lv_at hl 0 rfl) ?_
  refine lv_bipush (v := 6) C.1 C.2.1 dX11_init_16 (by decide) ?_
  refine lv_icmp_ge (tgt := 43) C.1 C.2.1 dX11_init_18 (by decide) (fun _ => ?_) (fun c932 => absurd c932 (by decide))
  refine lv_aload_n C.1 C.2.1 dX11_init_43 rfl (lv_at hl 1 rfl) ?_
  refine lv_iconst (v := 0) C.1 C.2.1 dX11_init_44 (by decide) ?_
  refine k_put C Wd KX11 0 1 [(h0, .inr (11, [.ref q900, .int 0, .null, .null, .null, .null, .null, .null])), (q900, .inl (e901, 6, .inr (.inr (.inr (.inr (va_up (va_up (va_up (va_up (va_up (va_up (fun _ => none) 0 (some q903)) 1 (some q908)) 2 (some q913)) 3 (some q918)) 4 (some q923)) 5 (some q928))))))), (q903, .inr (8, [.ref q905, .int 0])), (q905, .inl (e906, 480, .inl (fun _ => 0))), (q908, .inr (8, [.ref q910, .int 0])), (q910, .inl (e911, 480, .inl (fun _ => 0))), (q913, .inr (8, [.ref q915, .int 0])), (q915, .inl (e916, 480, .inl (fun _ => 0))), (q918, .inr (8, [.ref q920, .int 0])), (q920, .inl (e921, 480, .inl (fun _ => 0))), (q923, .inr (8, [.ref q925, .int 0])), (q925, .inl (e926, 480, .inl (fun _ => 0))), (q928, .inr (8, [.ref q930, .int 0])), (q930, .inl (e931, 480, .inl (fun _ => 0)))] rfl (by decide) fl_X11_18 rfl rfl rfl (Nat.le_of_ble_eq_true rfl) rfl dX11_init_45 (fun H locs Wd => ?_)
  refine lv_aload_n C.1 C.2.1 dX11_init_48 rfl (lv_at hl 1 rfl) ?_
  refine k_new C Wd KX8 cl_X11_9 is_X8 in_X8 [.null, .int 0] (by decide +kernel) (cells' := 14) (slots' := 2900) (Nat.le_of_ble_eq_true rfl) (Nat.le_of_ble_eq_true rfl) (by decide) (by decide) dX11_init_49 (fun q933 H Wd => ?_)
  have Wd : wX D [(e901, .object RX8), (e906, .int), (e911, .int), (e916, .int), (e921, .int), (e926, .int), (e931, .int)] s [(h0, .inr (11, [.ref q900, .int 0, .null, .null, .null, .null, .null, .null])), (q900, .inl (e901, 6, .inr (.inr (.inr (.inr (va_up (va_up (va_up (va_up (va_up (va_up (fun _ => none) 0 (some q903)) 1 (some q908)) 2 (some q913)) 3 (some q918)) 4 (some q923)) 5 (some q928))))))), (q903, .inr (8, [.ref q905, .int 0])), (q905, .inl (e906, 480, .inl (fun _ => 0))), (q908, .inr (8, [.ref q910, .int 0])), (q910, .inl (e911, 480, .inl (fun _ => 0))), (q913, .inr (8, [.ref q915, .int 0])), (q915, .inl (e916, 480, .inl (fun _ => 0))), (q918, .inr (8, [.ref q920, .int 0])), (q920, .inl (e921, 480, .inl (fun _ => 0))), (q923, .inr (8, [.ref q925, .int 0])), (q925, .inl (e926, 480, .inl (fun _ => 0))), (q928, .inr (8, [.ref q930, .int 0])), (q930, .inl (e931, 480, .inl (fun _ => 0))), (q933, .inr (8, [.null, .int 0]))] _ A s.heap _ := Wd
  refine lv_dup C.1 C.2.1 dX11_init_52 rfl ?_
  refine lv_sipush (v := 1000) C.1 C.2.1 dX11_init_53 (by decide) ?_
  refine k_cv Wd [14] [0, 1, 2, 3, 4, 5, 6, 7, 8, 9, 10, 11, 12, 13] rfl (wr := [(h0, .inr (11, [.ref q900, .int 0, .null, .null, .null, .null, .null, .null])), (q900, .inl (e901, 6, .inr (.inr (.inr (.inr (va_up (va_up (va_up (va_up (va_up (va_up (fun _ => none) 0 (some q903)) 1 (some q908)) 2 (some q913)) 3 (some q918)) 4 (some q923)) 5 (some q928))))))), (q903, .inr (8, [.ref q905, .int 0])), (q905, .inl (e906, 480, .inl (fun _ => 0))), (q908, .inr (8, [.ref q910, .int 0])), (q910, .inl (e911, 480, .inl (fun _ => 0))), (q913, .inr (8, [.ref q915, .int 0])), (q915, .inl (e916, 480, .inl (fun _ => 0))), (q918, .inr (8, [.ref q920, .int 0])), (q920, .inl (e921, 480, .inl (fun _ => 0))), (q923, .inr (8, [.ref q925, .int 0])), (q925, .inl (e926, 480, .inl (fun _ => 0))), (q928, .inr (8, [.ref q930, .int 0])), (q930, .inl (e931, 480, .inl (fun _ => 0)))]) rfl (by decide) (by decide) (cells' := 15) (slots' := 3900) (by decide) (by decide) (k_runI (rest := [.ref q933, .ref h0]) C aks Wd cs_X11_15 (kcX8_init_v1 l D q933 _ ) [14] rfl (by decide) [] rfl rfl rfl ⟨(Nat.le_of_ble_eq_true rfl), (Nat.le_of_ble_eq_true rfl)⟩ hl.1 rfl rfl (Nat.le_of_ble_eq_true rfl) ⟨(Nat.le_of_ble_eq_true rfl), (Nat.le_of_ble_eq_true rfl)⟩ dX11_init_56) (fun u H locs w934 Wd => ?_)
  obtain ⟨q935, e936⟩ := u
  have Wd : wX D [(e901, .object RX8), (e906, .int), (e911, .int), (e916, .int), (e921, .int), (e926, .int), (e931, .int), (e936, .int)] s [(h0, .inr (11, [.ref q900, .int 0, .null, .null, .null, .null, .null, .null])), (q900, .inl (e901, 6, .inr (.inr (.inr (.inr (va_up (va_up (va_up (va_up (va_up (va_up (fun _ => none) 0 (some q903)) 1 (some q908)) 2 (some q913)) 3 (some q918)) 4 (some q923)) 5 (some q928))))))), (q903, .inr (8, [.ref q905, .int 0])), (q905, .inl (e906, 480, .inl (fun _ => 0))), (q908, .inr (8, [.ref q910, .int 0])), (q910, .inl (e911, 480, .inl (fun _ => 0))), (q913, .inr (8, [.ref q915, .int 0])), (q915, .inl (e916, 480, .inl (fun _ => 0))), (q918, .inr (8, [.ref q920, .int 0])), (q920, .inl (e921, 480, .inl (fun _ => 0))), (q923, .inr (8, [.ref q925, .int 0])), (q925, .inl (e926, 480, .inl (fun _ => 0))), (q928, .inr (8, [.ref q930, .int 0])), (q930, .inl (e931, 480, .inl (fun _ => 0))), (q933, .inr (8, [.ref q935, .int 0])), (q935, .inl (e936, 1000, .inl (fun _ => 0)))] _ A s.heap _ := Wd
  refine k_putF C Wd KX11 0 2 [(h0, .inr (11, [.ref q900, .int 0, .ref q933, .null, .null, .null, .null, .null])), (q900, .inl (e901, 6, .inr (.inr (.inr (.inr (va_up (va_up (va_up (va_up (va_up (va_up (fun _ => none) 0 (some q903)) 1 (some q908)) 2 (some q913)) 3 (some q918)) 4 (some q923)) 5 (some q928))))))), (q903, .inr (8, [.ref q905, .int 0])), (q905, .inl (e906, 480, .inl (fun _ => 0))), (q908, .inr (8, [.ref q910, .int 0])), (q910, .inl (e911, 480, .inl (fun _ => 0))), (q913, .inr (8, [.ref q915, .int 0])), (q915, .inl (e916, 480, .inl (fun _ => 0))), (q918, .inr (8, [.ref q920, .int 0])), (q920, .inl (e921, 480, .inl (fun _ => 0))), (q923, .inr (8, [.ref q925, .int 0])), (q925, .inl (e926, 480, .inl (fun _ => 0))), (q928, .inr (8, [.ref q930, .int 0])), (q930, .inl (e931, 480, .inl (fun _ => 0))), (q933, .inr (8, [.ref q935, .int 0])), (q935, .inl (e936, 1000, .inl (fun _ => 0)))] rfl (by decide) fl_X11_22 rfl hin rfl rfl rfl (Nat.le_of_ble_eq_true rfl) rfl dX11_init_59 (fun H locs Wd => ?_)
  refine lv_aload_n C.1 C.2.1 dX11_init_62 rfl (lv_at hl 1 rfl) ?_
  refine k_new C Wd KX6 cl_X11_26 is_X6 in_X6 [.null, .int 0, .int 0, .null, .null, .int 0, .int 0, .int 0, .int 0, .int 0, .int 0, .int 0, .int 0, .int 0, .null, .null, .null] (by decide +kernel) (cells' := 16) (slots' := 3917) (Nat.le_of_ble_eq_true rfl) (Nat.le_of_ble_eq_true rfl) (by decide) (by decide) dX11_init_63 (fun q937 H Wd => ?_)
  have Wd : wX D [(e901, .object RX8), (e906, .int), (e911, .int), (e916, .int), (e921, .int), (e926, .int), (e931, .int), (e936, .int)] s [(h0, .inr (11, [.ref q900, .int 0, .ref q933, .null, .null, .null, .null, .null])), (q900, .inl (e901, 6, .inr (.inr (.inr (.inr (va_up (va_up (va_up (va_up (va_up (va_up (fun _ => none) 0 (some q903)) 1 (some q908)) 2 (some q913)) 3 (some q918)) 4 (some q923)) 5 (some q928))))))), (q903, .inr (8, [.ref q905, .int 0])), (q905, .inl (e906, 480, .inl (fun _ => 0))), (q908, .inr (8, [.ref q910, .int 0])), (q910, .inl (e911, 480, .inl (fun _ => 0))), (q913, .inr (8, [.ref q915, .int 0])), (q915, .inl (e916, 480, .inl (fun _ => 0))), (q918, .inr (8, [.ref q920, .int 0])), (q920, .inl (e921, 480, .inl (fun _ => 0))), (q923, .inr (8, [.ref q925, .int 0])), (q925, .inl (e926, 480, .inl (fun _ => 0))), (q928, .inr (8, [.ref q930, .int 0])), (q930, .inl (e931, 480, .inl (fun _ => 0))), (q933, .inr (8, [.ref q935, .int 0])), (q935, .inl (e936, 1000, .inl (fun _ => 0))), (q937, .inr (6, [.null, .int 0, .int 0, .null, .null, .int 0, .int 0, .int 0, .int 0, .int 0, .int 0, .int 0, .int 0, .int 0, .null, .null, .null]))] _ A s.heap _ := Wd
  refine lv_dup C.1 C.2.1 dX11_init_66 rfl ?_
  refine k_cv Wd [16] [0, 1, 2, 3, 4, 5, 6, 7, 8, 9, 10, 11, 12, 13, 14, 15] rfl (wr := [(h0, .inr (11, [.ref q900, .int 0, .ref q933, .null, .null, .null, .null, .null])), (q900, .inl (e901, 6, .inr (.inr (.inr (.inr (va_up (va_up (va_up (va_up (va_up (va_up (fun _ => none) 0 (some q903)) 1 (some q908)) 2 (some q913)) 3 (some q918)) 4 (some q923)) 5 (some q928))))))), (q903, .inr (8, [.ref q905, .int 0])), (q905, .inl (e906, 480, .inl (fun _ => 0))), (q908, .inr (8, [.ref q910, .int 0])), (q910, .inl (e911, 480, .inl (fun _ => 0))), (q913, .inr (8, [.ref q915, .int 0])), (q915, .inl (e916, 480, .inl (fun _ => 0))), (q918, .inr (8, [.ref q920, .int 0])), (q920, .inl (e921, 480, .inl (fun _ => 0))), (q923, .inr (8, [.ref q925, .int 0])), (q925, .inl (e926, 480, .inl (fun _ => 0))), (q928, .inr (8, [.ref q930, .int 0])), (q930, .inl (e931, 480, .inl (fun _ => 0))), (q933, .inr (8, [.ref q935, .int 0])), (q935, .inl (e936, 1000, .inl (fun _ => 0)))]) rfl (by decide) (by decide) (cells' := 23) (slots' := 4750) (by decide) (by decide) (k_runI (rest := [.ref q937, .ref h0]) C aks Wd cs_X11_28 (kcX6_init l D q937 _ ) [16] rfl (by decide) [] rfl rfl rfl ⟨(Nat.le_of_ble_eq_true rfl), (Nat.le_of_ble_eq_true rfl)⟩ hl.1 rfl rfl (Nat.le_of_ble_eq_true rfl) ⟨(Nat.le_of_ble_eq_true rfl), (Nat.le_of_ble_eq_true rfl)⟩ dX11_init_67) (fun u H locs w938 Wd => ?_)
  obtain ⟨q939, q940, q941, q942, q943, q944, e945⟩ := u
  have Wd : wX D [(e901, .object RX8), (e906, .int), (e911, .int), (e916, .int), (e921, .int), (e926, .int), (e931, .int), (e936, .int), (e945, .int)] s [(h0, .inr (11, [.ref q900, .int 0, .ref q933, .null, .null, .null, .null, .null])), (q900, .inl (e901, 6, .inr (.inr (.inr (.inr (va_up (va_up (va_up (va_up (va_up (va_up (fun _ => none) 0 (some q903)) 1 (some q908)) 2 (some q913)) 3 (some q918)) 4 (some q923)) 5 (some q928))))))), (q903, .inr (8, [.ref q905, .int 0])), (q905, .inl (e906, 480, .inl (fun _ => 0))), (q908, .inr (8, [.ref q910, .int 0])), (q910, .inl (e911, 480, .inl (fun _ => 0))), (q913, .inr (8, [.ref q915, .int 0])), (q915, .inl (e916, 480, .inl (fun _ => 0))), (q918, .inr (8, [.ref q920, .int 0])), (q920, .inl (e921, 480, .inl (fun _ => 0))), (q923, .inr (8, [.ref q925, .int 0])), (q925, .inl (e926, 480, .inl (fun _ => 0))), (q928, .inr (8, [.ref q930, .int 0])), (q930, .inl (e931, 480, .inl (fun _ => 0))), (q933, .inr (8, [.ref q935, .int 0])), (q935, .inl (e936, 1000, .inl (fun _ => 0))), (q937, .inr (6, [.ref q939, .int 0, .int (-1), .ref q940, .null, .int 0, .int 0, .int 0, .int 0, .int 0, .int 0, .int 0, .int 0, .int 0, .ref q941, .ref q942, .ref q943])), (q939, .inr (10, [.ref q944, .int 0, .int 0, .int 0, .int 0, .int 0])), (q944, .inl (e945, 800, .inl (fun _ => 0)))] _ A s.heap _ := Wd
  refine k_putF C Wd KX11 0 3 [(h0, .inr (11, [.ref q900, .int 0, .ref q933, .ref q937, .null, .null, .null, .null])), (q900, .inl (e901, 6, .inr (.inr (.inr (.inr (va_up (va_up (va_up (va_up (va_up (va_up (fun _ => none) 0 (some q903)) 1 (some q908)) 2 (some q913)) 3 (some q918)) 4 (some q923)) 5 (some q928))))))), (q903, .inr (8, [.ref q905, .int 0])), (q905, .inl (e906, 480, .inl (fun _ => 0))), (q908, .inr (8, [.ref q910, .int 0])), (q910, .inl (e911, 480, .inl (fun _ => 0))), (q913, .inr (8, [.ref q915, .int 0])), (q915, .inl (e916, 480, .inl (fun _ => 0))), (q918, .inr (8, [.ref q920, .int 0])), (q920, .inl (e921, 480, .inl (fun _ => 0))), (q923, .inr (8, [.ref q925, .int 0])), (q925, .inl (e926, 480, .inl (fun _ => 0))), (q928, .inr (8, [.ref q930, .int 0])), (q930, .inl (e931, 480, .inl (fun _ => 0))), (q933, .inr (8, [.ref q935, .int 0])), (q935, .inl (e936, 1000, .inl (fun _ => 0))), (q937, .inr (6, [.ref q939, .int 0, .int (-1), .ref q940, .null, .int 0, .int 0, .int 0, .int 0, .int 0, .int 0, .int 0, .int 0, .int 0, .ref q941, .ref q942, .ref q943])), (q939, .inr (10, [.ref q944, .int 0, .int 0, .int 0, .int 0, .int 0])), (q944, .inl (e945, 800, .inl (fun _ => 0)))] rfl (by decide) fl_X11_29 rfl hin rfl rfl rfl (Nat.le_of_ble_eq_true rfl) rfl dX11_init_70 (fun H locs Wd => ?_)
  refine lv_aload_n C.1 C.2.1 dX11_init_73 rfl (lv_at hl 1 rfl) ?_
  refine k_new C Wd KX3 cl_X11_33 is_X3 in_X3 [.null, .null, .int 0, .int 0, .int 0, .null, .null] (by decide +kernel) (cells' := 24) (slots' := 4757) (Nat.le_of_ble_eq_true rfl) (Nat.le_of_ble_eq_true rfl) (by decide) (by decide) dX11_init_74 (fun q946 H Wd => ?_)
  have Wd : wX D [(e901, .object RX8), (e906, .int), (e911, .int), (e916, .int), (e921, .int), (e926, .int), (e931, .int), (e936, .int), (e945, .int)] s [(h0, .inr (11, [.ref q900, .int 0, .ref q933, .ref q937, .null, .null, .null, .null])), (q900, .inl (e901, 6, .inr (.inr (.inr (.inr (va_up (va_up (va_up (va_up (va_up (va_up (fun _ => none) 0 (some q903)) 1 (some q908)) 2 (some q913)) 3 (some q918)) 4 (some q923)) 5 (some q928))))))), (q903, .inr (8, [.ref q905, .int 0])), (q905, .inl (e906, 480, .inl (fun _ => 0))), (q908, .inr (8, [.ref q910, .int 0])), (q910, .inl (e911, 480, .inl (fun _ => 0))), (q913, .inr (8, [.ref q915, .int 0])), (q915, .inl (e916, 480, .inl (fun _ => 0))), (q918, .inr (8, [.ref q920, .int 0])), (q920, .inl (e921, 480, .inl (fun _ => 0))), (q923, .inr (8, [.ref q925, .int 0])), (q925, .inl (e926, 480, .inl (fun _ => 0))), (q928, .inr (8, [.ref q930, .int 0])), (q930, .inl (e931, 480, .inl (fun _ => 0))), (q933, .inr (8, [.ref q935, .int 0])), (q935, .inl (e936, 1000, .inl (fun _ => 0))), (q937, .inr (6, [.ref q939, .int 0, .int (-1), .ref q940, .null, .int 0, .int 0, .int 0, .int 0, .int 0, .int 0, .int 0, .int 0, .int 0, .ref q941, .ref q942, .ref q943])), (q939, .inr (10, [.ref q944, .int 0, .int 0, .int 0, .int 0, .int 0])), (q944, .inl (e945, 800, .inl (fun _ => 0))), (q946, .inr (3, [.null, .null, .int 0, .int 0, .int 0, .null, .null]))] _ A s.heap _ := Wd
  refine lv_dup C.1 C.2.1 dX11_init_77 rfl ?_
  refine k_cv Wd [19] [0, 1, 2, 3, 4, 5, 6, 7, 8, 9, 10, 11, 12, 13, 14, 15, 16, 17, 18] rfl (wr := [(h0, .inr (11, [.ref q900, .int 0, .ref q933, .ref q937, .null, .null, .null, .null])), (q900, .inl (e901, 6, .inr (.inr (.inr (.inr (va_up (va_up (va_up (va_up (va_up (va_up (fun _ => none) 0 (some q903)) 1 (some q908)) 2 (some q913)) 3 (some q918)) 4 (some q923)) 5 (some q928))))))), (q903, .inr (8, [.ref q905, .int 0])), (q905, .inl (e906, 480, .inl (fun _ => 0))), (q908, .inr (8, [.ref q910, .int 0])), (q910, .inl (e911, 480, .inl (fun _ => 0))), (q913, .inr (8, [.ref q915, .int 0])), (q915, .inl (e916, 480, .inl (fun _ => 0))), (q918, .inr (8, [.ref q920, .int 0])), (q920, .inl (e921, 480, .inl (fun _ => 0))), (q923, .inr (8, [.ref q925, .int 0])), (q925, .inl (e926, 480, .inl (fun _ => 0))), (q928, .inr (8, [.ref q930, .int 0])), (q930, .inl (e931, 480, .inl (fun _ => 0))), (q933, .inr (8, [.ref q935, .int 0])), (q935, .inl (e936, 1000, .inl (fun _ => 0))), (q937, .inr (6, [.ref q939, .int 0, .int (-1), .ref q940, .null, .int 0, .int 0, .int 0, .int 0, .int 0, .int 0, .int 0, .int 0, .int 0, .ref q941, .ref q942, .ref q943])), (q939, .inr (10, [.ref q944, .int 0, .int 0, .int 0, .int 0, .int 0])), (q944, .inl (e945, 800, .inl (fun _ => 0)))]) rfl (by decide) (by decide) (cells' := 42) (slots' := 6100) (by decide) (by decide) (k_runI (rest := [.ref q946, .ref h0]) C aks Wd cs_X11_35 (kcX3_init l D q946 _ ) [19] rfl (by decide) [] rfl rfl rfl ⟨(Nat.le_of_ble_eq_true rfl), (Nat.le_of_ble_eq_true rfl)⟩ hl.1 rfl rfl (Nat.le_of_ble_eq_true rfl) ⟨(Nat.le_of_ble_eq_true rfl), (Nat.le_of_ble_eq_true rfl)⟩ dX11_init_78) (fun u H locs w947 Wd => ?_)
  obtain ⟨q948, q949, q950, q951, q952, q953, q954, q955, q956, q957, q958, q959, q960, q961, q962, q963, q964, e965, e966⟩ := u
  have Wd : wX D [(e901, .object RX8), (e906, .int), (e911, .int), (e916, .int), (e921, .int), (e926, .int), (e931, .int), (e936, .int), (e945, .int), (e965, .int), (e966, .int)] s [(h0, .inr (11, [.ref q900, .int 0, .ref q933, .ref q937, .null, .null, .null, .null])), (q900, .inl (e901, 6, .inr (.inr (.inr (.inr (va_up (va_up (va_up (va_up (va_up (va_up (fun _ => none) 0 (some q903)) 1 (some q908)) 2 (some q913)) 3 (some q918)) 4 (some q923)) 5 (some q928))))))), (q903, .inr (8, [.ref q905, .int 0])), (q905, .inl (e906, 480, .inl (fun _ => 0))), (q908, .inr (8, [.ref q910, .int 0])), (q910, .inl (e911, 480, .inl (fun _ => 0))), (q913, .inr (8, [.ref q915, .int 0])), (q915, .inl (e916, 480, .inl (fun _ => 0))), (q918, .inr (8, [.ref q920, .int 0])), (q920, .inl (e921, 480, .inl (fun _ => 0))), (q923, .inr (8, [.ref q925, .int 0])), (q925, .inl (e926, 480, .inl (fun _ => 0))), (q928, .inr (8, [.ref q930, .int 0])), (q930, .inl (e931, 480, .inl (fun _ => 0))), (q933, .inr (8, [.ref q935, .int 0])), (q935, .inl (e936, 1000, .inl (fun _ => 0))), (q937, .inr (6, [.ref q939, .int 0, .int (-1), .ref q940, .null, .int 0, .int 0, .int 0, .int 0, .int 0, .int 0, .int 0, .int 0, .int 0, .ref q941, .ref q942, .ref q943])), (q939, .inr (10, [.ref q944, .int 0, .int 0, .int 0, .int 0, .int 0])), (q944, .inl (e945, 800, .inl (fun _ => 0))), (q946, .inr (3, [.ref q948, .ref q949, .int 0, .int 0, .int 0, .ref q950, .ref q951])), (q948, .inr (1, [.ref q952, .int 0, .ref q953, .ref q954, .ref q955, .ref q956, .ref q957, .ref q958, .ref q959, .ref q960, .ref q961, .ref q962, .ref q963, .ref q964])), (q964, .inl (e965, 480, .inl (fun _ => 0))), (q950, .inl (e966, 6, .inl (fun _ => 0)))] _ A s.heap _ := Wd
  refine k_putF C Wd KX11 0 4 [(h0, .inr (11, [.ref q900, .int 0, .ref q933, .ref q937, .ref q946, .null, .null, .null])), (q900, .inl (e901, 6, .inr (.inr (.inr (.inr (va_up (va_up (va_up (va_up (va_up (va_up (fun _ => none) 0 (some q903)) 1 (some q908)) 2 (some q913)) 3 (some q918)) 4 (some q923)) 5 (some q928))))))), (q903, .inr (8, [.ref q905, .int 0])), (q905, .inl (e906, 480, .inl (fun _ => 0))), (q908, .inr (8, [.ref q910, .int 0])), (q910, .inl (e911, 480, .inl (fun _ => 0))), (q913, .inr (8, [.ref q915, .int 0])), (q915, .inl (e916, 480, .inl (fun _ => 0))), (q918, .inr (8, [.ref q920, .int 0])), (q920, .inl (e921, 480, .inl (fun _ => 0))), (q923, .inr (8, [.ref q925, .int 0])), (q925, .inl (e926, 480, .inl (fun _ => 0))), (q928, .inr (8, [.ref q930, .int 0])), (q930, .inl (e931, 480, .inl (fun _ => 0))), (q933, .inr (8, [.ref q935, .int 0])), (q935, .inl (e936, 1000, .inl (fun _ => 0))), (q937, .inr (6, [.ref q939, .int 0, .int (-1), .ref q940, .null, .int 0, .int 0, .int 0, .int 0, .int 0, .int 0, .int 0, .int 0, .int 0, .ref q941, .ref q942, .ref q943])), (q939, .inr (10, [.ref q944, .int 0, .int 0, .int 0, .int 0, .int 0])), (q944, .inl (e945, 800, .inl (fun _ => 0))), (q946, .inr (3, [.ref q948, .ref q949, .int 0, .int 0, .int 0, .ref q950, .ref q951])), (q948, .inr (1, [.ref q952, .int 0, .ref q953, .ref q954, .ref q955, .ref q956, .ref q957, .ref q958, .ref q959, .ref q960, .ref q961, .ref q962, .ref q963, .ref q964])), (q964, .inl (e965, 480, .inl (fun _ => 0))), (q950, .inl (e966, 6, .inl (fun _ => 0)))] rfl (by decide) fl_X11_36 rfl hin rfl rfl rfl (Nat.le_of_ble_eq_true rfl) rfl dX11_init_81 (fun H locs Wd => ?_)
  refine lv_aload_n C.1 C.2.1 dX11_init_84 rfl (lv_at hl 1 rfl) ?_
  refine k_new C Wd KX5 cl_X11_40 is_X5 in_X5 [.int 0, .int 0, .null, .null, .null, .null, .null] (by decide +kernel) (cells' := 43) (slots' := 6107) (Nat.le_of_ble_eq_true rfl) (Nat.le_of_ble_eq_true rfl) (by decide) (by decide) dX11_init_85 (fun q967 H Wd => ?_)
  have Wd : wX D [(e901, .object RX8), (e906, .int), (e911, .int), (e916, .int), (e921, .int), (e926, .int), (e931, .int), (e936, .int), (e945, .int), (e965, .int), (e966, .int)] s [(h0, .inr (11, [.ref q900, .int 0, .ref q933, .ref q937, .ref q946, .null, .null, .null])), (q900, .inl (e901, 6, .inr (.inr (.inr (.inr (va_up (va_up (va_up (va_up (va_up (va_up (fun _ => none) 0 (some q903)) 1 (some q908)) 2 (some q913)) 3 (some q918)) 4 (some q923)) 5 (some q928))))))), (q903, .inr (8, [.ref q905, .int 0])), (q905, .inl (e906, 480, .inl (fun _ => 0))), (q908, .inr (8, [.ref q910, .int 0])), (q910, .inl (e911, 480, .inl (fun _ => 0))), (q913, .inr (8, [.ref q915, .int 0])), (q915, .inl (e916, 480, .inl (fun _ => 0))), (q918, .inr (8, [.ref q920, .int 0])), (q920, .inl (e921, 480, .inl (fun _ => 0))), (q923, .inr (8, [.ref q925, .int 0])), (q925, .inl (e926, 480, .inl (fun _ => 0))), (q928, .inr (8, [.ref q930, .int 0])), (q930, .inl (e931, 480, .inl (fun _ => 0))), (q933, .inr (8, [.ref q935, .int 0])), (q935, .inl (e936, 1000, .inl (fun _ => 0))), (q937, .inr (6, [.ref q939, .int 0, .int (-1), .ref q940, .null, .int 0, .int 0, .int 0, .int 0, .int 0, .int 0, .int 0, .int 0, .int 0, .ref q941, .ref q942, .ref q943])), (q939, .inr (10, [.ref q944, .int 0, .int 0, .int 0, .int 0, .int 0])), (q944, .inl (e945, 800, .inl (fun _ => 0))), (q946, .inr (3, [.ref q948, .ref q949, .int 0, .int 0, .int 0, .ref q950, .ref q951])), (q948, .inr (1, [.ref q952, .int 0, .ref q953, .ref q954, .ref q955, .ref q956, .ref q957, .ref q958, .ref q959, .ref q960, .ref q961, .ref q962, .ref q963, .ref q964])), (q964, .inl (e965, 480, .inl (fun _ => 0))), (q950, .inl (e966, 6, .inl (fun _ => 0))), (q967, .inr (5, [.int 0, .int 0, .null, .null, .null, .null, .null]))] _ A s.heap _ := Wd
  refine lv_dup C.1 C.2.1 dX11_init_88 rfl ?_
  refine k_cv Wd [23] [0, 1, 2, 3, 4, 5, 6, 7, 8, 9, 10, 11, 12, 13, 14, 15, 16, 17, 18, 19, 20, 21, 22] rfl (wr := [(h0, .inr (11, [.ref q900, .int 0, .ref q933, .ref q937, .ref q946, .null, .null, .null])), (q900, .inl (e901, 6, .inr (.inr (.inr (.inr (va_up (va_up (va_up (va_up (va_up (va_up (fun _ => none) 0 (some q903)) 1 (some q908)) 2 (some q913)) 3 (some q918)) 4 (some q923)) 5 (some q928))))))), (q903, .inr (8, [.ref q905, .int 0])), (q905, .inl (e906, 480, .inl (fun _ => 0))), (q908, .inr (8, [.ref q910, .int 0])), (q910, .inl (e911, 480, .inl (fun _ => 0))), (q913, .inr (8, [.ref q915, .int 0])), (q915, .inl (e916, 480, .inl (fun _ => 0))), (q918, .inr (8, [.ref q920, .int 0])), (q920, .inl (e921, 480, .inl (fun _ => 0))), (q923, .inr (8, [.ref q925, .int 0])), (q925, .inl (e926, 480, .inl (fun _ => 0))), (q928, .inr (8, [.ref q930, .int 0])), (q930, .inl (e931, 480, .inl (fun _ => 0))), (q933, .inr (8, [.ref q935, .int 0])), (q935, .inl (e936, 1000, .inl (fun _ => 0))), (q937, .inr (6, [.ref q939, .int 0, .int (-1), .ref q940, .null, .int 0, .int 0, .int 0, .int 0, .int 0, .int 0, .int 0, .int 0, .int 0, .ref q941, .ref q942, .ref q943])), (q939, .inr (10, [.ref q944, .int 0, .int 0, .int 0, .int 0, .int 0])), (q944, .inl (e945, 800, .inl (fun _ => 0))), (q946, .inr (3, [.ref q948, .ref q949, .int 0, .int 0, .int 0, .ref q950, .ref q951])), (q948, .inr (1, [.ref q952, .int 0, .ref q953, .ref q954, .ref q955, .ref q956, .ref q957, .ref q958, .ref q959, .ref q960, .ref q961, .ref q962, .ref q963, .ref q964])), (q964, .inl (e965, 480, .inl (fun _ => 0))), (q950, .inl (e966, 6, .inl (fun _ => 0)))]) rfl (by decide) (by decide) (cells' := 68) (slots' := 17434) (by decide) (by decide) (k_runI (rest := [.ref q967, .ref h0]) C aks Wd cs_X11_42 (kcX5_init l D q967 _ ) [23] rfl (by decide) [] rfl rfl rfl ⟨(Nat.le_of_ble_eq_true rfl), (Nat.le_of_ble_eq_true rfl)⟩ hl.1 rfl rfl (Nat.le_of_ble_eq_true rfl) ⟨(Nat.le_of_ble_eq_true rfl), (Nat.le_of_ble_eq_true rfl)⟩ dX11_init_89) (fun _ H locs w968 Wd => ?_)
  have Wd : wX D [(e901, .object RX8), (e906, .int), (e911, .int), (e916, .int), (e921, .int), (e926, .int), (e931, .int), (e936, .int), (e945, .int), (e965, .int), (e966, .int)] s [(h0, .inr (11, [.ref q900, .int 0, .ref q933, .ref q937, .ref q946, .null, .null, .null])), (q900, .inl (e901, 6, .inr (.inr (.inr (.inr (va_up (va_up (va_up (va_up (va_up (va_up (fun _ => none) 0 (some q903)) 1 (some q908)) 2 (some q913)) 3 (some q918)) 4 (some q923)) 5 (some q928))))))), (q903, .inr (8, [.ref q905, .int 0])), (q905, .inl (e906, 480, .inl (fun _ => 0))), (q908, .inr (8, [.ref q910, .int 0])), (q910, .inl (e911, 480, .inl (fun _ => 0))), (q913, .inr (8, [.ref q915, .int 0])), (q915, .inl (e916, 480, .inl (fun _ => 0))), (q918, .inr (8, [.ref q920, .int 0])), (q920, .inl (e921, 480, .inl (fun _ => 0))), (q923, .inr (8, [.ref q925, .int 0])), (q925, .inl (e926, 480, .inl (fun _ => 0))), (q928, .inr (8, [.ref q930, .int 0])), (q930, .inl (e931, 480, .inl (fun _ => 0))), (q933, .inr (8, [.ref q935, .int 0])), (q935, .inl (e936, 1000, .inl (fun _ => 0))), (q937, .inr (6, [.ref q939, .int 0, .int (-1), .ref q940, .null, .int 0, .int 0, .int 0, .int 0, .int 0, .int 0, .int 0, .int 0, .int 0, .ref q941, .ref q942, .ref q943])), (q939, .inr (10, [.ref q944, .int 0, .int 0, .int 0, .int 0, .int 0])), (q944, .inl (e945, 800, .inl (fun _ => 0))), (q946, .inr (3, [.ref q948, .ref q949, .int 0, .int 0, .int 0, .ref q950, .ref q951])), (q948, .inr (1, [.ref q952, .int 0, .ref q953, .ref q954, .ref q955, .ref q956, .ref q957, .ref q958, .ref q959, .ref q960, .ref q961, .ref q962, .ref q963, .ref q964])), (q964, .inl (e965, 480, .inl (fun _ => 0))), (q950, .inl (e966, 6, .inl (fun _ => 0)))] _ A s.heap _ := Wd
  refine k_putF C Wd KX11 0 5 [(h0, .inr (11, [.ref q900, .int 0, .ref q933, .ref q937, .ref q946, .ref q967, .null, .null])), (q900, .inl (e901, 6, .inr (.inr (.inr (.inr (va_up (va_up (va_up (va_up (va_up (va_up (fun _ => none) 0 (some q903)) 1 (some q908)) 2 (some q913)) 3 (some q918)) 4 (some q923)) 5 (some q928))))))), (q903, .inr (8, [.ref q905, .int 0])), (q905, .inl (e906, 480, .inl (fun _ => 0))), (q908, .inr (8, [.ref q910, .int 0])), (q910, .inl (e911, 480, .inl (fun _ => 0))), (q913, .inr (8, [.ref q915, .int 0])), (q915, .inl (e916, 480, .inl (fun _ => 0))), (q918, .inr (8, [.ref q920, .int 0])), (q920, .inl (e921, 480, .inl (fun _ => 0))), (q923, .inr (8, [.ref q925, .int 0])), (q925, .inl (e926, 480, .inl (fun _ => 0))), (q928, .inr (8, [.ref q930, .int 0])), (q930, .inl (e931, 480, .inl (fun _ => 0))), (q933, .inr (8, [.ref q935, .int 0])), (q935, .inl (e936, 1000, .inl (fun _ => 0))), (q937, .inr (6, [.ref q939, .int 0, .int (-1), .ref q940, .null, .int 0, .int 0, .int 0, .int 0, .int 0, .int 0, .int 0, .int 0, .int 0, .ref q941, .ref q942, .ref q943])), (q939, .inr (10, [.ref q944, .int 0, .int 0, .int 0, .int 0, .int 0])), (q944, .inl (e945, 800, .inl (fun _ => 0))), (q946, .inr (3, [.ref q948, .ref q949, .int 0, .int 0, .int 0, .ref q950, .ref q951])), (q948, .inr (1, [.ref q952, .int 0, .ref q953, .ref q954, .ref q955, .ref q956, .ref q957, .ref q958, .ref q959, .ref q960, .ref q961, .ref q962, .ref q963, .ref q964])), (q964, .inl (e965, 480, .inl (fun _ => 0))), (q950, .inl (e966, 6, .inl (fun _ => 0)))] rfl (by decide) fl_X11_43 rfl hin rfl rfl rfl (Nat.le_of_ble_eq_true rfl) rfl dX11_init_92 (fun H locs Wd => ?_)
  refine lv_aload_n C.1 C.2.1 dX11_init_95 rfl (lv_at hl 1 rfl) ?_
  refine k_new C Wd KX4 cl_X11_47 is_X4 in_X4 [.null, .null, .null, .int 0, .int 0, .null, .null, .null, .null, .null] (by decide +kernel) (cells' := 69) (slots' := 17444) (Nat.le_of_ble_eq_true rfl) (Nat.le_of_ble_eq_true rfl) (by decide) (by decide) dX11_init_96 (fun q969 H Wd => ?_)
  have Wd : wX D [(e901, .object RX8), (e906, .int), (e911, .int), (e916, .int), (e921, .int), (e926, .int), (e931, .int), (e936, .int), (e945, .int), (e965, .int), (e966, .int)] s [(h0, .inr (11, [.ref q900, .int 0, .ref q933, .ref q937, .ref q946, .ref q967, .null, .null])), (q900, .inl (e901, 6, .inr (.inr (.inr (.inr (va_up (va_up (va_up (va_up (va_up (va_up (fun _ => none) 0 (some q903)) 1 (some q908)) 2 (some q913)) 3 (some q918)) 4 (some q923)) 5 (some q928))))))), (q903, .inr (8, [.ref q905, .int 0])), (q905, .inl (e906, 480, .inl (fun _ => 0))), (q908, .inr (8, [.ref q910, .int 0])), (q910, .inl (e911, 480, .inl (fun _ => 0))), (q913, .inr (8, [.ref q915, .int 0])), (q915, .inl (e916, 480, .inl (fun _ => 0))), (q918, .inr (8, [.ref q920, .int 0])), (q920, .inl (e921, 480, .inl (fun _ => 0))), (q923, .inr (8, [.ref q925, .int 0])), (q925, .inl (e926, 480, .inl (fun _ => 0))), (q928, .inr (8, [.ref q930, .int 0])), (q930, .inl (e931, 480, .inl (fun _ => 0))), (q933, .inr (8, [.ref q935, .int 0])), (q935, .inl (e936, 1000, .inl (fun _ => 0))), (q937, .inr (6, [.ref q939, .int 0, .int (-1), .ref q940, .null, .int 0, .int 0, .int 0, .int 0, .int 0, .int 0, .int 0, .int 0, .int 0, .ref q941, .ref q942, .ref q943])), (q939, .inr (10, [.ref q944, .int 0, .int 0, .int 0, .int 0, .int 0])), (q944, .inl (e945, 800, .inl (fun _ => 0))), (q946, .inr (3, [.ref q948, .ref q949, .int 0, .int 0, .int 0, .ref q950, .ref q951])), (q948, .inr (1, [.ref q952, .int 0, .ref q953, .ref q954, .ref q955, .ref q956, .ref q957, .ref q958, .ref q959, .ref q960, .ref q961, .ref q962, .ref q963, .ref q964])), (q964, .inl (e965, 480, .inl (fun _ => 0))), (q950, .inl (e966, 6, .inl (fun _ => 0))), (q969, .inr (4, [.null, .null, .null, .int 0, .int 0, .null, .null, .null, .null, .null]))] _ A s.heap _ := Wd
  refine lv_dup C.1 C.2.1 dX11_init_99 rfl ?_
  refine k_cv Wd [23] [0, 1, 2, 3, 4, 5, 6, 7, 8, 9, 10, 11, 12, 13, 14, 15, 16, 17, 18, 19, 20, 21, 22] rfl (wr := [(h0, .inr (11, [.ref q900, .int 0, .ref q933, .ref q937, .ref q946, .ref q967, .null, .null])), (q900, .inl (e901, 6, .inr (.inr (.inr (.inr (va_up (va_up (va_up (va_up (va_up (va_up (fun _ => none) 0 (some q903)) 1 (some q908)) 2 (some q913)) 3 (some q918)) 4 (some q923)) 5 (some q928))))))), (q903, .inr (8, [.ref q905, .int 0])), (q905, .inl (e906, 480, .inl (fun _ => 0))), (q908, .inr (8, [.ref q910, .int 0])), (q910, .inl (e911, 480, .inl (fun _ => 0))), (q913, .inr (8, [.ref q915, .int 0])), (q915, .inl (e916, 480, .inl (fun _ => 0))), (q918, .inr (8, [.ref q920, .int 0])), (q920, .inl (e921, 480, .inl (fun _ => 0))), (q923, .inr (8, [.ref q925, .int 0])), (q925, .inl (e926, 480, .inl (fun _ => 0))), (q928, .inr (8, [.ref q930, .int 0])), (q930, .inl (e931, 480, .inl (fun _ => 0))), (q933, .inr (8, [.ref q935, .int 0])), (q935, .inl (e936, 1000, .inl (fun _ => 0))), (q937, .inr (6, [.ref q939, .int 0, .int (-1), .ref q940, .null, .int 0, .int 0, .int 0, .int 0, .int 0, .int 0, .int 0, .int 0, .int 0, .ref q941, .ref q942, .ref q943])), (q939, .inr (10, [.ref q944, .int 0, .int 0, .int 0, .int 0, .int 0])), (q944, .inl (e945, 800, .inl (fun _ => 0))), (q946, .inr (3, [.ref q948, .ref q949, .int 0, .int 0, .int 0, .ref q950, .ref q951])), (q948, .inr (1, [.ref q952, .int 0, .ref q953, .ref q954, .ref q955, .ref q956, .ref q957, .ref q958, .ref q959, .ref q960, .ref q961, .ref q962, .ref q963, .ref q964])), (q964, .inl (e965, 480, .inl (fun _ => 0))), (q950, .inl (e966, 6, .inl (fun _ => 0)))]) rfl (by decide) (by decide) (cells' := 225) (slots' := 25269) (by decide) (by decide) (k_runI (rest := [.ref q969, .ref h0]) C aks Wd cs_X11_49 (kcX4_init l D q969 _ ) [23] rfl (by decide) [] rfl rfl rfl ⟨(Nat.le_of_ble_eq_true rfl), (Nat.le_of_ble_eq_true rfl)⟩ hl.1 rfl rfl (Nat.le_of_ble_eq_true rfl) ⟨(Nat.le_of_ble_eq_true rfl), (Nat.le_of_ble_eq_true rfl)⟩ dX11_init_100) (fun u H locs w970 Wd => ?_)
  obtain ⟨q971, q972, q973, q974, q975, q976, q977, q978, e979, q980, q981, q982, q983, q984, q985, q986, q987, q988, q989, q990, q991, q992, q993, q994, q995, q996, q997, e998, r999, e1000, e1001, q1002, e1003, q1004, e1005, q1006, q1007, q1008, q1009, q1010, q1011, q1012, q1013, q1014, q1015, q1016, q1017, q1018, q1019, q1020, q1021, q1022, q1023, q1024, e1025, e1026, q1027, q1028, q1029, q1030, q1031, q1032, q1033, q1034, q1035, q1036, q1037, q1038, q1039, q1040, q1041, q1042, q1043, e1044, e1045⟩ := u
  have Wd : wX D [(e901, .object RX8), (e906, .int), (e911, .int), (e916, .int), (e921, .int), (e926, .int), (e931, .int), (e936, .int), (e945, .int), (e965, .int), (e966, .int), (e979, .object RX9), (e1000, .int), (e998, .array .int), (e1001, .int), (e1003, .int), (e1005, .int), (e1025, .int), (e1026, .int), (e1044, .int), (e1045, .int)] s [(h0, .inr (11, [.ref q900, .int 0, .ref q933, .ref q937, .ref q946, .ref q967, .null, .null])), (q900, .inl (e901, 6, .inr (.inr (.inr (.inr (va_up (va_up (va_up (va_up (va_up (va_up (fun _ => none) 0 (some q903)) 1 (some q908)) 2 (some q913)) 3 (some q918)) 4 (some q923)) 5 (some q928))))))), (q903, .inr (8, [.ref q905, .int 0])), (q905, .inl (e906, 480, .inl (fun _ => 0))), (q908, .inr (8, [.ref q910, .int 0])), (q910, .inl (e911, 480, .inl (fun _ => 0))), (q913, .inr (8, [.ref q915, .int 0])), (q915, .inl (e916, 480, .inl (fun _ => 0))), (q918, .inr (8, [.ref q920, .int 0])), (q920, .inl (e921, 480, .inl (fun _ => 0))), (q923, .inr (8, [.ref q925, .int 0])), (q925, .inl (e926, 480, .inl (fun _ => 0))), (q928, .inr (8, [.ref q930, .int 0])), (q930, .inl (e931, 480, .inl (fun _ => 0))), (q933, .inr (8, [.ref q935, .int 0])), (q935, .inl (e936, 1000, .inl (fun _ => 0))), (q937, .inr (6, [.ref q939, .int 0, .int (-1), .ref q940, .null, .int 0, .int 0, .int 0, .int 0, .int 0, .int 0, .int 0, .int 0, .int 0, .ref q941, .ref q942, .ref q943])), (q939, .inr (10, [.ref q944, .int 0, .int 0, .int 0, .int 0, .int 0])), (q944, .inl (e945, 800, .inl (fun _ => 0))), (q946, .inr (3, [.ref q948, .ref q949, .int 0, .int 0, .int 0, .ref q950, .ref q951])), (q948, .inr (1, [.ref q952, .int 0, .ref q953, .ref q954, .ref q955, .ref q956, .ref q957, .ref q958, .ref q959, .ref q960, .ref q961, .ref q962, .ref q963, .ref q964])), (q964, .inl (e965, 480, .inl (fun _ => 0))), (q950, .inl (e966, 6, .inl (fun _ => 0))), (q969, .inr (4, [.ref q971, .ref q972, .ref q973, .int (-1), .int (-1), .ref q974, .ref q975, .ref q976, .ref q977, .ref q978])), (q974, .inl (e979, 12, .inr (.inr (.inr (.inr (va_up (va_up (va_up (va_up (va_up (va_up (va_up (va_up (va_up (va_up (va_up (va_up (fun _ => none) 0 (some q980)) 1 (some q981)) 2 (some q982)) 3 (some q983)) 4 (some q984)) 5 (some q985)) 6 (some q986)) 7 (some q987)) 8 (some q988)) 9 (some q989)) 10 (some q990)) 11 (some q991))))))), (q980, .inr (9, [.ref q992, .ref q993, .int 0, .ref q994, .ref q995])), (q992, .inr (8, [.ref q996, .int 0])), (q993, .inr (8, [.ref q997, .int 0])), (q975, .inl (e998, 6, .inr (.inr (.inr (.inr (fun i => if i < 6 then some (r999 i) else none)))))), ((r999 0), .inl (e1000, 8, .inl (fun _ => 0))), ((r999 1), .inl (e1000, 8, .inl (fun _ => 0))), ((r999 2), .inl (e1000, 8, .inl (fun _ => 0))), ((r999 3), .inl (e1000, 8, .inl (fun _ => 0))), ((r999 4), .inl (e1000, 8, .inl (fun _ => 0))), ((r999 5), .inl (e1000, 8, .inl (fun _ => 0))), (q976, .inl (e1001, 6, .inl (fun _ => 0))), (q972, .inr (8, [.ref q1002, .int 0])), (q1002, .inl (e1003, 1000, .inl (fun _ => 0))), (q973, .inr (8, [.ref q1004, .int 0])), (q1004, .inl (e1005, 480, .inl (fun _ => 0))), (q971, .inr (2, [.int (-1), .int (-1), .int 0, .int 0, .ref q1006, .ref q1007])), (q1006, .inr (3, [.ref q1008, .ref q1009, .int 0, .int 0, .int 0, .ref q1010, .ref q1011])), (q1008, .inr (1, [.ref q1012, .int 0, .ref q1013, .ref q1014, .ref q1015, .ref q1016, .ref q1017, .ref q1018, .ref q1019, .ref q1020, .ref q1021, .ref q1022, .ref q1023, .ref q1024])), (q1024, .inl (e1025, 480, .inl (fun _ => 0))), (q1010, .inl (e1026, 6, .inl (fun _ => 0))), (q1007, .inr (3, [.ref q1027, .ref q1028, .int 0, .int 0, .int 0, .ref q1029, .ref q1030])), (q1027, .inr (1, [.ref q1031, .int 0, .ref q1032, .ref q1033, .ref q1034, .ref q1035, .ref q1036, .ref q1037, .ref q1038, .ref q1039, .ref q1040, .ref q1041, .ref q1042, .ref q1043])), (q1043, .inl (e1044, 480, .inl (fun _ => 0))), (q1029, .inl (e1045, 6, .inl (fun _ => 0)))] _ A s.heap _ := Wd
  refine k_putF C Wd KX11 0 6 [(h0, .inr (11, [.ref q900, .int 0, .ref q933, .ref q937, .ref q946, .ref q967, .ref q969, .null])), (q900, .inl (e901, 6, .inr (.inr (.inr (.inr (va_up (va_up (va_up (va_up (va_up (va_up (fun _ => none) 0 (some q903)) 1 (some q908)) 2 (some q913)) 3 (some q918)) 4 (some q923)) 5 (some q928))))))), (q903, .inr (8, [.ref q905, .int 0])), (q905, .inl (e906, 480, .inl (fun _ => 0))), (q908, .inr (8, [.ref q910, .int 0])), (q910, .inl (e911, 480, .inl (fun _ => 0))), (q913, .inr (8, [.ref q915, .int 0])), (q915, .inl (e916, 480, .inl (fun _ => 0))), (q918, .inr (8, [.ref q920, .int 0])), (q920, .inl (e921, 480, .inl (fun _ => 0))), (q923, .inr (8, [.ref q925, .int 0])), (q925, .inl (e926, 480, .inl (fun _ => 0))), (q928, .inr (8, [.ref q930, .int 0])), (q930, .inl (e931, 480, .inl (fun _ => 0))), (q933, .inr (8, [.ref q935, .int 0])), (q935, .inl (e936, 1000, .inl (fun _ => 0))), (q937, .inr (6, [.ref q939, .int 0, .int (-1), .ref q940, .null, .int 0, .int 0, .int 0, .int 0, .int 0, .int 0, .int 0, .int 0, .int 0, .ref q941, .ref q942, .ref q943])), (q939, .inr (10, [.ref q944, .int 0, .int 0, .int 0, .int 0, .int 0])), (q944, .inl (e945, 800, .inl (fun _ => 0))), (q946, .inr (3, [.ref q948, .ref q949, .int 0, .int 0, .int 0, .ref q950, .ref q951])), (q948, .inr (1, [.ref q952, .int 0, .ref q953, .ref q954, .ref q955, .ref q956, .ref q957, .ref q958, .ref q959, .ref q960, .ref q961, .ref q962, .ref q963, .ref q964])), (q964, .inl (e965, 480, .inl (fun _ => 0))), (q950, .inl (e966, 6, .inl (fun _ => 0))), (q969, .inr (4, [.ref q971, .ref q972, .ref q973, .int (-1), .int (-1), .ref q974, .ref q975, .ref q976, .ref q977, .ref q978])), (q974, .inl (e979, 12, .inr (.inr (.inr (.inr (va_up (va_up (va_up (va_up (va_up (va_up (va_up (va_up (va_up (va_up (va_up (va_up (fun _ => none) 0 (some q980)) 1 (some q981)) 2 (some q982)) 3 (some q983)) 4 (some q984)) 5 (some q985)) 6 (some q986)) 7 (some q987)) 8 (some q988)) 9 (some q989)) 10 (some q990)) 11 (some q991))))))), (q980, .inr (9, [.ref q992, .ref q993, .int 0, .ref q994, .ref q995])), (q992, .inr (8, [.ref q996, .int 0])), (q993, .inr (8, [.ref q997, .int 0])), (q975, .inl (e998, 6, .inr (.inr (.inr (.inr (fun i => if i < 6 then some (r999 i) else none)))))), ((r999 0), .inl (e1000, 8, .inl (fun _ => 0))), ((r999 1), .inl (e1000, 8, .inl (fun _ => 0))), ((r999 2), .inl (e1000, 8, .inl (fun _ => 0))), ((r999 3), .inl (e1000, 8, .inl (fun _ => 0))), ((r999 4), .inl (e1000, 8, .inl (fun _ => 0))), ((r999 5), .inl (e1000, 8, .inl (fun _ => 0))), (q976, .inl (e1001, 6, .inl (fun _ => 0))), (q972, .inr (8, [.ref q1002, .int 0])), (q1002, .inl (e1003, 1000, .inl (fun _ => 0))), (q973, .inr (8, [.ref q1004, .int 0])), (q1004, .inl (e1005, 480, .inl (fun _ => 0))), (q971, .inr (2, [.int (-1), .int (-1), .int 0, .int 0, .ref q1006, .ref q1007])), (q1006, .inr (3, [.ref q1008, .ref q1009, .int 0, .int 0, .int 0, .ref q1010, .ref q1011])), (q1008, .inr (1, [.ref q1012, .int 0, .ref q1013, .ref q1014, .ref q1015, .ref q1016, .ref q1017, .ref q1018, .ref q1019, .ref q1020, .ref q1021, .ref q1022, .ref q1023, .ref q1024])), (q1024, .inl (e1025, 480, .inl (fun _ => 0))), (q1010, .inl (e1026, 6, .inl (fun _ => 0))), (q1007, .inr (3, [.ref q1027, .ref q1028, .int 0, .int 0, .int 0, .ref q1029, .ref q1030])), (q1027, .inr (1, [.ref q1031, .int 0, .ref q1032, .ref q1033, .ref q1034, .ref q1035, .ref q1036, .ref q1037, .ref q1038, .ref q1039, .ref q1040, .ref q1041, .ref q1042, .ref q1043])), (q1043, .inl (e1044, 480, .inl (fun _ => 0))), (q1029, .inl (e1045, 6, .inl (fun _ => 0)))] rfl (by decide) fl_X11_50 rfl hin rfl rfl rfl (Nat.le_of_ble_eq_true rfl) rfl dX11_init_103 (fun H locs Wd => ?_)
  refine lv_aload_n C.1 C.2.1 dX11_init_106 rfl (lv_at hl 1 rfl) ?_
  refine k_new C Wd KX7 cl_X11_54 is_X7 in_X7 [.null, .null, .null, .null, .int 0] (by decide +kernel) (cells' := 226) (slots' := 25274) (Nat.le_of_ble_eq_true rfl) (Nat.le_of_ble_eq_true rfl) (by decide) (by decide) dX11_init_107 (fun q1046 H Wd => ?_)
  have Wd : wX D [(e901, .object RX8), (e906, .int), (e911, .int), (e916, .int), (e921, .int), (e926, .int), (e931, .int), (e936, .int), (e945, .int), (e965, .int), (e966, .int), (e979, .object RX9), (e1000, .int), (e998, .array .int), (e1001, .int), (e1003, .int), (e1005, .int), (e1025, .int), (e1026, .int), (e1044, .int), (e1045, .int)] s [(h0, .inr (11, [.ref q900, .int 0, .ref q933, .ref q937, .ref q946, .ref q967, .ref q969, .null])), (q900, .inl (e901, 6, .inr (.inr (.inr (.inr (va_up (va_up (va_up (va_up (va_up (va_up (fun _ => none) 0 (some q903)) 1 (some q908)) 2 (some q913)) 3 (some q918)) 4 (some q923)) 5 (some q928))))))), (q903, .inr (8, [.ref q905, .int 0])), (q905, .inl (e906, 480, .inl (fun _ => 0))), (q908, .inr (8, [.ref q910, .int 0])), (q910, .inl (e911, 480, .inl (fun _ => 0))), (q913, .inr (8, [.ref q915, .int 0])), (q915, .inl (e916, 480, .inl (fun _ => 0))), (q918, .inr (8, [.ref q920, .int 0])), (q920, .inl (e921, 480, .inl (fun _ => 0))), (q923, .inr (8, [.ref q925, .int 0])), (q925, .inl (e926, 480, .inl (fun _ => 0))), (q928, .inr (8, [.ref q930, .int 0])), (q930, .inl (e931, 480, .inl (fun _ => 0))), (q933, .inr (8, [.ref q935, .int 0])), (q935, .inl (e936, 1000, .inl (fun _ => 0))), (q937, .inr (6, [.ref q939, .int 0, .int (-1), .ref q940, .null, .int 0, .int 0, .int 0, .int 0, .int 0, .int 0, .int 0, .int 0, .int 0, .ref q941, .ref q942, .ref q943])), (q939, .inr (10, [.ref q944, .int 0, .int 0, .int 0, .int 0, .int 0])), (q944, .inl (e945, 800, .inl (fun _ => 0))), (q946, .inr (3, [.ref q948, .ref q949, .int 0, .int 0, .int 0, .ref q950, .ref q951])), (q948, .inr (1, [.ref q952, .int 0, .ref q953, .ref q954, .ref q955, .ref q956, .ref q957, .ref q958, .ref q959, .ref q960, .ref q961, .ref q962, .ref q963, .ref q964])), (q964, .inl (e965, 480, .inl (fun _ => 0))), (q950, .inl (e966, 6, .inl (fun _ => 0))), (q969, .inr (4, [.ref q971, .ref q972, .ref q973, .int (-1), .int (-1), .ref q974, .ref q975, .ref q976, .ref q977, .ref q978])), (q974, .inl (e979, 12, .inr (.inr (.inr (.inr (va_up (va_up (va_up (va_up (va_up (va_up (va_up (va_up (va_up (va_up (va_up (va_up (fun _ => none) 0 (some q980)) 1 (some q981)) 2 (some q982)) 3 (some q983)) 4 (some q984)) 5 (some q985)) 6 (some q986)) 7 (some q987)) 8 (some q988)) 9 (some q989)) 10 (some q990)) 11 (some q991))))))), (q980, .inr (9, [.ref q992, .ref q993, .int 0, .ref q994, .ref q995])), (q992, .inr (8, [.ref q996, .int 0])), (q993, .inr (8, [.ref q997, .int 0])), (q975, .inl (e998, 6, .inr (.inr (.inr (.inr (fun i => if i < 6 then some (r999 i) else none)))))), ((r999 0), .inl (e1000, 8, .inl (fun _ => 0))), ((r999 1), .inl (e1000, 8, .inl (fun _ => 0))), ((r999 2), .inl (e1000, 8, .inl (fun _ => 0))), ((r999 3), .inl (e1000, 8, .inl (fun _ => 0))), ((r999 4), .inl (e1000, 8, .inl (fun _ => 0))), ((r999 5), .inl (e1000, 8, .inl (fun _ => 0))), (q976, .inl (e1001, 6, .inl (fun _ => 0))), (q972, .inr (8, [.ref q1002, .int 0])), (q1002, .inl (e1003, 1000, .inl (fun _ => 0))), (q973, .inr (8, [.ref q1004, .int 0])), (q1004, .inl (e1005, 480, .inl (fun _ => 0))), (q971, .inr (2, [.int (-1), .int (-1), .int 0, .int 0, .ref q1006, .ref q1007])), (q1006, .inr (3, [.ref q1008, .ref q1009, .int 0, .int 0, .int 0, .ref q1010, .ref q1011])), (q1008, .inr (1, [.ref q1012, .int 0, .ref q1013, .ref q1014, .ref q1015, .ref q1016, .ref q1017, .ref q1018, .ref q1019, .ref q1020, .ref q1021, .ref q1022, .ref q1023, .ref q1024])), (q1024, .inl (e1025, 480, .inl (fun _ => 0))), (q1010, .inl (e1026, 6, .inl (fun _ => 0))), (q1007, .inr (3, [.ref q1027, .ref q1028, .int 0, .int 0, .int 0, .ref q1029, .ref q1030])), (q1027, .inr (1, [.ref q1031, .int 0, .ref q1032, .ref q1033, .ref q1034, .ref q1035, .ref q1036, .ref q1037, .ref q1038, .ref q1039, .ref q1040, .ref q1041, .ref q1042, .ref q1043])), (q1043, .inl (e1044, 480, .inl (fun _ => 0))), (q1029, .inl (e1045, 6, .inl (fun _ => 0))), (q1046, .inr (7, [.null, .null, .null, .null, .int 0]))] _ A s.heap _ := Wd
  refine lv_dup C.1 C.2.1 dX11_init_110 rfl ?_
  refine k_cv Wd [49] [0, 1, 2, 3, 4, 5, 6, 7, 8, 9, 10, 11, 12, 13, 14, 15, 16, 17, 18, 19, 20, 21, 22, 23, 24, 25, 26, 27, 28, 29, 30, 31, 32, 33, 34, 35, 36, 37, 38, 39, 40, 41, 42, 43, 44, 45, 46, 47, 48] rfl (wr := [(h0, .inr (11, [.ref q900, .int 0, .ref q933, .ref q937, .ref q946, .ref q967, .ref q969, .null])), (q900, .inl (e901, 6, .inr (.inr (.inr (.inr (va_up (va_up (va_up (va_up (va_up (va_up (fun _ => none) 0 (some q903)) 1 (some q908)) 2 (some q913)) 3 (some q918)) 4 (some q923)) 5 (some q928))))))), (q903, .inr (8, [.ref q905, .int 0])), (q905, .inl (e906, 480, .inl (fun _ => 0))), (q908, .inr (8, [.ref q910, .int 0])), (q910, .inl (e911, 480, .inl (fun _ => 0))), (q913, .inr (8, [.ref q915, .int 0])), (q915, .inl (e916, 480, .inl (fun _ => 0))), (q918, .inr (8, [.ref q920, .int 0])), (q920, .inl (e921, 480, .inl (fun _ => 0))), (q923, .inr (8, [.ref q925, .int 0])), (q925, .inl (e926, 480, .inl (fun _ => 0))), (q928, .inr (8, [.ref q930, .int 0])), (q930, .inl (e931, 480, .inl (fun _ => 0))), (q933, .inr (8, [.ref q935, .int 0])), (q935, .inl (e936, 1000, .inl (fun _ => 0))), (q937, .inr (6, [.ref q939, .int 0, .int (-1), .ref q940, .null, .int 0, .int 0, .int 0, .int 0, .int 0, .int 0, .int 0, .int 0, .int 0, .ref q941, .ref q942, .ref q943])), (q939, .inr (10, [.ref q944, .int 0, .int 0, .int 0, .int 0, .int 0])), (q944, .inl (e945, 800, .inl (fun _ => 0))), (q946, .inr (3, [.ref q948, .ref q949, .int 0, .int 0, .int 0, .ref q950, .ref q951])), (q948, .inr (1, [.ref q952, .int 0, .ref q953, .ref q954, .ref q955, .ref q956, .ref q957, .ref q958, .ref q959, .ref q960, .ref q961, .ref q962, .ref q963, .ref q964])), (q964, .inl (e965, 480, .inl (fun _ => 0))), (q950, .inl (e966, 6, .inl (fun _ => 0))), (q969, .inr (4, [.ref q971, .ref q972, .ref q973, .int (-1), .int (-1), .ref q974, .ref q975, .ref q976, .ref q977, .ref q978])), (q974, .inl (e979, 12, .inr (.inr (.inr (.inr (va_up (va_up (va_up (va_up (va_up (va_up (va_up (va_up (va_up (va_up (va_up (va_up (fun _ => none) 0 (some q980)) 1 (some q981)) 2 (some q982)) 3 (some q983)) 4 (some q984)) 5 (some q985)) 6 (some q986)) 7 (some q987)) 8 (some q988)) 9 (some q989)) 10 (some q990)) 11 (some q991))))))), (q980, .inr (9, [.ref q992, .ref q993, .int 0, .ref q994, .ref q995])), (q992, .inr (8, [.ref q996, .int 0])), (q993, .inr (8, [.ref q997, .int 0])), (q975, .inl (e998, 6, .inr (.inr (.inr (.inr (fun i => if i < 6 then some (r999 i) else none)))))), ((r999 0), .inl (e1000, 8, .inl (fun _ => 0))), ((r999 1), .inl (e1000, 8, .inl (fun _ => 0))), ((r999 2), .inl (e1000, 8, .inl (fun _ => 0))), ((r999 3), .inl (e1000, 8, .inl (fun _ => 0))), ((r999 4), .inl (e1000, 8, .inl (fun _ => 0))), ((r999 5), .inl (e1000, 8, .inl (fun _ => 0))), (q976, .inl (e1001, 6, .inl (fun _ => 0))), (q972, .inr (8, [.ref q1002, .int 0])), (q1002, .inl (e1003, 1000, .inl (fun _ => 0))), (q973, .inr (8, [.ref q1004, .int 0])), (q1004, .inl (e1005, 480, .inl (fun _ => 0))), (q971, .inr (2, [.int (-1), .int (-1), .int 0, .int 0, .ref q1006, .ref q1007])), (q1006, .inr (3, [.ref q1008, .ref q1009, .int 0, .int 0, .int 0, .ref q1010, .ref q1011])), (q1008, .inr (1, [.ref q1012, .int 0, .ref q1013, .ref q1014, .ref q1015, .ref q1016, .ref q1017, .ref q1018, .ref q1019, .ref q1020, .ref q1021, .ref q1022, .ref q1023, .ref q1024])), (q1024, .inl (e1025, 480, .inl (fun _ => 0))), (q1010, .inl (e1026, 6, .inl (fun _ => 0))), (q1007, .inr (3, [.ref q1027, .ref q1028, .int 0, .int 0, .int 0, .ref q1029, .ref q1030])), (q1027, .inr (1, [.ref q1031, .int 0, .ref q1032, .ref q1033, .ref q1034, .ref q1035, .ref q1036, .ref q1037, .ref q1038, .ref q1039, .ref q1040, .ref q1041, .ref q1042, .ref q1043])), (q1043, .inl (e1044, 480, .inl (fun _ => 0))), (q1029, .inl (e1045, 6, .inl (fun _ => 0)))]) rfl (by decide) (by decide) (cells' := 244) (slots' := 26229) (by decide) (by decide) (k_runI (rest := [.ref q1046, .ref h0]) C aks Wd cs_X11_56 (kcX7_init l D q1046 _ ) [49] rfl (by decide) [] rfl rfl rfl ⟨(Nat.le_of_ble_eq_true rfl), (Nat.le_of_ble_eq_true rfl)⟩ hl.1 rfl rfl (Nat.le_of_ble_eq_true rfl) ⟨(Nat.le_of_ble_eq_true rfl), (Nat.le_of_ble_eq_true rfl)⟩ dX11_init_111) (fun u H locs w1047 Wd => ?_)
  obtain ⟨q1048, q1049, q1050, q1051, q1052, q1053, q1054, q1055, q1056, q1057, q1058, q1059, q1060, q1061, q1062, q1063, q1064, e1065, e1066, e1067, e1068⟩ := u
  have Wd : wX D [(e901, .object RX8), (e906, .int), (e911, .int), (e916, .int), (e921, .int), (e926, .int), (e931, .int), (e936, .int), (e945, .int), (e965, .int), (e966, .int), (e979, .object RX9), (e1000, .int), (e998, .array .int), (e1001, .int), (e1003, .int), (e1005, .int), (e1025, .int), (e1026, .int), (e1044, .int), (e1045, .int), (e1065, .int), (e1066, .int), (e1067, .int), (e1068, .int)] s [(h0, .inr (11, [.ref q900, .int 0, .ref q933, .ref q937, .ref q946, .ref q967, .ref q969, .null])), (q900, .inl (e901, 6, .inr (.inr (.inr (.inr (va_up (va_up (va_up (va_up (va_up (va_up (fun _ => none) 0 (some q903)) 1 (some q908)) 2 (some q913)) 3 (some q918)) 4 (some q923)) 5 (some q928))))))), (q903, .inr (8, [.ref q905, .int 0])), (q905, .inl (e906, 480, .inl (fun _ => 0))), (q908, .inr (8, [.ref q910, .int 0])), (q910, .inl (e911, 480, .inl (fun _ => 0))), (q913, .inr (8, [.ref q915, .int 0])), (q915, .inl (e916, 480, .inl (fun _ => 0))), (q918, .inr (8, [.ref q920, .int 0])), (q920, .inl (e921, 480, .inl (fun _ => 0))), (q923, .inr (8, [.ref q925, .int 0])), (q925, .inl (e926, 480, .inl (fun _ => 0))), (q928, .inr (8, [.ref q930, .int 0])), (q930, .inl (e931, 480, .inl (fun _ => 0))), (q933, .inr (8, [.ref q935, .int 0])), (q935, .inl (e936, 1000, .inl (fun _ => 0))), (q937, .inr (6, [.ref q939, .int 0, .int (-1), .ref q940, .null, .int 0, .int 0, .int 0, .int 0, .int 0, .int 0, .int 0, .int 0, .int 0, .ref q941, .ref q942, .ref q943])), (q939, .inr (10, [.ref q944, .int 0, .int 0, .int 0, .int 0, .int 0])), (q944, .inl (e945, 800, .inl (fun _ => 0))), (q946, .inr (3, [.ref q948, .ref q949, .int 0, .int 0, .int 0, .ref q950, .ref q951])), (q948, .inr (1, [.ref q952, .int 0, .ref q953, .ref q954, .ref q955, .ref q956, .ref q957, .ref q958, .ref q959, .ref q960, .ref q961, .ref q962, .ref q963, .ref q964])), (q964, .inl (e965, 480, .inl (fun _ => 0))), (q950, .inl (e966, 6, .inl (fun _ => 0))), (q969, .inr (4, [.ref q971, .ref q972, .ref q973, .int (-1), .int (-1), .ref q974, .ref q975, .ref q976, .ref q977, .ref q978])), (q974, .inl (e979, 12, .inr (.inr (.inr (.inr (va_up (va_up (va_up (va_up (va_up (va_up (va_up (va_up (va_up (va_up (va_up (va_up (fun _ => none) 0 (some q980)) 1 (some q981)) 2 (some q982)) 3 (some q983)) 4 (some q984)) 5 (some q985)) 6 (some q986)) 7 (some q987)) 8 (some q988)) 9 (some q989)) 10 (some q990)) 11 (some q991))))))), (q980, .inr (9, [.ref q992, .ref q993, .int 0, .ref q994, .ref q995])), (q992, .inr (8, [.ref q996, .int 0])), (q993, .inr (8, [.ref q997, .int 0])), (q975, .inl (e998, 6, .inr (.inr (.inr (.inr (fun i => if i < 6 then some (r999 i) else none)))))), ((r999 0), .inl (e1000, 8, .inl (fun _ => 0))), ((r999 1), .inl (e1000, 8, .inl (fun _ => 0))), ((r999 2), .inl (e1000, 8, .inl (fun _ => 0))), ((r999 3), .inl (e1000, 8, .inl (fun _ => 0))), ((r999 4), .inl (e1000, 8, .inl (fun _ => 0))), ((r999 5), .inl (e1000, 8, .inl (fun _ => 0))), (q976, .inl (e1001, 6, .inl (fun _ => 0))), (q972, .inr (8, [.ref q1002, .int 0])), (q1002, .inl (e1003, 1000, .inl (fun _ => 0))), (q973, .inr (8, [.ref q1004, .int 0])), (q1004, .inl (e1005, 480, .inl (fun _ => 0))), (q971, .inr (2, [.int (-1), .int (-1), .int 0, .int 0, .ref q1006, .ref q1007])), (q1006, .inr (3, [.ref q1008, .ref q1009, .int 0, .int 0, .int 0, .ref q1010, .ref q1011])), (q1008, .inr (1, [.ref q1012, .int 0, .ref q1013, .ref q1014, .ref q1015, .ref q1016, .ref q1017, .ref q1018, .ref q1019, .ref q1020, .ref q1021, .ref q1022, .ref q1023, .ref q1024])), (q1024, .inl (e1025, 480, .inl (fun _ => 0))), (q1010, .inl (e1026, 6, .inl (fun _ => 0))), (q1007, .inr (3, [.ref q1027, .ref q1028, .int 0, .int 0, .int 0, .ref q1029, .ref q1030])), (q1027, .inr (1, [.ref q1031, .int 0, .ref q1032, .ref q1033, .ref q1034, .ref q1035, .ref q1036, .ref q1037, .ref q1038, .ref q1039, .ref q1040, .ref q1041, .ref q1042, .ref q1043])), (q1043, .inl (e1044, 480, .inl (fun _ => 0))), (q1029, .inl (e1045, 6, .inl (fun _ => 0))), (q1046, .inr (7, [.ref q1048, .ref q1049, .ref q1050, .ref q1051, .int 0])), (q1048, .inr (1, [.ref q1052, .int 0, .ref q1053, .ref q1054, .ref q1055, .ref q1056, .ref q1057, .ref q1058, .ref q1059, .ref q1060, .ref q1061, .ref q1062, .ref q1063, .ref q1064])), (q1064, .inl (e1065, 480, .inl (fun _ => 0))), (q1049, .inl (e1066, 6, .inl (fun _ => 0))), (q1050, .inl (e1067, 6, .inl (fun _ => 0))), (q1051, .inl (e1068, 6, .inl (fun _ => 0)))] _ A s.heap _ := Wd
  refine k_putF C Wd KX11 0 7 [(h0, .inr (11, [.ref q900, .int 0, .ref q933, .ref q937, .ref q946, .ref q967, .ref q969, .ref q1046])), (q900, .inl (e901, 6, .inr (.inr (.inr (.inr (va_up (va_up (va_up (va_up (va_up (va_up (fun _ => none) 0 (some q903)) 1 (some q908)) 2 (some q913)) 3 (some q918)) 4 (some q923)) 5 (some q928))))))), (q903, .inr (8, [.ref q905, .int 0])), (q905, .inl (e906, 480, .inl (fun _ => 0))), (q908, .inr (8, [.ref q910, .int 0])), (q910, .inl (e911, 480, .inl (fun _ => 0))), (q913, .inr (8, [.ref q915, .int 0])), (q915, .inl (e916, 480, .inl (fun _ => 0))), (q918, .inr (8, [.ref q920, .int 0])), (q920, .inl (e921, 480, .inl (fun _ => 0))), (q923, .inr (8, [.ref q925, .int 0])), (q925, .inl (e926, 480, .inl (fun _ => 0))), (q928, .inr (8, [.ref q930, .int 0])), (q930, .inl (e931, 480, .inl (fun _ => 0))), (q933, .inr (8, [.ref q935, .int 0])), (q935, .inl (e936, 1000, .inl (fun _ => 0))), (q937, .inr (6, [.ref q939, .int 0, .int (-1), .ref q940, .null, .int 0, .int 0, .int 0, .int 0, .int 0, .int 0, .int 0, .int 0, .int 0, .ref q941, .ref q942, .ref q943])), (q939, .inr (10, [.ref q944, .int 0, .int 0, .int 0, .int 0, .int 0])), (q944, .inl (e945, 800, .inl (fun _ => 0))), (q946, .inr (3, [.ref q948, .ref q949, .int 0, .int 0, .int 0, .ref q950, .ref q951])), (q948, .inr (1, [.ref q952, .int 0, .ref q953, .ref q954, .ref q955, .ref q956, .ref q957, .ref q958, .ref q959, .ref q960, .ref q961, .ref q962, .ref q963, .ref q964])), (q964, .inl (e965, 480, .inl (fun _ => 0))), (q950, .inl (e966, 6, .inl (fun _ => 0))), (q969, .inr (4, [.ref q971, .ref q972, .ref q973, .int (-1), .int (-1), .ref q974, .ref q975, .ref q976, .ref q977, .ref q978])), (q974, .inl (e979, 12, .inr (.inr (.inr (.inr (va_up (va_up (va_up (va_up (va_up (va_up (va_up (va_up (va_up (va_up (va_up (va_up (fun _ => none) 0 (some q980)) 1 (some q981)) 2 (some q982)) 3 (some q983)) 4 (some q984)) 5 (some q985)) 6 (some q986)) 7 (some q987)) 8 (some q988)) 9 (some q989)) 10 (some q990)) 11 (some q991))))))), (q980, .inr (9, [.ref q992, .ref q993, .int 0, .ref q994, .ref q995])), (q992, .inr (8, [.ref q996, .int 0])), (q993, .inr (8, [.ref q997, .int 0])), (q975, .inl (e998, 6, .inr (.inr (.inr (.inr (fun i => if i < 6 then some (r999 i) else none)))))), ((r999 0), .inl (e1000, 8, .inl (fun _ => 0))), ((r999 1), .inl (e1000, 8, .inl (fun _ => 0))), ((r999 2), .inl (e1000, 8, .inl (fun _ => 0))), ((r999 3), .inl (e1000, 8, .inl (fun _ => 0))), ((r999 4), .inl (e1000, 8, .inl (fun _ => 0))), ((r999 5), .inl (e1000, 8, .inl (fun _ => 0))), (q976, .inl (e1001, 6, .inl (fun _ => 0))), (q972, .inr (8, [.ref q1002, .int 0])), (q1002, .inl (e1003, 1000, .inl (fun _ => 0))), (q973, .inr (8, [.ref q1004, .int 0])), (q1004, .inl (e1005, 480, .inl (fun _ => 0))), (q971, .inr (2, [.int (-1), .int (-1), .int 0, .int 0, .ref q1006, .ref q1007])), (q1006, .inr (3, [.ref q1008, .ref q1009, .int 0, .int 0, .int 0, .ref q1010, .ref q1011])), (q1008, .inr (1, [.ref q1012, .int 0, .ref q1013, .ref q1014, .ref q1015, .ref q1016, .ref q1017, .ref q1018, .ref q1019, .ref q1020, .ref q1021, .ref q1022, .ref q1023, .ref q1024])), (q1024, .inl (e1025, 480, .inl (fun _ => 0))), (q1010, .inl (e1026, 6, .inl (fun _ => 0))), (q1007, .inr (3, [.ref q1027, .ref q1028, .int 0, .int 0, .int 0, .ref q1029, .ref q1030])), (q1027, .inr (1, [.ref q1031, .int 0, .ref q1032, .ref q1033, .ref q1034, .ref q1035, .ref q1036, .ref q1037, .ref q1038, .ref q1039, .ref q1040, .ref q1041, .ref q1042, .ref q1043])), (q1043, .inl (e1044, 480, .inl (fun _ => 0))), (q1029, .inl (e1045, 6, .inl (fun _ => 0))), (q1046, .inr (7, [.ref q1048, .ref q1049, .ref q1050, .ref q1051, .int 0])), (q1048, .inr (1, [.ref q1052, .int 0, .ref q1053, .ref q1054, .ref q1055, .ref q1056, .ref q1057, .ref q1058, .ref q1059, .ref q1060, .ref q1061, .ref q1062, .ref q1063, .ref q1064])), (q1064, .inl (e1065, 480, .inl (fun _ => 0))), (q1049, .inl (e1066, 6, .inl (fun _ => 0))), (q1050, .inl (e1067, 6, .inl (fun _ => 0))), (q1051, .inl (e1068, 6, .inl (fun _ => 0)))] rfl (by decide) fl_X11_57 rfl hin rfl rfl rfl (Nat.le_of_ble_eq_true rfl) rfl dX11_init_114 (fun H locs Wd => ?_)
  exact k_vret C hr hlk Wd (q900, q933, q937, q946, q967, q969, q1046, e901, q903, q908, q913, q918, q923, q928, q905, e906, q910, e911, q915, e916, q920, e921, q925, e926, q930, e931, q935, e936, q939, q940, q941, q942, q943, q944, e945, q948, q949, q950, q951, q952, q953, q954, q955, q956, q957, q958, q959, q960, q961, q962, q963, q964, e965, e966, q971, q972, q973, q974, q975, q976, q977, q978, e979, q980, q981, q982, q983, q984, q985, q986, q987, q988, q989, q990, q991, q992, q993, q994, q995, q996, q997, e998, r999, e1000, e1001, q1002, e1003, q1004, e1005, q1006, q1007, q1008, q1009, q1010, q1011, q1012, q1013, q1014, q1015, q1016, q1017, q1018, q1019, q1020, q1021, q1022, q1023, q1024, e1025, e1026, q1027, q1028, q1029, q1030, q1031, q1032, q1033, q1034, q1035, q1036, q1037, q1038, q1039, q1040, q1041, q1042, q1043, e1044, e1045, q1048, q1049, q1050, q1051, q1052, q1053, q1054, q1055, q1056, q1057, q1058, q1059, q1060, q1061, q1062, q1063, q1064, e1065, e1066, e1067, e1068) trivial [0, 1, 2, 3, 4, 5, 6, 7, 8, 9, 10, 11, 12, 13, 14, 15, 16, 17, 18, 19, 20, 21, 22, 23, 24, 25, 26, 27, 28, 29, 30, 31, 32, 33, 34, 35, 36, 37, 38, 39, 40, 41, 42, 43, 44, 45, 46, 47, 48, 49, 50, 51, 52, 53, 54] rfl (by decide) [0, 1, 2, 3, 4, 5, 6, 7, 8, 9, 10, 11, 12, 13, 14, 15, 16, 17, 18, 19, 20, 21, 22, 23, 24] rfl (by decide) (by decide) dX11_init_117
end
