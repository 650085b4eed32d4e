theorem dX6_begin_11 : decode cX6_begin 11 = .ok (.aload_n 1, 1) := by decide +kernel
theorem dX6_begin_12 : decode cX6_begin 12 = .ok (.putfield 23, 3) := by decide +kernel
theorem dX6_begin_15 : decode cX6_begin 15 = .ok (.aload_n 0, 1) := by decide +kernel
theorem dX6_begin_16 : decode cX6_begin 16 = .ok (.getfield 23, 3) := by decide +kernel
theorem dX6_begin_19 : decode cX6_begin 19 = .ok (.iconst 0, 1) := by decide +kernel
theorem dX6_begin_20 : decode cX6_begin 20 = .ok (.putfield 66, 3) := by decide +kernel
theorem dX6_begin_23 : decode cX6_begin 23 = .ok (.aload_n 0, 1) := by decide +kernel
theorem dX6_begin_24 : decode cX6_begin 24 = .ok (.aload_n 2, 1) := by decide +kernel
theorem dX6_begin_25 : decode cX6_begin 25 = .ok (.putfield 69, 3) := by decide +kernel
theorem dX6_begin_28 : decode cX6_begin 28 = .ok (.aload_n 0, 1) := by decide +kernel
theorem dX6_begin_29 : decode cX6_begin 29 = .ok (.iconst 0, 1) := by decide +kernel
theorem dX6_begin_30 : decode cX6_begin 30 = .ok (.putfield 73, 3) := by decide +kernel
theorem dX6_begin_33 : decode cX6_begin 33 = .ok (.aload_n 0, 1) := by decide +kernel
theorem dX6_begin_34 : decode cX6_begin 34 = .ok (.iconst 0, 1) := by decide +kernel
theorem dX6_begin_35 : decode cX6_begin 35 = .ok (.putfield 76, 3) := by decide +kernel
theorem dX6_begin_38 : decode cX6_begin 38 = .ok (.aload_n 0, 1) := by decide +kernel
theorem dX6_begin_39 : decode cX6_begin 39 = .ok (.iload_n 3, 1) := by decide +kernel
theorem dX6_begin_40 : decode cX6_begin 40 = .ok (.putfield 79, 3) := by decide +kernel
theorem dX6_begin_43 : decode cX6_begin 43 = .ok (.aload_n 0, 1) := by decide +kernel
theorem dX6_begin_44 : decode cX6_begin 44 = .ok (.iconst 0, 1) := by decide +kernel
theorem dX6_begin_45 : decode cX6_begin 45 = .ok (.putfield 82, 3) := by decide +kernel
theorem dX6_begin_48 : decode cX6_begin 48 = .ok (.aload_n 0, 1) := by decide +kernel
theorem dX6_begin_49 : decode cX6_begin 49 = .ok (.getfield 12, 3) := by decide +kernel
theorem dX6_begin_52 : decode cX6_begin 52 = .ok (.invokevirtual 85, 3) := by decide +kernel
theorem dX6_begin_55 : decode cX6_begin 55 = .ok (.return_, 1) := by decide +kernel
theorem dX6_beginExpression_0 : decode cX6_beginExpression 0 = .ok (.aload_n 0, 1) := by decide +kernel
theorem dX6_beginExpression_1 : decode cX6_beginExpression 1 = .ok (.iload_n 1, 1) := by decide +kernel
theorem dX6_beginExpression_2 : decode cX6_beginExpression 2 = .ok (.putfield 140, 3) := by decide +kernel
theorem dX6_beginExpression_5 : decode cX6_beginExpression 5 = .ok (.aload_n 0, 1) := by decide +kernel
theorem dX6_beginExpression_6 : decode cX6_beginExpression 6 = .ok (.aload_n 0, 1) := by decide +kernel
theorem dX6_beginExpression_7 : decode cX6_beginExpression 7 = .ok (.getfield 23, 3) := by decide +kernel
theorem dX6_beginExpression_10 : decode cX6_beginExpression 10 = .ok (.getfield 66, 3) := by decide +kernel
theorem dX6_beginExpression_13 : decode cX6_beginExpression 13 = .ok (.putfield 143, 3) := by decide +kernel
theorem dX6_beginExpression_16 : decode cX6_beginExpression 16 = .ok (.aload_n 0, 1) := by decide +kernel
theorem dX6_beginExpression_17 : decode cX6_beginExpression 17 = .ok (.aload_n 0, 1) := by decide +kernel
theorem dX6_beginExpression_18 : decode cX6_beginExpression 18 = .ok (.getfield 23, 3) := by decide +kernel
theorem dX6_beginExpression_21 : decode cX6_beginExpression 21 = .ok (.getfield 66, 3) := by decide +kernel
theorem dX6_beginExpression_24 : decode cX6_beginExpression 24 = .ok (.putfield 146, 3) := by decide +kernel
theorem dX6_beginExpression_27 : decode cX6_beginExpression 27 = .ok (.aload_n 0, 1) := by decide +kernel
theorem dX6_beginExpression_28 : decode cX6_beginExpression 28 = .ok (.iconst 5, 1) := by decide +kernel
theorem dX6_beginExpression_29 : decode cX6_beginExpression 29 = .ok (.putfield 52, 3) := by decide +kernel
theorem dX6_beginExpression_32 : decode cX6_beginExpression 32 = .ok (.return_, 1) := by decide +kernel
theorem dX6_beginProgram_0 : decode cX6_beginProgram 0 = .ok (.aload_n 0, 1) := by decide +kernel
theorem dX6_beginProgram_1 : decode cX6_beginProgram 1 = .ok (.aload_n 1, 1) := by decide +kernel
theorem dX6_beginProgram_2 : decode cX6_beginProgram 2 = .ok (.aconst_null, 1) := by decide +kernel
theorem dX6_beginProgram_3 : decode cX6_beginProgram 3 = .ok (.sipush 300, 3) := by decide +kernel
theorem dX6_beginRule_0 : decode cX6_beginRule 0 = .ok (.aload_n 1, 1) := by decide +kernel
theorem dX6_beginRule_1 : decode cX6_beginRule 1 = .ok (.invokevirtual 55, 3) := by decide +kernel
theorem dX6_beginRule_4 : decode cX6_beginRule 4 = .ok (.aload_n 0, 1) := by decide +kernel
theorem dX6_beginRule_5 : decode cX6_beginRule 5 = .ok (.aload_n 1, 1) := by decide +kernel
theorem dX6_beginRule_6 : decode cX6_beginRule 6 = .ok (.getfield 60, 3) := by decide +kernel
theorem dX6_beginRule_9 : decode cX6_beginRule 9 = .ok (.aload_n 1, 1) := by decide +kernel
theorem dX6_beginRule_10 : decode cX6_beginRule 10 = .ok (.bipush 40, 2) := by decide +kernel
theorem dX6_beginRule_12 : decode cX6_beginRule 12 = .ok (.invokevirtual 48, 3) := by decide +kernel
theorem dX6_beginRule_15 : decode cX6_beginRule 15 = .ok (.aload_n 0, 1) := by decide +kernel
theorem dX6_beginRule_16 : decode cX6_beginRule 16 = .ok (.iconst 3, 1) := by decide +kernel
theorem dX6_beginRule_17 : decode cX6_beginRule 17 = .ok (.invokevirtual 63, 3) := by decide +kernel
theorem dX6_beginRule_20 : decode cX6_beginRule 20 = .ok (.return_, 1) := by decide +kernel
theorem dX6_beginStatement_0 : decode cX6_beginStatement 0 = .ok (.iload_n 1, 1) := by decide +kernel
theorem dX6_beginStatement_1 : decode cX6_beginStatement 1 = .ok (.iconst 4, 1) := by decide +kernel
theorem dX6_beginStatement_2 : decode cX6_beginStatement 2 = .ok (.if_icmp .ne 20, 3) := by decide +kernel
theorem dX6_beginStatement_5 : decode cX6_beginStatement 5 = .ok (.aload_n 0, 1) := by decide +kernel
theorem dX6_beginStatement_6 : decode cX6_beginStatement 6 = .ok (.getfield 23, 3) := by decide +kernel
theorem dX6_beginStatement_9 : decode cX6_beginStatement 9 = .ok (.bipush 110, 2) := by decide +kernel
theorem dX6_beginStatement_11 : decode cX6_beginStatement 11 = .ok (.invokevirtual 119, 3) := by decide +kernel
theorem dX6_beginStatement_14 : decode cX6_beginStatement 14 = .ok (.aload_n 0, 1) := by decide +kernel
theorem dX6_beginStatement_15 : decode cX6_beginStatement 15 = .ok (.iconst 0, 1) := by decide +kernel
theorem dX6_beginStatement_16 : decode cX6_beginStatement 16 = .ok (.invokevirtual 63, 3) := by decide +kernel
theorem dX6_beginStatement_19 : decode cX6_beginStatement 19 = .ok (.goto 101, 3) := by decide +kernel
theorem dX6_beginStatement_22 : decode cX6_beginStatement 22 = .ok (.iload_n 1, 1) := by decide +kernel
theorem dX6_beginStatement_23 : decode cX6_beginStatement 23 = .ok (.iconst 5, 1) := by decide +kernel
theorem dX6_beginStatement_24 : decode cX6_beginStatement 24 = .ok (.if_icmp .ne 20, 3) := by decide +kernel
theorem dX6_beginStatement_27 : decode cX6_beginStatement 27 = .ok (.aload_n 0, 1) := by decide +kernel
theorem dX6_beginStatement_28 : decode cX6_beginStatement 28 = .ok (.getfield 23, 3) := by decide +kernel
theorem dX6_beginStatement_31 : decode cX6_beginStatement 31 = .ok (.bipush 111, 2) := by decide +kernel
theorem dX6_beginStatement_33 : decode cX6_beginStatement 33 = .ok (.invokevirtual 119, 3) := by decide +kernel
theorem dX6_beginStatement_36 : decode cX6_beginStatement 36 = .ok (.aload_n 0, 1) := by decide +kernel
theorem dX6_beginStatement_37 : decode cX6_beginStatement 37 = .ok (.iconst 4, 1) := by decide +kernel
theorem dX6_beginStatement_38 : decode cX6_beginStatement 38 = .ok (.putfield 52, 3) := by decide +kernel
theorem dX6_beginStatement_41 : decode cX6_beginStatement 41 = .ok (.goto 79, 3) := by decide +kernel
theorem dX6_beginStatement_44 : decode cX6_beginStatement 44 = .ok (.iload_n 1, 1) := by decide +kernel
theorem dX6_beginStatement_45 : decode cX6_beginStatement 45 = .ok (.iconst 3, 1) := by decide +kernel
theorem dX6_beginStatement_46 : decode cX6_beginStatement 46 = .ok (.if_icmp .ne 28, 3) := by decide +kernel
theorem dX6_beginStatement_49 : decode cX6_beginStatement 49 = .ok (.aload_n 0, 1) := by decide +kernel
theorem dX6_beginStatement_50 : decode cX6_beginStatement 50 = .ok (.getfield 23, 3) := by decide +kernel
theorem dX6_beginStatement_53 : decode cX6_beginStatement 53 = .ok (.bipush 100, 2) := by decide +kernel
theorem dX6_beginStatement_55 : decode cX6_beginStatement 55 = .ok (.aload_n 0, 1) := by decide +kernel
theorem dX6_beginStatement_56 : decode cX6_beginStatement 56 = .ok (.getfield 12, 3) := by decide +kernel
theorem dX6_beginStatement_59 : decode cX6_beginStatement 59 = .ok (.getfield 131, 3) := by decide +kernel
theorem dX6_beginStatement_62 : decode cX6_beginStatement 62 = .ok (.iadd, 1) := by decide +kernel
theorem dX6_beginStatement_63 : decode cX6_beginStatement 63 = .ok (.invokevirtual 119, 3) := by decide +kernel
theorem dX6_beginStatement_66 : decode cX6_beginStatement 66 = .ok (.aload_n 0, 1) := by decide +kernel
theorem dX6_beginStatement_67 : decode cX6_beginStatement 67 = .ok (.iconst 3, 1) := by decide +kernel
theorem dX6_beginStatement_68 : decode cX6_beginStatement 68 = .ok (.putfield 52, 3) := by decide +kernel
theorem dX6_beginStatement_71 : decode cX6_beginStatement 71 = .ok (.goto 49, 3) := by decide +kernel
theorem dX6_beginStatement_74 : decode cX6_beginStatement 74 = .ok (.aload_n 0, 1) := by decide +kernel
theorem dX6_beginStatement_75 : decode cX6_beginStatement 75 = .ok (.getfield 23, 3) := by decide +kernel
theorem dX6_beginStatement_78 : decode cX6_beginStatement 78 = .ok (.iload_n 1, 1) := by decide +kernel
theorem dX6_beginStatement_79 : decode cX6_beginStatement 79 = .ok (.bipush 6, 2) := by decide +kernel
theorem dX6_beginStatement_81 : decode cX6_beginStatement 81 = .ok (.if_icmp .ne 8, 3) := by decide +kernel
theorem dX6_beginStatement_84 : decode cX6_beginStatement 84 = .ok (.bipush 112, 2) := by decide +kernel
theorem dX6_beginStatement_86 : decode cX6_beginStatement 86 = .ok (.goto 5, 3) := by decide +kernel
theorem dX6_beginStatement_89 : decode cX6_beginStatement 89 = .ok (.bipush 115, 2) := by decide +kernel
theorem dX6_beginStatement_91 : decode cX6_beginStatement 91 = .ok (.invokevirtual 119, 3) := by decide +kernel
theorem dX6_beginStatement_94 : decode cX6_beginStatement 94 = .ok (.aload_n 0, 1) := by decide +kernel
theorem dX6_beginStatement_95 : decode cX6_beginStatement 95 = .ok (.aload_n 0, 1) := by decide +kernel
theorem dX6_beginStatement_96 : decode cX6_beginStatement 96 = .ok (.getfield 23, 3) := by decide +kernel
theorem dX6_beginStatement_99 : decode cX6_beginStatement 99 = .ok (.getfield 66, 3) := by decide +kernel
theorem dX6_beginStatement_102 : decode cX6_beginStatement 102 = .ok (.putfield 137, 3) := by decide +kernel
theorem dX6_beginStatement_105 : decode cX6_beginStatement 105 = .ok (.aload_n 0, 1) := by decide +kernel
theorem dX6_beginStatement_106 : decode cX6_beginStatement 106 = .ok (.getfield 23, 3) := by decide +kernel
theorem dX6_beginStatement_109 : decode cX6_beginStatement 109 = .ok (.sipush 130, 3) := by decide +kernel
theorem dX6_beginStatement_112 : decode cX6_beginStatement 112 = .ok (.invokevirtual 119, 3) := by decide +kernel
theorem dX6_beginStatement_115 : decode cX6_beginStatement 115 = .ok (.aload_n 0, 1) := by decide +kernel
theorem dX6_beginStatement_116 : decode cX6_beginStatement 116 = .ok (.iconst 1, 1) := by decide +kernel
theorem dX6_beginStatement_117 : decode cX6_beginStatement 117 = .ok (.invokevirtual 63, 3) := by decide +kernel
theorem dX6_beginStatement_120 : decode cX6_beginStatement 120 = .ok (.return_, 1) := by decide +kernel
theorem dX6_closeBlock_0 : decode cX6_closeBlock 0 = .ok (.aload_n 0, 1) := by decide +kernel
theorem dX6_closeBlock_1 : decode cX6_closeBlock 1 = .ok (.getfield 82, 3) := by decide +kernel
theorem dX6_closeBlock_4 : decode cX6_closeBlock 4 = .ok (.ifCond .le 12, 3) := by decide +kernel
theorem dX6_closeBlock_7 : decode cX6_closeBlock 7 = .ok (.aload_n 0, 1) := by decide +kernel
theorem dX6_closeBlock_8 : decode cX6_closeBlock 8 = .ok (.getfield 82, 3) := by decide +kernel
theorem dX6_closeBlock_11 : decode cX6_closeBlock 11 = .ok (.bipush 8, 2) := by decide +kernel
theorem dX6_closeBlock_13 : decode cX6_closeBlock 13 = .ok (.if_icmp .le 4, 3) := by decide +kernel
theorem dX6_closeBlock_16 : decode cX6_closeBlock 16 = .ok (.return_, 1) := by decide +kernel
theorem dX6_closeBlock_17 : decode cX6_closeBlock 17 = .ok (.aload_n 0, 1) := by decide +kernel
theorem dX6_closeBlock_18 : decode cX6_closeBlock 18 = .ok (.dup, 1) := by decide +kernel
theorem dX6_closeBlock_19 : decode cX6_closeBlock 19 = .ok (.getfield 82, 3) := by decide +kernel
theorem dX6_closeBlock_22 : decode cX6_closeBlock 22 = .ok (.iconst 1, 1) := by decide +kernel
theorem dX6_closeBlock_23 : decode cX6_closeBlock 23 = .ok (.isub, 1) := by decide +kernel
theorem dX6_closeBlock_24 : decode cX6_closeBlock 24 = .ok (.putfield 82, 3) := by decide +kernel
theorem dX6_closeBlock_27 : decode cX6_closeBlock 27 = .ok (.aload_n 0, 1) := by decide +kernel
theorem dX6_closeBlock_28 : decode cX6_closeBlock 28 = .ok (.getfield 27, 3) := by decide +kernel
theorem dX6_closeBlock_31 : decode cX6_closeBlock 31 = .ok (.aload_n 0, 1) := by decide +kernel
theorem dX6_closeBlock_32 : decode cX6_closeBlock 32 = .ok (.getfield 82, 3) := by decide +kernel
theorem dX6_closeBlock_35 : decode cX6_closeBlock 35 = .ok (.iaload, 1) := by decide +kernel
theorem dX6_closeBlock_36 : decode cX6_closeBlock 36 = .ok (.bipush 112, 2) := by decide +kernel
theorem dX6_closeBlock_38 : decode cX6_closeBlock 38 = .ok (.if_icmp .ne 20, 3) := by decide +kernel
theorem dX6_closeBlock_41 : decode cX6_closeBlock 41 = .ok (.aload_n 0, 1) := by decide +kernel
theorem dX6_closeBlock_42 : decode cX6_closeBlock 42 = .ok (.getfield 23, 3) := by decide +kernel
theorem dX6_closeBlock_45 : decode cX6_closeBlock 45 = .ok (.bipush 113, 2) := by decide +kernel
theorem dX6_closeBlock_47 : decode cX6_closeBlock 47 = .ok (.invokevirtual 119, 3) := by decide +kernel
theorem dX6_closeBlock_50 : decode cX6_closeBlock 50 = .ok (.aload_n 0, 1) := by decide +kernel
theorem dX6_closeBlock_51 : decode cX6_closeBlock 51 = .ok (.iconst 1, 1) := by decide +kernel
theorem dX6_closeBlock_52 : decode cX6_closeBlock 52 = .ok (.putfield 52, 3) := by decide +kernel
theorem dX6_closeBlock_55 : decode cX6_closeBlock 55 = .ok (.goto 17, 3) := by decide +kernel
theorem dX6_closeBlock_58 : decode cX6_closeBlock 58 = .ok (.aload_n 0, 1) := by decide +kernel
theorem dX6_closeBlock_59 : decode cX6_closeBlock 59 = .ok (.getfield 23, 3) := by decide +kernel
theorem dX6_closeBlock_62 : decode cX6_closeBlock 62 = .ok (.bipush 114, 2) := by decide +kernel
theorem dX6_closeBlock_64 : decode cX6_closeBlock 64 = .ok (.invokevirtual 119, 3) := by decide +kernel
theorem dX6_closeBlock_67 : decode cX6_closeBlock 67 = .ok (.aload_n 0, 1) := by decide +kernel
theorem dX6_closeBlock_68 : decode cX6_closeBlock 68 = .ok (.iconst 0, 1) := by decide +kernel
theorem dX6_closeBlock_69 : decode cX6_closeBlock 69 = .ok (.putfield 52, 3) := by decide +kernel
theorem dX6_closeBlock_72 : decode cX6_closeBlock 72 = .ok (.return_, 1) := by decide +kernel
theorem dX6_countThing_0 : decode cX6_countThing 0 = .ok (.aload_n 0, 1) := by decide +kernel
theorem dX6_countThing_1 : decode cX6_countThing 1 = .ok (.getfield 76, 3) := by decide +kernel
theorem dX6_countThing_4 : decode cX6_countThing 4 = .ok (.aload_n 0, 1) := by decide +kernel
theorem dX6_countThing_5 : decode cX6_countThing 5 = .ok (.getfield 79, 3) := by decide +kernel
theorem dX6_countThing_8 : decode cX6_countThing 8 = .ok (.if_icmp .lt 10, 3) := by decide +kernel
theorem dX6_countThing_11 : decode cX6_countThing 11 = .ok (.aload_n 0, 1) := by decide +kernel
theorem dX6_countThing_12 : decode cX6_countThing 12 = .ok (.iconst 3, 1) := by decide +kernel
theorem dX6_countThing_13 : decode cX6_countThing 13 = .ok (.invokevirtual 125, 3) := by decide +kernel
theorem dX6_countThing_16 : decode cX6_countThing 16 = .ok (.iconst 0, 1) := by decide +kernel
theorem dX6_countThing_17 : decode cX6_countThing 17 = .ok (.ireturn, 1) := by decide +kernel
theorem dX6_countThing_18 : decode cX6_countThing 18 = .ok (.aload_n 0, 1) := by decide +kernel
theorem dX6_countThing_19 : decode cX6_countThing 19 = .ok (.dup, 1) := by decide +kernel
theorem dX6_countThing_20 : decode cX6_countThing 20 = .ok (.getfield 76, 3) := by decide +kernel
theorem dX6_countThing_23 : decode cX6_countThing 23 = .ok (.iconst 1, 1) := by decide +kernel
theorem dX6_countThing_24 : decode cX6_countThing 24 = .ok (.iadd, 1) := by decide +kernel
theorem dX6_countThing_25 : decode cX6_countThing 25 = .ok (.putfield 76, 3) := by decide +kernel
theorem dX6_countThing_28 : decode cX6_countThing 28 = .ok (.iconst 1, 1) := by decide +kernel
theorem dX6_countThing_29 : decode cX6_countThing 29 = .ok (.ireturn, 1) := by decide +kernel
theorem dX6_drop_0 : decode cX6_drop 0 = .ok (.aload_n 0, 1) := by decide +kernel
theorem dX6_drop_1 : decode cX6_drop 1 = .ok (.iconst 0, 1) := by decide +kernel
theorem dX6_drop_2 : decode cX6_drop 2 = .ok (.putfield 37, 3) := by decide +kernel
theorem dX6_drop_5 : decode cX6_drop 5 = .ok (.aload_n 0, 1) := by decide +kernel
theorem dX6_drop_6 : decode cX6_drop 6 = .ok (.iconst (-1), 1) := by decide +kernel
theorem dX6_drop_7 : decode cX6_drop 7 = .ok (.putfield 41, 3) := by decide +kernel
theorem dX6_drop_10 : decode cX6_drop 10 = .ok (.aload_n 0, 1) := by decide +kernel
theorem dX6_drop_11 : decode cX6_drop 11 = .ok (.getfield 12, 3) := by decide +kernel
theorem dX6_drop_14 : decode cX6_drop 14 = .ok (.iconst 0, 1) := by decide +kernel
theorem dX6_drop_15 : decode cX6_drop 15 = .ok (.invokevirtual 44, 3) := by decide +kernel
theorem dX6_drop_18 : decode cX6_drop 18 = .ok (.pop, 1) := by decide +kernel
theorem dX6_drop_19 : decode cX6_drop 19 = .ok (.return_, 1) := by decide +kernel
theorem dX6_endExpression_0 : decode cX6_endExpression 0 = .ok (.iload_n 1, 1) := by decide +kernel
theorem dX6_endExpression_1 : decode cX6_endExpression 1 = .ok (.bipush 60, 2) := by decide +kernel
theorem dX6_endExpression_3 : decode cX6_endExpression 3 = .ok (.if_icmp .eq 15, 3) := by decide +kernel
theorem dX6_endExpression_6 : decode cX6_endExpression 6 = .ok (.iload_n 1, 1) := by decide +kernel
theorem dX6_endExpression_7 : decode cX6_endExpression 7 = .ok (.bipush 61, 2) := by decide +kernel
theorem dX6_endExpression_9 : decode cX6_endExpression 9 = .ok (.if_icmp .eq 9, 3) := by decide +kernel
theorem dX6_endExpression_12 : decode cX6_endExpression 12 = .ok (.iload_n 1, 1) := by decide +kernel
theorem dX6_endExpression_13 : decode cX6_endExpression 13 = .ok (.bipush 62, 2) := by decide +kernel
theorem dX6_endExpression_15 : decode cX6_endExpression 15 = .ok (.if_icmp .ne 7, 3) := by decide +kernel
theorem dX6_endExpression_18 : decode cX6_endExpression 18 = .ok (.iconst 1, 1) := by decide +kernel
theorem dX6_endExpression_19 : decode cX6_endExpression 19 = .ok (.goto 4, 3) := by decide +kernel
theorem dX6_endExpression_22 : decode cX6_endExpression 22 = .ok (.iconst 0, 1) := by decide +kernel
theorem dX6_endExpression_23 : decode cX6_endExpression 23 = .ok (.istore_n 2, 1) := by decide +kernel
theorem dX6_endExpression_24 : decode cX6_endExpression 24 = .ok (.aload_n 0, 1) := by decide +kernel
theorem dX6_endExpression_25 : decode cX6_endExpression 25 = .ok (.getfield 140, 3) := by decide +kernel
theorem dX6_endExpression_28 : decode cX6_endExpression 28 = .ok (.ifCond .ne 17, 3) := by decide +kernel
theorem dX6_endExpression_31 : decode cX6_endExpression 31 = .ok (.iload_n 1, 1) := by decide +kernel
theorem dX6_endExpression_32 : decode cX6_endExpression 32 = .ok (.bipush 59, 2) := by decide +kernel
theorem dX6_endExpression_34 : decode cX6_endExpression 34 = .ok (.if_icmp .ne 11, 3) := by decide +kernel
theorem dX6_endExpression_37 : decode cX6_endExpression 37 = .ok (.aload_n 0, 1) := by decide +kernel
theorem dX6_endExpression_38 : decode cX6_endExpression 38 = .ok (.iconst 0, 1) := by decide +kernel
theorem dX6_endExpression_39 : decode cX6_endExpression 39 = .ok (.putfield 52, 3) := by decide +kernel
theorem dX6_endExpression_42 : decode cX6_endExpression 42 = .ok (.goto 160, 3) := by decide +kernel
theorem dX6_endExpression_45 : decode cX6_endExpression 45 = .ok (.aload_n 0, 1) := by decide +kernel
theorem dX6_endExpression_46 : decode cX6_endExpression 46 = .ok (.getfield 140, 3) := by decide +kernel
theorem dX6_endExpression_49 : decode cX6_endExpression 49 = .ok (.iconst 1, 1) := by decide +kernel
theorem dX6_endExpression_50 : decode cX6_endExpression 50 = .ok (.if_icmp .ne 53, 3) := by decide +kernel
theorem dX6_endExpression_53 : decode cX6_endExpression 53 = .ok (.iload_n 2, 1) := by decide +kernel
theorem dX6_endExpression_54 : decode cX6_endExpression 54 = .ok (.ifCond .eq 49, 3) := by decide +kernel
theorem dX6_endExpression_57 : decode cX6_endExpression 57 = .ok (.aload_n 0, 1) := by decide +kernel
theorem dX6_endExpression_58 : decode cX6_endExpression 58 = .ok (.getfield 23, 3) := by decide +kernel
theorem dX6_endExpression_61 : decode cX6_endExpression 61 = .ok (.aload_n 0, 1) := by decide +kernel
theorem dX6_endExpression_62 : decode cX6_endExpression 62 = .ok (.getfield 137, 3) := by decide +kernel
theorem dX6_endExpression_65 : decode cX6_endExpression 65 = .ok (.iload_n 1, 1) := by decide +kernel
theorem dX6_endExpression_66 : decode cX6_endExpression 66 = .ok (.bipush 60, 2) := by decide +kernel
theorem dX6_endExpression_68 : decode cX6_endExpression 68 = .ok (.if_icmp .ne 9, 3) := by decide +kernel
theorem dX6_endExpression_71 : decode cX6_endExpression 71 = .ok (.sipush 130, 3) := by decide +kernel
theorem dX6_endExpression_74 : decode cX6_endExpression 74 = .ok (.goto 18, 3) := by decide +kernel
theorem dX6_endExpression_77 : decode cX6_endExpression 77 = .ok (.iload_n 1, 1) := by decide +kernel
theorem dX6_endExpression_78 : decode cX6_endExpression 78 = .ok (.bipush 61, 2) := by decide +kernel
theorem dX6_endExpression_80 : decode cX6_endExpression 80 = .ok (.if_icmp .ne 9, 3) := by decide +kernel
theorem dX6_endExpression_83 : decode cX6_endExpression 83 = .ok (.sipush 131, 3) := by decide +kernel
theorem dX6_endExpression_86 : decode cX6_endExpression 86 = .ok (.goto 6, 3) := by decide +kernel
theorem dX6_endExpression_89 : decode cX6_endExpression 89 = .ok (.sipush 132, 3) := by decide +kernel
theorem dX6_endExpression_92 : decode cX6_endExpression 92 = .ok (.invokevirtual 175, 3) := by decide +kernel
theorem dX6_endExpression_95 : decode cX6_endExpression 95 = .ok (.aload_n 0, 1) := by decide +kernel
theorem dX6_endExpression_96 : decode cX6_endExpression 96 = .ok (.iconst 2, 1) := by decide +kernel
theorem dX6_endExpression_97 : decode cX6_endExpression 97 = .ok (.invokevirtual 63, 3) := by decide +kernel
theorem dX6_endExpression_100 : decode cX6_endExpression 100 = .ok (.goto 102, 3) := by decide +kernel
theorem dX6_endExpression_103 : decode cX6_endExpression 103 = .ok (.aload_n 0, 1) := by decide +kernel
theorem dX6_endExpression_104 : decode cX6_endExpression 104 = .ok (.getfield 140, 3) := by decide +kernel
theorem dX6_endExpression_107 : decode cX6_endExpression 107 = .ok (.iconst 2, 1) := by decide +kernel
theorem dX6_endExpression_108 : decode cX6_endExpression 108 = .ok (.if_icmp .ne 29, 3) := by decide +kernel
theorem dX6_endExpression_111 : decode cX6_endExpression 111 = .ok (.iload_n 1, 1) := by decide +kernel
theorem dX6_endExpression_112 : decode cX6_endExpression 112 = .ok (.bipush 123, 2) := by decide +kernel
theorem dX6_endExpression_114 : decode cX6_endExpression 114 = .ok (.if_icmp .ne 23, 3) := by decide +kernel
theorem dX6_endExpression_117 : decode cX6_endExpression 117 = .ok (.aload_n 0, 1) := by decide +kernel
theorem dX6_endExpression_118 : decode cX6_endExpression 118 = .ok (.aload_n 0, 1) := by decide +kernel
theorem dX6_endExpression_119 : decode cX6_endExpression 119 = .ok (.getfield 23, 3) := by decide +kernel
theorem dX6_endExpression_122 : decode cX6_endExpression 122 = .ok (.aload_n 0, 1) := by decide +kernel
theorem dX6_endExpression_123 : decode cX6_endExpression 123 = .ok (.getfield 137, 3) := by decide +kernel
theorem dX6_endExpression_126 : decode cX6_endExpression 126 = .ok (.iconst 1, 1) := by decide +kernel
theorem dX6_endExpression_127 : decode cX6_endExpression 127 = .ok (.isub, 1) := by decide +kernel
theorem dX6_endExpression_128 : decode cX6_endExpression 128 = .ok (.invokevirtual 178, 3) := by decide +kernel
theorem dX6_endExpression_131 : decode cX6_endExpression 131 = .ok (.invokevirtual 122, 3) := by decide +kernel
theorem dX6_endExpression_134 : decode cX6_endExpression 134 = .ok (.goto 68, 3) := by decide +kernel
theorem dX6_endExpression_137 : decode cX6_endExpression 137 = .ok (.aload_n 0, 1) := by decide +kernel
theorem dX6_endExpression_138 : decode cX6_endExpression 138 = .ok (.getfield 140, 3) := by decide +kernel
theorem dX6_endExpression_141 : decode cX6_endExpression 141 = .ok (.iconst 3, 1) := by decide +kernel
theorem dX6_endExpression_142 : decode cX6_endExpression 142 = .ok (.if_icmp .ne 42, 3) := by decide +kernel
theorem dX6_endExpression_145 : decode cX6_endExpression 145 = .ok (.iload_n 1, 1) := by decide +kernel
theorem dX6_endExpression_146 : decode cX6_endExpression 146 = .ok (.bipush 9, 2) := by decide +kernel
theorem dX6_endExpression_148 : decode cX6_endExpression 148 = .ok (.if_icmp .ne 36, 3) := by decide +kernel
theorem dX6_endExpression_151 : decode cX6_endExpression 151 = .ok (.aload_n 0, 1) := by decide +kernel
theorem dX6_endExpression_152 : decode cX6_endExpression 152 = .ok (.getfield 69, 3) := by decide +kernel
theorem dX6_endExpression_155 : decode cX6_endExpression 155 = .ok (.ifnull 29, 3) := by decide +kernel
theorem dX6_endExpression_158 : decode cX6_endExpression 158 = .ok (.aload_n 0, 1) := by decide +kernel
theorem dX6_endExpression_159 : decode cX6_endExpression 159 = .ok (.getfield 69, 3) := by decide +kernel
theorem dX6_endExpression_162 : decode cX6_endExpression 162 = .ok (.invokevirtual 182, 3) := by decide +kernel
theorem dX6_endExpression_165 : decode cX6_endExpression 165 = .ok (.aload_n 0, 1) := by decide +kernel
theorem dX6_endExpression_166 : decode cX6_endExpression 166 = .ok (.aload_n 0, 1) := by decide +kernel
theorem dX6_endExpression_167 : decode cX6_endExpression 167 = .ok (.getfield 69, 3) := by decide +kernel
theorem dX6_endExpression_170 : decode cX6_endExpression 170 = .ok (.getfield 185, 3) := by decide +kernel
theorem dX6_endExpression_173 : decode cX6_endExpression 173 = .ok (.putfield 23, 3) := by decide +kernel
theorem dX6_endExpression_176 : decode cX6_endExpression 176 = .ok (.aload_n 0, 1) := by decide +kernel
theorem dX6_endExpression_177 : decode cX6_endExpression 177 = .ok (.iconst 4, 1) := by decide +kernel
theorem dX6_endExpression_178 : decode cX6_endExpression 178 = .ok (.invokevirtual 63, 3) := by decide +kernel
theorem dX6_endExpression_181 : decode cX6_endExpression 181 = .ok (.goto 21, 3) := by decide +kernel
theorem dX6_endExpression_184 : decode cX6_endExpression 184 = .ok (.aload_n 0, 1) := by decide +kernel
theorem dX6_endExpression_185 : decode cX6_endExpression 185 = .ok (.getfield 140, 3) := by decide +kernel
theorem dX6_endExpression_188 : decode cX6_endExpression 188 = .ok (.iconst 4, 1) := by decide +kernel
theorem dX6_endExpression_189 : decode cX6_endExpression 189 = .ok (.if_icmp .ne 8, 3) := by decide +kernel
theorem dX6_endExpression_192 : decode cX6_endExpression 192 = .ok (.iload_n 1, 1) := by decide +kernel
theorem dX6_endExpression_193 : decode cX6_endExpression 193 = .ok (.iconst 1, 1) := by decide +kernel
theorem dX6_endExpression_194 : decode cX6_endExpression 194 = .ok (.if_icmp .eq 8, 3) := by decide +kernel
theorem dX6_endExpression_197 : decode cX6_endExpression 197 = .ok (.aload_n 0, 1) := by decide +kernel
theorem dX6_endExpression_198 : decode cX6_endExpression 198 = .ok (.iconst 1, 1) := by decide +kernel
theorem dX6_endExpression_199 : decode cX6_endExpression 199 = .ok (.invokevirtual 125, 3) := by decide +kernel
theorem dX6_endExpression_202 : decode cX6_endExpression 202 = .ok (.return_, 1) := by decide +kernel
theorem dX6_open_0 : decode cX6_open 0 = .ok (.aload_n 0, 1) := by decide +kernel
theorem dX6_open_1 : decode cX6_open 1 = .ok (.getfield 82, 3) := by decide +kernel
theorem dX6_open_4 : decode cX6_open 4 = .ok (.ifCond .lt 12, 3) := by decide +kernel
theorem dX6_open_7 : decode cX6_open 7 = .ok (.aload_n 0, 1) := by decide +kernel
theorem dX6_open_8 : decode cX6_open 8 = .ok (.getfield 82, 3) := by decide +kernel
theorem dX6_open_11 : decode cX6_open 11 = .ok (.bipush 8, 2) := by decide +kernel
theorem dX6_open_13 : decode cX6_open 13 = .ok (.if_icmp .lt 10, 3) := by decide +kernel
theorem dX6_open_16 : decode cX6_open 16 = .ok (.aload_n 0, 1) := by decide +kernel
theorem dX6_open_17 : decode cX6_open 17 = .ok (.iconst 3, 1) := by decide +kernel
theorem dX6_open_18 : decode cX6_open 18 = .ok (.invokevirtual 125, 3) := by decide +kernel
theorem dX6_open_21 : decode cX6_open 21 = .ok (.iconst 0, 1) := by decide +kernel
theorem dX6_open_22 : decode cX6_open 22 = .ok (.ireturn, 1) := by decide +kernel
theorem dX6_open_23 : decode cX6_open 23 = .ok (.aload_n 0, 1) := by decide +kernel
theorem dX6_open_24 : decode cX6_open 24 = .ok (.getfield 27, 3) := by decide +kernel
theorem dX6_open_27 : decode cX6_open 27 = .ok (.aload_n 0, 1) := by decide +kernel
theorem dX6_open_28 : decode cX6_open 28 = .ok (.getfield 82, 3) := by decide +kernel
theorem dX6_open_31 : decode cX6_open 31 = .ok (.iload_n 1, 1) := by decide +kernel
theorem dX6_open_32 : decode cX6_open 32 = .ok (.iastore, 1) := by decide +kernel
theorem dX6_open_33 : decode cX6_open 33 = .ok (.aload_n 0, 1) := by decide +kernel
theorem dX6_open_34 : decode cX6_open 34 = .ok (.getfield 31, 3) := by decide +kernel
theorem dX6_open_37 : decode cX6_open 37 = .ok (.aload_n 0, 1) := by decide +kernel
theorem dX6_open_38 : decode cX6_open 38 = .ok (.getfield 82, 3) := by decide +kernel
theorem dX6_open_41 : decode cX6_open 41 = .ok (.aload_n 0, 1) := by decide +kernel
theorem dX6_open_42 : decode cX6_open 42 = .ok (.getfield 143, 3) := by decide +kernel
theorem dX6_open_45 : decode cX6_open 45 = .ok (.iastore, 1) := by decide +kernel
theorem dX6_open_46 : decode cX6_open 46 = .ok (.aload_n 0, 1) := by decide +kernel
theorem dX6_open_47 : decode cX6_open 47 = .ok (.getfield 34, 3) := by decide +kernel
theorem dX6_open_50 : decode cX6_open 50 = .ok (.aload_n 0, 1) := by decide +kernel
theorem dX6_open_51 : decode cX6_open 51 = .ok (.getfield 82, 3) := by decide +kernel
theorem dX6_open_54 : decode cX6_open 54 = .ok (.aload_n 0, 1) := by decide +kernel
theorem dX6_open_55 : decode cX6_open 55 = .ok (.getfield 146, 3) := by decide +kernel
theorem dX6_open_58 : decode cX6_open 58 = .ok (.iastore, 1) := by decide +kernel
theorem dX6_open_59 : decode cX6_open 59 = .ok (.aload_n 0, 1) := by decide +kernel
theorem dX6_open_60 : decode cX6_open 60 = .ok (.dup, 1) := by decide +kernel
theorem dX6_open_61 : decode cX6_open 61 = .ok (.getfield 82, 3) := by decide +kernel
theorem dX6_open_64 : decode cX6_open 64 = .ok (.iconst 1, 1) := by decide +kernel
theorem dX6_open_65 : decode cX6_open 65 = .ok (.iadd, 1) := by decide +kernel
theorem dX6_open_66 : decode cX6_open 66 = .ok (.putfield 82, 3) := by decide +kernel
theorem dX6_open_69 : decode cX6_open 69 = .ok (.iconst 1, 1) := by decide +kernel
theorem dX6_open_70 : decode cX6_open 70 = .ok (.ireturn, 1) := by decide +kernel
theorem dX6_openBlock_0 : decode cX6_openBlock 0 = .ok (.aload_n 0, 1) := by decide +kernel
theorem dX6_openBlock_1 : decode cX6_openBlock 1 = .ok (.iload_n 1, 1) := by decide +kernel
theorem dX6_openBlock_2 : decode cX6_openBlock 2 = .ok (.invokevirtual 149, 3) := by decide +kernel
theorem dX6_openBlock_5 : decode cX6_openBlock 5 = .ok (.ifCond .eq 8, 3) := by decide +kernel
theorem dX6_openBlock_8 : decode cX6_openBlock 8 = .ok (.aload_n 0, 1) := by decide +kernel
theorem dX6_openBlock_9 : decode cX6_openBlock 9 = .ok (.iconst 0, 1) := by decide +kernel
theorem dX6_openBlock_10 : decode cX6_openBlock 10 = .ok (.putfield 52, 3) := by decide +kernel
theorem dX6_openBlock_13 : decode cX6_openBlock 13 = .ok (.return_, 1) := by decide +kernel
theorem dX6_readAll_0 : decode cX6_readAll 0 = .ok (.iconst 0, 1) := by decide +kernel
theorem dX6_readAll_1 : decode cX6_readAll 1 = .ok (.istore_n 1, 1) := by decide +kernel
theorem dX6_readAll_2 : decode cX6_readAll 2 = .ok (.iload_n 1, 1) := by decide +kernel
theorem dX6_readAll_3 : decode cX6_readAll 3 = .ok (.sipush 800, 3) := by decide +kernel
theorem dX6_readAll_6 : decode cX6_readAll 6 = .ok (.if_icmp .gt 134, 3) := by decide +kernel
theorem dX6_readAll_9 : decode cX6_readAll 9 = .ok (.aload_n 0, 1) := by decide +kernel
theorem dX6_readAll_10 : decode cX6_readAll 10 = .ok (.getfield 37, 3) := by decide +kernel
theorem dX6_readAll_13 : decode cX6_readAll 13 = .ok (.ifCond .ne 127, 3) := by decide +kernel
theorem dX6_readAll_16 : decode cX6_readAll 16 = .ok (.aload_n 0, 1) := by decide +kernel
theorem dX6_readAll_17 : decode cX6_readAll 17 = .ok (.getfield 12, 3) := by decide +kernel
theorem dX6_readAll_20 : decode cX6_readAll 20 = .ok (.getfield 88, 3) := by decide +kernel
theorem dX6_readAll_23 : decode cX6_readAll 23 = .ok (.iconst 1, 1) := by decide +kernel
theorem dX6_readAll_24 : decode cX6_readAll 24 = .ok (.if_icmp .eq 116, 3) := by decide +kernel
theorem dX6_readAll_27 : decode cX6_readAll 27 = .ok (.aload_n 0, 1) := by decide +kernel
theorem dX6_readAll_28 : decode cX6_readAll 28 = .ok (.getfield 12, 3) := by decide +kernel
theorem dX6_readAll_31 : decode cX6_readAll 31 = .ok (.aload_n 0, 1) := by decide +kernel
theorem dX6_readAll_32 : decode cX6_readAll 32 = .ok (.getfield 69, 3) := by decide +kernel
theorem dX6_readAll_35 : decode cX6_readAll 35 = .ok (.ifnull 7, 3) := by decide +kernel
theorem dX6_readAll_38 : decode cX6_readAll 38 = .ok (.iconst 1, 1) := by decide +kernel
theorem dX6_readAll_39 : decode cX6_readAll 39 = .ok (.goto 4, 3) := by decide +kernel
theorem dX6_refuse_0 : decode cX6_refuse 0 = .ok (.aload_n 0, 1) := by decide +kernel
theorem dX6_refuse_1 : decode cX6_refuse 1 = .ok (.iload_n 1, 1) := by decide +kernel
theorem dX6_refuse_2 : decode cX6_refuse 2 = .ok (.putfield 37, 3) := by decide +kernel
theorem dX6_refuse_5 : decode cX6_refuse 5 = .ok (.aload_n 0, 1) := by decide +kernel
theorem dX6_refuse_6 : decode cX6_refuse 6 = .ok (.aload_n 0, 1) := by decide +kernel
theorem dX6_refuse_7 : decode cX6_refuse 7 = .ok (.getfield 12, 3) := by decide +kernel
theorem dX6_refuse_10 : decode cX6_refuse 10 = .ok (.getfield 116, 3) := by decide +kernel
theorem dX6_refuse_13 : decode cX6_refuse 13 = .ok (.putfield 41, 3) := by decide +kernel
theorem dX6_refuse_16 : decode cX6_refuse 16 = .ok (.return_, 1) := by decide +kernel
theorem dX6_takeBehindOperand_0 : decode cX6_takeBehindOperand 0 = .ok (.aload_n 0, 1) := by decide +kernel
theorem dX6_takeBehindOperand_1 : decode cX6_takeBehindOperand 1 = .ok (.getfield 12, 3) := by decide +kernel
theorem dX6_takeBehindOperand_4 : decode cX6_takeBehindOperand 4 = .ok (.getfield 88, 3) := by decide +kernel
theorem dX6_takeBehindOperand_7 : decode cX6_takeBehindOperand 7 = .ok (.istore_n 1, 1) := by decide +kernel
theorem dX6_takeBehindOperand_8 : decode cX6_takeBehindOperand 8 = .ok (.aload_n 0, 1) := by decide +kernel
theorem dX6_takeBehindOperand_9 : decode cX6_takeBehindOperand 9 = .ok (.getfield 82, 3) := by decide +kernel
theorem dX6_takeBehindOperand_12 : decode cX6_takeBehindOperand 12 = .ok (.ifCond .le 30, 3) := by decide +kernel
theorem dX6_takeBehindOperand_15 : decode cX6_takeBehindOperand 15 = .ok (.aload_n 0, 1) := by decide +kernel
theorem dX6_takeBehindOperand_16 : decode cX6_takeBehindOperand 16 = .ok (.getfield 82, 3) := by decide +kernel
theorem dX6_takeBehindOperand_19 : decode cX6_takeBehindOperand 19 = .ok (.bipush 8, 2) := by decide +kernel
theorem dX6_takeBehindOperand_21 : decode cX6_takeBehindOperand 21 = .ok (.if_icmp .gt 21, 3) := by decide +kernel
theorem dX6_takeBehindOperand_24 : decode cX6_takeBehindOperand 24 = .ok (.aload_n 0, 1) := by decide +kernel
theorem dX6_takeBehindOperand_25 : decode cX6_takeBehindOperand 25 = .ok (.getfield 27, 3) := by decide +kernel
theorem dX6_takeBehindOperand_28 : decode cX6_takeBehindOperand 28 = .ok (.aload_n 0, 1) := by decide +kernel
theorem dX6_takeBehindOperand_29 : decode cX6_takeBehindOperand 29 = .ok (.getfield 82, 3) := by decide +kernel
theorem dX6_takeBehindOperand_32 : decode cX6_takeBehindOperand 32 = .ok (.iconst 1, 1) := by decide +kernel
theorem dX6_takeBehindOperand_33 : decode cX6_takeBehindOperand 33 = .ok (.isub, 1) := by decide +kernel
theorem dX6_takeBehindOperand_34 : decode cX6_takeBehindOperand 34 = .ok (.iaload, 1) := by decide +kernel
theorem dX6_takeBehindOperand_35 : decode cX6_takeBehindOperand 35 = .ok (.ifCond .ne 7, 3) := by decide +kernel
theorem dX6_takeBehindOperand_38 : decode cX6_takeBehindOperand 38 = .ok (.iconst 1, 1) := by decide +kernel
theorem dX6_takeBehindOperand_39 : decode cX6_takeBehindOperand 39 = .ok (.goto 4, 3) := by decide +kernel
theorem dX6_takeBehindOperand_42 : decode cX6_takeBehindOperand 42 = .ok (.iconst 0, 1) := by decide +kernel
theorem dX6_takeBehindOperand_43 : decode cX6_takeBehindOperand 43 = .ok (.istore_n 2, 1) := by decide +kernel
theorem dX6_takeBehindOperand_44 : decode cX6_takeBehindOperand 44 = .ok (.iload_n 1, 1) := by decide +kernel
theorem dX6_takeBehindOperand_45 : decode cX6_takeBehindOperand 45 = .ok (.bipush 43, 2) := by decide +kernel
theorem dX6_takeBehindOperand_47 : decode cX6_takeBehindOperand 47 = .ok (.if_icmp .eq 15, 3) := by decide +kernel
theorem dX6_takeBehindOperand_50 : decode cX6_takeBehindOperand 50 = .ok (.iload_n 1, 1) := by decide +kernel
theorem dX6_takeBehindOperand_51 : decode cX6_takeBehindOperand 51 = .ok (.bipush 45, 2) := by decide +kernel
theorem dX6_takeBehindOperand_53 : decode cX6_takeBehindOperand 53 = .ok (.if_icmp .eq 9, 3) := by decide +kernel
theorem dX6_takeBehindOperand_56 : decode cX6_takeBehindOperand 56 = .ok (.iload_n 1, 1) := by decide +kernel
theorem dX6_takeBehindOperand_57 : decode cX6_takeBehindOperand 57 = .ok (.bipush 42, 2) := by decide +kernel
theorem dX6_takeBehindOperand_59 : decode cX6_takeBehindOperand 59 = .ok (.if_icmp .ne 11, 3) := by decide +kernel
theorem dX6_takeBehindOperand_62 : decode cX6_takeBehindOperand 62 = .ok (.aload_n 0, 1) := by decide +kernel
theorem dX6_takeBehindOperand_63 : decode cX6_takeBehindOperand 63 = .ok (.iload_n 1, 1) := by decide +kernel
theorem dX6_takeBehindOperand_64 : decode cX6_takeBehindOperand 64 = .ok (.invokevirtual 165, 3) := by decide +kernel
theorem dX6_takeBehindOperand_67 : decode cX6_takeBehindOperand 67 = .ok (.goto 65, 3) := by decide +kernel
theorem dX6_takeBehindOperand_70 : decode cX6_takeBehindOperand 70 = .ok (.iload_n 2, 1) := by decide +kernel
theorem dX6_takeBehindOperand_71 : decode cX6_takeBehindOperand 71 = .ok (.ifCond .ne 11, 3) := by decide +kernel
theorem dX6_takeBehindOperand_74 : decode cX6_takeBehindOperand 74 = .ok (.aload_n 0, 1) := by decide +kernel
theorem dX6_takeBehindOperand_75 : decode cX6_takeBehindOperand 75 = .ok (.iload_n 1, 1) := by decide +kernel
theorem dX6_takeBehindOperand_76 : decode cX6_takeBehindOperand 76 = .ok (.invokevirtual 168, 3) := by decide +kernel
theorem dX6_takeBehindOperand_79 : decode cX6_takeBehindOperand 79 = .ok (.goto 53, 3) := by decide +kernel
theorem dX6_takeBehindOperand_82 : decode cX6_takeBehindOperand 82 = .ok (.iload_n 1, 1) := by decide +kernel
theorem dX6_takeBehindOperand_83 : decode cX6_takeBehindOperand 83 = .ok (.bipush 41, 2) := by decide +kernel
theorem dX6_takeBehindOperand_85 : decode cX6_takeBehindOperand 85 = .ok (.if_icmp .ne 42, 3) := by decide +kernel
theorem dX6_takeBehindOperand_88 : decode cX6_takeBehindOperand 88 = .ok (.aload_n 0, 1) := by decide +kernel
theorem dX6_takeBehindOperand_89 : decode cX6_takeBehindOperand 89 = .ok (.dup, 1) := by decide +kernel
theorem dX6_takeBehindOperand_90 : decode cX6_takeBehindOperand 90 = .ok (.getfield 82, 3) := by decide +kernel
theorem dX6_takeBehindOperand_93 : decode cX6_takeBehindOperand 93 = .ok (.iconst 1, 1) := by decide +kernel
theorem dX6_takeBehindOperand_94 : decode cX6_takeBehindOperand 94 = .ok (.isub, 1) := by decide +kernel
theorem dX6_takeBehindOperand_95 : decode cX6_takeBehindOperand 95 = .ok (.putfield 82, 3) := by decide +kernel
theorem dX6_takeBehindOperand_98 : decode cX6_takeBehindOperand 98 = .ok (.aload_n 0, 1) := by decide +kernel
theorem dX6_takeBehindOperand_99 : decode cX6_takeBehindOperand 99 = .ok (.aload_n 0, 1) := by decide +kernel
theorem dX6_takeBehindOperand_100 : decode cX6_takeBehindOperand 100 = .ok (.getfield 31, 3) := by decide +kernel
theorem dX6_takeBehindOperand_103 : decode cX6_takeBehindOperand 103 = .ok (.aload_n 0, 1) := by decide +kernel
theorem dX6_takeBehindOperand_104 : decode cX6_takeBehindOperand 104 = .ok (.getfield 82, 3) := by decide +kernel
theorem dX6_takeBehindOperand_107 : decode cX6_takeBehindOperand 107 = .ok (.iaload, 1) := by decide +kernel
theorem dX6_takeBehindOperand_108 : decode cX6_takeBehindOperand 108 = .ok (.putfield 143, 3) := by decide +kernel
theorem dX6_takeBehindOperand_111 : decode cX6_takeBehindOperand 111 = .ok (.aload_n 0, 1) := by decide +kernel
theorem dX6_takeBehindOperand_112 : decode cX6_takeBehindOperand 112 = .ok (.aload_n 0, 1) := by decide +kernel
theorem dX6_takeBehindOperand_113 : decode cX6_takeBehindOperand 113 = .ok (.getfield 34, 3) := by decide +kernel
theorem dX6_takeBehindOperand_116 : decode cX6_takeBehindOperand 116 = .ok (.aload_n 0, 1) := by decide +kernel
theorem dX6_takeBehindOperand_117 : decode cX6_takeBehindOperand 117 = .ok (.getfield 82, 3) := by decide +kernel
theorem dX6_takeBehindOperand_120 : decode cX6_takeBehindOperand 120 = .ok (.iaload, 1) := by decide +kernel
theorem dX6_takeBehindOperand_121 : decode cX6_takeBehindOperand 121 = .ok (.putfield 146, 3) := by decide +kernel
theorem dX6_takeBehindOperand_124 : decode cX6_takeBehindOperand 124 = .ok (.goto 8, 3) := by decide +kernel
theorem dX6_takeBehindOperand_127 : decode cX6_takeBehindOperand 127 = .ok (.aload_n 0, 1) := by decide +kernel
theorem dX6_takeBehindOperand_128 : decode cX6_takeBehindOperand 128 = .ok (.iconst 1, 1) := by decide +kernel
theorem dX6_takeBehindOperand_129 : decode cX6_takeBehindOperand 129 = .ok (.invokevirtual 125, 3) := by decide +kernel
theorem dX6_takeBehindOperand_132 : decode cX6_takeBehindOperand 132 = .ok (.return_, 1) := by decide +kernel
theorem dX6_takeBehindThen_0 : decode cX6_takeBehindThen 0 = .ok (.aload_n 0, 1) := by decide +kernel
theorem dX6_takeBehindThen_1 : decode cX6_takeBehindThen 1 = .ok (.getfield 12, 3) := by decide +kernel
theorem dX6_takeBehindThen_4 : decode cX6_takeBehindThen 4 = .ok (.getfield 88, 3) := by decide +kernel
theorem dX6_takeBehindThen_7 : decode cX6_takeBehindThen 7 = .ok (.bipush 7, 2) := by decide +kernel
theorem dX6_takeBehindThen_9 : decode cX6_takeBehindThen 9 = .ok (.if_icmp .ne 11, 3) := by decide +kernel
theorem dX6_takeBehindThen_12 : decode cX6_takeBehindThen 12 = .ok (.aload_n 0, 1) := by decide +kernel
theorem dX6_takeBehindThen_13 : decode cX6_takeBehindThen 13 = .ok (.iconst 2, 1) := by decide +kernel
theorem dX6_takeBehindThen_14 : decode cX6_takeBehindThen 14 = .ok (.putfield 52, 3) := by decide +kernel
theorem dX6_takeBehindThen_17 : decode cX6_takeBehindThen 17 = .ok (.goto 21, 3) := by decide +kernel
theorem dX6_takeBehindThen_20 : decode cX6_takeBehindThen 20 = .ok (.aload_n 0, 1) := by decide +kernel
theorem dX6_takeBehindThen_21 : decode cX6_takeBehindThen 21 = .ok (.getfield 23, 3) := by decide +kernel
theorem dX6_takeBehindThen_24 : decode cX6_takeBehindThen 24 = .ok (.bipush 114, 2) := by decide +kernel
theorem dX6_takeBehindThen_26 : decode cX6_takeBehindThen 26 = .ok (.invokevirtual 119, 3) := by decide +kernel
theorem dX6_takeBehindThen_29 : decode cX6_takeBehindThen 29 = .ok (.aload_n 0, 1) := by decide +kernel
theorem dX6_takeBehindThen_30 : decode cX6_takeBehindThen 30 = .ok (.iconst 0, 1) := by decide +kernel
theorem dX6_takeBehindThen_31 : decode cX6_takeBehindThen 31 = .ok (.putfield 52, 3) := by decide +kernel
theorem dX6_takeBehindThen_34 : decode cX6_takeBehindThen 34 = .ok (.aload_n 0, 1) := by decide +kernel
theorem dX6_takeBehindThen_35 : decode cX6_takeBehindThen 35 = .ok (.invokevirtual 113, 3) := by decide +kernel
theorem dX6_takeBehindThen_38 : decode cX6_takeBehindThen 38 = .ok (.return_, 1) := by decide +kernel
theorem dX6_takeElseBrace_0 : decode cX6_takeElseBrace 0 = .ok (.aload_n 0, 1) := by decide +kernel
theorem dX6_takeElseBrace_1 : decode cX6_takeElseBrace 1 = .ok (.getfield 12, 3) := by decide +kernel
theorem dX6_takeElseBrace_4 : decode cX6_takeElseBrace 4 = .ok (.getfield 88, 3) := by decide +kernel
theorem dX6_takeElseBrace_7 : decode cX6_takeElseBrace 7 = .ok (.bipush 123, 2) := by decide +kernel
theorem dX6_takeElseBrace_9 : decode cX6_takeElseBrace 9 = .ok (.if_icmp .ne 12, 3) := by decide +kernel
theorem dX6_takeElseBrace_12 : decode cX6_takeElseBrace 12 = .ok (.aload_n 0, 1) := by decide +kernel
theorem dX6_takeElseBrace_13 : decode cX6_takeElseBrace 13 = .ok (.bipush 113, 2) := by decide +kernel
theorem dX6_takeElseBrace_15 : decode cX6_takeElseBrace 15 = .ok (.invokevirtual 122, 3) := by decide +kernel
theorem dX6_takeElseBrace_18 : decode cX6_takeElseBrace 18 = .ok (.goto 8, 3) := by decide +kernel
theorem dX6_takeElseBrace_21 : decode cX6_takeElseBrace 21 = .ok (.aload_n 0, 1) := by decide +kernel
theorem dX6_takeElseBrace_22 : decode cX6_takeElseBrace 22 = .ok (.iconst 1, 1) := by decide +kernel
theorem dX6_takeElseBrace_23 : decode cX6_takeElseBrace 23 = .ok (.invokevirtual 125, 3) := by decide +kernel
theorem dX6_takeElseBrace_26 : decode cX6_takeElseBrace 26 = .ok (.return_, 1) := by decide +kernel
theorem dX6_takeLetter_0 : decode cX6_takeLetter 0 = .ok (.aload_n 0, 1) := by decide +kernel
theorem dX6_takeLetter_1 : decode cX6_takeLetter 1 = .ok (.getfield 69, 3) := by decide +kernel
theorem dX6_takeLetter_4 : decode cX6_takeLetter 4 = .ok (.ifnonnull 13, 3) := by decide +kernel
theorem dX6_takeLetter_17 : decode cX6_takeLetter 17 = .ok (.aload_n 0, 1) := by decide +kernel
theorem dX6_takeLetter_18 : decode cX6_takeLetter 18 = .ok (.getfield 12, 3) := by decide +kernel
theorem dX6_takeLetter_21 : decode cX6_takeLetter 21 = .ok (.getfield 131, 3) := by decide +kernel
theorem dX6_takeLetter_24 : decode cX6_takeLetter 24 = .ok (.bipush 23, 2) := by decide +kernel
theorem dX6_takeLetter_26 : decode cX6_takeLetter 26 = .ok (.isub, 1) := by decide +kernel
theorem dX6_takeLetter_27 : decode cX6_takeLetter 27 = .ok (.istore_n 1, 1) := by decide +kernel
theorem dX6_takeLetter_28 : decode cX6_takeLetter 28 = .ok (.iload_n 1, 1) := by decide +kernel
theorem dX6_takeLetter_29 : decode cX6_takeLetter 29 = .ok (.ifCond .lt 20, 3) := by decide +kernel
theorem dX6_takeLetter_32 : decode cX6_takeLetter 32 = .ok (.iload_n 1, 1) := by decide +kernel
theorem dX6_takeLetter_33 : decode cX6_takeLetter 33 = .ok (.aload_n 0, 1) := by decide +kernel
theorem dX6_takeLetter_34 : decode cX6_takeLetter 34 = .ok (.getfield 69, 3) := by decide +kernel
theorem dX6_takeLetter_37 : decode cX6_takeLetter 37 = .ok (.ifnonnull 8, 3) := by decide +kernel
theorem dX6_takeLetter_45 : decode cX6_takeLetter 45 = .ok (.iconst 3, 1) := by decide +kernel
theorem dX6_takeLetter_46 : decode cX6_takeLetter 46 = .ok (.if_icmp .lt 11, 3) := by decide +kernel
theorem dX6_takeLetter_49 : decode cX6_takeLetter 49 = .ok (.aload_n 0, 1) := by decide +kernel
theorem dX6_takeLetter_50 : decode cX6_takeLetter 50 = .ok (.iconst 1, 1) := by decide +kernel
theorem dX6_takeLetter_51 : decode cX6_takeLetter 51 = .ok (.invokevirtual 125, 3) := by decide +kernel
theorem dX6_takeLetter_54 : decode cX6_takeLetter 54 = .ok (.goto 61, 3) := by decide +kernel
theorem dX6_takeLetter_57 : decode cX6_takeLetter 57 = .ok (.aload_n 0, 1) := by decide +kernel
theorem dX6_takeLetter_58 : decode cX6_takeLetter 58 = .ok (.getfield 140, 3) := by decide +kernel
theorem dX6_takeLetter_61 : decode cX6_takeLetter 61 = .ok (.iconst 4, 1) := by decide +kernel
theorem dX6_takeLetter_62 : decode cX6_takeLetter 62 = .ok (.if_icmp .ne 29, 3) := by decide +kernel
theorem dX6_takeLetter_65 : decode cX6_takeLetter 65 = .ok (.aload_n 0, 1) := by decide +kernel
theorem dX6_takeLetter_66 : decode cX6_takeLetter 66 = .ok (.getfield 69, 3) := by decide +kernel
theorem dX6_takeLetter_69 : decode cX6_takeLetter 69 = .ok (.ifnull 22, 3) := by decide +kernel
theorem dX6_takeLetter_72 : decode cX6_takeLetter 72 = .ok (.aload_n 0, 1) := by decide +kernel
theorem dX6_takeLetter_73 : decode cX6_takeLetter 73 = .ok (.getfield 69, 3) := by decide +kernel
theorem dX6_takeLetter_76 : decode cX6_takeLetter 76 = .ok (.iload_n 1, 1) := by decide +kernel
theorem dX6_takeLetter_77 : decode cX6_takeLetter 77 = .ok (.invokevirtual 162, 3) := by decide +kernel
theorem dX6_takeLetter_80 : decode cX6_takeLetter 80 = .ok (.ifCond .ne 11, 3) := by decide +kernel
theorem dX6_takeLetter_83 : decode cX6_takeLetter 83 = .ok (.aload_n 0, 1) := by decide +kernel
theorem dX6_takeLetter_84 : decode cX6_takeLetter 84 = .ok (.iconst 2, 1) := by decide +kernel
theorem dX6_takeLetter_85 : decode cX6_takeLetter 85 = .ok (.invokevirtual 125, 3) := by decide +kernel
theorem dX6_takeLetter_88 : decode cX6_takeLetter 88 = .ok (.goto 27, 3) := by decide +kernel
theorem dX6_takeLetter_91 : decode cX6_takeLetter 91 = .ok (.aload_n 0, 1) := by decide +kernel
theorem dX6_takeLetter_92 : decode cX6_takeLetter 92 = .ok (.invokevirtual 158, 3) := by decide +kernel
theorem dX6_takeLetter_95 : decode cX6_takeLetter 95 = .ok (.ifCond .eq 20, 3) := by decide +kernel
theorem dX6_takeLetter_98 : decode cX6_takeLetter 98 = .ok (.aload_n 0, 1) := by decide +kernel
theorem dX6_takeLetter_99 : decode cX6_takeLetter 99 = .ok (.getfield 23, 3) := by decide +kernel
theorem dX6_takeLetter_102 : decode cX6_takeLetter 102 = .ok (.bipush 20, 2) := by decide +kernel
theorem dX6_takeLetter_104 : decode cX6_takeLetter 104 = .ok (.iload_n 1, 1) := by decide +kernel
theorem dX6_takeLetter_105 : decode cX6_takeLetter 105 = .ok (.iadd, 1) := by decide +kernel
theorem dX6_takeLetter_106 : decode cX6_takeLetter 106 = .ok (.invokevirtual 119, 3) := by decide +kernel
theorem dX6_takeLetter_109 : decode cX6_takeLetter 109 = .ok (.aload_n 0, 1) := by decide +kernel
theorem dX6_takeLetter_110 : decode cX6_takeLetter 110 = .ok (.bipush 6, 2) := by decide +kernel
theorem dX6_takeLetter_112 : decode cX6_takeLetter 112 = .ok (.putfield 52, 3) := by decide +kernel
theorem dX6_takeLetter_115 : decode cX6_takeLetter 115 = .ok (.return_, 1) := by decide +kernel
theorem dX6_takeNumber_0 : decode cX6_takeNumber 0 = .ok (.aload_n 0, 1) := by decide +kernel
theorem dX6_takeNumber_1 : decode cX6_takeNumber 1 = .ok (.getfield 12, 3) := by decide +kernel
theorem dX6_takeNumber_4 : decode cX6_takeNumber 4 = .ok (.getfield 131, 3) := by decide +kernel
theorem dX6_takeNumber_7 : decode cX6_takeNumber 7 = .ok (.bipush 16, 2) := by decide +kernel
theorem dX6_takeNumber_9 : decode cX6_takeNumber 9 = .ok (.if_icmp .lt 11, 3) := by decide +kernel
theorem dX6_takeNumber_12 : decode cX6_takeNumber 12 = .ok (.aload_n 0, 1) := by decide +kernel
theorem dX6_takeNumber_13 : decode cX6_takeNumber 13 = .ok (.iconst 2, 1) := by decide +kernel
theorem dX6_takeNumber_14 : decode cX6_takeNumber 14 = .ok (.invokevirtual 125, 3) := by decide +kernel
theorem dX6_takeNumber_17 : decode cX6_takeNumber 17 = .ok (.goto 30, 3) := by decide +kernel
theorem dX6_takeNumber_20 : decode cX6_takeNumber 20 = .ok (.aload_n 0, 1) := by decide +kernel
theorem dX6_takeNumber_21 : decode cX6_takeNumber 21 = .ok (.invokevirtual 158, 3) := by decide +kernel
theorem dX6_takeNumber_24 : decode cX6_takeNumber 24 = .ok (.ifCond .eq 23, 3) := by decide +kernel
theorem dX6_takeNumber_27 : decode cX6_takeNumber 27 = .ok (.aload_n 0, 1) := by decide +kernel
theorem dX6_takeNumber_28 : decode cX6_takeNumber 28 = .ok (.getfield 23, 3) := by decide +kernel
theorem dX6_takeNumber_31 : decode cX6_takeNumber 31 = .ok (.aload_n 0, 1) := by decide +kernel
theorem dX6_takeNumber_32 : decode cX6_takeNumber 32 = .ok (.getfield 12, 3) := by decide +kernel
theorem dX6_takeNumber_35 : decode cX6_takeNumber 35 = .ok (.getfield 131, 3) := by decide +kernel
theorem dX6_takeNumber_38 : decode cX6_takeNumber 38 = .ok (.invokevirtual 119, 3) := by decide +kernel
theorem dX6_takeNumber_41 : decode cX6_takeNumber 41 = .ok (.aload_n 0, 1) := by decide +kernel
theorem dX6_takeNumber_42 : decode cX6_takeNumber 42 = .ok (.bipush 6, 2) := by decide +kernel
theorem dX6_takeNumber_44 : decode cX6_takeNumber 44 = .ok (.putfield 52, 3) := by decide +kernel
theorem dX6_takeNumber_47 : decode cX6_takeNumber 47 = .ok (.return_, 1) := by decide +kernel
theorem dX6_takeOperand_0 : decode cX6_takeOperand 0 = .ok (.aload_n 0, 1) := by decide +kernel
theorem dX6_takeOperand_1 : decode cX6_takeOperand 1 = .ok (.getfield 12, 3) := by decide +kernel
theorem dX6_takeOperand_4 : decode cX6_takeOperand 4 = .ok (.getfield 88, 3) := by decide +kernel
theorem dX6_takeOperand_7 : decode cX6_takeOperand 7 = .ok (.bipush 40, 2) := by decide +kernel
theorem dX6_takeOperand_9 : decode cX6_takeOperand 9 = .ok (.if_icmp .ne 36, 3) := by decide +kernel
theorem dX6_takeOperand_12 : decode cX6_takeOperand 12 = .ok (.aload_n 0, 1) := by decide +kernel
theorem dX6_takeOperand_13 : decode cX6_takeOperand 13 = .ok (.iconst 0, 1) := by decide +kernel
theorem dX6_takeOperand_14 : decode cX6_takeOperand 14 = .ok (.invokevirtual 149, 3) := by decide +kernel
theorem dX6_takeOperand_17 : decode cX6_takeOperand 17 = .ok (.ifCond .eq 69, 3) := by decide +kernel
theorem dX6_takeOperand_20 : decode cX6_takeOperand 20 = .ok (.aload_n 0, 1) := by decide +kernel
theorem dX6_takeOperand_21 : decode cX6_takeOperand 21 = .ok (.aload_n 0, 1) := by decide +kernel
theorem dX6_takeOperand_22 : decode cX6_takeOperand 22 = .ok (.getfield 23, 3) := by decide +kernel
theorem dX6_takeOperand_25 : decode cX6_takeOperand 25 = .ok (.getfield 66, 3) := by decide +kernel
theorem dX6_takeOperand_28 : decode cX6_takeOperand 28 = .ok (.putfield 143, 3) := by decide +kernel
theorem dX6_takeOperand_31 : decode cX6_takeOperand 31 = .ok (.aload_n 0, 1) := by decide +kernel
theorem dX6_takeOperand_32 : decode cX6_takeOperand 32 = .ok (.aload_n 0, 1) := by decide +kernel
theorem dX6_takeOperand_33 : decode cX6_takeOperand 33 = .ok (.getfield 23, 3) := by decide +kernel
theorem dX6_takeOperand_36 : decode cX6_takeOperand 36 = .ok (.getfield 66, 3) := by decide +kernel
theorem dX6_takeOperand_39 : decode cX6_takeOperand 39 = .ok (.putfield 146, 3) := by decide +kernel
theorem dX6_takeOperand_42 : decode cX6_takeOperand 42 = .ok (.goto 44, 3) := by decide +kernel
theorem dX6_takeOperand_45 : decode cX6_takeOperand 45 = .ok (.aload_n 0, 1) := by decide +kernel
theorem dX6_takeOperand_46 : decode cX6_takeOperand 46 = .ok (.getfield 12, 3) := by decide +kernel
theorem dX6_takeOperand_49 : decode cX6_takeOperand 49 = .ok (.getfield 88, 3) := by decide +kernel
theorem dX6_takeOperand_52 : decode cX6_takeOperand 52 = .ok (.iconst 2, 1) := by decide +kernel
theorem dX6_takeOperand_53 : decode cX6_takeOperand 53 = .ok (.if_icmp .ne 10, 3) := by decide +kernel
theorem dX6_takeOperand_56 : decode cX6_takeOperand 56 = .ok (.aload_n 0, 1) := by decide +kernel
theorem dX6_takeOperand_57 : decode cX6_takeOperand 57 = .ok (.invokevirtual 152, 3) := by decide +kernel
theorem dX6_takeOperand_60 : decode cX6_takeOperand 60 = .ok (.goto 26, 3) := by decide +kernel
theorem dX6_takeOperand_63 : decode cX6_takeOperand 63 = .ok (.aload_n 0, 1) := by decide +kernel
theorem dX6_takeOperand_64 : decode cX6_takeOperand 64 = .ok (.getfield 12, 3) := by decide +kernel
theorem dX6_takeOperand_67 : decode cX6_takeOperand 67 = .ok (.getfield 88, 3) := by decide +kernel
theorem dX6_takeOperand_70 : decode cX6_takeOperand 70 = .ok (.iconst 3, 1) := by decide +kernel
theorem dX6_takeOperand_71 : decode cX6_takeOperand 71 = .ok (.if_icmp .ne 10, 3) := by decide +kernel
theorem dX6_takeOperand_74 : decode cX6_takeOperand 74 = .ok (.aload_n 0, 1) := by decide +kernel
theorem dX6_takeOperand_75 : decode cX6_takeOperand 75 = .ok (.invokevirtual 155, 3) := by decide +kernel
theorem dX6_takeOperand_78 : decode cX6_takeOperand 78 = .ok (.goto 8, 3) := by decide +kernel
theorem dX6_takeOperand_81 : decode cX6_takeOperand 81 = .ok (.aload_n 0, 1) := by decide +kernel
theorem dX6_takeOperand_82 : decode cX6_takeOperand 82 = .ok (.iconst 1, 1) := by decide +kernel
theorem dX6_takeOperand_83 : decode cX6_takeOperand 83 = .ok (.invokevirtual 125, 3) := by decide +kernel
theorem dX6_takeOperand_86 : decode cX6_takeOperand 86 = .ok (.return_, 1) := by decide +kernel
theorem dX6_takeOperation_0 : decode cX6_takeOperation 0 = .ok (.aload_n 0, 1) := by decide +kernel
theorem dX6_takeOperation_1 : decode cX6_takeOperation 1 = .ok (.invokevirtual 158, 3) := by decide +kernel
theorem dX6_takeOperation_4 : decode cX6_takeOperation 4 = .ok (.ifCond .ne 4, 3) := by decide +kernel
theorem dX6_takeOperation_7 : decode cX6_takeOperation 7 = .ok (.return_, 1) := by decide +kernel
theorem dX6_takeOperation_8 : decode cX6_takeOperation 8 = .ok (.iload_n 1, 1) := by decide +kernel
theorem dX6_takeOperation_9 : decode cX6_takeOperation 9 = .ok (.bipush 42, 2) := by decide +kernel
theorem dX6_takeOperation_11 : decode cX6_takeOperation 11 = .ok (.if_icmp .ne 19, 3) := by decide +kernel
theorem dX6_takeOperation_14 : decode cX6_takeOperation 14 = .ok (.aload_n 0, 1) := by decide +kernel
theorem dX6_takeOperation_15 : decode cX6_takeOperation 15 = .ok (.getfield 23, 3) := by decide +kernel
theorem dX6_takeOperation_18 : decode cX6_takeOperation 18 = .ok (.aload_n 0, 1) := by decide +kernel
theorem dX6_takeOperation_19 : decode cX6_takeOperation 19 = .ok (.getfield 146, 3) := by decide +kernel
theorem dX6_takeOperation_22 : decode cX6_takeOperation 22 = .ok (.bipush 122, 2) := by decide +kernel
theorem dX6_takeOperation_24 : decode cX6_takeOperation 24 = .ok (.invokevirtual 171, 3) := by decide +kernel
theorem dX6_takeOperation_27 : decode cX6_takeOperation 27 = .ok (.goto 38, 3) := by decide +kernel
theorem dX6_takeOperation_30 : decode cX6_takeOperation 30 = .ok (.aload_n 0, 1) := by decide +kernel
theorem dX6_takeOperation_31 : decode cX6_takeOperation 31 = .ok (.getfield 23, 3) := by decide +kernel
theorem dX6_takeOperation_34 : decode cX6_takeOperation 34 = .ok (.aload_n 0, 1) := by decide +kernel
theorem dX6_takeOperation_35 : decode cX6_takeOperation 35 = .ok (.getfield 143, 3) := by decide +kernel
theorem dX6_takeOperation_38 : decode cX6_takeOperation 38 = .ok (.iload_n 1, 1) := by decide +kernel
theorem dX6_takeOperation_39 : decode cX6_takeOperation 39 = .ok (.bipush 43, 2) := by decide +kernel
theorem dX6_takeOperation_41 : decode cX6_takeOperation 41 = .ok (.if_icmp .ne 8, 3) := by decide +kernel
theorem dX6_takeOperation_44 : decode cX6_takeOperation 44 = .ok (.bipush 120, 2) := by decide +kernel
theorem dX6_takeOperation_46 : decode cX6_takeOperation 46 = .ok (.goto 5, 3) := by decide +kernel
theorem dX6_takeOperation_49 : decode cX6_takeOperation 49 = .ok (.bipush 121, 2) := by decide +kernel
theorem dX6_takeOperation_51 : decode cX6_takeOperation 51 = .ok (.invokevirtual 171, 3) := by decide +kernel
theorem dX6_takeOperation_54 : decode cX6_takeOperation 54 = .ok (.aload_n 0, 1) := by decide +kernel
theorem dX6_takeOperation_55 : decode cX6_takeOperation 55 = .ok (.aload_n 0, 1) := by decide +kernel
theorem dX6_takeOperation_56 : decode cX6_takeOperation 56 = .ok (.getfield 23, 3) := by decide +kernel
theorem dX6_takeOperation_59 : decode cX6_takeOperation 59 = .ok (.getfield 66, 3) := by decide +kernel
theorem dX6_takeOperation_62 : decode cX6_takeOperation 62 = .ok (.putfield 146, 3) := by decide +kernel
theorem dX6_takeOperation_65 : decode cX6_takeOperation 65 = .ok (.aload_n 0, 1) := by decide +kernel
theorem dX6_takeOperation_66 : decode cX6_takeOperation 66 = .ok (.iconst 5, 1) := by decide +kernel
theorem dX6_takeOperation_67 : decode cX6_takeOperation 67 = .ok (.putfield 52, 3) := by decide +kernel
theorem dX6_takeOperation_70 : decode cX6_takeOperation 70 = .ok (.return_, 1) := by decide +kernel
theorem dX6_takeSemicolon_0 : decode cX6_takeSemicolon 0 = .ok (.aload_n 0, 1) := by decide +kernel
theorem dX6_takeSemicolon_1 : decode cX6_takeSemicolon 1 = .ok (.getfield 12, 3) := by decide +kernel
theorem dX6_takeSemicolon_4 : decode cX6_takeSemicolon 4 = .ok (.getfield 88, 3) := by decide +kernel
theorem dX6_takeSemicolon_7 : decode cX6_takeSemicolon 7 = .ok (.bipush 59, 2) := by decide +kernel
theorem dX6_takeSemicolon_9 : decode cX6_takeSemicolon 9 = .ok (.if_icmp .ne 11, 3) := by decide +kernel
theorem dX6_takeSemicolon_12 : decode cX6_takeSemicolon 12 = .ok (.aload_n 0, 1) := by decide +kernel
theorem dX6_takeSemicolon_13 : decode cX6_takeSemicolon 13 = .ok (.iconst 0, 1) := by decide +kernel
theorem dX6_takeSemicolon_14 : decode cX6_takeSemicolon 14 = .ok (.putfield 52, 3) := by decide +kernel
theorem dX6_takeSemicolon_17 : decode cX6_takeSemicolon 17 = .ok (.goto 8, 3) := by decide +kernel
theorem dX6_takeSemicolon_20 : decode cX6_takeSemicolon 20 = .ok (.aload_n 0, 1) := by decide +kernel
theorem dX6_takeSemicolon_21 : decode cX6_takeSemicolon 21 = .ok (.iconst 1, 1) := by decide +kernel
theorem dX6_takeSemicolon_22 : decode cX6_takeSemicolon 22 = .ok (.invokevirtual 125, 3) := by decide +kernel
theorem dX6_takeSemicolon_25 : decode cX6_takeSemicolon 25 = .ok (.return_, 1) := by decide +kernel
theorem dX6_takeSetSign_0 : decode cX6_takeSetSign 0 = .ok (.aload_n 0, 1) := by decide +kernel
theorem dX6_takeSetSign_1 : decode cX6_takeSetSign 1 = .ok (.getfield 12, 3) := by decide +kernel
theorem dX6_takeSetSign_4 : decode cX6_takeSetSign 4 = .ok (.getfield 88, 3) := by decide +kernel
theorem dX6_takeSetSign_7 : decode cX6_takeSetSign 7 = .ok (.bipush 61, 2) := by decide +kernel
theorem dX6_takeSetSign_9 : decode cX6_takeSetSign 9 = .ok (.if_icmp .ne 11, 3) := by decide +kernel
theorem dX6_takeSetSign_12 : decode cX6_takeSetSign 12 = .ok (.aload_n 0, 1) := by decide +kernel
theorem dX6_takeSetSign_13 : decode cX6_takeSetSign 13 = .ok (.iconst 0, 1) := by decide +kernel
theorem dX6_takeSetSign_14 : decode cX6_takeSetSign 14 = .ok (.invokevirtual 63, 3) := by decide +kernel
theorem dX6_takeSetSign_17 : decode cX6_takeSetSign 17 = .ok (.goto 8, 3) := by decide +kernel
theorem dX6_takeSetSign_20 : decode cX6_takeSetSign 20 = .ok (.aload_n 0, 1) := by decide +kernel
theorem dX6_takeSetSign_21 : decode cX6_takeSetSign 21 = .ok (.iconst 1, 1) := by decide +kernel
theorem dX6_takeSetSign_22 : decode cX6_takeSetSign 22 = .ok (.invokevirtual 125, 3) := by decide +kernel
theorem dX6_takeSetSign_25 : decode cX6_takeSetSign 25 = .ok (.return_, 1) := by decide +kernel
theorem dX6_takeStatement_0 : decode cX6_takeStatement 0 = .ok (.aload_n 0, 1) := by decide +kernel
theorem dX6_takeStatement_1 : decode cX6_takeStatement 1 = .ok (.getfield 12, 3) := by decide +kernel
theorem dX6_takeStatement_4 : decode cX6_takeStatement 4 = .ok (.getfield 88, 3) := by decide +kernel
theorem dX6_takeStatement_7 : decode cX6_takeStatement 7 = .ok (.istore_n 1, 1) := by decide +kernel
theorem dX6_takeStatement_8 : decode cX6_takeStatement 8 = .ok (.iload_n 1, 1) := by decide +kernel
theorem dX6_takeStatement_9 : decode cX6_takeStatement 9 = .ok (.iconst 1, 1) := by decide +kernel
theorem dX6_takeStatement_10 : decode cX6_takeStatement 10 = .ok (.if_icmp .ne 11, 3) := by decide +kernel
theorem dX6_takeStatement_13 : decode cX6_takeStatement 13 = .ok (.aload_n 0, 1) := by decide +kernel
theorem dX6_takeStatement_14 : decode cX6_takeStatement 14 = .ok (.getfield 82, 3) := by decide +kernel
theorem dX6_takeStatement_17 : decode cX6_takeStatement 17 = .ok (.ifCond .ne 4, 3) := by decide +kernel
theorem dX6_takeStatement_20 : decode cX6_takeStatement 20 = .ok (.return_, 1) := by decide +kernel
theorem dX6_takeStatement_21 : decode cX6_takeStatement 21 = .ok (.iload_n 1, 1) := by decide +kernel
theorem dX6_takeStatement_22 : decode cX6_takeStatement 22 = .ok (.bipush 125, 2) := by decide +kernel
theorem dX6_takeStatement_24 : decode cX6_takeStatement 24 = .ok (.if_icmp .ne 15, 3) := by decide +kernel
theorem dX6_takeStatement_27 : decode cX6_takeStatement 27 = .ok (.aload_n 0, 1) := by decide +kernel
theorem dX6_takeStatement_28 : decode cX6_takeStatement 28 = .ok (.getfield 82, 3) := by decide +kernel
theorem dX6_takeStatement_31 : decode cX6_takeStatement 31 = .ok (.ifCond .le 8, 3) := by decide +kernel
theorem dX6_takeStatement_34 : decode cX6_takeStatement 34 = .ok (.aload_n 0, 1) := by decide +kernel
theorem dX6_takeStatement_35 : decode cX6_takeStatement 35 = .ok (.invokevirtual 128, 3) := by decide +kernel
theorem dX6_takeStatement_38 : decode cX6_takeStatement 38 = .ok (.return_, 1) := by decide +kernel
theorem dX6_takeStatement_39 : decode cX6_takeStatement 39 = .ok (.iload_n 1, 1) := by decide +kernel
theorem dX6_takeStatement_40 : decode cX6_takeStatement 40 = .ok (.iconst 3, 1) := by decide +kernel
theorem dX6_takeStatement_41 : decode cX6_takeStatement 41 = .ok (.if_icmp .ne 19, 3) := by decide +kernel
theorem dX6_takeStatement_44 : decode cX6_takeStatement 44 = .ok (.aload_n 0, 1) := by decide +kernel
theorem dX6_takeStatement_45 : decode cX6_takeStatement 45 = .ok (.getfield 12, 3) := by decide +kernel
theorem dX6_takeStatement_48 : decode cX6_takeStatement 48 = .ok (.getfield 131, 3) := by decide +kernel
theorem dX6_takeStatement_51 : decode cX6_takeStatement 51 = .ok (.bipush 6, 2) := by decide +kernel
theorem dX6_takeStatement_53 : decode cX6_takeStatement 53 = .ok (.if_icmp .ge 7, 3) := by decide +kernel
theorem dX6_takeStatement_56 : decode cX6_takeStatement 56 = .ok (.iconst 1, 1) := by decide +kernel
theorem dX6_takeStatement_57 : decode cX6_takeStatement 57 = .ok (.goto 4, 3) := by decide +kernel
theorem dX6_takeStatement_60 : decode cX6_takeStatement 60 = .ok (.iconst 0, 1) := by decide +kernel
theorem dX6_takeStatement_61 : decode cX6_takeStatement 61 = .ok (.istore_n 2, 1) := by decide +kernel
theorem dX6_takeStatement_62 : decode cX6_takeStatement 62 = .ok (.iload_n 1, 1) := by decide +kernel
theorem dX6_takeStatement_63 : decode cX6_takeStatement 63 = .ok (.iconst 4, 1) := by decide +kernel
theorem dX6_takeStatement_64 : decode cX6_takeStatement 64 = .ok (.if_icmp .eq 8, 3) := by decide +kernel
theorem dX6_takeStatement_67 : decode cX6_takeStatement 67 = .ok (.iload_n 1, 1) := by decide +kernel
theorem dX6_takeStatement_68 : decode cX6_takeStatement 68 = .ok (.iconst 5, 1) := by decide +kernel
theorem dX6_takeStatement_69 : decode cX6_takeStatement 69 = .ok (.if_icmp .ne 7, 3) := by decide +kernel
theorem dX6_takeStatement_72 : decode cX6_takeStatement 72 = .ok (.iconst 1, 1) := by decide +kernel
theorem dX6_takeStatement_73 : decode cX6_takeStatement 73 = .ok (.goto 4, 3) := by decide +kernel
theorem dX6_takeStatement_76 : decode cX6_takeStatement 76 = .ok (.iconst 0, 1) := by decide +kernel
theorem dX6_takeStatement_77 : decode cX6_takeStatement 77 = .ok (.istore_n 3, 1) := by decide +kernel
theorem dX6_takeStatement_78 : decode cX6_takeStatement 78 = .ok (.iload_n 1, 1) := by decide +kernel
theorem dX6_takeStatement_79 : decode cX6_takeStatement 79 = .ok (.bipush 6, 2) := by decide +kernel
theorem dX6_takeStatement_81 : decode cX6_takeStatement 81 = .ok (.if_icmp .eq 9, 3) := by decide +kernel
theorem dX6_takeStatement_84 : decode cX6_takeStatement 84 = .ok (.iload_n 1, 1) := by decide +kernel
theorem dX6_takeStatement_85 : decode cX6_takeStatement 85 = .ok (.bipush 8, 2) := by decide +kernel
theorem dX6_takeStatement_87 : decode cX6_takeStatement 87 = .ok (.if_icmp .ne 7, 3) := by decide +kernel
theorem dX6_takeStatement_90 : decode cX6_takeStatement 90 = .ok (.iconst 1, 1) := by decide +kernel
theorem dX6_takeStatement_91 : decode cX6_takeStatement 91 = .ok (.goto 4, 3) := by decide +kernel
theorem dX6_takeStatement_94 : decode cX6_takeStatement 94 = .ok (.iconst 0, 1) := by decide +kernel
theorem dX6_takeStatement_95 : decode cX6_takeStatement 95 = .ok (.istore 4, 2) := by decide +kernel
theorem dX6_takeStatement_97 : decode cX6_takeStatement 97 = .ok (.iload_n 2, 1) := by decide +kernel
theorem dX6_takeStatement_98 : decode cX6_takeStatement 98 = .ok (.ifCond .ne 20, 3) := by decide +kernel
theorem dX6_takeStatement_101 : decode cX6_takeStatement 101 = .ok (.iload_n 3, 1) := by decide +kernel
theorem dX6_takeStatement_102 : decode cX6_takeStatement 102 = .ok (.ifCond .ne 16, 3) := by decide +kernel
theorem dX6_takeStatement_105 : decode cX6_takeStatement 105 = .ok (.iload 4, 2) := by decide +kernel
theorem dX6_takeStatement_107 : decode cX6_takeStatement 107 = .ok (.ifCond .ne 11, 3) := by decide +kernel
theorem dX6_takeStatement_110 : decode cX6_takeStatement 110 = .ok (.aload_n 0, 1) := by decide +kernel
theorem dX6_takeStatement_111 : decode cX6_takeStatement 111 = .ok (.iconst 1, 1) := by decide +kernel
theorem dX6_takeStatement_112 : decode cX6_takeStatement 112 = .ok (.invokevirtual 125, 3) := by decide +kernel
theorem dX6_takeStatement_115 : decode cX6_takeStatement 115 = .ok (.goto 35, 3) := by decide +kernel
theorem dX6_takeStatement_118 : decode cX6_takeStatement 118 = .ok (.aload_n 0, 1) := by decide +kernel
theorem dX6_takeStatement_119 : decode cX6_takeStatement 119 = .ok (.getfield 73, 3) := by decide +kernel
theorem dX6_takeStatement_122 : decode cX6_takeStatement 122 = .ok (.bipush 40, 2) := by decide +kernel
theorem dX6_takeStatement_124 : decode cX6_takeStatement 124 = .ok (.if_icmp .lt 11, 3) := by decide +kernel
theorem dX6_takeStatement_127 : decode cX6_takeStatement 127 = .ok (.aload_n 0, 1) := by decide +kernel
theorem dX6_takeStatement_128 : decode cX6_takeStatement 128 = .ok (.iconst 3, 1) := by decide +kernel
theorem dX6_takeStatement_129 : decode cX6_takeStatement 129 = .ok (.invokevirtual 125, 3) := by decide +kernel
theorem dX6_takeStatement_132 : decode cX6_takeStatement 132 = .ok (.goto 18, 3) := by decide +kernel
theorem dX6_takeStatement_135 : decode cX6_takeStatement 135 = .ok (.aload_n 0, 1) := by decide +kernel
theorem dX6_takeStatement_136 : decode cX6_takeStatement 136 = .ok (.dup, 1) := by decide +kernel
theorem dX6_takeStatement_137 : decode cX6_takeStatement 137 = .ok (.getfield 73, 3) := by decide +kernel
theorem dX6_takeStatement_140 : decode cX6_takeStatement 140 = .ok (.iconst 1, 1) := by decide +kernel
theorem dX6_takeStatement_141 : decode cX6_takeStatement 141 = .ok (.iadd, 1) := by decide +kernel
theorem dX6_takeStatement_142 : decode cX6_takeStatement 142 = .ok (.putfield 73, 3) := by decide +kernel
theorem dX6_takeStatement_145 : decode cX6_takeStatement 145 = .ok (.aload_n 0, 1) := by decide +kernel
theorem dX6_takeStatement_146 : decode cX6_takeStatement 146 = .ok (.iload_n 1, 1) := by decide +kernel
theorem dX6_takeStatement_147 : decode cX6_takeStatement 147 = .ok (.invokevirtual 134, 3) := by decide +kernel
theorem dX6_takeStatement_150 : decode cX6_takeStatement 150 = .ok (.return_, 1) := by decide +kernel
theorem dX7_clashing_0 : decode cX7_clashing 0 = .ok (.iload_n 1, 1) := by decide +kernel
theorem dX7_clashing_1 : decode cX7_clashing 1 = .ok (.invokestatic 71, 3) := by decide +kernel
theorem dX7_clashing_4 : decode cX7_clashing 4 = .ok (.ifCond .eq 27, 3) := by decide +kernel
theorem dX7_clashing_7 : decode cX7_clashing 7 = .ok (.iload_n 2, 1) := by decide +kernel
theorem dX7_clashing_8 : decode cX7_clashing 8 = .ok (.invokestatic 71, 3) := by decide +kernel
theorem dX7_clashing_11 : decode cX7_clashing 11 = .ok (.ifCond .eq 20, 3) := by decide +kernel
theorem dX7_clashing_14 : decode cX7_clashing 14 = .ok (.aload_n 0, 1) := by decide +kernel
theorem dX7_clashing_15 : decode cX7_clashing 15 = .ok (.getfield 18, 3) := by decide +kernel
theorem dX7_clashing_18 : decode cX7_clashing 18 = .ok (.iload_n 1, 1) := by decide +kernel
theorem dX7_clashing_19 : decode cX7_clashing 19 = .ok (.iaload, 1) := by decide +kernel
theorem dX7_clashing_20 : decode cX7_clashing 20 = .ok (.iload_n 2, 1) := by decide +kernel
theorem dX7_clashing_21 : decode cX7_clashing 21 = .ok (.ishr, 1) := by decide +kernel
theorem dX7_clashing_22 : decode cX7_clashing 22 = .ok (.iconst 1, 1) := by decide +kernel
theorem dX7_clashing_23 : decode cX7_clashing 23 = .ok (.iand, 1) := by decide +kernel
theorem dX7_clashing_24 : decode cX7_clashing 24 = .ok (.ifCond .eq 7, 3) := by decide +kernel
theorem dX7_clashing_27 : decode cX7_clashing 27 = .ok (.iconst 1, 1) := by decide +kernel
theorem dX7_clashing_28 : decode cX7_clashing 28 = .ok (.goto 4, 3) := by decide +kernel
theorem dX7_clashing_31 : decode cX7_clashing 31 = .ok (.iconst 0, 1) := by decide +kernel
theorem dX7_clashing_32 : decode cX7_clashing 32 = .ok (.ireturn, 1) := by decide +kernel
theorem dX7_comingsOf_0 : decode cX7_comingsOf 0 = .ok (.iconst 0, 1) := by decide +kernel
theorem dX7_comingsOf_1 : decode cX7_comingsOf 1 = .ok (.istore_n 2, 1) := by decide +kernel
theorem dX7_comingsOf_2 : decode cX7_comingsOf 2 = .ok (.iconst 0, 1) := by decide +kernel
theorem dX7_comingsOf_3 : decode cX7_comingsOf 3 = .ok (.istore_n 3, 1) := by decide +kernel
theorem dX7_comingsOf_4 : decode cX7_comingsOf 4 = .ok (.iload_n 3, 1) := by decide +kernel
theorem dX7_comingsOf_5 : decode cX7_comingsOf 5 = .ok (.bipush 6, 2) := by decide +kernel
theorem dX7_comingsOf_7 : decode cX7_comingsOf 7 = .ok (.if_icmp .ge 30, 3) := by decide +kernel
theorem dX7_comingsOf_10 : decode cX7_comingsOf 10 = .ok (.iload_n 2, 1) := by decide +kernel
theorem dX7_comingsOf_11 : decode cX7_comingsOf 11 = .ok (.iload_n 1, 1) := by decide +kernel
theorem dX7_comingsOf_12 : decode cX7_comingsOf 12 = .ok (.iload_n 3, 1) := by decide +kernel
theorem dX7_comingsOf_13 : decode cX7_comingsOf 13 = .ok (.ishr, 1) := by decide +kernel
theorem dX7_comingsOf_14 : decode cX7_comingsOf 14 = .ok (.iconst 1, 1) := by decide +kernel
theorem dX7_comingsOf_15 : decode cX7_comingsOf 15 = .ok (.iand, 1) := by decide +kernel
theorem dX7_comingsOf_16 : decode cX7_comingsOf 16 = .ok (.ifCond .eq 12, 3) := by decide +kernel
theorem dX7_comingsOf_19 : decode cX7_comingsOf 19 = .ok (.aload_n 0, 1) := by decide +kernel
theorem dX7_comingsOf_20 : decode cX7_comingsOf 20 = .ok (.getfield 22, 3) := by decide +kernel
theorem dX7_comingsOf_23 : decode cX7_comingsOf 23 = .ok (.iload_n 3, 1) := by decide +kernel
theorem dX7_comingsOf_24 : decode cX7_comingsOf 24 = .ok (.iaload, 1) := by decide +kernel
theorem dX7_comingsOf_25 : decode cX7_comingsOf 25 = .ok (.goto 4, 3) := by decide +kernel
theorem dX7_comingsOf_28 : decode cX7_comingsOf 28 = .ok (.iconst 0, 1) := by decide +kernel
theorem dX7_comingsOf_29 : decode cX7_comingsOf 29 = .ok (.iadd, 1) := by decide +kernel
theorem dX7_comingsOf_30 : decode cX7_comingsOf 30 = .ok (.istore_n 2, 1) := by decide +kernel
theorem dX7_comingsOf_31 : decode cX7_comingsOf 31 = .ok (.iinc 3 1, 3) := by decide +kernel
theorem dX7_comingsOf_34 : decode cX7_comingsOf 34 = .ok (.goto (-30), 3) := by decide +kernel
theorem dX7_comingsOf_37 : decode cX7_comingsOf 37 = .ok (.iload_n 2, 1) := by decide +kernel
theorem dX7_comingsOf_38 : decode cX7_comingsOf 38 = .ok (.ireturn, 1) := by decide +kernel
theorem dX7_count_0 : decode cX7_count 0 = .ok (.iload_n 1, 1) := by decide +kernel
theorem dX7_count_1 : decode cX7_count 1 = .ok (.invokestatic 64, 3) := by decide +kernel
theorem dX7_count_4 : decode cX7_count 4 = .ok (.ifCond .eq 10, 3) := by decide +kernel
theorem dX7_count_7 : decode cX7_count 7 = .ok (.iload_n 1, 1) := by decide +kernel
theorem dX7_count_8 : decode cX7_count 8 = .ok (.bipush 100, 2) := by decide +kernel
theorem dX7_count_10 : decode cX7_count 10 = .ok (.isub, 1) := by decide +kernel
theorem dX7_count_11 : decode cX7_count 11 = .ok (.goto 18, 3) := by decide +kernel
theorem dX7_count_14 : decode cX7_count 14 = .ok (.iload_n 1, 1) := by decide +kernel
theorem dX7_count_15 : decode cX7_count 15 = .ok (.invokestatic 68, 3) := by decide +kernel
theorem dX7_count_18 : decode cX7_count 18 = .ok (.ifCond .eq 10, 3) := by decide +kernel
theorem dX7_count_21 : decode cX7_count 21 = .ok (.iload_n 1, 1) := by decide +kernel
theorem dX7_count_22 : decode cX7_count 22 = .ok (.bipush 20, 2) := by decide +kernel
theorem dX7_count_24 : decode cX7_count 24 = .ok (.isub, 1) := by decide +kernel
theorem dX7_count_25 : decode cX7_count 25 = .ok (.goto 4, 3) := by decide +kernel
theorem dX7_count_28 : decode cX7_count 28 = .ok (.iconst (-1), 1) := by decide +kernel
theorem dX7_count_29 : decode cX7_count 29 = .ok (.istore_n 2, 1) := by decide +kernel
theorem dX7_count_30 : decode cX7_count 30 = .ok (.iload_n 2, 1) := by decide +kernel
theorem dX7_count_31 : decode cX7_count 31 = .ok (.invokestatic 71, 3) := by decide +kernel
theorem dX7_count_34 : decode cX7_count 34 = .ok (.ifCond .eq 25, 3) := by decide +kernel
theorem dX7_count_37 : decode cX7_count 37 = .ok (.aload_n 0, 1) := by decide +kernel
theorem dX7_count_38 : decode cX7_count 38 = .ok (.getfield 22, 3) := by decide +kernel
theorem dX7_count_41 : decode cX7_count 41 = .ok (.iload_n 2, 1) := by decide +kernel
theorem dX7_count_42 : decode cX7_count 42 = .ok (.dup2, 1) := by decide +kernel
theorem dX7_count_43 : decode cX7_count 43 = .ok (.iaload, 1) := by decide +kernel
theorem dX7_count_44 : decode cX7_count 44 = .ok (.iconst 1, 1) := by decide +kernel
theorem dX7_count_45 : decode cX7_count 45 = .ok (.iadd, 1) := by decide +kernel
theorem dX7_count_46 : decode cX7_count 46 = .ok (.iastore, 1) := by decide +kernel
theorem dX7_count_47 : decode cX7_count 47 = .ok (.aload_n 0, 1) := by decide +kernel
theorem dX7_count_48 : decode cX7_count 48 = .ok (.dup, 1) := by decide +kernel
theorem dX7_count_49 : decode cX7_count 49 = .ok (.getfield 32, 3) := by decide +kernel
theorem dX7_count_52 : decode cX7_count 52 = .ok (.iconst 1, 1) := by decide +kernel
theorem dX7_count_53 : decode cX7_count 53 = .ok (.iload_n 2, 1) := by decide +kernel
theorem dX7_count_54 : decode cX7_count 54 = .ok (.ishl, 1) := by decide +kernel
theorem dX7_count_55 : decode cX7_count 55 = .ok (.ior, 1) := by decide +kernel
theorem dX7_count_56 : decode cX7_count 56 = .ok (.putfield 32, 3) := by decide +kernel
theorem dX7_count_59 : decode cX7_count 59 = .ok (.return_, 1) := by decide +kernel
theorem dX7_deal_0 : decode cX7_deal 0 = .ok (.iload_n 1, 1) := by decide +kernel
theorem dX7_deal_1 : decode cX7_deal 1 = .ok (.invokestatic 71, 3) := by decide +kernel
theorem dX7_deal_4 : decode cX7_deal 4 = .ok (.ifCond .ne 5, 3) := by decide +kernel
theorem dX7_deal_7 : decode cX7_deal 7 = .ok (.iconst 1, 1) := by decide +kernel
theorem dX7_deal_8 : decode cX7_deal 8 = .ok (.ireturn, 1) := by decide +kernel
theorem dX7_deal_9 : decode cX7_deal 9 = .ok (.aload_n 0, 1) := by decide +kernel
theorem dX7_deal_10 : decode cX7_deal 10 = .ok (.getfield 25, 3) := by decide +kernel
theorem dX7_deal_13 : decode cX7_deal 13 = .ok (.iload_n 1, 1) := by decide +kernel
theorem dX7_deal_14 : decode cX7_deal 14 = .ok (.iconst (-1), 1) := by decide +kernel
theorem dX7_deal_15 : decode cX7_deal 15 = .ok (.iastore, 1) := by decide +kernel
theorem dX7_deal_16 : decode cX7_deal 16 = .ok (.iload_n 2, 1) := by decide +kernel
theorem dX7_deal_17 : decode cX7_deal 17 = .ok (.iload_n 1, 1) := by decide +kernel
theorem dX7_deal_18 : decode cX7_deal 18 = .ok (.ishr, 1) := by decide +kernel
theorem dX7_deal_19 : decode cX7_deal 19 = .ok (.iconst 1, 1) := by decide +kernel
theorem dX7_deal_20 : decode cX7_deal 20 = .ok (.iand, 1) := by decide +kernel
theorem dX7_deal_21 : decode cX7_deal 21 = .ok (.ifCond .ne 13, 3) := by decide +kernel
theorem dX7_deal_24 : decode cX7_deal 24 = .ok (.aload_n 0, 1) := by decide +kernel
theorem dX7_deal_25 : decode cX7_deal 25 = .ok (.iload_n 1, 1) := by decide +kernel
theorem dX7_deal_26 : decode cX7_deal 26 = .ok (.iconst 1, 1) := by decide +kernel
theorem dX7_deal_27 : decode cX7_deal 27 = .ok (.iadd, 1) := by decide +kernel
theorem dX7_deal_28 : decode cX7_deal 28 = .ok (.iload_n 2, 1) := by decide +kernel
theorem dX7_deal_29 : decode cX7_deal 29 = .ok (.iload_n 3, 1) := by decide +kernel
theorem dX7_deal_30 : decode cX7_deal 30 = .ok (.invokevirtual 74, 3) := by decide +kernel
theorem dX7_deal_33 : decode cX7_deal 33 = .ok (.ireturn, 1) := by decide +kernel
theorem dX7_deal_34 : decode cX7_deal 34 = .ok (.iconst 0, 1) := by decide +kernel
theorem dX7_deal_35 : decode cX7_deal 35 = .ok (.istore 4, 2) := by decide +kernel
theorem dX7_deal_37 : decode cX7_deal 37 = .ok (.iload 4, 2) := by decide +kernel
theorem dX7_deal_39 : decode cX7_deal 39 = .ok (.iload_n 3, 1) := by decide +kernel
theorem dX7_deal_40 : decode cX7_deal 40 = .ok (.if_icmp .ge 41, 3) := by decide +kernel
theorem dX7_deal_43 : decode cX7_deal 43 = .ok (.aload_n 0, 1) := by decide +kernel
theorem dX7_deal_44 : decode cX7_deal 44 = .ok (.iload_n 1, 1) := by decide +kernel
theorem dX7_deal_45 : decode cX7_deal 45 = .ok (.iload 4, 2) := by decide +kernel
theorem dX7_deal_47 : decode cX7_deal 47 = .ok (.invokevirtual 85, 3) := by decide +kernel
theorem dX7_deal_50 : decode cX7_deal 50 = .ok (.ifCond .eq 25, 3) := by decide +kernel
theorem dX7_deal_53 : decode cX7_deal 53 = .ok (.aload_n 0, 1) := by decide +kernel
theorem dX7_deal_54 : decode cX7_deal 54 = .ok (.getfield 25, 3) := by decide +kernel
theorem dX7_deal_57 : decode cX7_deal 57 = .ok (.iload_n 1, 1) := by decide +kernel
theorem dX7_deal_58 : decode cX7_deal 58 = .ok (.iload 4, 2) := by decide +kernel
theorem dX7_deal_60 : decode cX7_deal 60 = .ok (.iastore, 1) := by decide +kernel
theorem dX7_deal_61 : decode cX7_deal 61 = .ok (.aload_n 0, 1) := by decide +kernel
theorem dX7_deal_62 : decode cX7_deal 62 = .ok (.iload_n 1, 1) := by decide +kernel
theorem dX7_deal_63 : decode cX7_deal 63 = .ok (.iconst 1, 1) := by decide +kernel
theorem dX7_deal_64 : decode cX7_deal 64 = .ok (.iadd, 1) := by decide +kernel
theorem dX7_deal_65 : decode cX7_deal 65 = .ok (.iload_n 2, 1) := by decide +kernel
theorem dX7_deal_66 : decode cX7_deal 66 = .ok (.iload_n 3, 1) := by decide +kernel
theorem dX7_deal_67 : decode cX7_deal 67 = .ok (.invokevirtual 74, 3) := by decide +kernel
theorem dX7_deal_70 : decode cX7_deal 70 = .ok (.ifCond .eq 5, 3) := by decide +kernel
theorem dX7_deal_73 : decode cX7_deal 73 = .ok (.iconst 1, 1) := by decide +kernel
theorem dX7_deal_74 : decode cX7_deal 74 = .ok (.ireturn, 1) := by decide +kernel
theorem dX7_deal_75 : decode cX7_deal 75 = .ok (.iinc 4 1, 3) := by decide +kernel
theorem dX7_deal_78 : decode cX7_deal 78 = .ok (.goto (-41), 3) := by decide +kernel
theorem dX7_deal_81 : decode cX7_deal 81 = .ok (.aload_n 0, 1) := by decide +kernel
theorem dX7_deal_82 : decode cX7_deal 82 = .ok (.getfield 25, 3) := by decide +kernel
theorem dX7_deal_85 : decode cX7_deal 85 = .ok (.iload_n 1, 1) := by decide +kernel
theorem dX7_deal_86 : decode cX7_deal 86 = .ok (.iconst (-1), 1) := by decide +kernel
theorem dX7_deal_87 : decode cX7_deal 87 = .ok (.iastore, 1) := by decide +kernel
theorem dX7_deal_88 : decode cX7_deal 88 = .ok (.iconst 0, 1) := by decide +kernel
theorem dX7_deal_89 : decode cX7_deal 89 = .ok (.ireturn, 1) := by decide +kernel
theorem dX7_fewest_0 : decode cX7_fewest 0 = .ok (.iconst 0, 1) := by decide +kernel
theorem dX7_fewest_1 : decode cX7_fewest 1 = .ok (.istore_n 1, 1) := by decide +kernel
theorem dX7_fewest_2 : decode cX7_fewest 2 = .ok (.iload_n 1, 1) := by decide +kernel
theorem dX7_fewest_3 : decode cX7_fewest 3 = .ok (.bipush 6, 2) := by decide +kernel
theorem dX7_fewest_5 : decode cX7_fewest 5 = .ok (.if_icmp .ge 24, 3) := by decide +kernel
theorem dX7_fewest_8 : decode cX7_fewest 8 = .ok (.aload_n 0, 1) := by decide +kernel
theorem dX7_fewest_9 : decode cX7_fewest 9 = .ok (.iconst 0, 1) := by decide +kernel
theorem dX7_fewest_10 : decode cX7_fewest 10 = .ok (.aload_n 0, 1) := by decide +kernel
theorem dX7_fewest_11 : decode cX7_fewest 11 = .ok (.getfield 32, 3) := by decide +kernel
theorem dX7_fewest_14 : decode cX7_fewest 14 = .ok (.iload_n 1, 1) := by decide +kernel
theorem dX7_fewest_15 : decode cX7_fewest 15 = .ok (.invokevirtual 74, 3) := by decide +kernel
theorem dX7_fewest_18 : decode cX7_fewest 18 = .ok (.ifCond .eq 5, 3) := by decide +kernel
theorem dX7_fewest_21 : decode cX7_fewest 21 = .ok (.iload_n 1, 1) := by decide +kernel
theorem dX7_fewest_22 : decode cX7_fewest 22 = .ok (.ireturn, 1) := by decide +kernel
theorem dX7_fewest_23 : decode cX7_fewest 23 = .ok (.iinc 1 1, 3) := by decide +kernel
theorem dX7_fewest_26 : decode cX7_fewest 26 = .ok (.goto (-24), 3) := by decide +kernel
theorem dX7_fewest_29 : decode cX7_fewest 29 = .ok (.aload_n 0, 1) := by decide +kernel
theorem dX7_fewest_30 : decode cX7_fewest 30 = .ok (.iconst 0, 1) := by decide +kernel
theorem dX7_fewest_31 : decode cX7_fewest 31 = .ok (.aload_n 0, 1) := by decide +kernel
theorem dX7_fewest_32 : decode cX7_fewest 32 = .ok (.getfield 32, 3) := by decide +kernel
theorem dX7_fewest_35 : decode cX7_fewest 35 = .ok (.bipush 6, 2) := by decide +kernel
theorem dX7_fewest_37 : decode cX7_fewest 37 = .ok (.invokevirtual 74, 3) := by decide +kernel
theorem dX7_fewest_40 : decode cX7_fewest 40 = .ok (.pop, 1) := by decide +kernel
theorem dX7_fewest_41 : decode cX7_fewest 41 = .ok (.bipush 6, 2) := by decide +kernel
theorem dX7_fewest_43 : decode cX7_fewest 43 = .ok (.ireturn, 1) := by decide +kernel
theorem dX7_isFree_0 : decode cX7_isFree 0 = .ok (.iconst 0, 1) := by decide +kernel
theorem dX7_isFree_1 : decode cX7_isFree 1 = .ok (.istore_n 3, 1) := by decide +kernel
theorem dX7_isFree_2 : decode cX7_isFree 2 = .ok (.iload_n 3, 1) := by decide +kernel
theorem dX7_isFree_3 : decode cX7_isFree 3 = .ok (.iload_n 1, 1) := by decide +kernel
theorem dX7_isFree_4 : decode cX7_isFree 4 = .ok (.if_icmp .ge 36, 3) := by decide +kernel
theorem dX7_isFree_7 : decode cX7_isFree 7 = .ok (.iload_n 3, 1) := by decide +kernel
theorem dX7_isFree_8 : decode cX7_isFree 8 = .ok (.bipush 6, 2) := by decide +kernel
theorem dX7_isFree_10 : decode cX7_isFree 10 = .ok (.if_icmp .ge 30, 3) := by decide +kernel
theorem dX7_isFree_13 : decode cX7_isFree 13 = .ok (.aload_n 0, 1) := by decide +kernel
theorem dX7_isFree_14 : decode cX7_isFree 14 = .ok (.getfield 25, 3) := by decide +kernel
theorem dX7_isFree_17 : decode cX7_isFree 17 = .ok (.iload_n 3, 1) := by decide +kernel
theorem dX7_isFree_18 : decode cX7_isFree 18 = .ok (.iaload, 1) := by decide +kernel
theorem dX7_isFree_19 : decode cX7_isFree 19 = .ok (.iload_n 2, 1) := by decide +kernel
theorem dX7_isFree_20 : decode cX7_isFree 20 = .ok (.if_icmp .ne 14, 3) := by decide +kernel
theorem dX7_isFree_23 : decode cX7_isFree 23 = .ok (.aload_n 0, 1) := by decide +kernel
theorem dX7_isFree_24 : decode cX7_isFree 24 = .ok (.iload_n 1, 1) := by decide +kernel
theorem dX7_isFree_25 : decode cX7_isFree 25 = .ok (.iload_n 3, 1) := by decide +kernel
theorem dX7_isFree_26 : decode cX7_isFree 26 = .ok (.invokevirtual 89, 3) := by decide +kernel
theorem dX7_isFree_29 : decode cX7_isFree 29 = .ok (.ifCond .eq 5, 3) := by decide +kernel
theorem dX7_isFree_32 : decode cX7_isFree 32 = .ok (.iconst 0, 1) := by decide +kernel
theorem dX7_isFree_33 : decode cX7_isFree 33 = .ok (.ireturn, 1) := by decide +kernel
theorem dX7_isFree_34 : decode cX7_isFree 34 = .ok (.iinc 3 1, 3) := by decide +kernel
theorem dX7_isFree_37 : decode cX7_isFree 37 = .ok (.goto (-35), 3) := by decide +kernel
theorem dX7_isFree_40 : decode cX7_isFree 40 = .ok (.iconst 1, 1) := by decide +kernel
theorem dX7_isFree_41 : decode cX7_isFree 41 = .ok (.ireturn, 1) := by decide +kernel
theorem dX7_noteClashes_0 : decode cX7_noteClashes 0 = .ok (.iconst 0, 1) := by decide +kernel
theorem dX7_noteClashes_1 : decode cX7_noteClashes 1 = .ok (.istore_n 3, 1) := by decide +kernel
theorem dX7_noteClashes_2 : decode cX7_noteClashes 2 = .ok (.iload_n 3, 1) := by decide +kernel
theorem dX7_noteClashes_3 : decode cX7_noteClashes 3 = .ok (.bipush 6, 2) := by decide +kernel
theorem dX7_noteClashes_5 : decode cX7_noteClashes 5 = .ok (.if_icmp .ge 58, 3) := by decide +kernel
theorem dX7_noteClashes_8 : decode cX7_noteClashes 8 = .ok (.iconst 1, 1) := by decide +kernel
theorem dX7_noteClashes_9 : decode cX7_noteClashes 9 = .ok (.iload_n 3, 1) := by decide +kernel
theorem dX7_noteClashes_10 : decode cX7_noteClashes 10 = .ok (.ishl, 1) := by decide +kernel
theorem dX7_noteClashes_11 : decode cX7_noteClashes 11 = .ok (.istore 4, 2) := by decide +kernel
theorem dX7_noteClashes_13 : decode cX7_noteClashes 13 = .ok (.iload_n 1, 1) := by decide +kernel
theorem dX7_noteClashes_14 : decode cX7_noteClashes 14 = .ok (.iload 4, 2) := by decide +kernel
theorem dX7_noteClashes_16 : decode cX7_noteClashes 16 = .ok (.iand, 1) := by decide +kernel
theorem dX7_noteClashes_17 : decode cX7_noteClashes 17 = .ok (.ifCond .eq 18, 3) := by decide +kernel
theorem dX7_noteClashes_20 : decode cX7_noteClashes 20 = .ok (.aload_n 0, 1) := by decide +kernel
theorem dX7_noteClashes_21 : decode cX7_noteClashes 21 = .ok (.getfield 18, 3) := by decide +kernel
theorem dX7_noteClashes_24 : decode cX7_noteClashes 24 = .ok (.iload_n 3, 1) := by decide +kernel
theorem dX7_noteClashes_25 : decode cX7_noteClashes 25 = .ok (.dup2, 1) := by decide +kernel
theorem dX7_noteClashes_26 : decode cX7_noteClashes 26 = .ok (.iaload, 1) := by decide +kernel
theorem dX7_noteClashes_27 : decode cX7_noteClashes 27 = .ok (.iload_n 2, 1) := by decide +kernel
theorem dX7_noteClashes_28 : decode cX7_noteClashes 28 = .ok (.iload 4, 2) := by decide +kernel
theorem dX7_noteClashes_30 : decode cX7_noteClashes 30 = .ok (.iconst (-1), 1) := by decide +kernel
theorem dX7_noteClashes_31 : decode cX7_noteClashes 31 = .ok (.ixor, 1) := by decide +kernel
theorem dX7_noteClashes_32 : decode cX7_noteClashes 32 = .ok (.iand, 1) := by decide +kernel
theorem dX7_noteClashes_33 : decode cX7_noteClashes 33 = .ok (.ior, 1) := by decide +kernel
theorem dX7_noteClashes_34 : decode cX7_noteClashes 34 = .ok (.iastore, 1) := by decide +kernel
theorem dX7_noteClashes_35 : decode cX7_noteClashes 35 = .ok (.iload_n 2, 1) := by decide +kernel
theorem dX7_noteClashes_36 : decode cX7_noteClashes 36 = .ok (.iload 4, 2) := by decide +kernel
theorem dX7_noteClashes_38 : decode cX7_noteClashes 38 = .ok (.iand, 1) := by decide +kernel
theorem dX7_noteClashes_39 : decode cX7_noteClashes 39 = .ok (.ifCond .eq 18, 3) := by decide +kernel
theorem dX7_noteClashes_42 : decode cX7_noteClashes 42 = .ok (.aload_n 0, 1) := by decide +kernel
theorem dX7_noteClashes_43 : decode cX7_noteClashes 43 = .ok (.getfield 18, 3) := by decide +kernel
theorem dX7_noteClashes_46 : decode cX7_noteClashes 46 = .ok (.iload_n 3, 1) := by decide +kernel
theorem dX7_noteClashes_47 : decode cX7_noteClashes 47 = .ok (.dup2, 1) := by decide +kernel
theorem dX7_noteClashes_48 : decode cX7_noteClashes 48 = .ok (.iaload, 1) := by decide +kernel
theorem dX7_noteClashes_49 : decode cX7_noteClashes 49 = .ok (.iload_n 1, 1) := by decide +kernel
theorem dX7_noteClashes_50 : decode cX7_noteClashes 50 = .ok (.iload 4, 2) := by decide +kernel
theorem dX7_noteClashes_52 : decode cX7_noteClashes 52 = .ok (.iconst (-1), 1) := by decide +kernel
theorem dX7_noteClashes_53 : decode cX7_noteClashes 53 = .ok (.ixor, 1) := by decide +kernel
theorem dX7_noteClashes_54 : decode cX7_noteClashes 54 = .ok (.iand, 1) := by decide +kernel
theorem dX7_noteClashes_55 : decode cX7_noteClashes 55 = .ok (.ior, 1) := by decide +kernel
theorem dX7_noteClashes_56 : decode cX7_noteClashes 56 = .ok (.iastore, 1) := by decide +kernel
theorem dX7_noteClashes_57 : decode cX7_noteClashes 57 = .ok (.iinc 3 1, 3) := by decide +kernel
theorem dX7_noteClashes_60 : decode cX7_noteClashes 60 = .ok (.goto (-58), 3) := by decide +kernel
theorem dX7_noteClashes_63 : decode cX7_noteClashes 63 = .ok (.return_, 1) := by decide +kernel
theorem dX7_registerOf_0 : decode cX7_registerOf 0 = .ok (.aload_n 0, 1) := by decide +kernel
theorem dX7_registerOf_1 : decode cX7_registerOf 1 = .ok (.invokevirtual 78, 3) := by decide +kernel
theorem dX7_registerOf_4 : decode cX7_registerOf 4 = .ok (.pop, 1) := by decide +kernel
theorem dX7_registerOf_5 : decode cX7_registerOf 5 = .ok (.iload_n 1, 1) := by decide +kernel
theorem dX7_registerOf_6 : decode cX7_registerOf 6 = .ok (.invokestatic 71, 3) := by decide +kernel
theorem dX7_registerOf_9 : decode cX7_registerOf 9 = .ok (.ifCond .eq 12, 3) := by decide +kernel
theorem dX7_registerOf_12 : decode cX7_registerOf 12 = .ok (.aload_n 0, 1) := by decide +kernel
theorem dX7_registerOf_13 : decode cX7_registerOf 13 = .ok (.getfield 25, 3) := by decide +kernel
theorem dX7_registerOf_16 : decode cX7_registerOf 16 = .ok (.iload_n 1, 1) := by decide +kernel
theorem dX7_registerOf_17 : decode cX7_registerOf 17 = .ok (.iaload, 1) := by decide +kernel
theorem dX7_registerOf_18 : decode cX7_registerOf 18 = .ok (.goto 4, 3) := by decide +kernel
theorem dX7_registerOf_21 : decode cX7_registerOf 21 = .ok (.iconst (-1), 1) := by decide +kernel
theorem dX7_registerOf_22 : decode cX7_registerOf 22 = .ok (.ireturn, 1) := by decide +kernel
theorem dX7_spills_0 : decode cX7_spills 0 = .ok (.aload_n 0, 1) := by decide +kernel
theorem dX7_spills_1 : decode cX7_spills 1 = .ok (.getfield 32, 3) := by decide +kernel
theorem dX7_spills_4 : decode cX7_spills 4 = .ok (.istore_n 2, 1) := by decide +kernel
theorem dX7_spills_5 : decode cX7_spills 5 = .ok (.aload_n 0, 1) := by decide +kernel
theorem dX7_spills_6 : decode cX7_spills 6 = .ok (.aload_n 0, 1) := by decide +kernel
theorem dX7_spills_7 : decode cX7_spills 7 = .ok (.getfield 32, 3) := by decide +kernel
theorem dX7_spills_10 : decode cX7_spills 10 = .ok (.invokevirtual 82, 3) := by decide +kernel
theorem dX7_spills_13 : decode cX7_spills 13 = .ok (.istore_n 3, 1) := by decide +kernel
theorem dX7_spills_14 : decode cX7_spills 14 = .ok (.iconst 0, 1) := by decide +kernel
theorem dX7_spills_15 : decode cX7_spills 15 = .ok (.istore 4, 2) := by decide +kernel
theorem dX7_spills_17 : decode cX7_spills 17 = .ok (.iload 4, 2) := by decide +kernel
theorem dX7_spills_19 : decode cX7_spills 19 = .ok (.bipush 64, 2) := by decide +kernel
theorem dX7_spills_21 : decode cX7_spills 21 = .ok (.if_icmp .ge 47, 3) := by decide +kernel
theorem dX7_spills_24 : decode cX7_spills 24 = .ok (.aload_n 0, 1) := by decide +kernel
theorem dX7_spills_25 : decode cX7_spills 25 = .ok (.iload 4, 2) := by decide +kernel
theorem dX7_spills_27 : decode cX7_spills 27 = .ok (.invokevirtual 82, 3) := by decide +kernel
theorem dX7_spills_30 : decode cX7_spills 30 = .ok (.istore 5, 2) := by decide +kernel
theorem dX7_spills_32 : decode cX7_spills 32 = .ok (.iload 5, 2) := by decide +kernel
theorem dX7_spills_34 : decode cX7_spills 34 = .ok (.iload_n 3, 1) := by decide +kernel
theorem dX7_spills_35 : decode cX7_spills 35 = .ok (.if_icmp .ge 27, 3) := by decide +kernel
theorem dX7_spills_38 : decode cX7_spills 38 = .ok (.aload_n 0, 1) := by decide +kernel
theorem dX7_spills_39 : decode cX7_spills 39 = .ok (.iconst 0, 1) := by decide +kernel
theorem dX7_spills_40 : decode cX7_spills 40 = .ok (.aload_n 0, 1) := by decide +kernel
theorem dX7_spills_41 : decode cX7_spills 41 = .ok (.getfield 32, 3) := by decide +kernel
theorem dX7_spills_44 : decode cX7_spills 44 = .ok (.iload 4, 2) := by decide +kernel
theorem dX7_spills_46 : decode cX7_spills 46 = .ok (.iconst (-1), 1) := by decide +kernel
theorem dX7_spills_47 : decode cX7_spills 47 = .ok (.ixor, 1) := by decide +kernel
theorem dX7_spills_48 : decode cX7_spills 48 = .ok (.iand, 1) := by decide +kernel
theorem dX7_spills_49 : decode cX7_spills 49 = .ok (.iload_n 1, 1) := by decide +kernel
theorem dX7_spills_50 : decode cX7_spills 50 = .ok (.invokevirtual 74, 3) := by decide +kernel
theorem dX7_spills_53 : decode cX7_spills 53 = .ok (.ifCond .eq 9, 3) := by decide +kernel
theorem dX7_spills_56 : decode cX7_spills 56 = .ok (.iload 4, 2) := by decide +kernel
theorem dX7_spills_58 : decode cX7_spills 58 = .ok (.istore_n 2, 1) := by decide +kernel
theorem dX7_spills_59 : decode cX7_spills 59 = .ok (.iload 5, 2) := by decide +kernel
theorem dX7_spills_61 : decode cX7_spills 61 = .ok (.istore_n 3, 1) := by decide +kernel
theorem dX7_spills_62 : decode cX7_spills 62 = .ok (.iinc 4 1, 3) := by decide +kernel
theorem dX7_spills_65 : decode cX7_spills 65 = .ok (.goto (-48), 3) := by decide +kernel
theorem dX7_spills_68 : decode cX7_spills 68 = .ok (.iload_n 2, 1) := by decide +kernel
theorem dX7_spills_69 : decode cX7_spills 69 = .ok (.ireturn, 1) := by decide +kernel
theorem dX7_study_0 : decode cX7_study 0 = .ok (.aload_n 0, 1) := by decide +kernel
theorem dX7_study_1 : decode cX7_study 1 = .ok (.getfield 12, 3) := by decide +kernel
theorem dX7_study_4 : decode cX7_study 4 = .ok (.aload_n 1, 1) := by decide +kernel
theorem dX7_study_5 : decode cX7_study 5 = .ok (.invokevirtual 28, 3) := by decide +kernel
theorem dX7_study_8 : decode cX7_study 8 = .ok (.aload_n 0, 1) := by decide +kernel
theorem dX7_study_9 : decode cX7_study 9 = .ok (.iconst 0, 1) := by decide +kernel
theorem dX7_study_10 : decode cX7_study 10 = .ok (.putfield 32, 3) := by decide +kernel
theorem dX7_study_13 : decode cX7_study 13 = .ok (.iconst 0, 1) := by decide +kernel
theorem dX7_study_14 : decode cX7_study 14 = .ok (.istore_n 2, 1) := by decide +kernel
theorem dX7_study_15 : decode cX7_study 15 = .ok (.iload_n 2, 1) := by decide +kernel
theorem dX7_study_16 : decode cX7_study 16 = .ok (.bipush 6, 2) := by decide +kernel
theorem dX7_study_18 : decode cX7_study 18 = .ok (.if_icmp .ge 23, 3) := by decide +kernel
theorem dX7_study_21 : decode cX7_study 21 = .ok (.aload_n 0, 1) := by decide +kernel
theorem dX7_study_22 : decode cX7_study 22 = .ok (.getfield 18, 3) := by decide +kernel
theorem dX7_study_25 : decode cX7_study 25 = .ok (.iload_n 2, 1) := by decide +kernel
theorem dX7_study_26 : decode cX7_study 26 = .ok (.iconst 0, 1) := by decide +kernel
theorem dX7_study_27 : decode cX7_study 27 = .ok (.iastore, 1) := by decide +kernel
theorem dX7_study_28 : decode cX7_study 28 = .ok (.aload_n 0, 1) := by decide +kernel
theorem dX7_study_29 : decode cX7_study 29 = .ok (.getfield 22, 3) := by decide +kernel
theorem dX7_study_32 : decode cX7_study 32 = .ok (.iload_n 2, 1) := by decide +kernel
theorem dX7_study_33 : decode cX7_study 33 = .ok (.iconst 0, 1) := by decide +kernel
theorem dX7_study_34 : decode cX7_study 34 = .ok (.iastore, 1) := by decide +kernel
theorem dX7_study_35 : decode cX7_study 35 = .ok (.iinc 2 1, 3) := by decide +kernel
theorem dX7_study_38 : decode cX7_study 38 = .ok (.goto (-23), 3) := by decide +kernel
theorem dX7_study_41 : decode cX7_study 41 = .ok (.iconst 0, 1) := by decide +kernel
theorem dX7_study_42 : decode cX7_study 42 = .ok (.istore_n 2, 1) := by decide +kernel
theorem dX7_study_43 : decode cX7_study 43 = .ok (.iload_n 2, 1) := by decide +kernel
theorem dX7_study_44 : decode cX7_study 44 = .ok (.aload_n 1, 1) := by decide +kernel
theorem dX7_study_45 : decode cX7_study 45 = .ok (.getfield 36, 3) := by decide +kernel
theorem dX7_study_48 : decode cX7_study 48 = .ok (.if_icmp .ge 18, 3) := by decide +kernel
theorem dX7_study_51 : decode cX7_study 51 = .ok (.aload_n 0, 1) := by decide +kernel
theorem dX7_study_52 : decode cX7_study 52 = .ok (.aload_n 1, 1) := by decide +kernel
theorem dX7_study_53 : decode cX7_study 53 = .ok (.iload_n 2, 1) := by decide +kernel
theorem dX7_study_54 : decode cX7_study 54 = .ok (.invokevirtual 41, 3) := by decide +kernel
theorem dX7_study_57 : decode cX7_study 57 = .ok (.invokevirtual 45, 3) := by decide +kernel
theorem dX7_study_60 : decode cX7_study 60 = .ok (.iinc 2 1, 3) := by decide +kernel
theorem dX7_study_63 : decode cX7_study 63 = .ok (.goto (-20), 3) := by decide +kernel
theorem dX7_study_66 : decode cX7_study 66 = .ok (.iconst 0, 1) := by decide +kernel
theorem dX7_study_67 : decode cX7_study 67 = .ok (.istore_n 2, 1) := by decide +kernel
theorem dX7_study_68 : decode cX7_study 68 = .ok (.iload_n 2, 1) := by decide +kernel
theorem dX7_study_69 : decode cX7_study 69 = .ok (.aload_n 0, 1) := by decide +kernel
theorem dX7_study_70 : decode cX7_study 70 = .ok (.getfield 12, 3) := by decide +kernel
theorem dX7_study_73 : decode cX7_study 73 = .ok (.getfield 49, 3) := by decide +kernel
theorem dX7_study_76 : decode cX7_study 76 = .ok (.if_icmp .ge 49, 3) := by decide +kernel
theorem dX7_study_79 : decode cX7_study 79 = .ok (.aload_n 0, 1) := by decide +kernel
theorem dX7_study_80 : decode cX7_study 80 = .ok (.aload_n 0, 1) := by decide +kernel
theorem dX7_study_81 : decode cX7_study 81 = .ok (.getfield 12, 3) := by decide +kernel
theorem dX7_study_84 : decode cX7_study 84 = .ok (.iload_n 2, 1) := by decide +kernel
theorem dX7_study_85 : decode cX7_study 85 = .ok (.invokevirtual 51, 3) := by decide +kernel
theorem dX7_study_88 : decode cX7_study 88 = .ok (.aload_n 0, 1) := by decide +kernel
theorem dX7_study_89 : decode cX7_study 89 = .ok (.getfield 12, 3) := by decide +kernel
theorem dX7_study_92 : decode cX7_study 92 = .ok (.iload_n 2, 1) := by decide +kernel
theorem dX7_study_93 : decode cX7_study 93 = .ok (.invokevirtual 51, 3) := by decide +kernel
theorem dX7_study_96 : decode cX7_study 96 = .ok (.invokevirtual 54, 3) := by decide +kernel
theorem dX7_study_99 : decode cX7_study 99 = .ok (.aload_n 0, 1) := by decide +kernel
theorem dX7_study_100 : decode cX7_study 100 = .ok (.aload_n 0, 1) := by decide +kernel
theorem dX7_study_101 : decode cX7_study 101 = .ok (.getfield 12, 3) := by decide +kernel
theorem dX7_study_104 : decode cX7_study 104 = .ok (.iload_n 2, 1) := by decide +kernel
theorem dX7_study_105 : decode cX7_study 105 = .ok (.invokevirtual 58, 3) := by decide +kernel
theorem dX7_study_108 : decode cX7_study 108 = .ok (.aload_n 0, 1) := by decide +kernel
theorem dX7_study_109 : decode cX7_study 109 = .ok (.getfield 12, 3) := by decide +kernel
theorem dX7_study_112 : decode cX7_study 112 = .ok (.iload_n 2, 1) := by decide +kernel
theorem dX7_study_113 : decode cX7_study 113 = .ok (.invokevirtual 61, 3) := by decide +kernel
theorem dX7_study_116 : decode cX7_study 116 = .ok (.invokevirtual 54, 3) := by decide +kernel
theorem dX7_study_119 : decode cX7_study 119 = .ok (.iinc 2 1, 3) := by decide +kernel
theorem dX7_study_122 : decode cX7_study 122 = .ok (.goto (-54), 3) := by decide +kernel
theorem dX7_study_125 : decode cX7_study 125 = .ok (.return_, 1) := by decide +kernel
theorem dX8_add_0 : decode cX8_add 0 = .ok (.aload_n 0, 1) := by decide +kernel
theorem dX8_add_1 : decode cX8_add 1 = .ok (.getfield 21, 3) := by decide +kernel
theorem dX8_add_4 : decode cX8_add 4 = .ok (.aload_n 0, 1) := by decide +kernel
theorem dX8_add_5 : decode cX8_add 5 = .ok (.getfield 15, 3) := by decide +kernel
theorem dX8_add_8 : decode cX8_add 8 = .ok (.arraylength, 1) := by decide +kernel
theorem dX8_add_9 : decode cX8_add 9 = .ok (.if_icmp .ge 23, 3) := by decide +kernel
theorem dX8_add_12 : decode cX8_add 12 = .ok (.aload_n 0, 1) := by decide +kernel
theorem dX8_add_13 : decode cX8_add 13 = .ok (.getfield 15, 3) := by decide +kernel
theorem dX8_add_16 : decode cX8_add 16 = .ok (.aload_n 0, 1) := by decide +kernel
theorem dX8_add_17 : decode cX8_add 17 = .ok (.getfield 21, 3) := by decide +kernel
theorem dX8_add_20 : decode cX8_add 20 = .ok (.iload_n 1, 1) := by decide +kernel
theorem dX8_add_21 : decode cX8_add 21 = .ok (.iastore, 1) := by decide +kernel
theorem dX8_add_22 : decode cX8_add 22 = .ok (.aload_n 0, 1) := by decide +kernel
theorem dX8_add_23 : decode cX8_add 23 = .ok (.dup, 1) := by decide +kernel
theorem dX8_add_24 : decode cX8_add 24 = .ok (.getfield 21, 3) := by decide +kernel
theorem dX8_add_27 : decode cX8_add 27 = .ok (.iconst 1, 1) := by decide +kernel
theorem dX8_add_28 : decode cX8_add 28 = .ok (.iadd, 1) := by decide +kernel
theorem dX8_add_29 : decode cX8_add 29 = .ok (.putfield 21, 3) := by decide +kernel
theorem dX8_add_32 : decode cX8_add 32 = .ok (.return_, 1) := by decide +kernel
theorem dX8_addPart_0 : decode cX8_addPart 0 = .ok (.iload_n 3, 1) := by decide +kernel
theorem dX8_addPart_1 : decode cX8_addPart 1 = .ok (.iload_n 2, 1) := by decide +kernel
theorem dX8_addPart_2 : decode cX8_addPart 2 = .ok (.isub, 1) := by decide +kernel
theorem dX8_addPart_3 : decode cX8_addPart 3 = .ok (.istore 4, 2) := by decide +kernel
theorem dX8_addPart_5 : decode cX8_addPart 5 = .ok (.iload_n 2, 1) := by decide +kernel
theorem dX8_addPart_6 : decode cX8_addPart 6 = .ok (.ifCond .lt 60, 3) := by decide +kernel
theorem dX8_addPart_9 : decode cX8_addPart 9 = .ok (.iload 4, 2) := by decide +kernel
theorem dX8_addPart_11 : decode cX8_addPart 11 = .ok (.ifCond .le 55, 3) := by decide +kernel
theorem dX8_addPart_14 : decode cX8_addPart 14 = .ok (.iload_n 3, 1) := by decide +kernel
theorem dX8_addPart_15 : decode cX8_addPart 15 = .ok (.aload_n 1, 1) := by decide +kernel
theorem dX8_addPart_16 : decode cX8_addPart 16 = .ok (.getfield 21, 3) := by decide +kernel
theorem dX8_addPart_19 : decode cX8_addPart 19 = .ok (.if_icmp .gt 47, 3) := by decide +kernel
theorem dX8_addPart_22 : decode cX8_addPart 22 = .ok (.iload 4, 2) := by decide +kernel
theorem dX8_addPart_24 : decode cX8_addPart 24 = .ok (.aload_n 0, 1) := by decide +kernel
theorem dX8_addPart_25 : decode cX8_addPart 25 = .ok (.getfield 15, 3) := by decide +kernel
theorem dX8_addPart_28 : decode cX8_addPart 28 = .ok (.arraylength, 1) := by decide +kernel
theorem dX8_addPart_29 : decode cX8_addPart 29 = .ok (.aload_n 0, 1) := by decide +kernel
theorem dX8_addPart_30 : decode cX8_addPart 30 = .ok (.getfield 21, 3) := by decide +kernel
theorem dX8_addPart_33 : decode cX8_addPart 33 = .ok (.isub, 1) := by decide +kernel
theorem dX8_addPart_34 : decode cX8_addPart 34 = .ok (.if_icmp .gt 32, 3) := by decide +kernel
theorem dX8_addPart_37 : decode cX8_addPart 37 = .ok (.aload_n 1, 1) := by decide +kernel
theorem dX8_addPart_38 : decode cX8_addPart 38 = .ok (.getfield 15, 3) := by decide +kernel
theorem dX8_addPart_41 : decode cX8_addPart 41 = .ok (.iload_n 2, 1) := by decide +kernel
theorem dX8_addPart_42 : decode cX8_addPart 42 = .ok (.aload_n 0, 1) := by decide +kernel
theorem dX8_addPart_43 : decode cX8_addPart 43 = .ok (.getfield 15, 3) := by decide +kernel
theorem dX8_addPart_46 : decode cX8_addPart 46 = .ok (.aload_n 0, 1) := by decide +kernel
theorem dX8_addPart_47 : decode cX8_addPart 47 = .ok (.getfield 21, 3) := by decide +kernel
theorem dX8_addPart_50 : decode cX8_addPart 50 = .ok (.iload 4, 2) := by decide +kernel
theorem dX8_addPart_52 : decode cX8_addPart 52 = .ok (.invokestatic 25, 3) := by decide +kernel
theorem dX8_addPart_55 : decode cX8_addPart 55 = .ok (.aload_n 0, 1) := by decide +kernel
theorem dX8_addPart_56 : decode cX8_addPart 56 = .ok (.dup, 1) := by decide +kernel
theorem dX8_addPart_57 : decode cX8_addPart 57 = .ok (.getfield 21, 3) := by decide +kernel
theorem dX8_addPart_60 : decode cX8_addPart 60 = .ok (.iload 4, 2) := by decide +kernel
theorem dX8_addPart_62 : decode cX8_addPart 62 = .ok (.iadd, 1) := by decide +kernel
theorem dX8_addPart_63 : decode cX8_addPart 63 = .ok (.putfield 21, 3) := by decide +kernel
theorem dX8_addPart_66 : decode cX8_addPart 66 = .ok (.return_, 1) := by decide +kernel
theorem dX8_cell_0 : decode cX8_cell 0 = .ok (.iload_n 1, 1) := by decide +kernel
theorem dX8_cell_1 : decode cX8_cell 1 = .ok (.ifCond .lt 20, 3) := by decide +kernel
theorem dX8_cell_4 : decode cX8_cell 4 = .ok (.iload_n 1, 1) := by decide +kernel
theorem dX8_cell_5 : decode cX8_cell 5 = .ok (.aload_n 0, 1) := by decide +kernel
theorem dX8_cell_6 : decode cX8_cell 6 = .ok (.getfield 21, 3) := by decide +kernel
theorem dX8_cell_9 : decode cX8_cell 9 = .ok (.if_icmp .ge 12, 3) := by decide +kernel
theorem dX8_cell_12 : decode cX8_cell 12 = .ok (.aload_n 0, 1) := by decide +kernel
theorem dX8_cell_13 : decode cX8_cell 13 = .ok (.getfield 15, 3) := by decide +kernel
theorem dX8_cell_16 : decode cX8_cell 16 = .ok (.iload_n 1, 1) := by decide +kernel
theorem dX8_cell_17 : decode cX8_cell 17 = .ok (.iaload, 1) := by decide +kernel
theorem dX8_cell_18 : decode cX8_cell 18 = .ok (.goto 4, 3) := by decide +kernel
theorem dX8_cell_21 : decode cX8_cell 21 = .ok (.iconst (-1), 1) := by decide +kernel
theorem dX8_cell_22 : decode cX8_cell 22 = .ok (.ireturn, 1) := by decide +kernel
theorem dX8_change_0 : decode cX8_change 0 = .ok (.iload_n 1, 1) := by decide +kernel
theorem dX8_change_1 : decode cX8_change 1 = .ok (.ifCond .lt 18, 3) := by decide +kernel
theorem dX8_change_4 : decode cX8_change 4 = .ok (.iload_n 1, 1) := by decide +kernel
theorem dX8_change_5 : decode cX8_change 5 = .ok (.aload_n 0, 1) := by decide +kernel
theorem dX8_change_6 : decode cX8_change 6 = .ok (.getfield 21, 3) := by decide +kernel
theorem dX8_change_9 : decode cX8_change 9 = .ok (.if_icmp .ge 10, 3) := by decide +kernel
theorem dX8_change_12 : decode cX8_change 12 = .ok (.aload_n 0, 1) := by decide +kernel
theorem dX8_change_13 : decode cX8_change 13 = .ok (.getfield 15, 3) := by decide +kernel
theorem dX8_change_16 : decode cX8_change 16 = .ok (.iload_n 1, 1) := by decide +kernel
theorem dX8_change_17 : decode cX8_change 17 = .ok (.iload_n 2, 1) := by decide +kernel
theorem dX8_change_18 : decode cX8_change 18 = .ok (.iastore, 1) := by decide +kernel
theorem dX8_change_19 : decode cX8_change 19 = .ok (.return_, 1) := by decide +kernel
theorem dX8_closeOf_0 : decode cX8_closeOf 0 = .ok (.iconst 0, 1) := by decide +kernel
theorem dX8_closeOf_1 : decode cX8_closeOf 1 = .ok (.istore_n 2, 1) := by decide +kernel
theorem dX8_closeOf_2 : decode cX8_closeOf 2 = .ok (.iload_n 1, 1) := by decide +kernel
theorem dX8_closeOf_3 : decode cX8_closeOf 3 = .ok (.iconst 0, 1) := by decide +kernel
theorem dX8_closeOf_4 : decode cX8_closeOf 4 = .ok (.invokestatic 9, 3) := by decide +kernel
theorem dX8_closeOf_7 : decode cX8_closeOf 7 = .ok (.istore_n 3, 1) := by decide +kernel
theorem dX8_closeOf_8 : decode cX8_closeOf 8 = .ok (.iload_n 3, 1) := by decide +kernel
theorem dX8_closeOf_9 : decode cX8_closeOf 9 = .ok (.aload_n 0, 1) := by decide +kernel
theorem dX8_closeOf_10 : decode cX8_closeOf 10 = .ok (.getfield 21, 3) := by decide +kernel
theorem dX8_closeOf_13 : decode cX8_closeOf 13 = .ok (.if_icmp .ge 47, 3) := by decide +kernel
theorem dX8_closeOf_16 : decode cX8_closeOf 16 = .ok (.aload_n 0, 1) := by decide +kernel
theorem dX8_closeOf_17 : decode cX8_closeOf 17 = .ok (.getfield 15, 3) := by decide +kernel
theorem dX8_closeOf_20 : decode cX8_closeOf 20 = .ok (.iload_n 3, 1) := by decide +kernel
theorem dX8_closeOf_21 : decode cX8_closeOf 21 = .ok (.iaload, 1) := by decide +kernel
theorem dX8_closeOf_22 : decode cX8_closeOf 22 = .ok (.invokestatic 52, 3) := by decide +kernel
theorem dX8_closeOf_25 : decode cX8_closeOf 25 = .ok (.ifCond .eq 9, 3) := by decide +kernel
theorem dX8_closeOf_28 : decode cX8_closeOf 28 = .ok (.iinc 2 1, 3) := by decide +kernel
theorem dX8_closeOf_31 : decode cX8_closeOf 31 = .ok (.goto 23, 3) := by decide +kernel
theorem dX8_closeOf_34 : decode cX8_closeOf 34 = .ok (.aload_n 0, 1) := by decide +kernel
theorem dX8_closeOf_35 : decode cX8_closeOf 35 = .ok (.getfield 15, 3) := by decide +kernel
theorem dX8_closeOf_38 : decode cX8_closeOf 38 = .ok (.iload_n 3, 1) := by decide +kernel
theorem dX8_closeOf_39 : decode cX8_closeOf 39 = .ok (.iaload, 1) := by decide +kernel
theorem dX8_closeOf_40 : decode cX8_closeOf 40 = .ok (.bipush 114, 2) := by decide +kernel
theorem dX8_closeOf_42 : decode cX8_closeOf 42 = .ok (.if_icmp .ne 12, 3) := by decide +kernel
theorem dX8_closeOf_45 : decode cX8_closeOf 45 = .ok (.iinc 2 (-1), 3) := by decide +kernel
theorem dX8_closeOf_48 : decode cX8_closeOf 48 = .ok (.iload_n 2, 1) := by decide +kernel
theorem dX8_closeOf_49 : decode cX8_closeOf 49 = .ok (.ifCond .ne 5, 3) := by decide +kernel
theorem dX8_closeOf_52 : decode cX8_closeOf 52 = .ok (.iload_n 3, 1) := by decide +kernel
theorem dX8_closeOf_53 : decode cX8_closeOf 53 = .ok (.ireturn, 1) := by decide +kernel
theorem dX8_closeOf_54 : decode cX8_closeOf 54 = .ok (.iinc 3 1, 3) := by decide +kernel
theorem dX8_closeOf_57 : decode cX8_closeOf 57 = .ok (.goto (-49), 3) := by decide +kernel
theorem dX8_closeOf_60 : decode cX8_closeOf 60 = .ok (.aload_n 0, 1) := by decide +kernel
theorem dX8_closeOf_61 : decode cX8_closeOf 61 = .ok (.getfield 21, 3) := by decide +kernel
theorem dX8_closeOf_64 : decode cX8_closeOf 64 = .ok (.ireturn, 1) := by decide +kernel
theorem dX8_copy_0 : decode cX8_copy 0 = .ok (.aload_n 1, 1) := by decide +kernel
theorem dX8_copy_1 : decode cX8_copy 1 = .ok (.aload_n 0, 1) := by decide +kernel
theorem dX8_copy_2 : decode cX8_copy 2 = .ok (.if_acmp .eq 18, 3) := by decide +kernel
theorem dX8_copy_5 : decode cX8_copy 5 = .ok (.aload_n 0, 1) := by decide +kernel
theorem dX8_copy_6 : decode cX8_copy 6 = .ok (.iconst 0, 1) := by decide +kernel
theorem dX8_copy_7 : decode cX8_copy 7 = .ok (.putfield 21, 3) := by decide +kernel
theorem dX8_copy_10 : decode cX8_copy 10 = .ok (.aload_n 0, 1) := by decide +kernel
theorem dX8_copy_11 : decode cX8_copy 11 = .ok (.aload_n 1, 1) := by decide +kernel
theorem dX8_copy_12 : decode cX8_copy 12 = .ok (.iconst 0, 1) := by decide +kernel
theorem dX8_copy_13 : decode cX8_copy 13 = .ok (.aload_n 1, 1) := by decide +kernel
theorem dX8_copy_14 : decode cX8_copy 14 = .ok (.getfield 21, 3) := by decide +kernel
theorem dX8_copy_17 : decode cX8_copy 17 = .ok (.invokevirtual 31, 3) := by decide +kernel
theorem dX8_copy_20 : decode cX8_copy 20 = .ok (.return_, 1) := by decide +kernel
theorem dX8_elseOf_0 : decode cX8_elseOf 0 = .ok (.iconst 0, 1) := by decide +kernel
theorem dX8_elseOf_1 : decode cX8_elseOf 1 = .ok (.istore_n 2, 1) := by decide +kernel
theorem dX8_elseOf_2 : decode cX8_elseOf 2 = .ok (.iload_n 1, 1) := by decide +kernel
theorem dX8_elseOf_3 : decode cX8_elseOf 3 = .ok (.iconst 0, 1) := by decide +kernel
theorem dX8_elseOf_4 : decode cX8_elseOf 4 = .ok (.invokestatic 9, 3) := by decide +kernel
theorem dX8_elseOf_7 : decode cX8_elseOf 7 = .ok (.istore_n 3, 1) := by decide +kernel
theorem dX8_elseOf_8 : decode cX8_elseOf 8 = .ok (.iload_n 3, 1) := by decide +kernel
