theorem dX8_elseOf_9 : decode cX8_elseOf 9 = .ok (.aload_n 0, 1) := by decide +kernel
theorem dX8_elseOf_10 : decode cX8_elseOf 10 = .ok (.getfield 21, 3) := by decide +kernel
theorem dX8_elseOf_13 : decode cX8_elseOf 13 = .ok (.if_icmp .ge 62, 3) := by decide +kernel
theorem dX8_elseOf_16 : decode cX8_elseOf 16 = .ok (.aload_n 0, 1) := by decide +kernel
theorem dX8_elseOf_17 : decode cX8_elseOf 17 = .ok (.getfield 15, 3) := by decide +kernel
theorem dX8_elseOf_20 : decode cX8_elseOf 20 = .ok (.iload_n 3, 1) := by decide +kernel
theorem dX8_elseOf_21 : decode cX8_elseOf 21 = .ok (.iaload, 1) := by decide +kernel
theorem dX8_elseOf_22 : decode cX8_elseOf 22 = .ok (.invokestatic 52, 3) := by decide +kernel
theorem dX8_elseOf_25 : decode cX8_elseOf 25 = .ok (.ifCond .eq 9, 3) := by decide +kernel
theorem dX8_elseOf_28 : decode cX8_elseOf 28 = .ok (.iinc 2 1, 3) := by decide +kernel
theorem dX8_elseOf_31 : decode cX8_elseOf 31 = .ok (.goto 38, 3) := by decide +kernel
theorem dX8_elseOf_34 : decode cX8_elseOf 34 = .ok (.aload_n 0, 1) := by decide +kernel
theorem dX8_elseOf_35 : decode cX8_elseOf 35 = .ok (.getfield 15, 3) := by decide +kernel
theorem dX8_elseOf_38 : decode cX8_elseOf 38 = .ok (.iload_n 3, 1) := by decide +kernel
theorem dX8_elseOf_39 : decode cX8_elseOf 39 = .ok (.iaload, 1) := by decide +kernel
theorem dX8_elseOf_40 : decode cX8_elseOf 40 = .ok (.bipush 114, 2) := by decide +kernel
theorem dX8_elseOf_42 : decode cX8_elseOf 42 = .ok (.if_icmp .ne 9, 3) := by decide +kernel
theorem dX8_elseOf_45 : decode cX8_elseOf 45 = .ok (.iinc 2 (-1), 3) := by decide +kernel
theorem dX8_elseOf_48 : decode cX8_elseOf 48 = .ok (.goto 21, 3) := by decide +kernel
theorem dX8_elseOf_51 : decode cX8_elseOf 51 = .ok (.aload_n 0, 1) := by decide +kernel
theorem dX8_elseOf_52 : decode cX8_elseOf 52 = .ok (.getfield 15, 3) := by decide +kernel
theorem dX8_elseOf_55 : decode cX8_elseOf 55 = .ok (.iload_n 3, 1) := by decide +kernel
theorem dX8_elseOf_56 : decode cX8_elseOf 56 = .ok (.iaload, 1) := by decide +kernel
theorem dX8_elseOf_57 : decode cX8_elseOf 57 = .ok (.bipush 113, 2) := by decide +kernel
theorem dX8_elseOf_59 : decode cX8_elseOf 59 = .ok (.if_icmp .ne 10, 3) := by decide +kernel
theorem dX8_elseOf_62 : decode cX8_elseOf 62 = .ok (.iload_n 2, 1) := by decide +kernel
theorem dX8_elseOf_63 : decode cX8_elseOf 63 = .ok (.iconst 1, 1) := by decide +kernel
theorem dX8_elseOf_64 : decode cX8_elseOf 64 = .ok (.if_icmp .ne 5, 3) := by decide +kernel
theorem dX8_elseOf_67 : decode cX8_elseOf 67 = .ok (.iload_n 3, 1) := by decide +kernel
theorem dX8_elseOf_68 : decode cX8_elseOf 68 = .ok (.ireturn, 1) := by decide +kernel
theorem dX8_elseOf_69 : decode cX8_elseOf 69 = .ok (.iinc 3 1, 3) := by decide +kernel
theorem dX8_elseOf_72 : decode cX8_elseOf 72 = .ok (.goto (-64), 3) := by decide +kernel
theorem dX8_elseOf_75 : decode cX8_elseOf 75 = .ok (.aload_n 0, 1) := by decide +kernel
theorem dX8_elseOf_76 : decode cX8_elseOf 76 = .ok (.getfield 21, 3) := by decide +kernel
theorem dX8_elseOf_79 : decode cX8_elseOf 79 = .ok (.ireturn, 1) := by decide +kernel
theorem dX8_expressionEnd_0 : decode cX8_expressionEnd 0 = .ok (.iload_n 1, 1) := by decide +kernel
theorem dX8_expressionEnd_1 : decode cX8_expressionEnd 1 = .ok (.iconst 0, 1) := by decide +kernel
theorem dX8_expressionEnd_2 : decode cX8_expressionEnd 2 = .ok (.invokestatic 9, 3) := by decide +kernel
theorem dX8_expressionEnd_5 : decode cX8_expressionEnd 5 = .ok (.istore_n 2, 1) := by decide +kernel
theorem dX8_expressionEnd_6 : decode cX8_expressionEnd 6 = .ok (.iconst 1, 1) := by decide +kernel
theorem dX8_expressionEnd_7 : decode cX8_expressionEnd 7 = .ok (.istore_n 3, 1) := by decide +kernel
theorem dX8_expressionEnd_8 : decode cX8_expressionEnd 8 = .ok (.iload_n 3, 1) := by decide +kernel
theorem dX8_expressionEnd_9 : decode cX8_expressionEnd 9 = .ok (.ifCond .le 37, 3) := by decide +kernel
theorem dX8_expressionEnd_12 : decode cX8_expressionEnd 12 = .ok (.iload_n 2, 1) := by decide +kernel
theorem dX8_expressionEnd_13 : decode cX8_expressionEnd 13 = .ok (.aload_n 0, 1) := by decide +kernel
theorem dX8_expressionEnd_14 : decode cX8_expressionEnd 14 = .ok (.getfield 21, 3) := by decide +kernel
theorem dX8_expressionEnd_17 : decode cX8_expressionEnd 17 = .ok (.if_icmp .ge 29, 3) := by decide +kernel
theorem dX8_expressionEnd_20 : decode cX8_expressionEnd 20 = .ok (.iload_n 3, 1) := by decide +kernel
theorem dX8_expressionEnd_21 : decode cX8_expressionEnd 21 = .ok (.aload_n 0, 1) := by decide +kernel
theorem dX8_expressionEnd_22 : decode cX8_expressionEnd 22 = .ok (.getfield 15, 3) := by decide +kernel
theorem dX8_expressionEnd_25 : decode cX8_expressionEnd 25 = .ok (.iload_n 2, 1) := by decide +kernel
theorem dX8_expressionEnd_26 : decode cX8_expressionEnd 26 = .ok (.iaload, 1) := by decide +kernel
theorem dX8_expressionEnd_27 : decode cX8_expressionEnd 27 = .ok (.invokestatic 49, 3) := by decide +kernel
theorem dX8_expressionEnd_30 : decode cX8_expressionEnd 30 = .ok (.ifCond .eq 7, 3) := by decide +kernel
theorem dX8_expressionEnd_33 : decode cX8_expressionEnd 33 = .ok (.iconst 1, 1) := by decide +kernel
theorem dX8_expressionEnd_34 : decode cX8_expressionEnd 34 = .ok (.goto 4, 3) := by decide +kernel
theorem dX8_expressionEnd_37 : decode cX8_expressionEnd 37 = .ok (.iconst (-1), 1) := by decide +kernel
theorem dX8_expressionEnd_38 : decode cX8_expressionEnd 38 = .ok (.iadd, 1) := by decide +kernel
theorem dX8_expressionEnd_39 : decode cX8_expressionEnd 39 = .ok (.istore_n 3, 1) := by decide +kernel
theorem dX8_expressionEnd_40 : decode cX8_expressionEnd 40 = .ok (.iinc 2 1, 3) := by decide +kernel
theorem dX8_expressionEnd_43 : decode cX8_expressionEnd 43 = .ok (.goto (-35), 3) := by decide +kernel
theorem dX8_expressionEnd_46 : decode cX8_expressionEnd 46 = .ok (.iload_n 2, 1) := by decide +kernel
theorem dX8_expressionEnd_47 : decode cX8_expressionEnd 47 = .ok (.ireturn, 1) := by decide +kernel
theorem dX8_expressions_0 : decode cX8_expressions 0 = .ok (.iconst 0, 1) := by decide +kernel
theorem dX8_expressions_1 : decode cX8_expressions 1 = .ok (.istore_n 1, 1) := by decide +kernel
theorem dX8_expressions_2 : decode cX8_expressions 2 = .ok (.iconst 0, 1) := by decide +kernel
theorem dX8_expressions_3 : decode cX8_expressions 3 = .ok (.istore_n 2, 1) := by decide +kernel
theorem dX8_expressions_4 : decode cX8_expressions 4 = .ok (.iload_n 2, 1) := by decide +kernel
theorem dX8_expressions_5 : decode cX8_expressions 5 = .ok (.aload_n 0, 1) := by decide +kernel
theorem dX8_expressions_6 : decode cX8_expressions 6 = .ok (.getfield 21, 3) := by decide +kernel
theorem dX8_expressions_9 : decode cX8_expressions 9 = .ok (.if_icmp .ge 24, 3) := by decide +kernel
theorem dX8_expressions_12 : decode cX8_expressions 12 = .ok (.aload_n 0, 1) := by decide +kernel
theorem dX8_expressions_13 : decode cX8_expressions 13 = .ok (.getfield 15, 3) := by decide +kernel
theorem dX8_expressions_16 : decode cX8_expressions 16 = .ok (.iload_n 2, 1) := by decide +kernel
theorem dX8_expressions_17 : decode cX8_expressions 17 = .ok (.iaload, 1) := by decide +kernel
theorem dX8_expressions_18 : decode cX8_expressions 18 = .ok (.invokestatic 39, 3) := by decide +kernel
theorem dX8_expressions_21 : decode cX8_expressions 21 = .ok (.ifCond .eq 6, 3) := by decide +kernel
theorem dX8_expressions_24 : decode cX8_expressions 24 = .ok (.iinc 1 1, 3) := by decide +kernel
theorem dX8_expressions_27 : decode cX8_expressions 27 = .ok (.iinc 2 1, 3) := by decide +kernel
theorem dX8_expressions_30 : decode cX8_expressions 30 = .ok (.goto (-26), 3) := by decide +kernel
theorem dX8_expressions_33 : decode cX8_expressions 33 = .ok (.iload_n 1, 1) := by decide +kernel
theorem dX8_expressions_34 : decode cX8_expressions 34 = .ok (.ireturn, 1) := by decide +kernel
theorem dX8_has_0 : decode cX8_has 0 = .ok (.iload_n 2, 1) := by decide +kernel
theorem dX8_has_1 : decode cX8_has 1 = .ok (.iconst 0, 1) := by decide +kernel
theorem dX8_has_2 : decode cX8_has 2 = .ok (.invokestatic 9, 3) := by decide +kernel
theorem dX8_has_5 : decode cX8_has 5 = .ok (.istore 4, 2) := by decide +kernel
theorem dX8_has_7 : decode cX8_has 7 = .ok (.iload 4, 2) := by decide +kernel
theorem dX8_has_9 : decode cX8_has 9 = .ok (.iload_n 3, 1) := by decide +kernel
theorem dX8_has_10 : decode cX8_has 10 = .ok (.if_icmp .ge 31, 3) := by decide +kernel
theorem dX8_has_13 : decode cX8_has 13 = .ok (.iload 4, 2) := by decide +kernel
theorem dX8_has_15 : decode cX8_has 15 = .ok (.aload_n 0, 1) := by decide +kernel
theorem dX8_has_16 : decode cX8_has 16 = .ok (.getfield 21, 3) := by decide +kernel
theorem dX8_has_19 : decode cX8_has 19 = .ok (.if_icmp .ge 22, 3) := by decide +kernel
theorem dX8_has_22 : decode cX8_has 22 = .ok (.aload_n 0, 1) := by decide +kernel
theorem dX8_has_23 : decode cX8_has 23 = .ok (.getfield 15, 3) := by decide +kernel
theorem dX8_has_26 : decode cX8_has 26 = .ok (.iload 4, 2) := by decide +kernel
theorem dX8_has_28 : decode cX8_has 28 = .ok (.iaload, 1) := by decide +kernel
theorem dX8_has_29 : decode cX8_has 29 = .ok (.iload_n 1, 1) := by decide +kernel
theorem dX8_has_30 : decode cX8_has 30 = .ok (.if_icmp .ne 5, 3) := by decide +kernel
theorem dX8_has_33 : decode cX8_has 33 = .ok (.iconst 1, 1) := by decide +kernel
theorem dX8_has_34 : decode cX8_has 34 = .ok (.ireturn, 1) := by decide +kernel
theorem dX8_has_35 : decode cX8_has 35 = .ok (.iinc 4 1, 3) := by decide +kernel
theorem dX8_has_38 : decode cX8_has 38 = .ok (.goto (-31), 3) := by decide +kernel
theorem dX8_has_41 : decode cX8_has 41 = .ok (.iconst 0, 1) := by decide +kernel
theorem dX8_has_42 : decode cX8_has 42 = .ok (.ireturn, 1) := by decide +kernel
theorem dX8_holds_0 : decode cX8_holds 0 = .ok (.iload_n 0, 1) := by decide +kernel
theorem dX8_holds_1 : decode cX8_holds 1 = .ok (.sipush 130, 3) := by decide +kernel
theorem dX8_holds_4 : decode cX8_holds 4 = .ok (.if_icmp .ne 16, 3) := by decide +kernel
theorem dX8_holds_7 : decode cX8_holds 7 = .ok (.iload_n 1, 1) := by decide +kernel
theorem dX8_holds_8 : decode cX8_holds 8 = .ok (.iload_n 2, 1) := by decide +kernel
theorem dX8_holds_9 : decode cX8_holds 9 = .ok (.if_icmp .ge 7, 3) := by decide +kernel
theorem dX8_holds_12 : decode cX8_holds 12 = .ok (.iconst 1, 1) := by decide +kernel
theorem dX8_holds_13 : decode cX8_holds 13 = .ok (.goto 37, 3) := by decide +kernel
theorem dX8_holds_16 : decode cX8_holds 16 = .ok (.iconst 0, 1) := by decide +kernel
theorem dX8_holds_17 : decode cX8_holds 17 = .ok (.goto 33, 3) := by decide +kernel
theorem dX8_holds_20 : decode cX8_holds 20 = .ok (.iload_n 0, 1) := by decide +kernel
theorem dX8_holds_21 : decode cX8_holds 21 = .ok (.sipush 131, 3) := by decide +kernel
theorem dX8_holds_24 : decode cX8_holds 24 = .ok (.if_icmp .ne 16, 3) := by decide +kernel
theorem dX8_holds_27 : decode cX8_holds 27 = .ok (.iload_n 1, 1) := by decide +kernel
theorem dX8_holds_28 : decode cX8_holds 28 = .ok (.iload_n 2, 1) := by decide +kernel
theorem dX8_holds_29 : decode cX8_holds 29 = .ok (.if_icmp .ne 7, 3) := by decide +kernel
theorem dX8_holds_32 : decode cX8_holds 32 = .ok (.iconst 1, 1) := by decide +kernel
theorem dX8_holds_33 : decode cX8_holds 33 = .ok (.goto 17, 3) := by decide +kernel
theorem dX8_holds_36 : decode cX8_holds 36 = .ok (.iconst 0, 1) := by decide +kernel
theorem dX8_holds_37 : decode cX8_holds 37 = .ok (.goto 13, 3) := by decide +kernel
theorem dX8_holds_40 : decode cX8_holds 40 = .ok (.iload_n 1, 1) := by decide +kernel
theorem dX8_holds_41 : decode cX8_holds 41 = .ok (.iload_n 2, 1) := by decide +kernel
theorem dX8_holds_42 : decode cX8_holds 42 = .ok (.if_icmp .le 7, 3) := by decide +kernel
theorem dX8_holds_45 : decode cX8_holds 45 = .ok (.iconst 1, 1) := by decide +kernel
theorem dX8_holds_46 : decode cX8_holds 46 = .ok (.goto 4, 3) := by decide +kernel
theorem dX8_holds_49 : decode cX8_holds 49 = .ok (.iconst 0, 1) := by decide +kernel
theorem dX8_holds_50 : decode cX8_holds 50 = .ok (.ireturn, 1) := by decide +kernel
theorem dX8_insert_0 : decode cX8_insert 0 = .ok (.iload_n 1, 1) := by decide +kernel
theorem dX8_insert_1 : decode cX8_insert 1 = .ok (.ifCond .lt 61, 3) := by decide +kernel
theorem dX8_insert_4 : decode cX8_insert 4 = .ok (.iload_n 1, 1) := by decide +kernel
theorem dX8_insert_5 : decode cX8_insert 5 = .ok (.aload_n 0, 1) := by decide +kernel
theorem dX8_insert_6 : decode cX8_insert 6 = .ok (.getfield 21, 3) := by decide +kernel
theorem dX8_insert_9 : decode cX8_insert 9 = .ok (.if_icmp .gt 53, 3) := by decide +kernel
theorem dX8_insert_12 : decode cX8_insert 12 = .ok (.aload_n 0, 1) := by decide +kernel
theorem dX8_insert_13 : decode cX8_insert 13 = .ok (.getfield 21, 3) := by decide +kernel
theorem dX8_insert_16 : decode cX8_insert 16 = .ok (.aload_n 0, 1) := by decide +kernel
theorem dX8_insert_17 : decode cX8_insert 17 = .ok (.getfield 15, 3) := by decide +kernel
theorem dX8_insert_20 : decode cX8_insert 20 = .ok (.arraylength, 1) := by decide +kernel
theorem dX8_insert_21 : decode cX8_insert 21 = .ok (.if_icmp .ge 41, 3) := by decide +kernel
theorem dX8_insert_24 : decode cX8_insert 24 = .ok (.aload_n 0, 1) := by decide +kernel
theorem dX8_insert_25 : decode cX8_insert 25 = .ok (.getfield 15, 3) := by decide +kernel
theorem dX8_insert_28 : decode cX8_insert 28 = .ok (.iload_n 1, 1) := by decide +kernel
theorem dX8_insert_29 : decode cX8_insert 29 = .ok (.aload_n 0, 1) := by decide +kernel
theorem dX8_insert_30 : decode cX8_insert 30 = .ok (.getfield 15, 3) := by decide +kernel
theorem dX8_insert_33 : decode cX8_insert 33 = .ok (.iload_n 1, 1) := by decide +kernel
theorem dX8_insert_34 : decode cX8_insert 34 = .ok (.iconst 1, 1) := by decide +kernel
theorem dX8_insert_35 : decode cX8_insert 35 = .ok (.iadd, 1) := by decide +kernel
theorem dX8_insert_36 : decode cX8_insert 36 = .ok (.aload_n 0, 1) := by decide +kernel
theorem dX8_insert_37 : decode cX8_insert 37 = .ok (.getfield 21, 3) := by decide +kernel
theorem dX8_insert_40 : decode cX8_insert 40 = .ok (.iload_n 1, 1) := by decide +kernel
theorem dX8_insert_41 : decode cX8_insert 41 = .ok (.isub, 1) := by decide +kernel
theorem dX8_insert_42 : decode cX8_insert 42 = .ok (.invokestatic 25, 3) := by decide +kernel
theorem dX8_insert_45 : decode cX8_insert 45 = .ok (.aload_n 0, 1) := by decide +kernel
theorem dX8_insert_46 : decode cX8_insert 46 = .ok (.getfield 15, 3) := by decide +kernel
theorem dX8_insert_49 : decode cX8_insert 49 = .ok (.iload_n 1, 1) := by decide +kernel
theorem dX8_insert_50 : decode cX8_insert 50 = .ok (.iload_n 2, 1) := by decide +kernel
theorem dX8_insert_51 : decode cX8_insert 51 = .ok (.iastore, 1) := by decide +kernel
theorem dX8_insert_52 : decode cX8_insert 52 = .ok (.aload_n 0, 1) := by decide +kernel
theorem dX8_insert_53 : decode cX8_insert 53 = .ok (.dup, 1) := by decide +kernel
theorem dX8_insert_54 : decode cX8_insert 54 = .ok (.getfield 21, 3) := by decide +kernel
theorem dX8_insert_57 : decode cX8_insert 57 = .ok (.iconst 1, 1) := by decide +kernel
theorem dX8_insert_58 : decode cX8_insert 58 = .ok (.iadd, 1) := by decide +kernel
theorem dX8_insert_59 : decode cX8_insert 59 = .ok (.putfield 21, 3) := by decide +kernel
theorem dX8_insert_62 : decode cX8_insert 62 = .ok (.return_, 1) := by decide +kernel
theorem dX8_isBranch_0 : decode cX8_isBranch 0 = .ok (.iload_n 0, 1) := by decide +kernel
theorem dX8_isBranch_1 : decode cX8_isBranch 1 = .ok (.bipush 112, 2) := by decide +kernel
theorem dX8_isBranch_3 : decode cX8_isBranch 3 = .ok (.if_icmp .eq 9, 3) := by decide +kernel
theorem dX8_isBranch_6 : decode cX8_isBranch 6 = .ok (.iload_n 0, 1) := by decide +kernel
theorem dX8_isBranch_7 : decode cX8_isBranch 7 = .ok (.bipush 115, 2) := by decide +kernel
theorem dX8_isBranch_9 : decode cX8_isBranch 9 = .ok (.if_icmp .ne 7, 3) := by decide +kernel
theorem dX8_isBranch_12 : decode cX8_isBranch 12 = .ok (.iconst 1, 1) := by decide +kernel
theorem dX8_isBranch_13 : decode cX8_isBranch 13 = .ok (.goto 4, 3) := by decide +kernel
theorem dX8_isBranch_16 : decode cX8_isBranch 16 = .ok (.iconst 0, 1) := by decide +kernel
theorem dX8_isBranch_17 : decode cX8_isBranch 17 = .ok (.ireturn, 1) := by decide +kernel
theorem dX8_isExpression_0 : decode cX8_isExpression 0 = .ok (.iload_n 0, 1) := by decide +kernel
theorem dX8_isExpression_1 : decode cX8_isExpression 1 = .ok (.ifCond .lt 9, 3) := by decide +kernel
theorem dX8_isExpression_4 : decode cX8_isExpression 4 = .ok (.iload_n 0, 1) := by decide +kernel
theorem dX8_isExpression_5 : decode cX8_isExpression 5 = .ok (.bipush 16, 2) := by decide +kernel
theorem dX8_isExpression_7 : decode cX8_isExpression 7 = .ok (.if_icmp .lt 27, 3) := by decide +kernel
theorem dX8_isExpression_10 : decode cX8_isExpression 10 = .ok (.iload_n 0, 1) := by decide +kernel
theorem dX8_isExpression_11 : decode cX8_isExpression 11 = .ok (.bipush 20, 2) := by decide +kernel
theorem dX8_isExpression_13 : decode cX8_isExpression 13 = .ok (.if_icmp .lt 9, 3) := by decide +kernel
theorem dX8_isExpression_16 : decode cX8_isExpression 16 = .ok (.iload_n 0, 1) := by decide +kernel
theorem dX8_isExpression_17 : decode cX8_isExpression 17 = .ok (.bipush 26, 2) := by decide +kernel
theorem dX8_isExpression_19 : decode cX8_isExpression 19 = .ok (.if_icmp .lt 15, 3) := by decide +kernel
theorem dX8_isExpression_22 : decode cX8_isExpression 22 = .ok (.iload_n 0, 1) := by decide +kernel
theorem dX8_isExpression_23 : decode cX8_isExpression 23 = .ok (.bipush 120, 2) := by decide +kernel
theorem dX8_isExpression_25 : decode cX8_isExpression 25 = .ok (.if_icmp .lt 13, 3) := by decide +kernel
theorem dX8_isExpression_28 : decode cX8_isExpression 28 = .ok (.iload_n 0, 1) := by decide +kernel
theorem dX8_isExpression_29 : decode cX8_isExpression 29 = .ok (.bipush 122, 2) := by decide +kernel
theorem dX8_isExpression_31 : decode cX8_isExpression 31 = .ok (.if_icmp .gt 7, 3) := by decide +kernel
theorem dX8_isExpression_34 : decode cX8_isExpression 34 = .ok (.iconst 1, 1) := by decide +kernel
theorem dX8_isExpression_35 : decode cX8_isExpression 35 = .ok (.goto 4, 3) := by decide +kernel
theorem dX8_isExpression_38 : decode cX8_isExpression 38 = .ok (.iconst 0, 1) := by decide +kernel
theorem dX8_isExpression_39 : decode cX8_isExpression 39 = .ok (.ireturn, 1) := by decide +kernel
theorem dX8_isLike_0 : decode cX8_isLike 0 = .ok (.aload_n 0, 1) := by decide +kernel
theorem dX8_isLike_1 : decode cX8_isLike 1 = .ok (.getfield 21, 3) := by decide +kernel
theorem dX8_isLike_4 : decode cX8_isLike 4 = .ok (.aload_n 1, 1) := by decide +kernel
theorem dX8_isLike_5 : decode cX8_isLike 5 = .ok (.getfield 21, 3) := by decide +kernel
theorem dX8_isLike_8 : decode cX8_isLike 8 = .ok (.if_icmp .eq 5, 3) := by decide +kernel
theorem dX8_isLike_11 : decode cX8_isLike 11 = .ok (.iconst 0, 1) := by decide +kernel
theorem dX8_isLike_12 : decode cX8_isLike 12 = .ok (.ireturn, 1) := by decide +kernel
theorem dX8_isLike_13 : decode cX8_isLike 13 = .ok (.iconst 0, 1) := by decide +kernel
theorem dX8_isLike_14 : decode cX8_isLike 14 = .ok (.istore_n 2, 1) := by decide +kernel
theorem dX8_isLike_15 : decode cX8_isLike 15 = .ok (.iload_n 2, 1) := by decide +kernel
theorem dX8_isLike_16 : decode cX8_isLike 16 = .ok (.aload_n 0, 1) := by decide +kernel
theorem dX8_isLike_17 : decode cX8_isLike 17 = .ok (.getfield 21, 3) := by decide +kernel
theorem dX8_isLike_20 : decode cX8_isLike 20 = .ok (.if_icmp .ge 26, 3) := by decide +kernel
theorem dX8_isLike_23 : decode cX8_isLike 23 = .ok (.aload_n 0, 1) := by decide +kernel
theorem dX8_isLike_24 : decode cX8_isLike 24 = .ok (.getfield 15, 3) := by decide +kernel
theorem dX8_isLike_27 : decode cX8_isLike 27 = .ok (.iload_n 2, 1) := by decide +kernel
theorem dX8_isLike_28 : decode cX8_isLike 28 = .ok (.iaload, 1) := by decide +kernel
theorem dX8_isLike_29 : decode cX8_isLike 29 = .ok (.aload_n 1, 1) := by decide +kernel
theorem dX8_isLike_30 : decode cX8_isLike 30 = .ok (.getfield 15, 3) := by decide +kernel
theorem dX8_isLike_33 : decode cX8_isLike 33 = .ok (.iload_n 2, 1) := by decide +kernel
theorem dX8_isLike_34 : decode cX8_isLike 34 = .ok (.iaload, 1) := by decide +kernel
theorem dX8_isLike_35 : decode cX8_isLike 35 = .ok (.if_icmp .eq 5, 3) := by decide +kernel
theorem dX8_isLike_38 : decode cX8_isLike 38 = .ok (.iconst 0, 1) := by decide +kernel
theorem dX8_isLike_39 : decode cX8_isLike 39 = .ok (.ireturn, 1) := by decide +kernel
theorem dX8_isLike_40 : decode cX8_isLike 40 = .ok (.iinc 2 1, 3) := by decide +kernel
theorem dX8_isLike_43 : decode cX8_isLike 43 = .ok (.goto (-28), 3) := by decide +kernel
theorem dX8_isLike_46 : decode cX8_isLike 46 = .ok (.iconst 1, 1) := by decide +kernel
theorem dX8_isLike_47 : decode cX8_isLike 47 = .ok (.ireturn, 1) := by decide +kernel
theorem dX8_isNumber_0 : decode cX8_isNumber 0 = .ok (.iload_n 0, 1) := by decide +kernel
theorem dX8_isNumber_1 : decode cX8_isNumber 1 = .ok (.ifCond .lt 13, 3) := by decide +kernel
theorem dX8_isNumber_4 : decode cX8_isNumber 4 = .ok (.iload_n 0, 1) := by decide +kernel
theorem dX8_isNumber_5 : decode cX8_isNumber 5 = .ok (.bipush 16, 2) := by decide +kernel
theorem dX8_isNumber_7 : decode cX8_isNumber 7 = .ok (.if_icmp .ge 7, 3) := by decide +kernel
theorem dX8_isNumber_10 : decode cX8_isNumber 10 = .ok (.iconst 1, 1) := by decide +kernel
theorem dX8_isNumber_11 : decode cX8_isNumber 11 = .ok (.goto 4, 3) := by decide +kernel
theorem dX8_isNumber_14 : decode cX8_isNumber 14 = .ok (.iconst 0, 1) := by decide +kernel
theorem dX8_isNumber_15 : decode cX8_isNumber 15 = .ok (.ireturn, 1) := by decide +kernel
theorem dX8_isOperation_0 : decode cX8_isOperation 0 = .ok (.iload_n 0, 1) := by decide +kernel
theorem dX8_isOperation_1 : decode cX8_isOperation 1 = .ok (.bipush 120, 2) := by decide +kernel
theorem dX8_isOperation_3 : decode cX8_isOperation 3 = .ok (.if_icmp .lt 13, 3) := by decide +kernel
theorem dX8_isOperation_6 : decode cX8_isOperation 6 = .ok (.iload_n 0, 1) := by decide +kernel
theorem dX8_isOperation_7 : decode cX8_isOperation 7 = .ok (.bipush 122, 2) := by decide +kernel
theorem dX8_isOperation_9 : decode cX8_isOperation 9 = .ok (.if_icmp .gt 7, 3) := by decide +kernel
theorem dX8_isOperation_12 : decode cX8_isOperation 12 = .ok (.iconst 1, 1) := by decide +kernel
theorem dX8_isOperation_13 : decode cX8_isOperation 13 = .ok (.goto 4, 3) := by decide +kernel
theorem dX8_isOperation_16 : decode cX8_isOperation 16 = .ok (.iconst 0, 1) := by decide +kernel
theorem dX8_isOperation_17 : decode cX8_isOperation 17 = .ok (.ireturn, 1) := by decide +kernel
theorem dX8_isRead_0 : decode cX8_isRead 0 = .ok (.iload_n 0, 1) := by decide +kernel
theorem dX8_isRead_1 : decode cX8_isRead 1 = .ok (.bipush 20, 2) := by decide +kernel
theorem dX8_isRead_3 : decode cX8_isRead 3 = .ok (.if_icmp .lt 13, 3) := by decide +kernel
theorem dX8_isRead_6 : decode cX8_isRead 6 = .ok (.iload_n 0, 1) := by decide +kernel
theorem dX8_isRead_7 : decode cX8_isRead 7 = .ok (.bipush 26, 2) := by decide +kernel
theorem dX8_isRead_9 : decode cX8_isRead 9 = .ok (.if_icmp .ge 7, 3) := by decide +kernel
theorem dX8_isRead_12 : decode cX8_isRead 12 = .ok (.iconst 1, 1) := by decide +kernel
theorem dX8_isRead_13 : decode cX8_isRead 13 = .ok (.goto 4, 3) := by decide +kernel
theorem dX8_isRead_16 : decode cX8_isRead 16 = .ok (.iconst 0, 1) := by decide +kernel
theorem dX8_isRead_17 : decode cX8_isRead 17 = .ok (.ireturn, 1) := by decide +kernel
theorem dX8_isSet_0 : decode cX8_isSet 0 = .ok (.iload_n 0, 1) := by decide +kernel
theorem dX8_isSet_1 : decode cX8_isSet 1 = .ok (.bipush 100, 2) := by decide +kernel
theorem dX8_isSet_3 : decode cX8_isSet 3 = .ok (.if_icmp .lt 13, 3) := by decide +kernel
theorem dX8_isSet_6 : decode cX8_isSet 6 = .ok (.iload_n 0, 1) := by decide +kernel
theorem dX8_isSet_7 : decode cX8_isSet 7 = .ok (.bipush 106, 2) := by decide +kernel
theorem dX8_isSet_9 : decode cX8_isSet 9 = .ok (.if_icmp .ge 7, 3) := by decide +kernel
theorem dX8_isSet_12 : decode cX8_isSet 12 = .ok (.iconst 1, 1) := by decide +kernel
theorem dX8_isSet_13 : decode cX8_isSet 13 = .ok (.goto 4, 3) := by decide +kernel
theorem dX8_isSet_16 : decode cX8_isSet 16 = .ok (.iconst 0, 1) := by decide +kernel
theorem dX8_isSet_17 : decode cX8_isSet 17 = .ok (.ireturn, 1) := by decide +kernel
theorem dX8_isStatement_0 : decode cX8_isStatement 0 = .ok (.iload_n 0, 1) := by decide +kernel
theorem dX8_isStatement_1 : decode cX8_isStatement 1 = .ok (.bipush 100, 2) := by decide +kernel
theorem dX8_isStatement_3 : decode cX8_isStatement 3 = .ok (.if_icmp .lt 9, 3) := by decide +kernel
theorem dX8_isStatement_6 : decode cX8_isStatement 6 = .ok (.iload_n 0, 1) := by decide +kernel
theorem dX8_isStatement_7 : decode cX8_isStatement 7 = .ok (.bipush 106, 2) := by decide +kernel
theorem dX8_isStatement_9 : decode cX8_isStatement 9 = .ok (.if_icmp .lt 27, 3) := by decide +kernel
theorem dX8_isStatement_12 : decode cX8_isStatement 12 = .ok (.iload_n 0, 1) := by decide +kernel
theorem dX8_isStatement_13 : decode cX8_isStatement 13 = .ok (.bipush 110, 2) := by decide +kernel
theorem dX8_isStatement_15 : decode cX8_isStatement 15 = .ok (.if_icmp .eq 21, 3) := by decide +kernel
theorem dX8_isStatement_18 : decode cX8_isStatement 18 = .ok (.iload_n 0, 1) := by decide +kernel
theorem dX8_isStatement_19 : decode cX8_isStatement 19 = .ok (.bipush 111, 2) := by decide +kernel
theorem dX8_isStatement_21 : decode cX8_isStatement 21 = .ok (.if_icmp .eq 15, 3) := by decide +kernel
theorem dX8_isStatement_24 : decode cX8_isStatement 24 = .ok (.iload_n 0, 1) := by decide +kernel
theorem dX8_isStatement_25 : decode cX8_isStatement 25 = .ok (.bipush 112, 2) := by decide +kernel
theorem dX8_isStatement_27 : decode cX8_isStatement 27 = .ok (.if_icmp .eq 9, 3) := by decide +kernel
theorem dX8_isStatement_30 : decode cX8_isStatement 30 = .ok (.iload_n 0, 1) := by decide +kernel
theorem dX8_isStatement_31 : decode cX8_isStatement 31 = .ok (.bipush 115, 2) := by decide +kernel
theorem dX8_isStatement_33 : decode cX8_isStatement 33 = .ok (.if_icmp .ne 7, 3) := by decide +kernel
theorem dX8_isStatement_36 : decode cX8_isStatement 36 = .ok (.iconst 1, 1) := by decide +kernel
theorem dX8_isStatement_37 : decode cX8_isStatement 37 = .ok (.goto 4, 3) := by decide +kernel
theorem dX8_isStatement_40 : decode cX8_isStatement 40 = .ok (.iconst 0, 1) := by decide +kernel
theorem dX8_isStatement_41 : decode cX8_isStatement 41 = .ok (.ireturn, 1) := by decide +kernel
theorem dX8_isTooLarge_0 : decode cX8_isTooLarge 0 = .ok (.aload_n 0, 1) := by decide +kernel
theorem dX8_isTooLarge_1 : decode cX8_isTooLarge 1 = .ok (.invokevirtual 42, 3) := by decide +kernel
theorem dX8_isTooLarge_4 : decode cX8_isTooLarge 4 = .ok (.bipush 40, 2) := by decide +kernel
theorem dX8_isTooLarge_6 : decode cX8_isTooLarge 6 = .ok (.if_icmp .gt 13, 3) := by decide +kernel
theorem dX8_isTooLarge_9 : decode cX8_isTooLarge 9 = .ok (.aload_n 0, 1) := by decide +kernel
theorem dX8_isTooLarge_10 : decode cX8_isTooLarge 10 = .ok (.invokevirtual 46, 3) := by decide +kernel
theorem dX8_isTooLarge_13 : decode cX8_isTooLarge 13 = .ok (.sipush 300, 3) := by decide +kernel
theorem dX8_isTooLarge_16 : decode cX8_isTooLarge 16 = .ok (.if_icmp .le 7, 3) := by decide +kernel
theorem dX8_isTooLarge_19 : decode cX8_isTooLarge 19 = .ok (.iconst 1, 1) := by decide +kernel
theorem dX8_isTooLarge_20 : decode cX8_isTooLarge 20 = .ok (.goto 4, 3) := by decide +kernel
theorem dX8_isTooLarge_23 : decode cX8_isTooLarge 23 = .ok (.iconst 0, 1) := by decide +kernel
theorem dX8_isTooLarge_24 : decode cX8_isTooLarge 24 = .ok (.ireturn, 1) := by decide +kernel
theorem dX8_reckon_0 : decode cX8_reckon 0 = .ok (.iconst 0, 1) := by decide +kernel
theorem dX8_reckon_1 : decode cX8_reckon 1 = .ok (.istore 5, 2) := by decide +kernel
theorem dX8_reckon_3 : decode cX8_reckon 3 = .ok (.iload_n 2, 1) := by decide +kernel
theorem dX8_reckon_4 : decode cX8_reckon 4 = .ok (.aload_n 0, 1) := by decide +kernel
theorem dX8_reckon_5 : decode cX8_reckon 5 = .ok (.getfield 21, 3) := by decide +kernel
theorem dX8_reckon_8 : decode cX8_reckon 8 = .ok (.invokestatic 65, 3) := by decide +kernel
theorem dX8_reckon_11 : decode cX8_reckon 11 = .ok (.iconst 1, 1) := by decide +kernel
theorem dX8_reckon_12 : decode cX8_reckon 12 = .ok (.isub, 1) := by decide +kernel
theorem dX8_reckon_13 : decode cX8_reckon 13 = .ok (.istore 6, 2) := by decide +kernel
theorem dX8_reckon_15 : decode cX8_reckon 15 = .ok (.iload 6, 2) := by decide +kernel
theorem dX8_reckon_17 : decode cX8_reckon 17 = .ok (.iload_n 1, 1) := by decide +kernel
theorem dX8_reckon_18 : decode cX8_reckon 18 = .ok (.if_icmp .lt 125, 3) := by decide +kernel
theorem dX8_reckon_21 : decode cX8_reckon 21 = .ok (.iload 6, 2) := by decide +kernel
theorem dX8_reckon_23 : decode cX8_reckon 23 = .ok (.ifCond .lt 120, 3) := by decide +kernel
theorem dX8_reckon_26 : decode cX8_reckon 26 = .ok (.aload_n 0, 1) := by decide +kernel
theorem dX8_reckon_27 : decode cX8_reckon 27 = .ok (.getfield 15, 3) := by decide +kernel
theorem dX8_reckon_30 : decode cX8_reckon 30 = .ok (.iload 6, 2) := by decide +kernel
theorem dX8_reckon_32 : decode cX8_reckon 32 = .ok (.iaload, 1) := by decide +kernel
theorem dX8_reckon_33 : decode cX8_reckon 33 = .ok (.istore 7, 2) := by decide +kernel
theorem dX8_reckon_35 : decode cX8_reckon 35 = .ok (.iload 7, 2) := by decide +kernel
theorem dX8_reckon_37 : decode cX8_reckon 37 = .ok (.invokestatic 49, 3) := by decide +kernel
theorem dX8_reckon_40 : decode cX8_reckon 40 = .ok (.ifCond .eq 49, 3) := by decide +kernel
theorem dX8_reckon_43 : decode cX8_reckon 43 = .ok (.iload 5, 2) := by decide +kernel
theorem dX8_reckon_45 : decode cX8_reckon 45 = .ok (.iconst 2, 1) := by decide +kernel
theorem dX8_reckon_46 : decode cX8_reckon 46 = .ok (.if_icmp .lt 91, 3) := by decide +kernel
theorem dX8_reckon_49 : decode cX8_reckon 49 = .ok (.iload 5, 2) := by decide +kernel
theorem dX8_reckon_51 : decode cX8_reckon 51 = .ok (.aload 4, 2) := by decide +kernel
theorem dX8_reckon_53 : decode cX8_reckon 53 = .ok (.arraylength, 1) := by decide +kernel
theorem dX8_reckon_54 : decode cX8_reckon 54 = .ok (.if_icmp .gt 83, 3) := by decide +kernel
theorem dX8_reckon_57 : decode cX8_reckon 57 = .ok (.aload 4, 2) := by decide +kernel
theorem dX8_reckon_59 : decode cX8_reckon 59 = .ok (.iload 5, 2) := by decide +kernel
theorem dX8_reckon_61 : decode cX8_reckon 61 = .ok (.iconst 2, 1) := by decide +kernel
theorem dX8_reckon_62 : decode cX8_reckon 62 = .ok (.isub, 1) := by decide +kernel
theorem dX8_reckon_63 : decode cX8_reckon 63 = .ok (.iload 7, 2) := by decide +kernel
theorem dX8_reckon_65 : decode cX8_reckon 65 = .ok (.aload 4, 2) := by decide +kernel
theorem dX8_reckon_67 : decode cX8_reckon 67 = .ok (.iload 5, 2) := by decide +kernel
theorem dX8_reckon_69 : decode cX8_reckon 69 = .ok (.iconst 1, 1) := by decide +kernel
theorem dX8_reckon_70 : decode cX8_reckon 70 = .ok (.isub, 1) := by decide +kernel
theorem dX8_reckon_71 : decode cX8_reckon 71 = .ok (.iaload, 1) := by decide +kernel
theorem dX8_reckon_72 : decode cX8_reckon 72 = .ok (.aload 4, 2) := by decide +kernel
theorem dX8_reckon_74 : decode cX8_reckon 74 = .ok (.iload 5, 2) := by decide +kernel
theorem dX8_reckon_76 : decode cX8_reckon 76 = .ok (.iconst 2, 1) := by decide +kernel
theorem dX8_reckon_77 : decode cX8_reckon 77 = .ok (.isub, 1) := by decide +kernel
theorem dX8_reckon_78 : decode cX8_reckon 78 = .ok (.iaload, 1) := by decide +kernel
theorem dX8_reckon_79 : decode cX8_reckon 79 = .ok (.invokestatic 68, 3) := by decide +kernel
theorem dX8_reckon_82 : decode cX8_reckon 82 = .ok (.iastore, 1) := by decide +kernel
theorem dX8_reckon_83 : decode cX8_reckon 83 = .ok (.iinc 5 (-1), 3) := by decide +kernel
theorem dX8_reckon_86 : decode cX8_reckon 86 = .ok (.goto 51, 3) := by decide +kernel
theorem dX8_reckon_89 : decode cX8_reckon 89 = .ok (.iload 5, 2) := by decide +kernel
theorem dX8_reckon_91 : decode cX8_reckon 91 = .ok (.aload 4, 2) := by decide +kernel
theorem dX8_reckon_93 : decode cX8_reckon 93 = .ok (.arraylength, 1) := by decide +kernel
theorem dX8_reckon_94 : decode cX8_reckon 94 = .ok (.if_icmp .ge 43, 3) := by decide +kernel
theorem dX8_reckon_97 : decode cX8_reckon 97 = .ok (.iload 7, 2) := by decide +kernel
theorem dX8_reckon_99 : decode cX8_reckon 99 = .ok (.bipush 20, 2) := by decide +kernel
theorem dX8_reckon_101 : decode cX8_reckon 101 = .ok (.isub, 1) := by decide +kernel
theorem dX8_reckon_102 : decode cX8_reckon 102 = .ok (.istore 8, 2) := by decide +kernel
theorem dX8_reckon_104 : decode cX8_reckon 104 = .ok (.aload 4, 2) := by decide +kernel
theorem dX8_reckon_106 : decode cX8_reckon 106 = .ok (.iload 5, 2) := by decide +kernel
theorem dX8_reckon_108 : decode cX8_reckon 108 = .ok (.iload 8, 2) := by decide +kernel
theorem dX8_reckon_110 : decode cX8_reckon 110 = .ok (.ifCond .ge 8, 3) := by decide +kernel
theorem dX8_reckon_113 : decode cX8_reckon 113 = .ok (.iload 7, 2) := by decide +kernel
theorem dX8_reckon_115 : decode cX8_reckon 115 = .ok (.goto 18, 3) := by decide +kernel
theorem dX8_reckon_118 : decode cX8_reckon 118 = .ok (.iload 8, 2) := by decide +kernel
theorem dX8_reckon_120 : decode cX8_reckon 120 = .ok (.aload_n 3, 1) := by decide +kernel
theorem dX8_reckon_121 : decode cX8_reckon 121 = .ok (.arraylength, 1) := by decide +kernel
theorem dX8_reckon_122 : decode cX8_reckon 122 = .ok (.if_icmp .ge 10, 3) := by decide +kernel
theorem dX8_reckon_125 : decode cX8_reckon 125 = .ok (.aload_n 3, 1) := by decide +kernel
theorem dX8_reckon_126 : decode cX8_reckon 126 = .ok (.iload 8, 2) := by decide +kernel
theorem dX8_reckon_128 : decode cX8_reckon 128 = .ok (.iaload, 1) := by decide +kernel
theorem dX8_reckon_129 : decode cX8_reckon 129 = .ok (.goto 4, 3) := by decide +kernel
theorem dX8_reckon_132 : decode cX8_reckon 132 = .ok (.iconst 0, 1) := by decide +kernel
theorem dX8_reckon_133 : decode cX8_reckon 133 = .ok (.iastore, 1) := by decide +kernel
theorem dX8_reckon_134 : decode cX8_reckon 134 = .ok (.iinc 5 1, 3) := by decide +kernel
theorem dX8_reckon_137 : decode cX8_reckon 137 = .ok (.iinc 6 (-1), 3) := by decide +kernel
theorem dX8_reckon_140 : decode cX8_reckon 140 = .ok (.goto (-125), 3) := by decide +kernel
theorem dX8_reckon_143 : decode cX8_reckon 143 = .ok (.return_, 1) := by decide +kernel
theorem dX8_remove_0 : decode cX8_remove 0 = .ok (.iload_n 1, 1) := by decide +kernel
theorem dX8_remove_1 : decode cX8_remove 1 = .ok (.ifCond .lt 47, 3) := by decide +kernel
theorem dX8_remove_4 : decode cX8_remove 4 = .ok (.iload_n 1, 1) := by decide +kernel
theorem dX8_remove_5 : decode cX8_remove 5 = .ok (.iload_n 2, 1) := by decide +kernel
theorem dX8_remove_6 : decode cX8_remove 6 = .ok (.if_icmp .ge 42, 3) := by decide +kernel
theorem dX8_remove_9 : decode cX8_remove 9 = .ok (.iload_n 2, 1) := by decide +kernel
theorem dX8_remove_10 : decode cX8_remove 10 = .ok (.aload_n 0, 1) := by decide +kernel
theorem dX8_remove_11 : decode cX8_remove 11 = .ok (.getfield 21, 3) := by decide +kernel
theorem dX8_remove_14 : decode cX8_remove 14 = .ok (.if_icmp .gt 34, 3) := by decide +kernel
theorem dX8_remove_17 : decode cX8_remove 17 = .ok (.aload_n 0, 1) := by decide +kernel
theorem dX8_remove_18 : decode cX8_remove 18 = .ok (.getfield 15, 3) := by decide +kernel
theorem dX8_remove_21 : decode cX8_remove 21 = .ok (.iload_n 2, 1) := by decide +kernel
theorem dX8_remove_22 : decode cX8_remove 22 = .ok (.aload_n 0, 1) := by decide +kernel
theorem dX8_remove_23 : decode cX8_remove 23 = .ok (.getfield 15, 3) := by decide +kernel
theorem dX8_remove_26 : decode cX8_remove 26 = .ok (.iload_n 1, 1) := by decide +kernel
theorem dX8_remove_27 : decode cX8_remove 27 = .ok (.aload_n 0, 1) := by decide +kernel
theorem dX8_remove_28 : decode cX8_remove 28 = .ok (.getfield 21, 3) := by decide +kernel
theorem dX8_remove_31 : decode cX8_remove 31 = .ok (.iload_n 2, 1) := by decide +kernel
theorem dX8_remove_32 : decode cX8_remove 32 = .ok (.isub, 1) := by decide +kernel
theorem dX8_remove_33 : decode cX8_remove 33 = .ok (.invokestatic 25, 3) := by decide +kernel
theorem dX8_remove_36 : decode cX8_remove 36 = .ok (.aload_n 0, 1) := by decide +kernel
theorem dX8_remove_37 : decode cX8_remove 37 = .ok (.dup, 1) := by decide +kernel
theorem dX8_remove_38 : decode cX8_remove 38 = .ok (.getfield 21, 3) := by decide +kernel
theorem dX8_remove_41 : decode cX8_remove 41 = .ok (.iload_n 2, 1) := by decide +kernel
theorem dX8_remove_42 : decode cX8_remove 42 = .ok (.iload_n 1, 1) := by decide +kernel
theorem dX8_remove_43 : decode cX8_remove 43 = .ok (.isub, 1) := by decide +kernel
theorem dX8_remove_44 : decode cX8_remove 44 = .ok (.isub, 1) := by decide +kernel
theorem dX8_remove_45 : decode cX8_remove 45 = .ok (.putfield 21, 3) := by decide +kernel
theorem dX8_remove_48 : decode cX8_remove 48 = .ok (.return_, 1) := by decide +kernel
theorem dX8_repeats_0 : decode cX8_repeats 0 = .ok (.iload_n 1, 1) := by decide +kernel
theorem dX8_repeats_1 : decode cX8_repeats 1 = .ok (.ifCond .lt 27, 3) := by decide +kernel
theorem dX8_repeats_4 : decode cX8_repeats 4 = .ok (.iload_n 2, 1) := by decide +kernel
theorem dX8_repeats_5 : decode cX8_repeats 5 = .ok (.ifCond .lt 23, 3) := by decide +kernel
theorem dX8_repeats_8 : decode cX8_repeats 8 = .ok (.iload_n 3, 1) := by decide +kernel
theorem dX8_repeats_9 : decode cX8_repeats 9 = .ok (.aload_n 0, 1) := by decide +kernel
theorem dX8_repeats_10 : decode cX8_repeats 10 = .ok (.getfield 21, 3) := by decide +kernel
theorem dX8_repeats_13 : decode cX8_repeats 13 = .ok (.iload_n 1, 1) := by decide +kernel
theorem dX8_repeats_14 : decode cX8_repeats 14 = .ok (.isub, 1) := by decide +kernel
theorem dX8_repeats_15 : decode cX8_repeats 15 = .ok (.if_icmp .gt 13, 3) := by decide +kernel
theorem dX8_repeats_18 : decode cX8_repeats 18 = .ok (.iload_n 3, 1) := by decide +kernel
theorem dX8_repeats_19 : decode cX8_repeats 19 = .ok (.aload_n 0, 1) := by decide +kernel
theorem dX8_repeats_20 : decode cX8_repeats 20 = .ok (.getfield 21, 3) := by decide +kernel
theorem dX8_repeats_23 : decode cX8_repeats 23 = .ok (.iload_n 2, 1) := by decide +kernel
theorem dX8_repeats_24 : decode cX8_repeats 24 = .ok (.isub, 1) := by decide +kernel
theorem dX8_repeats_25 : decode cX8_repeats 25 = .ok (.if_icmp .le 5, 3) := by decide +kernel
theorem dX8_repeats_28 : decode cX8_repeats 28 = .ok (.iconst 0, 1) := by decide +kernel
theorem dX8_repeats_29 : decode cX8_repeats 29 = .ok (.ireturn, 1) := by decide +kernel
theorem dX8_repeats_30 : decode cX8_repeats 30 = .ok (.iconst 0, 1) := by decide +kernel
theorem dX8_repeats_31 : decode cX8_repeats 31 = .ok (.istore 4, 2) := by decide +kernel
theorem dX8_repeats_33 : decode cX8_repeats 33 = .ok (.iload 4, 2) := by decide +kernel
theorem dX8_repeats_35 : decode cX8_repeats 35 = .ok (.iload_n 3, 1) := by decide +kernel
theorem dX8_repeats_36 : decode cX8_repeats 36 = .ok (.if_icmp .ge 32, 3) := by decide +kernel
theorem dX8_repeats_39 : decode cX8_repeats 39 = .ok (.aload_n 0, 1) := by decide +kernel
theorem dX8_repeats_40 : decode cX8_repeats 40 = .ok (.getfield 15, 3) := by decide +kernel
theorem dX8_repeats_43 : decode cX8_repeats 43 = .ok (.iload_n 1, 1) := by decide +kernel
theorem dX8_repeats_44 : decode cX8_repeats 44 = .ok (.iload 4, 2) := by decide +kernel
theorem dX8_repeats_46 : decode cX8_repeats 46 = .ok (.iadd, 1) := by decide +kernel
theorem dX8_repeats_47 : decode cX8_repeats 47 = .ok (.iaload, 1) := by decide +kernel
theorem dX8_repeats_48 : decode cX8_repeats 48 = .ok (.aload_n 0, 1) := by decide +kernel
theorem dX8_repeats_49 : decode cX8_repeats 49 = .ok (.getfield 15, 3) := by decide +kernel
theorem dX8_repeats_52 : decode cX8_repeats 52 = .ok (.iload_n 2, 1) := by decide +kernel
theorem dX8_repeats_53 : decode cX8_repeats 53 = .ok (.iload 4, 2) := by decide +kernel
theorem dX8_repeats_55 : decode cX8_repeats 55 = .ok (.iadd, 1) := by decide +kernel
theorem dX8_repeats_56 : decode cX8_repeats 56 = .ok (.iaload, 1) := by decide +kernel
theorem dX8_repeats_57 : decode cX8_repeats 57 = .ok (.if_icmp .eq 5, 3) := by decide +kernel
theorem dX8_repeats_60 : decode cX8_repeats 60 = .ok (.iconst 0, 1) := by decide +kernel
theorem dX8_repeats_61 : decode cX8_repeats 61 = .ok (.ireturn, 1) := by decide +kernel
theorem dX8_repeats_62 : decode cX8_repeats 62 = .ok (.iinc 4 1, 3) := by decide +kernel
theorem dX8_repeats_65 : decode cX8_repeats 65 = .ok (.goto (-32), 3) := by decide +kernel
theorem dX8_repeats_68 : decode cX8_repeats 68 = .ok (.iconst 1, 1) := by decide +kernel
theorem dX8_repeats_69 : decode cX8_repeats 69 = .ok (.ireturn, 1) := by decide +kernel
theorem dX8_replace_0 : decode cX8_replace 0 = .ok (.iload_n 3, 1) := by decide +kernel
theorem dX8_replace_1 : decode cX8_replace 1 = .ok (.iconst 0, 1) := by decide +kernel
theorem dX8_replace_2 : decode cX8_replace 2 = .ok (.invokestatic 9, 3) := by decide +kernel
theorem dX8_replace_5 : decode cX8_replace 5 = .ok (.istore 5, 2) := by decide +kernel
theorem dX8_replace_7 : decode cX8_replace 7 = .ok (.iload 5, 2) := by decide +kernel
theorem dX8_replace_9 : decode cX8_replace 9 = .ok (.iload 4, 2) := by decide +kernel
theorem dX8_replace_11 : decode cX8_replace 11 = .ok (.if_icmp .ge 37, 3) := by decide +kernel
theorem dX8_replace_14 : decode cX8_replace 14 = .ok (.iload 5, 2) := by decide +kernel
theorem dX8_replace_16 : decode cX8_replace 16 = .ok (.aload_n 0, 1) := by decide +kernel
theorem dX8_replace_17 : decode cX8_replace 17 = .ok (.getfield 21, 3) := by decide +kernel
theorem dX8_replace_20 : decode cX8_replace 20 = .ok (.if_icmp .ge 28, 3) := by decide +kernel
theorem dX8_replace_23 : decode cX8_replace 23 = .ok (.aload_n 0, 1) := by decide +kernel
theorem dX8_replace_24 : decode cX8_replace 24 = .ok (.getfield 15, 3) := by decide +kernel
theorem dX8_replace_27 : decode cX8_replace 27 = .ok (.iload 5, 2) := by decide +kernel
theorem dX8_replace_29 : decode cX8_replace 29 = .ok (.iaload, 1) := by decide +kernel
theorem dX8_replace_30 : decode cX8_replace 30 = .ok (.iload_n 1, 1) := by decide +kernel
theorem dX8_replace_31 : decode cX8_replace 31 = .ok (.if_icmp .ne 11, 3) := by decide +kernel
theorem dX8_replace_34 : decode cX8_replace 34 = .ok (.aload_n 0, 1) := by decide +kernel
theorem dX8_replace_35 : decode cX8_replace 35 = .ok (.getfield 15, 3) := by decide +kernel
theorem dX8_replace_38 : decode cX8_replace 38 = .ok (.iload 5, 2) := by decide +kernel
theorem dX8_replace_40 : decode cX8_replace 40 = .ok (.iload_n 2, 1) := by decide +kernel
theorem dX8_replace_41 : decode cX8_replace 41 = .ok (.iastore, 1) := by decide +kernel
theorem dX8_replace_42 : decode cX8_replace 42 = .ok (.iinc 5 1, 3) := by decide +kernel
theorem dX8_replace_45 : decode cX8_replace 45 = .ok (.goto (-38), 3) := by decide +kernel
theorem dX8_replace_48 : decode cX8_replace 48 = .ok (.return_, 1) := by decide +kernel
theorem dX8_result_0 : decode cX8_result 0 = .ok (.iload_n 0, 1) := by decide +kernel
theorem dX8_result_1 : decode cX8_result 1 = .ok (.bipush 120, 2) := by decide +kernel
theorem dX8_result_3 : decode cX8_result 3 = .ok (.if_icmp .ne 9, 3) := by decide +kernel
theorem dX8_result_6 : decode cX8_result 6 = .ok (.iload_n 1, 1) := by decide +kernel
theorem dX8_result_7 : decode cX8_result 7 = .ok (.iload_n 2, 1) := by decide +kernel
theorem dX8_result_8 : decode cX8_result 8 = .ok (.iadd, 1) := by decide +kernel
theorem dX8_result_9 : decode cX8_result 9 = .ok (.goto 18, 3) := by decide +kernel
theorem dX8_result_12 : decode cX8_result 12 = .ok (.iload_n 0, 1) := by decide +kernel
theorem dX8_result_13 : decode cX8_result 13 = .ok (.bipush 121, 2) := by decide +kernel
theorem dX8_result_15 : decode cX8_result 15 = .ok (.if_icmp .ne 9, 3) := by decide +kernel
theorem dX8_result_18 : decode cX8_result 18 = .ok (.iload_n 1, 1) := by decide +kernel
theorem dX8_result_19 : decode cX8_result 19 = .ok (.iload_n 2, 1) := by decide +kernel
theorem dX8_result_20 : decode cX8_result 20 = .ok (.isub, 1) := by decide +kernel
theorem dX8_result_21 : decode cX8_result 21 = .ok (.goto 6, 3) := by decide +kernel
theorem dX8_result_24 : decode cX8_result 24 = .ok (.iload_n 1, 1) := by decide +kernel
theorem dX8_result_25 : decode cX8_result 25 = .ok (.iload_n 2, 1) := by decide +kernel
theorem dX8_result_26 : decode cX8_result 26 = .ok (.imul, 1) := by decide +kernel
theorem dX8_result_27 : decode cX8_result 27 = .ok (.istore_n 3, 1) := by decide +kernel
theorem dX8_result_28 : decode cX8_result 28 = .ok (.iload_n 3, 1) := by decide +kernel
theorem dX8_result_29 : decode cX8_result 29 = .ok (.bipush 15, 2) := by decide +kernel
theorem dX8_result_31 : decode cX8_result 31 = .ok (.iand, 1) := by decide +kernel
theorem dX8_result_32 : decode cX8_result 32 = .ok (.ireturn, 1) := by decide +kernel
theorem dX8_statementEnd_0 : decode cX8_statementEnd 0 = .ok (.aload_n 0, 1) := by decide +kernel
theorem dX8_statementEnd_1 : decode cX8_statementEnd 1 = .ok (.iload_n 1, 1) := by decide +kernel
theorem dX8_statementEnd_2 : decode cX8_statementEnd 2 = .ok (.invokevirtual 55, 3) := by decide +kernel
theorem dX8_statementEnd_5 : decode cX8_statementEnd 5 = .ok (.istore_n 2, 1) := by decide +kernel
theorem dX8_statementEnd_6 : decode cX8_statementEnd 6 = .ok (.iload_n 2, 1) := by decide +kernel
theorem dX8_statementEnd_7 : decode cX8_statementEnd 7 = .ok (.invokestatic 52, 3) := by decide +kernel
theorem dX8_statementEnd_10 : decode cX8_statementEnd 10 = .ok (.ifCond .eq 11, 3) := by decide +kernel
theorem dX8_statementEnd_13 : decode cX8_statementEnd 13 = .ok (.aload_n 0, 1) := by decide +kernel
theorem dX8_statementEnd_14 : decode cX8_statementEnd 14 = .ok (.iload_n 1, 1) := by decide +kernel
theorem dX8_statementEnd_15 : decode cX8_statementEnd 15 = .ok (.invokevirtual 59, 3) := by decide +kernel
theorem dX8_statementEnd_18 : decode cX8_statementEnd 18 = .ok (.iconst 1, 1) := by decide +kernel
theorem dX8_statementEnd_19 : decode cX8_statementEnd 19 = .ok (.iadd, 1) := by decide +kernel
theorem dX8_statementEnd_20 : decode cX8_statementEnd 20 = .ok (.ireturn, 1) := by decide +kernel
theorem dX8_statementEnd_21 : decode cX8_statementEnd 21 = .ok (.iload_n 2, 1) := by decide +kernel
theorem dX8_statementEnd_22 : decode cX8_statementEnd 22 = .ok (.bipush 111, 2) := by decide +kernel
theorem dX8_statementEnd_24 : decode cX8_statementEnd 24 = .ok (.if_icmp .ne 9, 3) := by decide +kernel
theorem dX8_statementEnd_27 : decode cX8_statementEnd 27 = .ok (.iload_n 1, 1) := by decide +kernel
theorem dX8_statementEnd_28 : decode cX8_statementEnd 28 = .ok (.iconst 1, 1) := by decide +kernel
theorem dX8_statementEnd_29 : decode cX8_statementEnd 29 = .ok (.iadd, 1) := by decide +kernel
theorem dX8_statementEnd_30 : decode cX8_statementEnd 30 = .ok (.goto 10, 3) := by decide +kernel
theorem dX8_statementEnd_33 : decode cX8_statementEnd 33 = .ok (.aload_n 0, 1) := by decide +kernel
theorem dX8_statementEnd_34 : decode cX8_statementEnd 34 = .ok (.iload_n 1, 1) := by decide +kernel
theorem dX8_statementEnd_35 : decode cX8_statementEnd 35 = .ok (.iconst 1, 1) := by decide +kernel
theorem dX8_statementEnd_36 : decode cX8_statementEnd 36 = .ok (.iadd, 1) := by decide +kernel
theorem dX8_statementEnd_37 : decode cX8_statementEnd 37 = .ok (.invokevirtual 62, 3) := by decide +kernel
theorem dX8_statementEnd_40 : decode cX8_statementEnd 40 = .ok (.ireturn, 1) := by decide +kernel
theorem dX8_statements_0 : decode cX8_statements 0 = .ok (.iconst 0, 1) := by decide +kernel
theorem dX8_statements_1 : decode cX8_statements 1 = .ok (.istore_n 1, 1) := by decide +kernel
theorem dX8_statements_2 : decode cX8_statements 2 = .ok (.iconst 0, 1) := by decide +kernel
theorem dX8_statements_3 : decode cX8_statements 3 = .ok (.istore_n 2, 1) := by decide +kernel
theorem dX8_statements_4 : decode cX8_statements 4 = .ok (.iload_n 2, 1) := by decide +kernel
theorem dX8_statements_5 : decode cX8_statements 5 = .ok (.aload_n 0, 1) := by decide +kernel
theorem dX8_statements_6 : decode cX8_statements 6 = .ok (.getfield 21, 3) := by decide +kernel
theorem dX8_statements_9 : decode cX8_statements 9 = .ok (.if_icmp .ge 24, 3) := by decide +kernel
theorem dX8_statements_12 : decode cX8_statements 12 = .ok (.aload_n 0, 1) := by decide +kernel
theorem dX8_statements_13 : decode cX8_statements 13 = .ok (.getfield 15, 3) := by decide +kernel
theorem dX8_statements_16 : decode cX8_statements 16 = .ok (.iload_n 2, 1) := by decide +kernel
theorem dX8_statements_17 : decode cX8_statements 17 = .ok (.iaload, 1) := by decide +kernel
theorem dX8_statements_18 : decode cX8_statements 18 = .ok (.invokestatic 35, 3) := by decide +kernel
theorem dX8_statements_21 : decode cX8_statements 21 = .ok (.ifCond .eq 6, 3) := by decide +kernel
theorem dX8_statements_24 : decode cX8_statements 24 = .ok (.iinc 1 1, 3) := by decide +kernel
theorem dX8_statements_27 : decode cX8_statements 27 = .ok (.iinc 2 1, 3) := by decide +kernel
theorem dX8_statements_30 : decode cX8_statements 30 = .ok (.goto (-26), 3) := by decide +kernel
theorem dX8_statements_33 : decode cX8_statements 33 = .ok (.iload_n 1, 1) := by decide +kernel
theorem dX8_statements_34 : decode cX8_statements 34 = .ok (.ireturn, 1) := by decide +kernel
theorem dX9_bind_0 : decode cX9_bind 0 = .ok (.iload_n 2, 1) := by decide +kernel
theorem dX9_bind_1 : decode cX9_bind 1 = .ok (.ifCond .lt 8, 3) := by decide +kernel
theorem dX9_bind_4 : decode cX9_bind 4 = .ok (.iload_n 2, 1) := by decide +kernel
theorem dX9_bind_5 : decode cX9_bind 5 = .ok (.iconst 3, 1) := by decide +kernel
theorem dX9_bind_6 : decode cX9_bind 6 = .ok (.if_icmp .lt 5, 3) := by decide +kernel
theorem dX9_bind_9 : decode cX9_bind 9 = .ok (.iconst 0, 1) := by decide +kernel
theorem dX9_bind_10 : decode cX9_bind 10 = .ok (.ireturn, 1) := by decide +kernel
theorem dX9_bind_11 : decode cX9_bind 11 = .ok (.aload_n 0, 1) := by decide +kernel
theorem dX9_bind_12 : decode cX9_bind 12 = .ok (.getfield 23, 3) := by decide +kernel
theorem dX9_bind_15 : decode cX9_bind 15 = .ok (.iload_n 2, 1) := by decide +kernel
theorem dX9_bind_16 : decode cX9_bind 16 = .ok (.iaload, 1) := by decide +kernel
theorem dX9_bind_17 : decode cX9_bind 17 = .ok (.iconst (-1), 1) := by decide +kernel
theorem dX9_bind_18 : decode cX9_bind 18 = .ok (.if_icmp .eq 49, 3) := by decide +kernel
theorem dX9_bind_21 : decode cX9_bind 21 = .ok (.iload 4, 2) := by decide +kernel
theorem dX9_bind_23 : decode cX9_bind 23 = .ok (.iload_n 3, 1) := by decide +kernel
theorem dX9_bind_24 : decode cX9_bind 24 = .ok (.isub, 1) := by decide +kernel
theorem dX9_bind_25 : decode cX9_bind 25 = .ok (.istore 5, 2) := by decide +kernel
theorem dX9_bind_27 : decode cX9_bind 27 = .ok (.aload_n 0, 1) := by decide +kernel
theorem dX9_bind_28 : decode cX9_bind 28 = .ok (.getfield 27, 3) := by decide +kernel
theorem dX9_bind_31 : decode cX9_bind 31 = .ok (.iload_n 2, 1) := by decide +kernel
theorem dX9_bind_32 : decode cX9_bind 32 = .ok (.iaload, 1) := by decide +kernel
theorem dX9_bind_33 : decode cX9_bind 33 = .ok (.aload_n 0, 1) := by decide +kernel
theorem dX9_bind_34 : decode cX9_bind 34 = .ok (.getfield 23, 3) := by decide +kernel
theorem dX9_bind_37 : decode cX9_bind 37 = .ok (.iload_n 2, 1) := by decide +kernel
theorem dX9_bind_38 : decode cX9_bind 38 = .ok (.iaload, 1) := by decide +kernel
theorem dX9_bind_39 : decode cX9_bind 39 = .ok (.isub, 1) := by decide +kernel
theorem dX9_bind_40 : decode cX9_bind 40 = .ok (.iload 5, 2) := by decide +kernel
theorem dX9_bind_42 : decode cX9_bind 42 = .ok (.if_icmp .ne 23, 3) := by decide +kernel
theorem dX9_bind_45 : decode cX9_bind 45 = .ok (.aload_n 1, 1) := by decide +kernel
theorem dX9_bind_46 : decode cX9_bind 46 = .ok (.aload_n 0, 1) := by decide +kernel
theorem dX9_bind_47 : decode cX9_bind 47 = .ok (.getfield 23, 3) := by decide +kernel
theorem dX9_bind_50 : decode cX9_bind 50 = .ok (.iload_n 2, 1) := by decide +kernel
theorem dX9_bind_51 : decode cX9_bind 51 = .ok (.iaload, 1) := by decide +kernel
theorem dX9_bind_52 : decode cX9_bind 52 = .ok (.iload_n 3, 1) := by decide +kernel
theorem dX9_bind_53 : decode cX9_bind 53 = .ok (.iload 5, 2) := by decide +kernel
theorem dX9_bind_55 : decode cX9_bind 55 = .ok (.invokevirtual 59, 3) := by decide +kernel
theorem dX9_bind_58 : decode cX9_bind 58 = .ok (.ifCond .eq 7, 3) := by decide +kernel
theorem dX9_bind_61 : decode cX9_bind 61 = .ok (.iconst 1, 1) := by decide +kernel
theorem dX9_bind_62 : decode cX9_bind 62 = .ok (.goto 4, 3) := by decide +kernel
theorem dX9_bind_65 : decode cX9_bind 65 = .ok (.iconst 0, 1) := by decide +kernel
theorem dX9_bind_66 : decode cX9_bind 66 = .ok (.ireturn, 1) := by decide +kernel
theorem dX9_bind_67 : decode cX9_bind 67 = .ok (.aload_n 0, 1) := by decide +kernel
theorem dX9_bind_68 : decode cX9_bind 68 = .ok (.getfield 23, 3) := by decide +kernel
theorem dX9_bind_71 : decode cX9_bind 71 = .ok (.iload_n 2, 1) := by decide +kernel
theorem dX9_bind_72 : decode cX9_bind 72 = .ok (.iload_n 3, 1) := by decide +kernel
theorem dX9_bind_73 : decode cX9_bind 73 = .ok (.iastore, 1) := by decide +kernel
theorem dX9_bind_74 : decode cX9_bind 74 = .ok (.aload_n 0, 1) := by decide +kernel
theorem dX9_bind_75 : decode cX9_bind 75 = .ok (.getfield 27, 3) := by decide +kernel
theorem dX9_bind_78 : decode cX9_bind 78 = .ok (.iload_n 2, 1) := by decide +kernel
theorem dX9_bind_79 : decode cX9_bind 79 = .ok (.iload 4, 2) := by decide +kernel
theorem dX9_bind_81 : decode cX9_bind 81 = .ok (.iastore, 1) := by decide +kernel
theorem dX9_bind_82 : decode cX9_bind 82 = .ok (.iconst 1, 1) := by decide +kernel
theorem dX9_bind_83 : decode cX9_bind 83 = .ok (.ireturn, 1) := by decide +kernel
theorem dX9_countIn_0 : decode cX9_countIn 0 = .ok (.iconst 0, 1) := by decide +kernel
theorem dX9_countIn_1 : decode cX9_countIn 1 = .ok (.istore_n 2, 1) := by decide +kernel
theorem dX9_countIn_2 : decode cX9_countIn 2 = .ok (.iconst 0, 1) := by decide +kernel
theorem dX9_countIn_3 : decode cX9_countIn 3 = .ok (.istore_n 3, 1) := by decide +kernel
theorem dX9_countIn_4 : decode cX9_countIn 4 = .ok (.iload_n 3, 1) := by decide +kernel
theorem dX9_countIn_5 : decode cX9_countIn 5 = .ok (.aload_n 1, 1) := by decide +kernel
theorem dX9_countIn_6 : decode cX9_countIn 6 = .ok (.getfield 34, 3) := by decide +kernel
theorem dX9_countIn_9 : decode cX9_countIn 9 = .ok (.if_icmp .ge 21, 3) := by decide +kernel
theorem dX9_countIn_12 : decode cX9_countIn 12 = .ok (.aload_n 0, 1) := by decide +kernel
theorem dX9_countIn_13 : decode cX9_countIn 13 = .ok (.aload_n 1, 1) := by decide +kernel
theorem dX9_countIn_14 : decode cX9_countIn 14 = .ok (.iload_n 3, 1) := by decide +kernel
theorem dX9_countIn_15 : decode cX9_countIn 15 = .ok (.invokevirtual 44, 3) := by decide +kernel
theorem dX9_countIn_18 : decode cX9_countIn 18 = .ok (.ifCond .eq 6, 3) := by decide +kernel
theorem dX9_countIn_21 : decode cX9_countIn 21 = .ok (.iinc 2 1, 3) := by decide +kernel
theorem dX9_countIn_24 : decode cX9_countIn 24 = .ok (.iinc 3 1, 3) := by decide +kernel
theorem dX9_countIn_27 : decode cX9_countIn 27 = .ok (.goto (-23), 3) := by decide +kernel
theorem dX9_countIn_30 : decode cX9_countIn 30 = .ok (.iload_n 2, 1) := by decide +kernel
theorem dX9_countIn_31 : decode cX9_countIn 31 = .ok (.ireturn, 1) := by decide +kernel
theorem dX9_forget_0 : decode cX9_forget 0 = .ok (.aload_n 0, 1) := by decide +kernel
theorem dX9_forget_1 : decode cX9_forget 1 = .ok (.getfield 14, 3) := by decide +kernel
theorem dX9_forget_4 : decode cX9_forget 4 = .ok (.iconst 0, 1) := by decide +kernel
theorem dX9_forget_5 : decode cX9_forget 5 = .ok (.putfield 34, 3) := by decide +kernel
theorem dX9_forget_8 : decode cX9_forget 8 = .ok (.aload_n 0, 1) := by decide +kernel
theorem dX9_forget_9 : decode cX9_forget 9 = .ok (.getfield 20, 3) := by decide +kernel
theorem dX9_forget_12 : decode cX9_forget 12 = .ok (.iconst 0, 1) := by decide +kernel
theorem dX9_forget_13 : decode cX9_forget 13 = .ok (.putfield 34, 3) := by decide +kernel
theorem dX9_forget_16 : decode cX9_forget 16 = .ok (.aload_n 0, 1) := by decide +kernel
theorem dX9_forget_17 : decode cX9_forget 17 = .ok (.iconst 0, 1) := by decide +kernel
theorem dX9_forget_18 : decode cX9_forget 18 = .ok (.putfield 30, 3) := by decide +kernel
theorem dX9_forget_21 : decode cX9_forget 21 = .ok (.return_, 1) := by decide +kernel
theorem dX9_hasLetter_0 : decode cX9_hasLetter 0 = .ok (.iload_n 1, 1) := by decide +kernel
theorem dX9_hasLetter_1 : decode cX9_hasLetter 1 = .ok (.ifCond .lt 23, 3) := by decide +kernel
theorem dX9_hasLetter_4 : decode cX9_hasLetter 4 = .ok (.iload_n 1, 1) := by decide +kernel
theorem dX9_hasLetter_5 : decode cX9_hasLetter 5 = .ok (.iconst 3, 1) := by decide +kernel
theorem dX9_hasLetter_6 : decode cX9_hasLetter 6 = .ok (.if_icmp .ge 18, 3) := by decide +kernel
theorem dX9_hasLetter_9 : decode cX9_hasLetter 9 = .ok (.aload_n 0, 1) := by decide +kernel
theorem dX9_hasLetter_10 : decode cX9_hasLetter 10 = .ok (.getfield 30, 3) := by decide +kernel
theorem dX9_hasLetter_13 : decode cX9_hasLetter 13 = .ok (.iload_n 1, 1) := by decide +kernel
theorem dX9_hasLetter_14 : decode cX9_hasLetter 14 = .ok (.ishr, 1) := by decide +kernel
theorem dX9_hasLetter_15 : decode cX9_hasLetter 15 = .ok (.iconst 1, 1) := by decide +kernel
theorem dX9_hasLetter_16 : decode cX9_hasLetter 16 = .ok (.iand, 1) := by decide +kernel
theorem dX9_hasLetter_17 : decode cX9_hasLetter 17 = .ok (.ifCond .eq 7, 3) := by decide +kernel
theorem dX9_hasLetter_20 : decode cX9_hasLetter 20 = .ok (.iconst 1, 1) := by decide +kernel
theorem dX9_hasLetter_21 : decode cX9_hasLetter 21 = .ok (.goto 4, 3) := by decide +kernel
theorem dX9_hasLetter_24 : decode cX9_hasLetter 24 = .ok (.iconst 0, 1) := by decide +kernel
theorem dX9_hasLetter_25 : decode cX9_hasLetter 25 = .ok (.ireturn, 1) := by decide +kernel
theorem dX9_lengthOfRight_0 : decode cX9_lengthOfRight 0 = .ok (.iconst 0, 1) := by decide +kernel
theorem dX9_lengthOfRight_1 : decode cX9_lengthOfRight 1 = .ok (.istore_n 1, 1) := by decide +kernel
theorem dX9_lengthOfRight_2 : decode cX9_lengthOfRight 2 = .ok (.iconst 0, 1) := by decide +kernel
theorem dX9_lengthOfRight_3 : decode cX9_lengthOfRight 3 = .ok (.istore_n 2, 1) := by decide +kernel
theorem dX9_lengthOfRight_4 : decode cX9_lengthOfRight 4 = .ok (.iload_n 2, 1) := by decide +kernel
theorem dX9_lengthOfRight_5 : decode cX9_lengthOfRight 5 = .ok (.aload_n 0, 1) := by decide +kernel
theorem dX9_lengthOfRight_6 : decode cX9_lengthOfRight 6 = .ok (.getfield 20, 3) := by decide +kernel
theorem dX9_lengthOfRight_9 : decode cX9_lengthOfRight 9 = .ok (.getfield 34, 3) := by decide +kernel
theorem dX9_lengthOfRight_12 : decode cX9_lengthOfRight 12 = .ok (.if_icmp .ge 46, 3) := by decide +kernel
theorem dX9_lengthOfRight_15 : decode cX9_lengthOfRight 15 = .ok (.aload_n 0, 1) := by decide +kernel
theorem dX9_lengthOfRight_16 : decode cX9_lengthOfRight 16 = .ok (.getfield 20, 3) := by decide +kernel
theorem dX9_lengthOfRight_19 : decode cX9_lengthOfRight 19 = .ok (.iload_n 2, 1) := by decide +kernel
theorem dX9_lengthOfRight_20 : decode cX9_lengthOfRight 20 = .ok (.invokevirtual 37, 3) := by decide +kernel
theorem dX9_lengthOfRight_23 : decode cX9_lengthOfRight 23 = .ok (.invokestatic 41, 3) := by decide +kernel
theorem dX9_lengthOfRight_26 : decode cX9_lengthOfRight 26 = .ok (.istore_n 3, 1) := by decide +kernel
theorem dX9_lengthOfRight_27 : decode cX9_lengthOfRight 27 = .ok (.iload_n 1, 1) := by decide +kernel
theorem dX9_lengthOfRight_28 : decode cX9_lengthOfRight 28 = .ok (.iload_n 3, 1) := by decide +kernel
theorem dX9_lengthOfRight_29 : decode cX9_lengthOfRight 29 = .ok (.iconst (-1), 1) := by decide +kernel
theorem dX9_lengthOfRight_30 : decode cX9_lengthOfRight 30 = .ok (.if_icmp .ne 7, 3) := by decide +kernel
theorem dX9_lengthOfRight_33 : decode cX9_lengthOfRight 33 = .ok (.iconst 1, 1) := by decide +kernel
theorem dX9_lengthOfRight_34 : decode cX9_lengthOfRight 34 = .ok (.goto 16, 3) := by decide +kernel
theorem dX9_lengthOfRight_37 : decode cX9_lengthOfRight 37 = .ok (.aload_n 0, 1) := by decide +kernel
theorem dX9_lengthOfRight_38 : decode cX9_lengthOfRight 38 = .ok (.getfield 27, 3) := by decide +kernel
theorem dX9_lengthOfRight_41 : decode cX9_lengthOfRight 41 = .ok (.iload_n 3, 1) := by decide +kernel
theorem dX9_lengthOfRight_42 : decode cX9_lengthOfRight 42 = .ok (.iaload, 1) := by decide +kernel
theorem dX9_lengthOfRight_43 : decode cX9_lengthOfRight 43 = .ok (.aload_n 0, 1) := by decide +kernel
theorem dX9_lengthOfRight_44 : decode cX9_lengthOfRight 44 = .ok (.getfield 23, 3) := by decide +kernel
theorem dX9_lengthOfRight_47 : decode cX9_lengthOfRight 47 = .ok (.iload_n 3, 1) := by decide +kernel
theorem dX9_lengthOfRight_48 : decode cX9_lengthOfRight 48 = .ok (.iaload, 1) := by decide +kernel
theorem dX9_lengthOfRight_49 : decode cX9_lengthOfRight 49 = .ok (.isub, 1) := by decide +kernel
theorem dX9_lengthOfRight_50 : decode cX9_lengthOfRight 50 = .ok (.iadd, 1) := by decide +kernel
theorem dX9_lengthOfRight_51 : decode cX9_lengthOfRight 51 = .ok (.istore_n 1, 1) := by decide +kernel
theorem dX9_lengthOfRight_52 : decode cX9_lengthOfRight 52 = .ok (.iinc 2 1, 3) := by decide +kernel
theorem dX9_lengthOfRight_55 : decode cX9_lengthOfRight 55 = .ok (.goto (-51), 3) := by decide +kernel
theorem dX9_lengthOfRight_58 : decode cX9_lengthOfRight 58 = .ok (.iload_n 1, 1) := by decide +kernel
theorem dX9_lengthOfRight_59 : decode cX9_lengthOfRight 59 = .ok (.ireturn, 1) := by decide +kernel
theorem dX9_letterOf_0 : decode cX9_letterOf 0 = .ok (.iload_n 0, 1) := by decide +kernel
theorem dX9_letterOf_1 : decode cX9_letterOf 1 = .ok (.bipush 20, 2) := by decide +kernel
theorem dX9_letterOf_3 : decode cX9_letterOf 3 = .ok (.if_icmp .lt 16, 3) := by decide +kernel
theorem dX9_letterOf_6 : decode cX9_letterOf 6 = .ok (.iload_n 0, 1) := by decide +kernel
theorem dX9_letterOf_7 : decode cX9_letterOf 7 = .ok (.bipush 23, 2) := by decide +kernel
theorem dX9_letterOf_9 : decode cX9_letterOf 9 = .ok (.if_icmp .ge 10, 3) := by decide +kernel
theorem dX9_letterOf_12 : decode cX9_letterOf 12 = .ok (.iload_n 0, 1) := by decide +kernel
theorem dX9_letterOf_13 : decode cX9_letterOf 13 = .ok (.bipush 20, 2) := by decide +kernel
theorem dX9_letterOf_15 : decode cX9_letterOf 15 = .ok (.isub, 1) := by decide +kernel
theorem dX9_letterOf_16 : decode cX9_letterOf 16 = .ok (.goto 4, 3) := by decide +kernel
theorem dX9_letterOf_19 : decode cX9_letterOf 19 = .ok (.iconst (-1), 1) := by decide +kernel
theorem dX9_letterOf_20 : decode cX9_letterOf 20 = .ok (.ireturn, 1) := by decide +kernel
theorem dX9_matches_0 : decode cX9_matches 0 = .ok (.aload_n 1, 1) := by decide +kernel
theorem dX9_matches_1 : decode cX9_matches 1 = .ok (.iload_n 2, 1) := by decide +kernel
theorem dX9_matches_2 : decode cX9_matches 2 = .ok (.invokevirtual 37, 3) := by decide +kernel
theorem dX9_matches_5 : decode cX9_matches 5 = .ok (.invokestatic 48, 3) := by decide +kernel
theorem dX9_matches_8 : decode cX9_matches 8 = .ok (.ifCond .ne 5, 3) := by decide +kernel
theorem dX9_matches_11 : decode cX9_matches 11 = .ok (.iconst 0, 1) := by decide +kernel
theorem dX9_matches_12 : decode cX9_matches 12 = .ok (.ireturn, 1) := by decide +kernel
theorem dX9_matches_13 : decode cX9_matches 13 = .ok (.iconst 0, 1) := by decide +kernel
theorem dX9_matches_14 : decode cX9_matches 14 = .ok (.istore_n 3, 1) := by decide +kernel
theorem dX9_matches_15 : decode cX9_matches 15 = .ok (.iload_n 3, 1) := by decide +kernel
theorem dX9_matches_16 : decode cX9_matches 16 = .ok (.iconst 3, 1) := by decide +kernel
theorem dX9_matches_17 : decode cX9_matches 17 = .ok (.if_icmp .ge 23, 3) := by decide +kernel
theorem dX9_matches_20 : decode cX9_matches 20 = .ok (.aload_n 0, 1) := by decide +kernel
theorem dX9_matches_21 : decode cX9_matches 21 = .ok (.getfield 23, 3) := by decide +kernel
theorem dX9_matches_24 : decode cX9_matches 24 = .ok (.iload_n 3, 1) := by decide +kernel
theorem dX9_matches_25 : decode cX9_matches 25 = .ok (.iconst (-1), 1) := by decide +kernel
theorem dX9_matches_26 : decode cX9_matches 26 = .ok (.iastore, 1) := by decide +kernel
theorem dX9_matches_27 : decode cX9_matches 27 = .ok (.aload_n 0, 1) := by decide +kernel
theorem dX9_matches_28 : decode cX9_matches 28 = .ok (.getfield 27, 3) := by decide +kernel
theorem dX9_matches_31 : decode cX9_matches 31 = .ok (.iload_n 3, 1) := by decide +kernel
theorem dX9_matches_32 : decode cX9_matches 32 = .ok (.iconst (-1), 1) := by decide +kernel
theorem dX9_matches_33 : decode cX9_matches 33 = .ok (.iastore, 1) := by decide +kernel
theorem dX9_matches_34 : decode cX9_matches 34 = .ok (.iinc 3 1, 3) := by decide +kernel
theorem dX9_matches_37 : decode cX9_matches 37 = .ok (.goto (-22), 3) := by decide +kernel
theorem dX9_matches_40 : decode cX9_matches 40 = .ok (.iload_n 2, 1) := by decide +kernel
theorem dX9_matches_41 : decode cX9_matches 41 = .ok (.istore_n 3, 1) := by decide +kernel
theorem dX9_matches_42 : decode cX9_matches 42 = .ok (.iconst 0, 1) := by decide +kernel
theorem dX9_matches_43 : decode cX9_matches 43 = .ok (.istore 4, 2) := by decide +kernel
theorem dX9_matches_45 : decode cX9_matches 45 = .ok (.iload 4, 2) := by decide +kernel
theorem dX9_matches_47 : decode cX9_matches 47 = .ok (.aload_n 0, 1) := by decide +kernel
theorem dX9_matches_48 : decode cX9_matches 48 = .ok (.getfield 14, 3) := by decide +kernel
theorem dX9_matches_51 : decode cX9_matches 51 = .ok (.getfield 34, 3) := by decide +kernel
theorem dX9_matches_54 : decode cX9_matches 54 = .ok (.if_icmp .ge 82, 3) := by decide +kernel
theorem dX9_matches_57 : decode cX9_matches 57 = .ok (.aload_n 0, 1) := by decide +kernel
theorem dX9_matches_58 : decode cX9_matches 58 = .ok (.getfield 14, 3) := by decide +kernel
theorem dX9_matches_61 : decode cX9_matches 61 = .ok (.iload 4, 2) := by decide +kernel
theorem dX9_matches_63 : decode cX9_matches 63 = .ok (.invokevirtual 37, 3) := by decide +kernel
theorem dX9_matches_66 : decode cX9_matches 66 = .ok (.invokestatic 41, 3) := by decide +kernel
theorem dX9_matches_69 : decode cX9_matches 69 = .ok (.istore 5, 2) := by decide +kernel
theorem dX9_matches_71 : decode cX9_matches 71 = .ok (.iload 5, 2) := by decide +kernel
theorem dX9_matches_73 : decode cX9_matches 73 = .ok (.iconst (-1), 1) := by decide +kernel
theorem dX9_matches_74 : decode cX9_matches 74 = .ok (.if_icmp .eq 31, 3) := by decide +kernel
theorem dX9_matches_77 : decode cX9_matches 77 = .ok (.aload_n 1, 1) := by decide +kernel
theorem dX9_matches_78 : decode cX9_matches 78 = .ok (.iload_n 3, 1) := by decide +kernel
theorem dX9_matches_79 : decode cX9_matches 79 = .ok (.invokevirtual 52, 3) := by decide +kernel
theorem dX9_matches_82 : decode cX9_matches 82 = .ok (.istore 6, 2) := by decide +kernel
theorem dX9_matches_84 : decode cX9_matches 84 = .ok (.aload_n 0, 1) := by decide +kernel
theorem dX9_matches_85 : decode cX9_matches 85 = .ok (.aload_n 1, 1) := by decide +kernel
theorem dX9_matches_86 : decode cX9_matches 86 = .ok (.iload 5, 2) := by decide +kernel
theorem dX9_matches_88 : decode cX9_matches 88 = .ok (.iload_n 3, 1) := by decide +kernel
theorem dX9_matches_89 : decode cX9_matches 89 = .ok (.iload 6, 2) := by decide +kernel
theorem dX9_matches_91 : decode cX9_matches 91 = .ok (.invokevirtual 55, 3) := by decide +kernel
theorem dX9_matches_94 : decode cX9_matches 94 = .ok (.ifCond .ne 5, 3) := by decide +kernel
theorem dX9_matches_97 : decode cX9_matches 97 = .ok (.iconst 0, 1) := by decide +kernel
theorem dX9_matches_98 : decode cX9_matches 98 = .ok (.ireturn, 1) := by decide +kernel
theorem dX9_matches_99 : decode cX9_matches 99 = .ok (.iload 6, 2) := by decide +kernel
theorem dX9_matches_101 : decode cX9_matches 101 = .ok (.istore_n 3, 1) := by decide +kernel
theorem dX9_matches_102 : decode cX9_matches 102 = .ok (.goto 28, 3) := by decide +kernel
theorem dX9_matches_105 : decode cX9_matches 105 = .ok (.aload_n 0, 1) := by decide +kernel
theorem dX9_matches_106 : decode cX9_matches 106 = .ok (.getfield 14, 3) := by decide +kernel
theorem dX9_matches_109 : decode cX9_matches 109 = .ok (.iload 4, 2) := by decide +kernel
theorem dX9_matches_111 : decode cX9_matches 111 = .ok (.invokevirtual 37, 3) := by decide +kernel
theorem dX9_matches_114 : decode cX9_matches 114 = .ok (.aload_n 1, 1) := by decide +kernel
theorem dX9_matches_115 : decode cX9_matches 115 = .ok (.iload_n 3, 1) := by decide +kernel
theorem dX9_matches_116 : decode cX9_matches 116 = .ok (.invokevirtual 37, 3) := by decide +kernel
theorem dX9_matches_119 : decode cX9_matches 119 = .ok (.if_icmp .ne 9, 3) := by decide +kernel
theorem dX9_matches_122 : decode cX9_matches 122 = .ok (.iinc 3 1, 3) := by decide +kernel
theorem dX9_matches_125 : decode cX9_matches 125 = .ok (.goto 5, 3) := by decide +kernel
theorem dX9_matches_128 : decode cX9_matches 128 = .ok (.iconst 0, 1) := by decide +kernel
theorem dX9_matches_129 : decode cX9_matches 129 = .ok (.ireturn, 1) := by decide +kernel
theorem dX9_matches_130 : decode cX9_matches 130 = .ok (.iinc 4 1, 3) := by decide +kernel
theorem dX9_matches_133 : decode cX9_matches 133 = .ok (.goto (-88), 3) := by decide +kernel
theorem dX9_matches_136 : decode cX9_matches 136 = .ok (.iconst 1, 1) := by decide +kernel
theorem dX9_matches_137 : decode cX9_matches 137 = .ok (.ireturn, 1) := by decide +kernel
theorem dX9_noteLetters_0 : decode cX9_noteLetters 0 = .ok (.aload_n 0, 1) := by decide +kernel
theorem dX9_noteLetters_1 : decode cX9_noteLetters 1 = .ok (.iconst 0, 1) := by decide +kernel
theorem dX9_noteLetters_2 : decode cX9_noteLetters 2 = .ok (.putfield 30, 3) := by decide +kernel
theorem dX9_noteLetters_5 : decode cX9_noteLetters 5 = .ok (.iconst 0, 1) := by decide +kernel
theorem dX9_noteLetters_6 : decode cX9_noteLetters 6 = .ok (.istore_n 1, 1) := by decide +kernel
theorem dX9_noteLetters_7 : decode cX9_noteLetters 7 = .ok (.iload_n 1, 1) := by decide +kernel
theorem dX9_noteLetters_8 : decode cX9_noteLetters 8 = .ok (.aload_n 0, 1) := by decide +kernel
theorem dX9_noteLetters_9 : decode cX9_noteLetters 9 = .ok (.getfield 14, 3) := by decide +kernel
theorem dX9_noteLetters_12 : decode cX9_noteLetters 12 = .ok (.getfield 34, 3) := by decide +kernel
theorem dX9_noteLetters_15 : decode cX9_noteLetters 15 = .ok (.if_icmp .ge 42, 3) := by decide +kernel
theorem dX9_noteLetters_18 : decode cX9_noteLetters 18 = .ok (.aload_n 0, 1) := by decide +kernel
theorem dX9_noteLetters_19 : decode cX9_noteLetters 19 = .ok (.getfield 14, 3) := by decide +kernel
theorem dX9_noteLetters_22 : decode cX9_noteLetters 22 = .ok (.iload_n 1, 1) := by decide +kernel
theorem dX9_noteLetters_23 : decode cX9_noteLetters 23 = .ok (.invokevirtual 37, 3) := by decide +kernel
theorem dX9_noteLetters_26 : decode cX9_noteLetters 26 = .ok (.invokestatic 41, 3) := by decide +kernel
theorem dX9_noteLetters_29 : decode cX9_noteLetters 29 = .ok (.istore_n 2, 1) := by decide +kernel
theorem dX9_noteLetters_30 : decode cX9_noteLetters 30 = .ok (.aload_n 0, 1) := by decide +kernel
theorem dX9_noteLetters_31 : decode cX9_noteLetters 31 = .ok (.dup, 1) := by decide +kernel
theorem dX9_noteLetters_32 : decode cX9_noteLetters 32 = .ok (.getfield 30, 3) := by decide +kernel
theorem dX9_noteLetters_35 : decode cX9_noteLetters 35 = .ok (.iload_n 2, 1) := by decide +kernel
theorem dX9_noteLetters_36 : decode cX9_noteLetters 36 = .ok (.iconst (-1), 1) := by decide +kernel
theorem dX9_noteLetters_37 : decode cX9_noteLetters 37 = .ok (.if_icmp .ne 7, 3) := by decide +kernel
theorem dX9_noteLetters_40 : decode cX9_noteLetters 40 = .ok (.iconst 0, 1) := by decide +kernel
theorem dX9_noteLetters_41 : decode cX9_noteLetters 41 = .ok (.goto 6, 3) := by decide +kernel
theorem dX9_noteLetters_44 : decode cX9_noteLetters 44 = .ok (.iconst 1, 1) := by decide +kernel
theorem dX9_noteLetters_45 : decode cX9_noteLetters 45 = .ok (.iload_n 2, 1) := by decide +kernel
theorem dX9_noteLetters_46 : decode cX9_noteLetters 46 = .ok (.ishl, 1) := by decide +kernel
theorem dX9_noteLetters_47 : decode cX9_noteLetters 47 = .ok (.ior, 1) := by decide +kernel
theorem dX9_noteLetters_48 : decode cX9_noteLetters 48 = .ok (.putfield 30, 3) := by decide +kernel
theorem dX9_noteLetters_51 : decode cX9_noteLetters 51 = .ok (.iinc 1 1, 3) := by decide +kernel
theorem dX9_noteLetters_54 : decode cX9_noteLetters 54 = .ok (.goto (-47), 3) := by decide +kernel
theorem dX9_noteLetters_57 : decode cX9_noteLetters 57 = .ok (.return_, 1) := by decide +kernel
theorem dX9_placeIn_0 : decode cX9_placeIn 0 = .ok (.iconst 0, 1) := by decide +kernel
theorem dX9_placeIn_1 : decode cX9_placeIn 1 = .ok (.istore_n 3, 1) := by decide +kernel
theorem dX9_placeIn_2 : decode cX9_placeIn 2 = .ok (.iconst 0, 1) := by decide +kernel
theorem dX9_placeIn_3 : decode cX9_placeIn 3 = .ok (.istore 4, 2) := by decide +kernel
theorem dX9_placeIn_5 : decode cX9_placeIn 5 = .ok (.iload 4, 2) := by decide +kernel
theorem dX9_placeIn_7 : decode cX9_placeIn 7 = .ok (.aload_n 1, 1) := by decide +kernel
theorem dX9_placeIn_8 : decode cX9_placeIn 8 = .ok (.getfield 34, 3) := by decide +kernel
theorem dX9_placeIn_11 : decode cX9_placeIn 11 = .ok (.if_icmp .ge 34, 3) := by decide +kernel
theorem dX9_placeIn_14 : decode cX9_placeIn 14 = .ok (.iload_n 2, 1) := by decide +kernel
theorem dX9_placeIn_15 : decode cX9_placeIn 15 = .ok (.ifCond .lt 30, 3) := by decide +kernel
theorem dX9_placeIn_18 : decode cX9_placeIn 18 = .ok (.aload_n 0, 1) := by decide +kernel
theorem dX9_placeIn_19 : decode cX9_placeIn 19 = .ok (.aload_n 1, 1) := by decide +kernel
theorem dX9_placeIn_20 : decode cX9_placeIn 20 = .ok (.iload 4, 2) := by decide +kernel
theorem dX9_placeIn_22 : decode cX9_placeIn 22 = .ok (.invokevirtual 44, 3) := by decide +kernel
theorem dX9_placeIn_25 : decode cX9_placeIn 25 = .ok (.ifCond .eq 14, 3) := by decide +kernel
theorem dX9_placeIn_28 : decode cX9_placeIn 28 = .ok (.iload_n 3, 1) := by decide +kernel
theorem dX9_placeIn_29 : decode cX9_placeIn 29 = .ok (.iload_n 2, 1) := by decide +kernel
theorem dX9_placeIn_30 : decode cX9_placeIn 30 = .ok (.if_icmp .ne 6, 3) := by decide +kernel
theorem dX9_placeIn_33 : decode cX9_placeIn 33 = .ok (.iload 4, 2) := by decide +kernel
theorem dX9_placeIn_35 : decode cX9_placeIn 35 = .ok (.ireturn, 1) := by decide +kernel
theorem dX9_placeIn_36 : decode cX9_placeIn 36 = .ok (.iinc 3 1, 3) := by decide +kernel
theorem dX9_placeIn_39 : decode cX9_placeIn 39 = .ok (.iinc 4 1, 3) := by decide +kernel
theorem dX9_placeIn_42 : decode cX9_placeIn 42 = .ok (.goto (-37), 3) := by decide +kernel
theorem dX9_placeIn_45 : decode cX9_placeIn 45 = .ok (.iconst (-1), 1) := by decide +kernel
theorem dX9_placeIn_46 : decode cX9_placeIn 46 = .ok (.ireturn, 1) := by decide +kernel
theorem dX9_rewrite_0 : decode cX9_rewrite 0 = .ok (.aload_n 0, 1) := by decide +kernel
theorem dX9_rewrite_1 : decode cX9_rewrite 1 = .ok (.aload_n 1, 1) := by decide +kernel
theorem dX9_rewrite_2 : decode cX9_rewrite 2 = .ok (.iload_n 2, 1) := by decide +kernel
theorem dX9_rewrite_3 : decode cX9_rewrite 3 = .ok (.invokevirtual 44, 3) := by decide +kernel
theorem dX9_rewrite_6 : decode cX9_rewrite 6 = .ok (.ifCond .ne 5, 3) := by decide +kernel
theorem dX9_rewrite_9 : decode cX9_rewrite 9 = .ok (.iconst 0, 1) := by decide +kernel
theorem dX9_rewrite_10 : decode cX9_rewrite 10 = .ok (.ireturn, 1) := by decide +kernel
theorem dX9_rewrite_11 : decode cX9_rewrite 11 = .ok (.aload_n 1, 1) := by decide +kernel
theorem dX9_rewrite_12 : decode cX9_rewrite 12 = .ok (.iload_n 2, 1) := by decide +kernel
theorem dX9_rewrite_13 : decode cX9_rewrite 13 = .ok (.invokevirtual 52, 3) := by decide +kernel
theorem dX9_rewrite_16 : decode cX9_rewrite 16 = .ok (.istore 4, 2) := by decide +kernel
theorem dX9_rewrite_18 : decode cX9_rewrite 18 = .ok (.aload_n 1, 1) := by decide +kernel
theorem dX9_rewrite_19 : decode cX9_rewrite 19 = .ok (.invokevirtual 63, 3) := by decide +kernel
theorem dX9_rewrite_22 : decode cX9_rewrite 22 = .ok (.iload 4, 2) := by decide +kernel
theorem dX9_rewrite_24 : decode cX9_rewrite 24 = .ok (.iload_n 2, 1) := by decide +kernel
theorem dX9_rewrite_25 : decode cX9_rewrite 25 = .ok (.isub, 1) := by decide +kernel
theorem dX9_rewrite_26 : decode cX9_rewrite 26 = .ok (.isub, 1) := by decide +kernel
theorem dX9_rewrite_27 : decode cX9_rewrite 27 = .ok (.aload_n 0, 1) := by decide +kernel
theorem dX9_rewrite_28 : decode cX9_rewrite 28 = .ok (.invokevirtual 67, 3) := by decide +kernel
theorem dX9_rewrite_31 : decode cX9_rewrite 31 = .ok (.iadd, 1) := by decide +kernel
theorem dX9_rewrite_32 : decode cX9_rewrite 32 = .ok (.sipush 300, 3) := by decide +kernel
theorem dX9_rewrite_35 : decode cX9_rewrite 35 = .ok (.if_icmp .le 5, 3) := by decide +kernel
theorem dX9_rewrite_38 : decode cX9_rewrite 38 = .ok (.iconst 0, 1) := by decide +kernel
theorem dX9_rewrite_39 : decode cX9_rewrite 39 = .ok (.ireturn, 1) := by decide +kernel
theorem dX9_rewrite_40 : decode cX9_rewrite 40 = .ok (.aload_n 3, 1) := by decide +kernel
theorem dX9_rewrite_41 : decode cX9_rewrite 41 = .ok (.iconst 0, 1) := by decide +kernel
theorem dX9_rewrite_42 : decode cX9_rewrite 42 = .ok (.putfield 34, 3) := by decide +kernel
theorem dX9_rewrite_45 : decode cX9_rewrite 45 = .ok (.aload_n 3, 1) := by decide +kernel
theorem dX9_rewrite_46 : decode cX9_rewrite 46 = .ok (.aload_n 1, 1) := by decide +kernel
theorem dX9_rewrite_47 : decode cX9_rewrite 47 = .ok (.iconst 0, 1) := by decide +kernel
theorem dX9_rewrite_48 : decode cX9_rewrite 48 = .ok (.iload_n 2, 1) := by decide +kernel
theorem dX9_rewrite_49 : decode cX9_rewrite 49 = .ok (.invokevirtual 70, 3) := by decide +kernel
theorem dX9_rewrite_52 : decode cX9_rewrite 52 = .ok (.iconst 0, 1) := by decide +kernel
theorem dX9_rewrite_53 : decode cX9_rewrite 53 = .ok (.istore 5, 2) := by decide +kernel
theorem dX9_rewrite_55 : decode cX9_rewrite 55 = .ok (.iload 5, 2) := by decide +kernel
theorem dX9_rewrite_57 : decode cX9_rewrite 57 = .ok (.aload_n 0, 1) := by decide +kernel
theorem dX9_rewrite_58 : decode cX9_rewrite 58 = .ok (.getfield 20, 3) := by decide +kernel
theorem dX9_rewrite_61 : decode cX9_rewrite 61 = .ok (.getfield 34, 3) := by decide +kernel
theorem dX9_rewrite_64 : decode cX9_rewrite 64 = .ok (.if_icmp .ge 64, 3) := by decide +kernel
theorem dX9_rewrite_67 : decode cX9_rewrite 67 = .ok (.aload_n 0, 1) := by decide +kernel
theorem dX9_rewrite_68 : decode cX9_rewrite 68 = .ok (.getfield 20, 3) := by decide +kernel
theorem dX9_rewrite_71 : decode cX9_rewrite 71 = .ok (.iload 5, 2) := by decide +kernel
theorem dX9_rewrite_73 : decode cX9_rewrite 73 = .ok (.invokevirtual 37, 3) := by decide +kernel
theorem dX9_rewrite_76 : decode cX9_rewrite 76 = .ok (.invokestatic 41, 3) := by decide +kernel
theorem dX9_rewrite_79 : decode cX9_rewrite 79 = .ok (.istore 6, 2) := by decide +kernel
theorem dX9_rewrite_81 : decode cX9_rewrite 81 = .ok (.iload 6, 2) := by decide +kernel
theorem dX9_rewrite_83 : decode cX9_rewrite 83 = .ok (.iconst (-1), 1) := by decide +kernel
theorem dX9_rewrite_84 : decode cX9_rewrite 84 = .ok (.if_icmp .ne 19, 3) := by decide +kernel
theorem dX9_rewrite_87 : decode cX9_rewrite 87 = .ok (.aload_n 3, 1) := by decide +kernel
theorem dX9_rewrite_88 : decode cX9_rewrite 88 = .ok (.aload_n 0, 1) := by decide +kernel
theorem dX9_rewrite_89 : decode cX9_rewrite 89 = .ok (.getfield 20, 3) := by decide +kernel
theorem dX9_rewrite_92 : decode cX9_rewrite 92 = .ok (.iload 5, 2) := by decide +kernel
theorem dX9_rewrite_94 : decode cX9_rewrite 94 = .ok (.invokevirtual 37, 3) := by decide +kernel
theorem dX9_rewrite_97 : decode cX9_rewrite 97 = .ok (.invokevirtual 74, 3) := by decide +kernel
theorem dX9_rewrite_100 : decode cX9_rewrite 100 = .ok (.goto 22, 3) := by decide +kernel
theorem dX9_rewrite_103 : decode cX9_rewrite 103 = .ok (.aload_n 3, 1) := by decide +kernel
theorem dX9_rewrite_104 : decode cX9_rewrite 104 = .ok (.aload_n 1, 1) := by decide +kernel
theorem dX9_rewrite_105 : decode cX9_rewrite 105 = .ok (.aload_n 0, 1) := by decide +kernel
theorem dX9_rewrite_106 : decode cX9_rewrite 106 = .ok (.getfield 23, 3) := by decide +kernel
theorem dX9_rewrite_109 : decode cX9_rewrite 109 = .ok (.iload 6, 2) := by decide +kernel
theorem dX9_rewrite_111 : decode cX9_rewrite 111 = .ok (.iaload, 1) := by decide +kernel
theorem dX9_rewrite_112 : decode cX9_rewrite 112 = .ok (.aload_n 0, 1) := by decide +kernel
theorem dX9_rewrite_113 : decode cX9_rewrite 113 = .ok (.getfield 27, 3) := by decide +kernel
theorem dX9_rewrite_116 : decode cX9_rewrite 116 = .ok (.iload 6, 2) := by decide +kernel
theorem dX9_rewrite_118 : decode cX9_rewrite 118 = .ok (.iaload, 1) := by decide +kernel
theorem dX9_rewrite_119 : decode cX9_rewrite 119 = .ok (.invokevirtual 70, 3) := by decide +kernel
theorem dX9_rewrite_122 : decode cX9_rewrite 122 = .ok (.iinc 5 1, 3) := by decide +kernel
theorem dX9_rewrite_125 : decode cX9_rewrite 125 = .ok (.goto (-70), 3) := by decide +kernel
theorem dX9_rewrite_128 : decode cX9_rewrite 128 = .ok (.aload_n 3, 1) := by decide +kernel
theorem dX9_rewrite_129 : decode cX9_rewrite 129 = .ok (.aload_n 1, 1) := by decide +kernel
theorem dX9_rewrite_130 : decode cX9_rewrite 130 = .ok (.iload 4, 2) := by decide +kernel
theorem dX9_rewrite_132 : decode cX9_rewrite 132 = .ok (.aload_n 1, 1) := by decide +kernel
theorem dX9_rewrite_133 : decode cX9_rewrite 133 = .ok (.getfield 34, 3) := by decide +kernel
theorem dX9_rewrite_136 : decode cX9_rewrite 136 = .ok (.invokevirtual 70, 3) := by decide +kernel
theorem dX9_rewrite_139 : decode cX9_rewrite 139 = .ok (.iconst 1, 1) := by decide +kernel
theorem dX9_rewrite_140 : decode cX9_rewrite 140 = .ok (.ireturn, 1) := by decide +kernel
