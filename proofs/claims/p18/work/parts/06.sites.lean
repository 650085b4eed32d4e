set_option maxRecDepth 20000 in
theorem cs_X8_31 : csV RX8 31 RX8 yX8_addPart cX8_addPart 5 none 3 := ⟨gV ml_X8_31 im_yX8_addPart se_yX8_addPart in_X8 cd_X8_addPart, by decide +kernel⟩
set_option maxRecDepth 20000 in
theorem cs_X8_35 : csS RX8 35 yX8_isStatement cX8_isStatement 1 (some .boolean) 1 := ⟨gS ml_X8_35 st_yX8_isStatement in_X8 cd_X8_isStatement, by decide +kernel⟩
set_option maxRecDepth 20000 in
theorem cs_X8_39 : csS RX8 39 yX8_isExpression cX8_isExpression 1 (some .boolean) 1 := ⟨gS ml_X8_39 st_yX8_isExpression in_X8 cd_X8_isExpression, by decide +kernel⟩
set_option maxRecDepth 20000 in
theorem cs_X8_42 : csV RX8 42 RX8 yX8_statements cX8_statements 3 (some .int) 0 := ⟨gV ml_X8_42 im_yX8_statements se_yX8_statements in_X8 cd_X8_statements, by decide +kernel⟩
set_option maxRecDepth 20000 in
theorem cs_X8_46 : csV RX8 46 RX8 yX8_expressions cX8_expressions 3 (some .int) 0 := ⟨gV ml_X8_46 im_yX8_expressions se_yX8_expressions in_X8 cd_X8_expressions, by decide +kernel⟩
set_option maxRecDepth 20000 in
theorem cs_X8_49 : csS RX8 49 yX8_isOperation cX8_isOperation 1 (some .boolean) 1 := ⟨gS ml_X8_49 st_yX8_isOperation in_X8 cd_X8_isOperation, by decide +kernel⟩
set_option maxRecDepth 20000 in
theorem cs_X8_52 : csS RX8 52 yX8_isBranch cX8_isBranch 1 (some .boolean) 1 := ⟨gS ml_X8_52 st_yX8_isBranch in_X8 cd_X8_isBranch, by decide +kernel⟩
set_option maxRecDepth 20000 in
theorem cs_X8_55 : csV RX8 55 RX8 yX8_cell cX8_cell 2 (some .int) 1 := ⟨gV ml_X8_55 im_yX8_cell se_yX8_cell in_X8 cd_X8_cell, by decide +kernel⟩
set_option maxRecDepth 20000 in
theorem cs_X8_62 : csV RX8 62 RX8 yX8_expressionEnd cX8_expressionEnd 4 (some .int) 1 := ⟨gV ml_X8_62 im_yX8_expressionEnd se_yX8_expressionEnd in_X8 cd_X8_expressionEnd, by decide +kernel⟩
set_option maxRecDepth 20000 in
theorem cs_X8_59 : csV RX8 59 RX8 yX8_closeOf cX8_closeOf 4 (some .int) 1 := ⟨gV ml_X8_59 im_yX8_closeOf se_yX8_closeOf in_X8 cd_X8_closeOf, by decide +kernel⟩
set_option maxRecDepth 20000 in
theorem cs_X8_68 : csS RX8 68 yX8_result cX8_result 4 (some .int) 3 := ⟨gS ml_X8_68 st_yX8_result in_X8 cd_X8_result, by decide +kernel⟩
set_option maxRecDepth 20000 in
theorem cs_X10_31 : csV RX10 31 RX10 yX10_byteAt cX10_byteAt 2 (some .int) 1 := ⟨gV ml_X10_31 im_yX10_byteAt se_yX10_byteAt in_X10 cd_X10_byteAt, by decide +kernel⟩
set_option maxRecDepth 20000 in
theorem cs_X10_52 : csS RX10 52 yX10_isSmallLetter cX10_isSmallLetter 1 (some .boolean) 1 := ⟨gS ml_X10_52 st_yX10_isSmallLetter in_X10 cd_X10_isSmallLetter, by decide +kernel⟩
set_option maxRecDepth 20000 in
theorem cs_X10_35 : csS RX10 35 yX10_isLetter cX10_isLetter 1 (some .boolean) 1 := ⟨gS ml_X10_35 st_yX10_isLetter in_X10 cd_X10_isLetter, by decide +kernel⟩
set_option maxRecDepth 20000 in
theorem cs_X10_42 : csS RX10 42 yX10_isDigit cX10_isDigit 1 (some .boolean) 1 := ⟨gS ml_X10_42 st_yX10_isDigit in_X10 cd_X10_isDigit, by decide +kernel⟩
set_option maxRecDepth 20000 in
theorem cs_X10_78 : csS RX10 78 yX10_isSign cX10_isSign 3 (some .boolean) 1 := ⟨gS ml_X10_78 st_yX10_isSign in_X10 cd_X10_isSign, by decide +kernel⟩
set_option maxRecDepth 20000 in
theorem cs_X10_48 : csV RX10 48 RX10 yX10_takeSign cX10_takeSign 3 none 2 := ⟨gV ml_X10_48 im_yX10_takeSign se_yX10_takeSign in_X10 cd_X10_takeSign, by decide +kernel⟩
set_option maxRecDepth 20000 in
theorem cs_X10_45 : csV RX10 45 RX10 yX10_takeDigits cX10_takeDigits 2 none 0 := ⟨gV ml_X10_45 im_yX10_takeDigits se_yX10_takeDigits in_X10 cd_X10_takeDigits, by decide +kernel⟩
set_option maxRecDepth 20000 in
theorem cs_X1_81 : csV RX1 81 RX8 yX8_cell cX8_cell 2 (some .int) 1 := ⟨gV ml_X1_81 im_yX8_cell se_yX8_cell in_X8 cd_X8_cell, by decide +kernel⟩
set_option maxRecDepth 20000 in
theorem cs_X1_84 : csS RX1 84 yX8_isStatement cX8_isStatement 1 (some .boolean) 1 := ⟨gS ml_X1_84 st_yX8_isStatement in_X8 cd_X8_isStatement, by decide +kernel⟩
set_option maxRecDepth 20000 in
theorem cs_X1_87 : csS RX1 87 yX8_isBranch cX8_isBranch 1 (some .boolean) 1 := ⟨gS ml_X1_87 st_yX8_isBranch in_X8 cd_X8_isBranch, by decide +kernel⟩
set_option maxRecDepth 20000 in
theorem cs_X1_100 : csS RX1 100 yX8_isSet cX8_isSet 1 (some .boolean) 1 := ⟨gS ml_X1_100 st_yX8_isSet in_X8 cd_X8_isSet, by decide +kernel⟩
set_option maxRecDepth 20000 in
theorem cs_X1_90 : csV RX1 90 RX1 yX1_begin cX1_begin 3 none 2 := ⟨gV ml_X1_90 im_yX1_begin se_yX1_begin in_X1 cd_X1_begin, by decide +kernel⟩
set_option maxRecDepth 20000 in
theorem cs_X1_94 : csS RX1 94 yX8_isExpression cX8_isExpression 1 (some .boolean) 1 := ⟨gS ml_X1_94 st_yX8_isExpression in_X8 cd_X8_isExpression, by decide +kernel⟩
set_option maxRecDepth 20000 in
theorem cs_X1_70 : csV RX1 70 RX1 yX1_isHere cX1_isHere 2 (some .boolean) 1 := ⟨gV ml_X1_70 im_yX1_isHere se_yX1_isHere in_X1 cd_X1_isHere, by decide +kernel⟩
set_option maxRecDepth 20000 in
theorem cs_X1_97 : csS RX1 97 yX8_isRead cX8_isRead 1 (some .boolean) 1 := ⟨gS ml_X1_97 st_yX8_isRead in_X8 cd_X8_isRead, by decide +kernel⟩
set_option maxRecDepth 20000 in
theorem cs_X1_61 : csV RX1 61 RX1 yX1_number cX1_number 4 none 0 := ⟨gV ml_X1_61 im_yX1_number se_yX1_number in_X1 cd_X1_number, by decide +kernel⟩
set_option maxRecDepth 20000 in
theorem cs_X1_109 : csV RX1 109 RX1 yX1_linkAt cX1_linkAt 4 (some .int) 3 := ⟨gV ml_X1_109 im_yX1_linkAt se_yX1_linkAt in_X1 cd_X1_linkAt, by decide +kernel⟩
set_option maxRecDepth 20000 in
theorem cs_X1_64 : csV RX1 64 RX1 yX1_link cX1_link 4 none 0 := ⟨gV ml_X1_64 im_yX1_link se_yX1_link in_X1 cd_X1_link, by decide +kernel⟩
set_option maxRecDepth 20000 in
theorem cs_X1_74 : csV RX1 74 RX1 yX1_aheadOf cX1_aheadOf 2 (some .int) 1 := ⟨gV ml_X1_74 im_yX1_aheadOf se_yX1_aheadOf in_X1 cd_X1_aheadOf, by decide +kernel⟩
set_option maxRecDepth 20000 in
theorem cs_X1_67 : csV RX1 67 RX1 yX1_settle cX1_settle 5 none 0 := ⟨gV ml_X1_67 im_yX1_settle se_yX1_settle in_X1 cd_X1_settle, by decide +kernel⟩
set_option maxRecDepth 20000 in
theorem cs_X9_37 : csV RX9 37 RX8 yX8_cell cX8_cell 2 (some .int) 1 := ⟨gV ml_X9_37 im_yX8_cell se_yX8_cell in_X8 cd_X8_cell, by decide +kernel⟩
set_option maxRecDepth 20000 in
theorem cs_X9_41 : csS RX9 41 yX9_letterOf cX9_letterOf 1 (some .int) 1 := ⟨gS ml_X9_41 st_yX9_letterOf in_X9 cd_X9_letterOf, by decide +kernel⟩
set_option maxRecDepth 20000 in
theorem cs_X9_48 : csS RX9 48 yX8_isExpression cX8_isExpression 1 (some .boolean) 1 := ⟨gS ml_X9_48 st_yX8_isExpression in_X8 cd_X8_isExpression, by decide +kernel⟩
set_option maxRecDepth 20000 in
theorem cs_X9_52 : csV RX9 52 RX8 yX8_expressionEnd cX8_expressionEnd 4 (some .int) 1 := ⟨gV ml_X9_52 im_yX8_expressionEnd se_yX8_expressionEnd in_X8 cd_X8_expressionEnd, by decide +kernel⟩
set_option maxRecDepth 20000 in
theorem cs_X9_59 : csV RX9 59 RX8 yX8_repeats cX8_repeats 5 (some .boolean) 3 := ⟨gV ml_X9_59 im_yX8_repeats se_yX8_repeats in_X8 cd_X8_repeats, by decide +kernel⟩
set_option maxRecDepth 20000 in
theorem cs_X9_55 : csV RX9 55 RX9 yX9_bind cX9_bind 6 (some .boolean) 4 := ⟨gV ml_X9_55 im_yX9_bind se_yX9_bind in_X9 cd_X9_bind, by decide +kernel⟩
set_option maxRecDepth 20000 in
theorem cs_X9_44 : csV RX9 44 RX9 yX9_matches cX9_matches 7 (some .boolean) 2 := ⟨gV ml_X9_44 im_yX9_matches se_yX9_matches in_X9 cd_X9_matches, by decide +kernel⟩
set_option maxRecDepth 20000 in
theorem cs_X9_63 : csV RX9 63 RX8 yX8_expressions cX8_expressions 3 (some .int) 0 := ⟨gV ml_X9_63 im_yX8_expressions se_yX8_expressions in_X8 cd_X8_expressions, by decide +kernel⟩
set_option maxRecDepth 20000 in
theorem cs_X9_67 : csV RX9 67 RX9 yX9_lengthOfRight cX9_lengthOfRight 4 (some .int) 0 := ⟨gV ml_X9_67 im_yX9_lengthOfRight se_yX9_lengthOfRight in_X9 cd_X9_lengthOfRight, by decide +kernel⟩
set_option maxRecDepth 20000 in
theorem cs_X9_70 : csV RX9 70 RX8 yX8_addPart cX8_addPart 5 none 3 := ⟨gV ml_X9_70 im_yX8_addPart se_yX8_addPart in_X8 cd_X8_addPart, by decide +kernel⟩
set_option maxRecDepth 20000 in
theorem cs_X9_74 : csV RX9 74 RX8 yX8_add cX8_add 2 none 1 := ⟨gV ml_X9_74 im_yX8_add se_yX8_add in_X8 cd_X8_add, by decide +kernel⟩
set_option maxRecDepth 20000 in
theorem cs_X3_48 : csV RX3 48 RX1 yX1_isHere cX1_isHere 2 (some .boolean) 1 := ⟨gV ml_X3_48 im_yX1_isHere se_yX1_isHere in_X1 cd_X1_isHere, by decide +kernel⟩
set_option maxRecDepth 20000 in
theorem cs_X3_65 : csV RX3 65 RX8 yX8_reckon cX8_reckon 9 none 4 := ⟨gV ml_X3_65 im_yX8_reckon se_yX8_reckon in_X8 cd_X8_reckon, by decide +kernel⟩
set_option maxRecDepth 20000 in
theorem cs_X3_71 : csS RX3 71 yX8_isBranch cX8_isBranch 1 (some .boolean) 1 := ⟨gS ml_X3_71 st_yX8_isBranch in_X8 cd_X8_isBranch, by decide +kernel⟩
set_option maxRecDepth 20000 in
theorem cs_X3_77 : csV RX3 77 RX8 yX8_cell cX8_cell 2 (some .int) 1 := ⟨gV ml_X3_77 im_yX8_cell se_yX8_cell in_X8 cd_X8_cell, by decide +kernel⟩
set_option maxRecDepth 20000 in
theorem cs_X3_80 : csS RX3 80 yX8_holds cX8_holds 3 (some .boolean) 3 := ⟨gS ml_X3_80 st_yX8_holds in_X8 cd_X8_holds, by decide +kernel⟩
set_option maxRecDepth 20000 in
theorem cs_X3_90 : csS RX3 90 yX8_isSet cX8_isSet 1 (some .boolean) 1 := ⟨gS ml_X3_90 st_yX8_isSet in_X8 cd_X8_isSet, by decide +kernel⟩
set_option maxRecDepth 20000 in
theorem cs_X3_38 : csV RX3 38 RX3 yX3_doStatement cX3_doStatement 4 (some .int) 1 := ⟨gV ml_X3_38 im_yX3_doStatement se_yX3_doStatement in_X3 cd_X3_doStatement, by decide +kernel⟩
set_option maxRecDepth 20000 in
theorem cs_X3_45 : csV RX3 45 RX3 yX3_output cX3_output 2 (some .int) 1 := ⟨gV ml_X3_45 im_yX3_output se_yX3_output in_X3 cd_X3_output, by decide +kernel⟩
set_option maxRecDepth 20000 in
theorem cs_X2_39 : csV RX2 39 RX1 yX1_trace cX1_trace 2 none 1 := ⟨gV ml_X2_39 im_yX1_trace se_yX1_trace in_X1 cd_X1_trace, by decide +kernel⟩
set_option maxRecDepth 20000 in
theorem cs_X2_45 : csV RX2 45 RX1 yX1_aheadOf cX1_aheadOf 2 (some .int) 1 := ⟨gV ml_X2_45 im_yX1_aheadOf se_yX1_aheadOf in_X1 cd_X1_aheadOf, by decide +kernel⟩
set_option maxRecDepth 20000 in
theorem cs_X2_49 : csV RX2 49 RX3 yX3_go cX3_go 4 none 2 := ⟨gV ml_X2_49 im_yX3_go se_yX3_go in_X3 cd_X3_go, by decide +kernel⟩
set_option maxRecDepth 20000 in
theorem cs_X2_76 : csV RX2 76 RX3 yX3_output cX3_output 2 (some .int) 1 := ⟨gV ml_X2_76 im_yX3_output se_yX3_output in_X3 cd_X3_output, by decide +kernel⟩
set_option maxRecDepth 20000 in
theorem cs_X2_56 : csV RX2 56 RX2 yX2_placeThatDiffers cX2_placeThatDiffers 3 (some .int) 0 := ⟨gV ml_X2_56 im_yX2_placeThatDiffers se_yX2_placeThatDiffers in_X2 cd_X2_placeThatDiffers, by decide +kernel⟩
set_option maxRecDepth 20000 in
theorem cs_X2_60 : csV RX2 60 RX3 yX3_isTired cX3_isTired 1 (some .boolean) 0 := ⟨gV ml_X2_60 im_yX3_isTired se_yX3_isTired in_X3 cd_X3_isTired, by decide +kernel⟩
set_option maxRecDepth 20000 in
theorem cs_X2_53 : csV RX2 53 RX2 yX2_note cX2_note 6 none 2 := ⟨gV ml_X2_53 im_yX2_note se_yX2_note in_X2 cd_X2_note, by decide +kernel⟩
set_option maxRecDepth 20000 in
theorem cs_X7_28 : csV RX7 28 RX1 yX1_trace cX1_trace 2 none 1 := ⟨gV ml_X7_28 im_yX1_trace se_yX1_trace in_X1 cd_X1_trace, by decide +kernel⟩
set_option maxRecDepth 20000 in
theorem cs_X7_41 : csV RX7 41 RX8 yX8_cell cX8_cell 2 (some .int) 1 := ⟨gV ml_X7_41 im_yX8_cell se_yX8_cell in_X8 cd_X8_cell, by decide +kernel⟩
set_option maxRecDepth 20000 in
theorem cs_X7_64 : csS RX7 64 yX8_isSet cX8_isSet 1 (some .boolean) 1 := ⟨gS ml_X7_64 st_yX8_isSet in_X8 cd_X8_isSet, by decide +kernel⟩
set_option maxRecDepth 20000 in
theorem cs_X7_68 : csS RX7 68 yX8_isRead cX8_isRead 1 (some .boolean) 1 := ⟨gS ml_X7_68 st_yX8_isRead in_X8 cd_X8_isRead, by decide +kernel⟩
set_option maxRecDepth 20000 in
theorem cs_X7_71 : csN RX7 71 RX11 yX11_isVariable cX11_isVariable 1 (some .boolean) 1 := ⟨gI cd_X11_isVariable, st_yX11_isVariable, in_X11, by decide +kernel⟩
set_option maxRecDepth 20000 in
theorem cs_X7_45 : csV RX7 45 RX7 yX7_count cX7_count 3 none 1 := ⟨gV ml_X7_45 im_yX7_count se_yX7_count in_X7 cd_X7_count, by decide +kernel⟩
set_option maxRecDepth 20000 in
theorem cs_X7_51 : csV RX7 51 RX1 yX1_aheadOf cX1_aheadOf 2 (some .int) 1 := ⟨gV ml_X7_51 im_yX1_aheadOf se_yX1_aheadOf in_X1 cd_X1_aheadOf, by decide +kernel⟩
set_option maxRecDepth 20000 in
theorem cs_X7_54 : csV RX7 54 RX7 yX7_noteClashes cX7_noteClashes 5 none 2 := ⟨gV ml_X7_54 im_yX7_noteClashes se_yX7_noteClashes in_X7 cd_X7_noteClashes, by decide +kernel⟩
set_option maxRecDepth 20000 in
theorem cs_X7_58 : csV RX7 58 RX1 yX1_setBy cX1_setBy 2 (some .int) 1 := ⟨gV ml_X7_58 im_yX1_setBy se_yX1_setBy in_X1 cd_X1_setBy, by decide +kernel⟩
set_option maxRecDepth 20000 in
theorem cs_X7_61 : csV RX7 61 RX1 yX1_behind cX1_behind 2 (some .int) 1 := ⟨gV ml_X7_61 im_yX1_behind se_yX1_behind in_X1 cd_X1_behind, by decide +kernel⟩
set_option maxRecDepth 20000 in
theorem cs_X7_74 : csV RX7 74 RX7 yX7_deal cX7_deal 5 (some .boolean) 3 := ⟨gV ml_X7_74 im_yX7_deal se_yX7_deal in_X7 cd_X7_deal, by decide +kernel⟩
set_option maxRecDepth 20000 in
theorem cs_X7_89 : csV RX7 89 RX7 yX7_clashing cX7_clashing 3 (some .boolean) 2 := ⟨gV ml_X7_89 im_yX7_clashing se_yX7_clashing in_X7 cd_X7_clashing, by decide +kernel⟩
set_option maxRecDepth 20000 in
theorem cs_X7_85 : csV RX7 85 RX7 yX7_isFree cX7_isFree 4 (some .boolean) 2 := ⟨gV ml_X7_85 im_yX7_isFree se_yX7_isFree in_X7 cd_X7_isFree, by decide +kernel⟩
set_option maxRecDepth 20000 in
theorem cs_X7_78 : csV RX7 78 RX7 yX7_fewest cX7_fewest 2 (some .int) 0 := ⟨gV ml_X7_78 im_yX7_fewest se_yX7_fewest in_X7 cd_X7_fewest, by decide +kernel⟩
set_option maxRecDepth 20000 in
theorem cs_X7_82 : csV RX7 82 RX7 yX7_comingsOf cX7_comingsOf 4 (some .int) 1 := ⟨gV ml_X7_82 im_yX7_comingsOf se_yX7_comingsOf in_X7 cd_X7_comingsOf, by decide +kernel⟩
set_option maxRecDepth 20000 in
theorem cs_X0_35 : csV RX0 35 RX8 yX8_cell cX8_cell 2 (some .int) 1 := ⟨gV ml_X0_35 im_yX8_cell se_yX8_cell in_X8 cd_X8_cell, by decide +kernel⟩
set_option maxRecDepth 20000 in
theorem cs_X0_54 : csS RX0 54 yX8_isOperation cX8_isOperation 1 (some .boolean) 1 := ⟨gS ml_X0_54 st_yX8_isOperation in_X8 cd_X8_isOperation, by decide +kernel⟩
set_option maxRecDepth 20000 in
theorem cs_X0_39 : csS RX0 39 yX8_isNumber cX8_isNumber 1 (some .boolean) 1 := ⟨gS ml_X0_39 st_yX8_isNumber in_X8 cd_X8_isNumber, by decide +kernel⟩
set_option maxRecDepth 20000 in
theorem cs_X0_57 : csS RX0 57 yX8_result cX8_result 4 (some .int) 3 := ⟨gS ml_X0_57 st_yX8_result in_X8 cd_X8_result, by decide +kernel⟩
set_option maxRecDepth 20000 in
theorem cs_X0_61 : csV RX0 61 RX8 yX8_change cX8_change 3 none 2 := ⟨gV ml_X0_61 im_yX8_change se_yX8_change in_X8 cd_X8_change, by decide +kernel⟩
set_option maxRecDepth 20000 in
theorem cs_X0_65 : csV RX0 65 RX8 yX8_remove cX8_remove 3 none 2 := ⟨gV ml_X0_65 im_yX8_remove se_yX8_remove in_X8 cd_X8_remove, by decide +kernel⟩
set_option maxRecDepth 20000 in
theorem cs_X0_27 : csV RX0 27 RX0 yX0_foldOperations cX0_foldOperations 6 none 1 := ⟨gV ml_X0_27 im_yX0_foldOperations se_yX0_foldOperations in_X0 cd_X0_foldOperations, by decide +kernel⟩
set_option maxRecDepth 20000 in
theorem cs_X0_43 : csS RX0 43 yX8_isBranch cX8_isBranch 1 (some .boolean) 1 := ⟨gS ml_X0_43 st_yX8_isBranch in_X8 cd_X8_isBranch, by decide +kernel⟩
set_option maxRecDepth 20000 in
theorem cs_X0_46 : csS RX0 46 yX8_holds cX8_holds 3 (some .boolean) 3 := ⟨gS ml_X0_46 st_yX8_holds in_X8 cd_X8_holds, by decide +kernel⟩
set_option maxRecDepth 20000 in
theorem cs_X0_68 : csV RX0 68 RX8 yX8_closeOf cX8_closeOf 4 (some .int) 1 := ⟨gV ml_X0_68 im_yX8_closeOf se_yX8_closeOf in_X8 cd_X8_closeOf, by decide +kernel⟩
set_option maxRecDepth 20000 in
theorem cs_X0_71 : csV RX0 71 RX8 yX8_elseOf cX8_elseOf 4 (some .int) 1 := ⟨gV ml_X0_71 im_yX8_elseOf se_yX8_elseOf in_X8 cd_X8_elseOf, by decide +kernel⟩
set_option maxRecDepth 20000 in
theorem cs_X0_50 : csV RX0 50 RX0 yX0_foldBranch cX0_foldBranch 6 none 3 := ⟨gV ml_X0_50 im_yX0_foldBranch se_yX0_foldBranch in_X0 cd_X0_foldBranch, by decide +kernel⟩
set_option maxRecDepth 20000 in
theorem cs_X0_74 : csV RX0 74 RX1 yX1_trace cX1_trace 2 none 1 := ⟨gV ml_X0_74 im_yX1_trace se_yX1_trace in_X1 cd_X1_trace, by decide +kernel⟩
set_option maxRecDepth 20000 in
theorem cs_X0_80 : csV RX0 80 RX1 yX1_setBy cX1_setBy 2 (some .int) 1 := ⟨gV ml_X0_80 im_yX1_setBy se_yX1_setBy in_X1 cd_X1_setBy, by decide +kernel⟩
set_option maxRecDepth 20000 in
theorem cs_X0_83 : csV RX0 83 RX1 yX1_behind cX1_behind 2 (some .int) 1 := ⟨gV ml_X0_83 im_yX1_behind se_yX1_behind in_X1 cd_X1_behind, by decide +kernel⟩
set_option maxRecDepth 20000 in
theorem cs_X0_86 : csV RX0 86 RX1 yX1_isHere cX1_isHere 2 (some .boolean) 1 := ⟨gV ml_X0_86 im_yX1_isHere se_yX1_isHere in_X1 cd_X1_isHere, by decide +kernel⟩
set_option maxRecDepth 20000 in
theorem cs_X0_96 : csV RX0 96 RX8 yX8_expressionEnd cX8_expressionEnd 4 (some .int) 1 := ⟨gV ml_X0_96 im_yX8_expressionEnd se_yX8_expressionEnd in_X8 cd_X8_expressionEnd, by decide +kernel⟩
set_option maxRecDepth 20000 in
theorem cs_X0_99 : csS RX0 99 yX8_isSet cX8_isSet 1 (some .boolean) 1 := ⟨gS ml_X0_99 st_yX8_isSet in_X8 cd_X8_isSet, by decide +kernel⟩
set_option maxRecDepth 20000 in
theorem cs_X0_102 : csV RX0 102 RX8 yX8_has cX8_has 5 (some .boolean) 3 := ⟨gV ml_X0_102 im_yX8_has se_yX8_has in_X8 cd_X8_has, by decide +kernel⟩
set_option maxRecDepth 20000 in
theorem cs_X0_105 : csS RX0 105 yX8_isRead cX8_isRead 1 (some .boolean) 1 := ⟨gS ml_X0_105 st_yX8_isRead in_X8 cd_X8_isRead, by decide +kernel⟩
set_option maxRecDepth 20000 in
theorem cs_X0_112 : csS RX0 112 yX8_isStatement cX8_isStatement 1 (some .boolean) 1 := ⟨gS ml_X0_112 st_yX8_isStatement in_X8 cd_X8_isStatement, by decide +kernel⟩
set_option maxRecDepth 20000 in
theorem cs_X0_115 : csV RX0 115 RX8 yX8_statementEnd cX8_statementEnd 3 (some .int) 1 := ⟨gV ml_X0_115 im_yX8_statementEnd se_yX8_statementEnd in_X8 cd_X8_statementEnd, by decide +kernel⟩
set_option maxRecDepth 20000 in
theorem cs_X0_118 : csV RX0 118 RX8 yX8_replace cX8_replace 6 none 4 := ⟨gV ml_X0_118 im_yX8_replace se_yX8_replace in_X8 cd_X8_replace, by decide +kernel⟩
set_option maxRecDepth 20000 in
theorem cs_X0_108 : csV RX0 108 RX0 yX0_copyBehind cX0_copyBehind 9 none 4 := ⟨gV ml_X0_108 im_yX0_copyBehind se_yX0_copyBehind in_X0 cd_X0_copyBehind, by decide +kernel⟩
set_option maxRecDepth 20000 in
theorem cs_X0_135 : csV RX0 135 RX8 yX8_copy cX8_copy 2 none 1 := ⟨gV ml_X0_135 im_yX8_copy se_yX8_copy in_X8 cd_X8_copy, by decide +kernel⟩
set_option maxRecDepth 20000 in
theorem cs_X0_122 : csV RX0 122 RX8 yX8_add cX8_add 2 none 1 := ⟨gV ml_X0_122 im_yX8_add se_yX8_add in_X8 cd_X8_add, by decide +kernel⟩
set_option maxRecDepth 20000 in
theorem cs_X0_125 : csV RX0 125 RX8 yX8_addPart cX8_addPart 5 none 3 := ⟨gV ml_X0_125 im_yX8_addPart se_yX8_addPart in_X8 cd_X8_addPart, by decide +kernel⟩
set_option maxRecDepth 20000 in
theorem cs_X5_36 : csV RX5 36 RX9 yX9_hasLetter cX9_hasLetter 2 (some .boolean) 1 := ⟨gV ml_X5_36 im_yX9_hasLetter se_yX9_hasLetter in_X9 cd_X9_hasLetter, by decide +kernel⟩
set_option maxRecDepth 20000 in
theorem cs_X5_62 : csV RX5 62 RX8 yX8_reckon cX8_reckon 9 none 4 := ⟨gV ml_X5_62 im_yX8_reckon se_yX8_reckon in_X8 cd_X8_reckon, by decide +kernel⟩
set_option maxRecDepth 20000 in
theorem cs_X5_50 : csV RX5 50 RX5 yX5_valueOf cX5_valueOf 2 (some .int) 1 := ⟨gV ml_X5_50 im_yX5_valueOf se_yX5_valueOf in_X5 cd_X5_valueOf, by decide +kernel⟩
set_option maxRecDepth 20000 in
theorem cs_X5_42 : csV RX5 42 RX5 yX5_tryOne cX5_tryOne 5 none 4 := ⟨gV ml_X5_42 im_yX5_tryOne se_yX5_tryOne in_X5 cd_X5_tryOne, by decide +kernel⟩
set_option maxRecDepth 20000 in
theorem cs_X5_84 : csV RX5 84 RX8 yX8_cell cX8_cell 2 (some .int) 1 := ⟨gV ml_X5_84 im_yX8_cell se_yX8_cell in_X8 cd_X8_cell, by decide +kernel⟩
set_option maxRecDepth 20000 in
theorem cs_X5_88 : csS RX5 88 yX8_isOperation cX8_isOperation 1 (some .boolean) 1 := ⟨gS ml_X5_88 st_yX8_isOperation in_X8 cd_X8_isOperation, by decide +kernel⟩
set_option maxRecDepth 20000 in
theorem cs_X5_80 : csV RX5 80 RX5 yX5_mostTimes cX5_mostTimes 8 (some .int) 2 := ⟨gV ml_X5_80 im_yX5_mostTimes se_yX5_mostTimes in_X5 cd_X5_mostTimes, by decide +kernel⟩
set_option maxRecDepth 20000 in
theorem cs_X5_66 : csV RX5 66 RX5 yX5_hasForm cX5_hasForm 3 (some .boolean) 1 := ⟨gV ml_X5_66 im_yX5_hasForm se_yX5_hasForm in_X5 cd_X5_hasForm, by decide +kernel⟩
set_option maxRecDepth 20000 in
theorem cs_X5_109 : csS RX5 109 yX9_letterOf cX9_letterOf 1 (some .int) 1 := ⟨gS ml_X5_109 st_yX9_letterOf in_X9 cd_X9_letterOf, by decide +kernel⟩
set_option maxRecDepth 20000 in
theorem cs_X5_112 : csS RX5 112 yX8_result cX8_result 4 (some .int) 3 := ⟨gS ml_X5_112 st_yX8_result in_X8 cd_X8_result, by decide +kernel⟩
set_option maxRecDepth 20000 in
theorem cs_X5_116 : csV RX5 116 RX5 yX5_addMultiple cX5_addMultiple 5 none 3 := ⟨gV ml_X5_116 im_yX5_addMultiple se_yX5_addMultiple in_X5 cd_X5_addMultiple, by decide +kernel⟩
set_option maxRecDepth 20000 in
theorem cs_X6_44 : csV RX6 44 RX10 yX10_shorten cX10_shorten 2 (some .boolean) 1 := ⟨gV ml_X6_44 im_yX10_shorten se_yX10_shorten in_X10 cd_X10_shorten, by decide +kernel⟩
set_option maxRecDepth 20000 in
theorem cs_X6_85 : csV RX6 85 RX10 yX10_rewind cX10_rewind 1 none 0 := ⟨gV ml_X6_85 im_yX10_rewind se_yX10_rewind in_X10 cd_X10_rewind, by decide +kernel⟩
set_option maxRecDepth 20000 in
theorem cs_X6_55 : csV RX6 55 RX9 yX9_forget cX9_forget 1 none 0 := ⟨gV ml_X6_55 im_yX9_forget se_yX9_forget in_X9 cd_X9_forget, by decide +kernel⟩
set_option maxRecDepth 20000 in
theorem cs_X6_48 : csV RX6 48 RX6 yX6_begin cX6_begin 4 none 3 := ⟨gV ml_X6_48 im_yX6_begin se_yX6_begin in_X6 cd_X6_begin, by decide +kernel⟩
set_option maxRecDepth 20000 in
theorem cs_X6_63 : csV RX6 63 RX6 yX6_beginExpression cX6_beginExpression 2 none 1 := ⟨gV ml_X6_63 im_yX6_beginExpression se_yX6_beginExpression in_X6 cd_X6_beginExpression, by decide +kernel⟩
set_option maxRecDepth 20000 in
theorem cs_X6_119 : csV RX6 119 RX8 yX8_add cX8_add 2 none 1 := ⟨gV ml_X6_119 im_yX8_add se_yX8_add in_X8 cd_X8_add, by decide +kernel⟩
set_option maxRecDepth 20000 in
theorem cs_X6_128 : csV RX6 128 RX6 yX6_closeBlock cX6_closeBlock 1 none 0 := ⟨gV ml_X6_128 im_yX6_closeBlock se_yX6_closeBlock in_X6 cd_X6_closeBlock, by decide +kernel⟩
set_option maxRecDepth 20000 in
theorem cs_X6_125 : csV RX6 125 RX6 yX6_refuse cX6_refuse 2 none 1 := ⟨gV ml_X6_125 im_yX6_refuse se_yX6_refuse in_X6 cd_X6_refuse, by decide +kernel⟩
set_option maxRecDepth 20000 in
theorem cs_X6_134 : csV RX6 134 RX6 yX6_beginStatement cX6_beginStatement 2 none 1 := ⟨gV ml_X6_134 im_yX6_beginStatement se_yX6_beginStatement in_X6 cd_X6_beginStatement, by decide +kernel⟩
set_option maxRecDepth 20000 in
theorem cs_X6_113 : csV RX6 113 RX6 yX6_takeStatement cX6_takeStatement 5 none 0 := ⟨gV ml_X6_113 im_yX6_takeStatement se_yX6_takeStatement in_X6 cd_X6_takeStatement, by decide +kernel⟩
set_option maxRecDepth 20000 in
theorem cs_X6_149 : csV RX6 149 RX6 yX6_open cX6_open 2 (some .boolean) 1 := ⟨gV ml_X6_149 im_yX6_open se_yX6_open in_X6 cd_X6_open, by decide +kernel⟩
set_option maxRecDepth 20000 in
theorem cs_X6_122 : csV RX6 122 RX6 yX6_openBlock cX6_openBlock 2 none 1 := ⟨gV ml_X6_122 im_yX6_openBlock se_yX6_openBlock in_X6 cd_X6_openBlock, by decide +kernel⟩
set_option maxRecDepth 20000 in
theorem cs_X6_162 : csV RX6 162 RX9 yX9_hasLetter cX9_hasLetter 2 (some .boolean) 1 := ⟨gV ml_X6_162 im_yX9_hasLetter se_yX9_hasLetter in_X9 cd_X9_hasLetter, by decide +kernel⟩
set_option maxRecDepth 20000 in
theorem cs_X6_158 : csV RX6 158 RX6 yX6_countThing cX6_countThing 1 (some .boolean) 0 := ⟨gV ml_X6_158 im_yX6_countThing se_yX6_countThing in_X6 cd_X6_countThing, by decide +kernel⟩
set_option maxRecDepth 20000 in
theorem cs_X6_155 : csV RX6 155 RX6 yX6_takeLetter cX6_takeLetter 2 none 0 := ⟨gV ml_X6_155 im_yX6_takeLetter se_yX6_takeLetter in_X6 cd_X6_takeLetter, by decide +kernel⟩
set_option maxRecDepth 20000 in
theorem cs_X6_152 : csV RX6 152 RX6 yX6_takeNumber cX6_takeNumber 1 none 0 := ⟨gV ml_X6_152 im_yX6_takeNumber se_yX6_takeNumber in_X6 cd_X6_takeNumber, by decide +kernel⟩
set_option maxRecDepth 20000 in
theorem cs_X6_175 : csV RX6 175 RX8 yX8_change cX8_change 3 none 2 := ⟨gV ml_X6_175 im_yX8_change se_yX8_change in_X8 cd_X8_change, by decide +kernel⟩
set_option maxRecDepth 20000 in
theorem cs_X6_178 : csV RX6 178 RX8 yX8_cell cX8_cell 2 (some .int) 1 := ⟨gV ml_X6_178 im_yX8_cell se_yX8_cell in_X8 cd_X8_cell, by decide +kernel⟩
set_option maxRecDepth 20000 in
theorem cs_X6_182 : csV RX6 182 RX9 yX9_noteLetters cX9_noteLetters 3 none 0 := ⟨gV ml_X6_182 im_yX9_noteLetters se_yX9_noteLetters in_X9 cd_X9_noteLetters, by decide +kernel⟩
set_option maxRecDepth 20000 in
theorem cs_X6_168 : csV RX6 168 RX6 yX6_endExpression cX6_endExpression 3 none 1 := ⟨gV ml_X6_168 im_yX6_endExpression se_yX6_endExpression in_X6 cd_X6_endExpression, by decide +kernel⟩
set_option maxRecDepth 20000 in
theorem cs_X6_171 : csV RX6 171 RX8 yX8_insert cX8_insert 3 none 2 := ⟨gV ml_X6_171 im_yX8_insert se_yX8_insert in_X8 cd_X8_insert, by decide +kernel⟩
set_option maxRecDepth 20000 in
theorem cs_X6_165 : csV RX6 165 RX6 yX6_takeOperation cX6_takeOperation 2 none 1 := ⟨gV ml_X6_165 im_yX6_takeOperation se_yX6_takeOperation in_X6 cd_X6_takeOperation, by decide +kernel⟩
set_option maxRecDepth 20000 in
theorem cs_X4_63 : csS RX4 63 yX4_isPass cX4_isPass 1 (some .boolean) 1 := ⟨gS ml_X4_63 st_yX4_isPass in_X4 cd_X4_isPass, by decide +kernel⟩
set_option maxRecDepth 20000 in
theorem cs_X4_67 : csV RX4 67 RX8 yX8_copy cX8_copy 2 none 1 := ⟨gV ml_X4_67 im_yX8_copy se_yX8_copy in_X8 cd_X8_copy, by decide +kernel⟩
set_option maxRecDepth 20000 in
theorem cs_X4_98 : csV RX4 98 RX9 yX9_placeIn cX9_placeIn 5 (some .int) 2 := ⟨gV ml_X4_98 im_yX9_placeIn se_yX9_placeIn in_X9 cd_X9_placeIn, by decide +kernel⟩
set_option maxRecDepth 20000 in
theorem cs_X4_105 : csV RX4 105 RX9 yX9_rewrite cX9_rewrite 7 (some .boolean) 3 := ⟨gV ml_X4_105 im_yX9_rewrite se_yX9_rewrite in_X9 cd_X9_rewrite, by decide +kernel⟩
set_option maxRecDepth 20000 in
theorem cs_X4_120 : csV RX4 120 RX8 yX8_isLike cX8_isLike 3 (some .boolean) 1 := ⟨gV ml_X4_120 im_yX8_isLike se_yX8_isLike in_X8 cd_X8_isLike, by decide +kernel⟩
set_option maxRecDepth 20000 in
theorem cs_X4_123 : csV RX4 123 RX2 yX2_compare cX2_compare 9 (some .boolean) 3 := ⟨gV ml_X4_123 im_yX2_compare se_yX2_compare in_X2 cd_X2_compare, by decide +kernel⟩
set_option maxRecDepth 20000 in
theorem cs_X4_127 : csV RX4 127 RX8 yX8_statements cX8_statements 3 (some .int) 0 := ⟨gV ml_X4_127 im_yX8_statements se_yX8_statements in_X8 cd_X8_statements, by decide +kernel⟩
set_option maxRecDepth 20000 in
theorem cs_X11_70 : csV RX11 70 RX10 yX10_put cX10_put 3 none 1 := ⟨gV ml_X11_70 im_yX10_put se_yX10_put in_X10 cd_X10_put, by decide +kernel⟩
set_option maxRecDepth 20000 in
theorem cs_X11_73 : csV RX11 73 RX10 yX10_shorten cX10_shorten 2 (some .boolean) 1 := ⟨gV ml_X11_73 im_yX10_shorten se_yX10_shorten in_X10 cd_X10_shorten, by decide +kernel⟩
set_option maxRecDepth 20000 in
theorem cs_X11_195 : csV RX11 195 RX4 yX4_dropItems cX4_dropItems 2 (some .boolean) 1 := ⟨gV ml_X11_195 im_yX4_dropItems se_yX4_dropItems in_X4 cd_X4_dropItems, by decide +kernel⟩
