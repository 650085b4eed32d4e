set_option maxRecDepth 20000 in
theorem cs_X11_15 : csI RX11 15 yX8_init cX8_init 2 1 := ⟨gI cd_X8_init, in_X8, ml_X11_15, im_yX8_init, rfl, by decide +kernel⟩
set_option maxRecDepth 20000 in
theorem cs_X6_11 : csI RX6 11 yX10_init cX10_init 1 0 := ⟨gI cd_X10_init, in_X10, ml_X6_11, im_yX10_init, rfl, by decide +kernel⟩
set_option maxRecDepth 20000 in
theorem cs_X6_20 : csI RX6 20 yX8_init cX8_init 2 1 := ⟨gI cd_X8_init, in_X8, ml_X6_20, im_yX8_init, rfl, by decide +kernel⟩
set_option maxRecDepth 20000 in
theorem cs_X11_28 : csI RX11 28 yX6_init cX6_init 1 0 := ⟨gI cd_X6_init, in_X6, ml_X11_28, im_yX6_init, rfl, by decide +kernel⟩
set_option maxRecDepth 20000 in
theorem cs_X1_11 : csI RX1 11 yX8_init cX8_init 2 1 := ⟨gI cd_X8_init, in_X8, ml_X1_11, im_yX8_init, rfl, by decide +kernel⟩
set_option maxRecDepth 20000 in
theorem cs_X3_11 : csI RX3 11 yX1_init cX1_init 1 0 := ⟨gI cd_X1_init, in_X1, ml_X3_11, im_yX1_init, rfl, by decide +kernel⟩
set_option maxRecDepth 20000 in
theorem cs_X11_35 : csI RX11 35 yX3_init cX3_init 1 0 := ⟨gI cd_X3_init, in_X3, ml_X11_35, im_yX3_init, rfl, by decide +kernel⟩
set_option maxRecDepth 20000 in
theorem cs_X11_42 : csI RX11 42 yX5_init cX5_init 1 0 := ⟨gI cd_X5_init, in_X5, ml_X11_42, im_yX5_init, rfl, by decide +kernel⟩
set_option maxRecDepth 20000 in
theorem cs_X9_11 : csI RX9 11 yX8_init cX8_init 2 1 := ⟨gI cd_X8_init, in_X8, ml_X9_11, im_yX8_init, rfl, by decide +kernel⟩
set_option maxRecDepth 20000 in
theorem cs_X4_17 : csI RX4 17 yX9_init cX9_init 1 0 := ⟨gI cd_X9_init, in_X9, ml_X4_17, im_yX9_init, rfl, by decide +kernel⟩
set_option maxRecDepth 20000 in
theorem cs_X0_11 : csI RX0 11 yX8_init cX8_init 2 1 := ⟨gI cd_X8_init, in_X8, ml_X0_11, im_yX8_init, rfl, by decide +kernel⟩
set_option maxRecDepth 20000 in
theorem cs_X0_22 : csI RX0 22 yX1_init cX1_init 1 0 := ⟨gI cd_X1_init, in_X1, ml_X0_22, im_yX1_init, rfl, by decide +kernel⟩
set_option maxRecDepth 20000 in
theorem cs_X4_29 : csI RX4 29 yX0_init cX0_init 1 0 := ⟨gI cd_X0_init, in_X0, ml_X4_29, im_yX0_init, rfl, by decide +kernel⟩
set_option maxRecDepth 20000 in
theorem cs_X4_36 : csI RX4 36 yX8_init cX8_init 2 1 := ⟨gI cd_X8_init, in_X8, ml_X4_36, im_yX8_init, rfl, by decide +kernel⟩
set_option maxRecDepth 20000 in
theorem cs_X2_11 : csI RX2 11 yX3_init cX3_init 1 0 := ⟨gI cd_X3_init, in_X3, ml_X2_11, im_yX3_init, rfl, by decide +kernel⟩
set_option maxRecDepth 20000 in
theorem cs_X4_51 : csI RX4 51 yX2_init cX2_init 1 0 := ⟨gI cd_X2_init, in_X2, ml_X4_51, im_yX2_init, rfl, by decide +kernel⟩
set_option maxRecDepth 20000 in
theorem cs_X11_49 : csI RX11 49 yX4_init cX4_init 2 0 := ⟨gI cd_X4_init, in_X4, ml_X11_49, im_yX4_init, rfl, by decide +kernel⟩
set_option maxRecDepth 20000 in
theorem cs_X7_11 : csI RX7 11 yX1_init cX1_init 1 0 := ⟨gI cd_X1_init, in_X1, ml_X7_11, im_yX1_init, rfl, by decide +kernel⟩
set_option maxRecDepth 20000 in
theorem cs_X11_56 : csI RX11 56 yX7_init cX7_init 1 0 := ⟨gI cd_X7_init, in_X7, ml_X11_56, im_yX7_init, rfl, by decide +kernel⟩
set_option maxRecDepth 20000 in
theorem cs_X11_70 : csV RX11 70 RX10 yX10_put cX10_put 3 none 1 := ⟨gV ml_X11_70 im_yX10_put se_yX10_put in_X10 cd_X10_put, by decide +kernel⟩
set_option maxRecDepth 20000 in
theorem cs_X11_73 : csV RX11 73 RX10 yX10_shorten cX10_shorten 2 (some .boolean) 1 := ⟨gV ml_X11_73 im_yX10_shorten se_yX10_shorten in_X10 cd_X10_shorten, by decide +kernel⟩
set_option maxRecDepth 20000 in
theorem cs_X11_99 : csV RX11 99 RX4 yX4_ruleAt cX4_ruleAt 2 (some (.object "SameAfter$Rule")) 1 := ⟨gV ml_X11_99 im_yX4_ruleAt se_yX4_ruleAt in_X4 cd_X4_ruleAt, by decide +kernel⟩
set_option maxRecDepth 20000 in
theorem cs_X6_55 : csV RX6 55 RX9 yX9_forget cX9_forget 1 none 0 := ⟨gV ml_X6_55 im_yX9_forget se_yX9_forget in_X9 cd_X9_forget, by decide +kernel⟩
set_option maxRecDepth 20000 in
theorem cs_X6_85 : csV RX6 85 RX10 yX10_rewind cX10_rewind 1 none 0 := ⟨gV ml_X6_85 im_yX10_rewind se_yX10_rewind in_X10 cd_X10_rewind, by decide +kernel⟩
set_option maxRecDepth 20000 in
theorem cs_X6_48 : csV RX6 48 RX6 yX6_begin cX6_begin 4 none 3 := ⟨gV ml_X6_48 im_yX6_begin se_yX6_begin in_X6 cd_X6_begin, by decide +kernel⟩
set_option maxRecDepth 20000 in
theorem cs_X6_63 : csV RX6 63 RX6 yX6_beginExpression cX6_beginExpression 2 none 1 := ⟨gV ml_X6_63 im_yX6_beginExpression se_yX6_beginExpression in_X6 cd_X6_beginExpression, by decide +kernel⟩
set_option maxRecDepth 20000 in
theorem cs_X11_103 : csV RX11 103 RX6 yX6_beginRule cX6_beginRule 2 none 1 := ⟨gV ml_X11_103 im_yX6_beginRule se_yX6_beginRule in_X6 cd_X6_beginRule, by decide +kernel⟩
set_option maxRecDepth 20000 in
theorem cs_X10_31 : csV RX10 31 RX10 yX10_byteAt cX10_byteAt 2 (some .int) 1 := ⟨gV ml_X10_31 im_yX10_byteAt se_yX10_byteAt in_X10 cd_X10_byteAt, by decide +kernel⟩
set_option maxRecDepth 20000 in
theorem cs_X10_52 : csS RX10 52 yX10_isSmallLetter cX10_isSmallLetter 1 (some .boolean) 1 := ⟨gS ml_X10_52 st_yX10_isSmallLetter in_X10 cd_X10_isSmallLetter, by decide +kernel⟩
set_option maxRecDepth 20000 in
theorem cs_X10_35 : csS RX10 35 yX10_isLetter cX10_isLetter 1 (some .boolean) 1 := ⟨gS ml_X10_35 st_yX10_isLetter in_X10 cd_X10_isLetter, by decide +kernel⟩
set_option maxRecDepth 20000 in
theorem cs_X10_42 : csS RX10 42 yX10_isDigit cX10_isDigit 1 (some .boolean) 1 := ⟨gS ml_X10_42 st_yX10_isDigit in_X10 cd_X10_isDigit, by decide +kernel⟩
set_option maxRecDepth 20000 in
theorem cs_X10_48 : csV RX10 48 RX10 yX10_takeSign cX10_takeSign 3 none 2 := ⟨gV ml_X10_48 im_yX10_takeSign se_yX10_takeSign in_X10 cd_X10_takeSign, by decide +kernel⟩
set_option maxRecDepth 20000 in
theorem cs_X6_91 : csV RX6 91 RX10 yX10_advance cX10_advance 3 none 1 := ⟨gV ml_X6_91 im_yX10_advance se_yX10_advance in_X10 cd_X10_advance, by decide +kernel⟩
set_option maxRecDepth 20000 in
theorem cs_X6_125 : csV RX6 125 RX6 yX6_refuse cX6_refuse 2 none 1 := ⟨gV ml_X6_125 im_yX6_refuse se_yX6_refuse in_X6 cd_X6_refuse, by decide +kernel⟩
set_option maxRecDepth 20000 in
theorem cs_X6_107 : csV RX6 107 RX6 yX6_takeOperand cX6_takeOperand 1 none 0 := ⟨gV ml_X6_107 im_yX6_takeOperand se_yX6_takeOperand in_X6 cd_X6_takeOperand, by decide +kernel⟩
set_option maxRecDepth 20000 in
theorem cs_X6_44 : csV RX6 44 RX10 yX10_shorten cX10_shorten 2 (some .boolean) 1 := ⟨gV ml_X6_44 im_yX10_shorten se_yX10_shorten in_X10 cd_X10_shorten, by decide +kernel⟩
set_option maxRecDepth 20000 in
theorem cs_X11_88 : csV RX11 88 RX6 yX6_readAll cX6_readAll 2 (some .boolean) 0 := ⟨gV ml_X11_88 im_yX6_readAll se_yX6_readAll in_X6 cd_X6_readAll, by decide +kernel⟩
set_option maxRecDepth 20000 in
theorem cs_X11_77 : csV RX11 77 RX11 yX11_slotAt cX11_slotAt 2 (some (.object "SameAfter$Row")) 1 := ⟨gV ml_X11_77 im_yX11_slotAt se_yX11_slotAt in_X11 cd_X11_slotAt, by decide +kernel⟩
set_option maxRecDepth 20000 in
theorem cs_X11_81 : csV RX11 81 RX6 yX6_drop cX6_drop 1 none 0 := ⟨gV ml_X11_81 im_yX6_drop se_yX6_drop in_X6 cd_X6_drop, by decide +kernel⟩
set_option maxRecDepth 20000 in
theorem cs_X11_84 : csV RX11 84 RX6 yX6_beginProgram cX6_beginProgram 2 none 1 := ⟨gV ml_X11_84 im_yX6_beginProgram se_yX6_beginProgram in_X6 cd_X6_beginProgram, by decide +kernel⟩
set_option maxRecDepth 20000 in
theorem cs_X6_113 : csV RX6 113 RX6 yX6_takeStatement cX6_takeStatement 5 none 0 := ⟨gV ml_X6_113 im_yX6_takeStatement se_yX6_takeStatement in_X6 cd_X6_takeStatement, by decide +kernel⟩
set_option maxRecDepth 20000 in
theorem cs_X8_31 : csV RX8 31 RX8 yX8_addPart cX8_addPart 5 none 3 := ⟨gV ml_X8_31 im_yX8_addPart se_yX8_addPart in_X8 cd_X8_addPart, by decide +kernel⟩
set_option maxRecDepth 20000 in
theorem cs_X11_92 : csV RX11 92 RX8 yX8_copy cX8_copy 2 none 1 := ⟨gV ml_X11_92 im_yX8_copy se_yX8_copy in_X8 cd_X8_copy, by decide +kernel⟩
set_option maxRecDepth 20000 in
theorem cs_X11_95 : csV RX11 95 RX8 yX8_statements cX8_statements 3 (some .int) 0 := ⟨gV ml_X11_95 im_yX8_statements se_yX8_statements in_X8 cd_X8_statements, by decide +kernel⟩
set_option maxRecDepth 20000 in
theorem cs_X11_113 : csV RX11 113 RX8 yX8_cell cX8_cell 2 (some .int) 1 := ⟨gV ml_X11_113 im_yX8_cell se_yX8_cell in_X8 cd_X8_cell, by decide +kernel⟩
set_option maxRecDepth 20000 in
theorem cs_X11_117 : csV RX11 117 RX8 yX8_expressions cX8_expressions 3 (some .int) 0 := ⟨gV ml_X11_117 im_yX8_expressions se_yX8_expressions in_X8 cd_X8_expressions, by decide +kernel⟩
set_option maxRecDepth 20000 in
theorem cs_X1_61 : csV RX1 61 RX1 yX1_number cX1_number 4 none 0 := ⟨gV ml_X1_61 im_yX1_number se_yX1_number in_X1 cd_X1_number, by decide +kernel⟩
set_option maxRecDepth 20000 in
theorem cs_X1_64 : csV RX1 64 RX1 yX1_link cX1_link 4 none 0 := ⟨gV ml_X1_64 im_yX1_link se_yX1_link in_X1 cd_X1_link, by decide +kernel⟩
set_option maxRecDepth 20000 in
theorem cs_X1_67 : csV RX1 67 RX1 yX1_settle cX1_settle 5 none 0 := ⟨gV ml_X1_67 im_yX1_settle se_yX1_settle in_X1 cd_X1_settle, by decide +kernel⟩
set_option maxRecDepth 20000 in
theorem cs_X11_125 : csV RX11 125 RX1 yX1_trace cX1_trace 2 none 1 := ⟨gV ml_X11_125 im_yX1_trace se_yX1_trace in_X1 cd_X1_trace, by decide +kernel⟩
set_option maxRecDepth 20000 in
theorem cs_X1_70 : csV RX1 70 RX1 yX1_isHere cX1_isHere 2 (some .boolean) 1 := ⟨gV ml_X1_70 im_yX1_isHere se_yX1_isHere in_X1 cd_X1_isHere, by decide +kernel⟩
set_option maxRecDepth 20000 in
theorem cs_X11_130 : csV RX11 130 RX1 yX1_aheadOf cX1_aheadOf 2 (some .int) 1 := ⟨gV ml_X11_130 im_yX1_aheadOf se_yX1_aheadOf in_X1 cd_X1_aheadOf, by decide +kernel⟩
set_option maxRecDepth 20000 in
theorem cs_X11_133 : csS RX11 133 yX11_isWord cX11_isWord 1 (some .boolean) 1 := ⟨gS ml_X11_133 st_yX11_isWord in_X11 cd_X11_isWord, by decide +kernel⟩
set_option maxRecDepth 20000 in
theorem cs_X11_136 : csV RX11 136 RX3 yX3_go cX3_go 4 none 2 := ⟨gV ml_X11_136 im_yX3_go se_yX3_go in_X3 cd_X3_go, by decide +kernel⟩
set_option maxRecDepth 20000 in
theorem cs_X3_45 : csV RX3 45 RX3 yX3_output cX3_output 2 (some .int) 1 := ⟨gV ml_X3_45 im_yX3_output se_yX3_output in_X3 cd_X3_output, by decide +kernel⟩
set_option maxRecDepth 20000 in
theorem cs_X11_140 : csV RX11 140 RX3 yX3_tell cX3_tell 2 (some .int) 1 := ⟨gV ml_X11_140 im_yX3_tell se_yX3_tell in_X3 cd_X3_tell, by decide +kernel⟩
set_option maxRecDepth 20000 in
theorem cs_X4_67 : csV RX4 67 RX8 yX8_copy cX8_copy 2 none 1 := ⟨gV ml_X4_67 im_yX8_copy se_yX8_copy in_X8 cd_X8_copy, by decide +kernel⟩
set_option maxRecDepth 20000 in
theorem cs_X4_63 : csS RX4 63 yX4_isPass cX4_isPass 1 (some .boolean) 1 := ⟨gS ml_X4_63 st_yX4_isPass in_X4 cd_X4_isPass, by decide +kernel⟩
set_option maxRecDepth 20000 in
theorem cs_X4_109 : csV RX4 109 RX4 yX4_makeOf cX4_makeOf 5 (some .boolean) 2 := ⟨gV ml_X4_109 im_yX4_makeOf se_yX4_makeOf in_X4 cd_X4_makeOf, by decide +kernel⟩
set_option maxRecDepth 20000 in
theorem cs_X4_120 : csV RX4 120 RX8 yX8_isLike cX8_isLike 3 (some .boolean) 1 := ⟨gV ml_X4_120 im_yX8_isLike se_yX8_isLike in_X8 cd_X8_isLike, by decide +kernel⟩
set_option maxRecDepth 20000 in
theorem cs_X4_113 : csV RX4 113 RX4 yX4_madeWrong cX4_madeWrong 2 (some .boolean) 1 := ⟨gV ml_X4_113 im_yX4_madeWrong se_yX4_madeWrong in_X4 cd_X4_madeWrong, by decide +kernel⟩
set_option maxRecDepth 20000 in
theorem cs_X11_205 : csV RX11 205 RX4 yX4_findBad cX4_findBad 3 none 1 := ⟨gV ml_X11_205 im_yX4_findBad se_yX4_findBad in_X4 cd_X4_findBad, by decide +kernel⟩
set_option maxRecDepth 20000 in
theorem cs_X7_28 : csV RX7 28 RX1 yX1_trace cX1_trace 2 none 1 := ⟨gV ml_X7_28 im_yX1_trace se_yX1_trace in_X1 cd_X1_trace, by decide +kernel⟩
set_option maxRecDepth 20000 in
theorem cs_X11_220 : csV RX11 220 RX7 yX7_study cX7_study 3 none 1 := ⟨gV ml_X11_220 im_yX7_study se_yX7_study in_X7 cd_X7_study, by decide +kernel⟩
set_option maxRecDepth 20000 in
theorem cs_X7_82 : csV RX7 82 RX7 yX7_comingsOf cX7_comingsOf 4 (some .int) 1 := ⟨gV ml_X7_82 im_yX7_comingsOf se_yX7_comingsOf in_X7 cd_X7_comingsOf, by decide +kernel⟩
set_option maxRecDepth 20000 in
theorem cs_X11_229 : csV RX11 229 RX7 yX7_spills cX7_spills 6 (some .int) 1 := ⟨gV ml_X11_229 im_yX7_spills se_yX7_spills in_X7 cd_X7_spills, by decide +kernel⟩
set_option maxRecDepth 20000 in
theorem cs_X7_71 : csN RX7 71 RX11 yX11_isVariable cX11_isVariable 1 (some .boolean) 1 := ⟨gI cd_X11_isVariable, st_yX11_isVariable, in_X11, by decide +kernel⟩
set_option maxRecDepth 20000 in
theorem cs_X7_74 : csV RX7 74 RX7 yX7_deal cX7_deal 5 (some .boolean) 3 := ⟨gV ml_X7_74 im_yX7_deal se_yX7_deal in_X7 cd_X7_deal, by decide +kernel⟩
set_option maxRecDepth 20000 in
theorem cs_X7_78 : csV RX7 78 RX7 yX7_fewest cX7_fewest 2 (some .int) 0 := ⟨gV ml_X7_78 im_yX7_fewest se_yX7_fewest in_X7 cd_X7_fewest, by decide +kernel⟩
set_option maxRecDepth 20000 in
theorem cs_X11_226 : csV RX11 226 RX7 yX7_registerOf cX7_registerOf 2 (some .int) 1 := ⟨gV ml_X11_226 im_yX7_registerOf se_yX7_registerOf in_X7 cd_X7_registerOf, by decide +kernel⟩
set_option maxRecDepth 20000 in
theorem cs_X11_223 : csV RX11 223 RX7 yX7_fewest cX7_fewest 2 (some .int) 0 := ⟨gV ml_X11_223 im_yX7_fewest se_yX7_fewest in_X7 cd_X7_fewest, by decide +kernel⟩
set_option maxRecDepth 20000 in
theorem cs_X11_232 : csS RX11 232 yX11_isVariable cX11_isVariable 1 (some .boolean) 1 := ⟨gS ml_X11_232 st_yX11_isVariable in_X11 cd_X11_isVariable, by decide +kernel⟩
set_option maxRecDepth 20000 in
theorem cs_X11_235 : csV RX11 235 RX7 yX7_clashing cX7_clashing 3 (some .boolean) 2 := ⟨gV ml_X11_235 im_yX7_clashing se_yX7_clashing in_X7 cd_X7_clashing, by decide +kernel⟩
set_option maxRecDepth 20000 in
theorem cs_X2_39 : csV RX2 39 RX1 yX1_trace cX1_trace 2 none 1 := ⟨gV ml_X2_39 im_yX1_trace se_yX1_trace in_X1 cd_X1_trace, by decide +kernel⟩
set_option maxRecDepth 20000 in
theorem cs_X2_45 : csV RX2 45 RX1 yX1_aheadOf cX1_aheadOf 2 (some .int) 1 := ⟨gV ml_X2_45 im_yX1_aheadOf se_yX1_aheadOf in_X1 cd_X1_aheadOf, by decide +kernel⟩
set_option maxRecDepth 20000 in
theorem cs_X2_49 : csV RX2 49 RX3 yX3_go cX3_go 4 none 2 := ⟨gV ml_X2_49 im_yX3_go se_yX3_go in_X3 cd_X3_go, by decide +kernel⟩
set_option maxRecDepth 20000 in
theorem cs_X2_56 : csV RX2 56 RX2 yX2_placeThatDiffers cX2_placeThatDiffers 3 (some .int) 0 := ⟨gV ml_X2_56 im_yX2_placeThatDiffers se_yX2_placeThatDiffers in_X2 cd_X2_placeThatDiffers, by decide +kernel⟩
set_option maxRecDepth 20000 in
theorem cs_X2_60 : csV RX2 60 RX3 yX3_isTired cX3_isTired 1 (some .boolean) 0 := ⟨gV ml_X2_60 im_yX3_isTired se_yX3_isTired in_X3 cd_X3_isTired, by decide +kernel⟩
set_option maxRecDepth 20000 in
theorem cs_X2_53 : csV RX2 53 RX2 yX2_note cX2_note 6 none 2 := ⟨gV ml_X2_53 im_yX2_note se_yX2_note in_X2 cd_X2_note, by decide +kernel⟩
set_option maxRecDepth 20000 in
theorem cs_X11_147 : csV RX11 147 RX2 yX2_compare cX2_compare 9 (some .boolean) 3 := ⟨gV ml_X11_147 im_yX2_compare se_yX2_compare in_X2 cd_X2_compare, by decide +kernel⟩
set_option maxRecDepth 20000 in
theorem cs_X11_153 : csV RX11 153 RX2 yX2_verdict cX2_verdict 1 (some .int) 0 := ⟨gV ml_X11_153 im_yX2_verdict se_yX2_verdict in_X2 cd_X2_verdict, by decide +kernel⟩
set_option maxRecDepth 20000 in
theorem cs_X11_165 : csV RX11 165 RX11 yX11_ruleAt cX11_ruleAt 2 (some (.object "SameAfter$Rule")) 1 := ⟨gV ml_X11_165 im_yX11_ruleAt se_yX11_ruleAt in_X11 cd_X11_ruleAt, by decide +kernel⟩
set_option maxRecDepth 20000 in
theorem cs_X11_191 : csV RX11 191 RX4 yX4_addItem cX4_addItem 3 (some .int) 2 := ⟨gV ml_X11_191 im_yX4_addItem se_yX4_addItem in_X4 cd_X4_addItem, by decide +kernel⟩
set_option maxRecDepth 20000 in
theorem cs_X11_195 : csV RX11 195 RX4 yX4_dropItems cX4_dropItems 2 (some .boolean) 1 := ⟨gV ml_X11_195 im_yX4_dropItems se_yX4_dropItems in_X4 cd_X4_dropItems, by decide +kernel⟩
set_option maxRecDepth 20000 in
theorem cs_X11_198 : csV RX11 198 RX4 yX4_makeOf cX4_makeOf 5 (some .boolean) 2 := ⟨gV ml_X11_198 im_yX4_makeOf se_yX4_makeOf in_X4 cd_X4_makeOf, by decide +kernel⟩
set_option maxRecDepth 20000 in
theorem cs_X4_127 : csV RX4 127 RX8 yX8_statements cX8_statements 3 (some .int) 0 := ⟨gV ml_X4_127 im_yX8_statements se_yX8_statements in_X8 cd_X8_statements, by decide +kernel⟩
set_option maxRecDepth 20000 in
theorem cs_X11_214 : csV RX11 214 RX4 yX4_cutDown cX4_cutDown 7 (some .boolean) 2 := ⟨gV ml_X11_214 im_yX4_cutDown se_yX4_cutDown in_X4 cd_X4_cutDown, by decide +kernel⟩
set_option maxRecDepth 20000 in
theorem cs_X12_90 : csS RX12 90 yX12_isIn cX12_isIn 3 (some .boolean) 3 := ⟨gS ml_X12_90 st_yX12_isIn in_X12 cd_X12_isIn, by decide +kernel⟩
set_option maxRecDepth 20000 in
theorem cs_X12_249 : csS RX12 249 yX12_isSlot cX12_isSlot 1 (some .boolean) 1 := ⟨gS ml_X12_249 st_yX12_isSlot in_X12 cd_X12_isSlot, by decide +kernel⟩
set_option maxRecDepth 20000 in
theorem cs_X12_252 : csV RX12 252 RX12 yX12_ends cX12_ends 1 none 0 := ⟨gV ml_X12_252 im_yX12_ends se_yX12_ends in_X12 cd_X12_ends, by decide +kernel⟩
set_option maxRecDepth 20000 in
theorem cs_X12_161 : csV RX12 161 RX12 yX12_see cX12_see 2 (some .int) 1 := ⟨gV ml_X12_161 im_yX12_see se_yX12_see in_X12 cd_X12_see, by decide +kernel⟩
set_option maxRecDepth 20000 in
theorem cs_X12_188 : csV RX12 188 RX12 yX12_next0 cX12_next0 3 none 0 := ⟨gV ml_X12_188 im_yX12_next0 se_yX12_next0 in_X12 cd_X12_next0, by decide +kernel⟩
set_option maxRecDepth 20000 in
theorem cs_X12_255 : csV RX12 255 RX12 yX12_begins cX12_begins 3 none 2 := ⟨gV ml_X12_255 im_yX12_begins se_yX12_begins in_X12 cd_X12_begins, by decide +kernel⟩
set_option maxRecDepth 20000 in
theorem cs_X12_259 : csV RX12 259 RX12 yX12_turns cX12_turns 2 none 0 := ⟨gV ml_X12_259 im_yX12_turns se_yX12_turns in_X12 cd_X12_turns, by decide +kernel⟩
set_option maxRecDepth 20000 in
theorem cs_X12_262 : csV RX12 262 RX12 yX12_puts cX12_puts 3 none 1 := ⟨gV ml_X12_262 im_yX12_puts se_yX12_puts in_X12 cd_X12_puts, by decide +kernel⟩
set_option maxRecDepth 20000 in
theorem cs_X12_265 : csV RX12 265 RX12 yX12_statements cX12_statements 3 (some .int) 0 := ⟨gV ml_X12_265 im_yX12_statements se_yX12_statements in_X12 cd_X12_statements, by decide +kernel⟩
set_option maxRecDepth 20000 in
theorem cs_X12_185 : csV RX12 185 RX12 yX12_bad cX12_bad 2 (some .boolean) 1 := ⟨gV ml_X12_185 im_yX12_bad se_yX12_bad in_X12 cd_X12_bad, by decide +kernel⟩
set_option maxRecDepth 20000 in
theorem cs_X12_213 : csV RX12 213 RX12 yX12_unit cX12_unit 3 (some .boolean) 0 := ⟨gV ml_X12_213 im_yX12_unit se_yX12_unit in_X12 cd_X12_unit, by decide +kernel⟩
set_option maxRecDepth 20000 in
theorem cs_X12_203 : csV RX12 203 RX12 yX12_product cX12_product 2 (some .boolean) 0 := ⟨gV ml_X12_203 im_yX12_product se_yX12_product in_X12 cd_X12_product, by decide +kernel⟩
set_option maxRecDepth 20000 in
theorem cs_X12_219 : csV RX12 219 RX12 yX12_sumUp cX12_sumUp 3 (some .boolean) 0 := ⟨gV ml_X12_219 im_yX12_sumUp se_yX12_sumUp in_X12 cd_X12_sumUp, by decide +kernel⟩
set_option maxRecDepth 20000 in
theorem cs_X12_271 : csV RX12 271 RX12 yX12_takes cX12_takes 3 none 1 := ⟨gV ml_X12_271 im_yX12_takes se_yX12_takes in_X12 cd_X12_takes, by decide +kernel⟩
set_option maxRecDepth 20000 in
theorem cs_X12_107 : csV RX12 107 RX12 yX12_isLast cX12_isLast 2 (some .boolean) 1 := ⟨gV ml_X12_107 im_yX12_isLast se_yX12_isLast in_X12 cd_X12_isLast, by decide +kernel⟩
set_option maxRecDepth 20000 in
theorem cs_X12_277 : csV RX12 277 RX12 yX12_liveFrom cX12_liveFrom 3 (some .int) 2 := ⟨gV ml_X12_277 im_yX12_liveFrom se_yX12_liveFrom in_X12 cd_X12_liveFrom, by decide +kernel⟩
set_option maxRecDepth 20000 in
theorem cs_X12_274 : csV RX12 274 RX12 yX12_parts cX12_parts 3 (some .int) 0 := ⟨gV ml_X12_274 im_yX12_parts se_yX12_parts in_X12 cd_X12_parts, by decide +kernel⟩
set_option maxRecDepth 20000 in
theorem cs_X12_306 : csV RX12 306 RX12 yX12_does cX12_does 3 (some .boolean) 1 := ⟨gV ml_X12_306 im_yX12_does se_yX12_does in_X12 cd_X12_does, by decide +kernel⟩
set_option maxRecDepth 20000 in
theorem cs_X12_315 : csV RX12 315 RX12 yX12_runs cX12_runs 4 none 2 := ⟨gV ml_X12_315 im_yX12_runs se_yX12_runs in_X12 cd_X12_runs, by decide +kernel⟩
set_option maxRecDepth 20000 in
theorem cs_X12_330 : csV RX12 330 RX12 yX12_keeps cX12_keeps 3 none 0 := ⟨gV ml_X12_330 im_yX12_keeps se_yX12_keeps in_X12 cd_X12_keeps, by decide +kernel⟩
set_option maxRecDepth 20000 in
theorem cs_X12_333 : csV RX12 333 RX12 yX12_compares cX12_compares 5 none 0 := ⟨gV ml_X12_333 im_yX12_compares se_yX12_compares in_X12 cd_X12_compares, by decide +kernel⟩
set_option maxRecDepth 20000 in
theorem cs_X12_423 : csS RX12 423 yX12_isPass cX12_isPass 1 (some .boolean) 1 := ⟨gS ml_X12_423 st_yX12_isPass in_X12 cd_X12_isPass, by decide +kernel⟩
set_option maxRecDepth 20000 in
theorem cs_X12_439 : csV RX12 439 RX12 yX12_makes cX12_makes 4 (some .boolean) 1 := ⟨gV ml_X12_439 im_yX12_makes se_yX12_makes in_X12 cd_X12_makes, by decide +kernel⟩
set_option maxRecDepth 20000 in
theorem cs_X12_463 : csV RX12 463 RX12 yX12_clashFrom cX12_clashFrom 7 none 2 := ⟨gV ml_X12_463 im_yX12_clashFrom se_yX12_clashFrom in_X12 cd_X12_clashFrom, by decide +kernel⟩
set_option maxRecDepth 20000 in
theorem cs_X12_472 : csV RX12 472 RX12 yX12_clashIn cX12_clashIn 3 none 1 := ⟨gV ml_X12_472 im_yX12_clashIn se_yX12_clashIn in_X12 cd_X12_clashIn, by decide +kernel⟩
set_option maxRecDepth 20000 in
theorem cs_X12_379 : csV RX12 379 RX12 yX12_reads cX12_reads 5 (some .int) 2 := ⟨gV ml_X12_379 im_yX12_reads se_yX12_reads in_X12 cd_X12_reads, by decide +kernel⟩
set_option maxRecDepth 20000 in
theorem cs_X12_409 : csV RX12 409 RX12 yX12_sets cX12_sets 6 (some .boolean) 3 := ⟨gV ml_X12_409 im_yX12_sets se_yX12_sets in_X12 cd_X12_sets, by decide +kernel⟩
set_option maxRecDepth 20000 in
theorem cs_X12_475 : csV RX12 475 RX12 yX12_inRow cX12_inRow 3 (some .int) 0 := ⟨gV ml_X12_475 im_yX12_inRow se_yX12_inRow in_X12 cd_X12_inRow, by decide +kernel⟩
set_option maxRecDepth 20000 in
theorem cs_X12_466 : csV RX12 466 RX12 yX12_deals cX12_deals 9 (some .boolean) 2 := ⟨gV ml_X12_466 im_yX12_deals se_yX12_deals in_X12 cd_X12_deals, by decide +kernel⟩
set_option maxRecDepth 20000 in
theorem cs_X12_481 : csV RX12 481 RX12 yX12_enough cX12_enough 3 (some .int) 1 := ⟨gV ml_X12_481 im_yX12_enough se_yX12_enough in_X12 cd_X12_enough, by decide +kernel⟩
set_option maxRecDepth 20000 in
theorem cs_X12_478 : csV RX12 478 RX12 yX12_spills cX12_spills 5 (some .int) 2 := ⟨gV ml_X12_478 im_yX12_spills se_yX12_spills in_X12 cd_X12_spills, by decide +kernel⟩
set_option maxRecDepth 20000 in
theorem cs_L_9 : csI RL 9 yX11_init cX11_init 2 0 := ⟨gI cd_X11_init, in_X11, ml_L_9, im_yX11_init, rfl, by decide +kernel⟩
set_option maxRecDepth 20000 in
theorem cs_L_12 : csI RL 12 yX12_init cX12_init 1 0 := ⟨gI cd_X12_init, in_X12, ml_L_12, im_yX12_init, rfl, by decide +kernel⟩
set_option maxRecDepth 20000 in
theorem cs_L_13 : csV RL 13 RX11 yX11_feed cX11_feed 7 (some .int) 5 := ⟨gV ml_L_13 im_yX11_feed se_yX11_feed in_X11 cd_X11_feed, by decide +kernel⟩
set_option maxRecDepth 20000 in
theorem cs_L_17 : csV RL 17 RX12 yX12_feed cX12_feed 8 (some .int) 5 := ⟨gV ml_L_17 im_yX12_feed se_yX12_feed in_X12 cd_X12_feed, by decide +kernel⟩
set_option maxRecDepth 20000 in
theorem cs_L_18 : csV RL 18 RX11 yX11_end cX11_end 2 (some .boolean) 1 := ⟨gV ml_L_18 im_yX11_end se_yX11_end in_X11 cd_X11_end, by decide +kernel⟩
set_option maxRecDepth 20000 in
theorem cs_L_22 : csV RL 22 RX12 yX12_end cX12_end 2 (some .boolean) 1 := ⟨gV ml_L_22 im_yX12_end se_yX12_end in_X12 cd_X12_end, by decide +kernel⟩
set_option maxRecDepth 20000 in
theorem cs_L_23 : csV RL 23 RX11 yX11_program cX11_program 3 (some .int) 1 := ⟨gV ml_L_23 im_yX11_program se_yX11_program in_X11 cd_X11_program, by decide +kernel⟩
set_option maxRecDepth 20000 in
theorem cs_L_27 : csV RL 27 RX12 yX12_program cX12_program 3 (some .int) 1 := ⟨gV ml_L_27 im_yX12_program se_yX12_program in_X12 cd_X12_program, by decide +kernel⟩
set_option maxRecDepth 20000 in
theorem cs_L_28 : csV RL 28 RX11 yX11_rule cX11_rule 2 (some .int) 0 := ⟨gV ml_L_28 im_yX11_rule se_yX11_rule in_X11 cd_X11_rule, by decide +kernel⟩
set_option maxRecDepth 20000 in
theorem cs_L_32 : csV RL 32 RX12 yX12_rule cX12_rule 4 (some .int) 0 := ⟨gV ml_L_32 im_yX12_rule se_yX12_rule in_X12 cd_X12_rule, by decide +kernel⟩
set_option maxRecDepth 20000 in
theorem cs_L_33 : csV RL 33 RX11 yX11_fault cX11_fault 2 (some .int) 1 := ⟨gV ml_L_33 im_yX11_fault se_yX11_fault in_X11 cd_X11_fault, by decide +kernel⟩
set_option maxRecDepth 20000 in
theorem cs_L_36 : csV RL 36 RX12 yX12_fault cX12_fault 2 (some .int) 1 := ⟨gV ml_L_36 im_yX12_fault se_yX12_fault in_X12 cd_X12_fault, by decide +kernel⟩
set_option maxRecDepth 20000 in
theorem cs_L_37 : csV RL 37 RX11 yX11_at cX11_at 4 (some .int) 2 := ⟨gV ml_L_37 im_yX11_at se_yX11_at in_X11 cd_X11_at, by decide +kernel⟩
set_option maxRecDepth 20000 in
theorem cs_L_41 : csV RL 41 RX12 yX12_at cX12_at 3 (some .int) 2 := ⟨gV ml_L_41 im_yX12_at se_yX12_at in_X12 cd_X12_at, by decide +kernel⟩
set_option maxRecDepth 20000 in
theorem cs_L_42 : csV RL 42 RX11 yX11_size cX11_size 4 (some .int) 2 := ⟨gV ml_L_42 im_yX11_size se_yX11_size in_X11 cd_X11_size, by decide +kernel⟩
set_option maxRecDepth 20000 in
theorem cs_L_45 : csV RL 45 RX12 yX12_size cX12_size 3 (some .int) 2 := ⟨gV ml_L_45 im_yX12_size se_yX12_size in_X12 cd_X12_size, by decide +kernel⟩
set_option maxRecDepth 20000 in
theorem cs_L_46 : csV RL 46 RX11 yX11_run cX11_run 6 (some .int) 4 := ⟨gV ml_L_46 im_yX11_run se_yX11_run in_X11 cd_X11_run, by decide +kernel⟩
set_option maxRecDepth 20000 in
theorem cs_L_50 : csV RL 50 RX12 yX12_run cX12_run 5 (some .int) 4 := ⟨gV ml_L_50 im_yX12_run se_yX12_run in_X12 cd_X12_run, by decide +kernel⟩
set_option maxRecDepth 20000 in
theorem cs_L_51 : csV RL 51 RX11 yX11_judge cX11_judge 7 (some .int) 3 := ⟨gV ml_L_51 im_yX11_judge se_yX11_judge in_X11 cd_X11_judge, by decide +kernel⟩
set_option maxRecDepth 20000 in
theorem cs_L_55 : csV RL 55 RX12 yX12_judge cX12_judge 4 (some .int) 3 := ⟨gV ml_L_55 im_yX12_judge se_yX12_judge in_X12 cd_X12_judge, by decide +kernel⟩
set_option maxRecDepth 20000 in
theorem cs_L_56 : csV RL 56 RX11 yX11_ruleOf cX11_ruleOf 4 (some .int) 2 := ⟨gV ml_L_56 im_yX11_ruleOf se_yX11_ruleOf in_X11 cd_X11_ruleOf, by decide +kernel⟩
set_option maxRecDepth 20000 in
theorem cs_L_59 : csV RL 59 RX12 yX12_ruleOf cX12_ruleOf 8 (some .int) 2 := ⟨gV ml_L_59 im_yX12_ruleOf se_yX12_ruleOf in_X12 cd_X12_ruleOf, by decide +kernel⟩
set_option maxRecDepth 20000 in
theorem cs_L_60 : csV RL 60 RX11 yX11_places cX11_places 5 (some .int) 2 := ⟨gV ml_L_60 im_yX11_places se_yX11_places in_X11 cd_X11_places, by decide +kernel⟩
set_option maxRecDepth 20000 in
theorem cs_L_63 : csV RL 63 RX12 yX12_places cX12_places 5 (some .int) 2 := ⟨gV ml_L_63 im_yX12_places se_yX12_places in_X12 cd_X12_places, by decide +kernel⟩
set_option maxRecDepth 20000 in
theorem cs_L_64 : csV RL 64 RX11 yX11_apply cX11_apply 9 (some .boolean) 4 := ⟨gV ml_L_64 im_yX11_apply se_yX11_apply in_X11 cd_X11_apply, by decide +kernel⟩
set_option maxRecDepth 20000 in
theorem cs_L_68 : csV RL 68 RX12 yX12_apply cX12_apply 6 (some .boolean) 4 := ⟨gV ml_L_68 im_yX12_apply se_yX12_apply in_X12 cd_X12_apply, by decide +kernel⟩
set_option maxRecDepth 20000 in
theorem cs_L_69 : csV RL 69 RX11 yX11_item cX11_item 5 (some .int) 2 := ⟨gV ml_L_69 im_yX11_item se_yX11_item in_X11 cd_X11_item, by decide +kernel⟩
set_option maxRecDepth 20000 in
theorem cs_L_72 : csV RL 72 RX12 yX12_item cX12_item 3 (some .int) 2 := ⟨gV ml_L_72 im_yX12_item se_yX12_item in_X12 cd_X12_item, by decide +kernel⟩
set_option maxRecDepth 20000 in
theorem cs_L_73 : csV RL 73 RX11 yX11_clear cX11_clear 2 (some .boolean) 1 := ⟨gV ml_L_73 im_yX11_clear se_yX11_clear in_X11 cd_X11_clear, by decide +kernel⟩
set_option maxRecDepth 20000 in
theorem cs_L_76 : csV RL 76 RX12 yX12_clear cX12_clear 2 (some .boolean) 1 := ⟨gV ml_L_76 im_yX12_clear se_yX12_clear in_X12 cd_X12_clear, by decide +kernel⟩
set_option maxRecDepth 20000 in
theorem cs_L_77 : csV RL 77 RX11 yX11_make cX11_make 6 (some .int) 3 := ⟨gV ml_L_77 im_yX11_make se_yX11_make in_X11 cd_X11_make, by decide +kernel⟩
set_option maxRecDepth 20000 in
theorem cs_L_80 : csV RL 80 RX12 yX12_make cX12_make 4 (some .int) 3 := ⟨gV ml_L_80 im_yX12_make se_yX12_make in_X12 cd_X12_make, by decide +kernel⟩
set_option maxRecDepth 20000 in
theorem cs_L_81 : csV RL 81 RX11 yX11_blame cX11_blame 4 (some .int) 2 := ⟨gV ml_L_81 im_yX11_blame se_yX11_blame in_X11 cd_X11_blame, by decide +kernel⟩
set_option maxRecDepth 20000 in
theorem cs_L_84 : csV RL 84 RX12 yX12_blame cX12_blame 4 (some .int) 2 := ⟨gV ml_L_84 im_yX12_blame se_yX12_blame in_X12 cd_X12_blame, by decide +kernel⟩
set_option maxRecDepth 20000 in
theorem cs_L_85 : csV RL 85 RX11 yX11_cut cX11_cut 6 (some .int) 3 := ⟨gV ml_L_85 im_yX11_cut se_yX11_cut in_X11 cd_X11_cut, by decide +kernel⟩
set_option maxRecDepth 20000 in
theorem cs_L_88 : csV RL 88 RX12 yX12_cut cX12_cut 5 (some .int) 3 := ⟨gV ml_L_88 im_yX12_cut se_yX12_cut in_X12 cd_X12_cut, by decide +kernel⟩
set_option maxRecDepth 20000 in
theorem cs_L_89 : csV RL 89 RX11 yX11_registers cX11_registers 4 (some .int) 2 := ⟨gV ml_L_89 im_yX11_registers se_yX11_registers in_X11 cd_X11_registers, by decide +kernel⟩
set_option maxRecDepth 20000 in
theorem cs_L_92 : csV RL 92 RX12 yX12_registers cX12_registers 5 (some .int) 2 := ⟨gV ml_L_92 im_yX12_registers se_yX12_registers in_X12 cd_X12_registers, by decide +kernel⟩
set_option maxRecDepth 20000 in
theorem cs_L_93 : csV RL 93 RX11 yX11_clash cX11_clash 5 (some .int) 3 := ⟨gV ml_L_93 im_yX11_clash se_yX11_clash in_X11 cd_X11_clash, by decide +kernel⟩
set_option maxRecDepth 20000 in
theorem cs_L_96 : csV RL 96 RX12 yX12_clash cX12_clash 4 (some .int) 3 := ⟨gV ml_L_96 im_yX12_clash se_yX12_clash in_X12 cd_X12_clash, by decide +kernel⟩
