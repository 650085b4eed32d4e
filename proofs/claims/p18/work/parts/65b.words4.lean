set_option maxRecDepth 20000 in
theorem ml_X11_99 : Cond.methodLink RX11 99 yX4_ruleAt ∈ gG := gT3 222 rfl rfl
set_option maxRecDepth 20000 in
theorem im_yX4_ruleAt : Cond.instanceMethod yX4_ruleAt ∈ gG := gT3 223 rfl rfl
set_option maxRecDepth 20000 in
theorem se_yX4_ruleAt : Cond.selects RX4 yX4_ruleAt yX4_ruleAt ∈ gG := gT3 224 rfl rfl
set_option maxRecDepth 20000 in
theorem cd_X4_ruleAt : Cond.code yX4_ruleAt cX4_ruleAt 2 (some (.object "SameAfter$Rule")) ∈ gG := gT3 225 rfl rfl
set_option maxRecDepth 20000 in
theorem ml_X5_97 : Cond.methodLink RX5 97 yX5_beginForm ∈ gG := gT4 159 rfl rfl
set_option maxRecDepth 20000 in
theorem im_yX5_beginForm : Cond.instanceMethod yX5_beginForm ∈ gG := gT4 161 rfl rfl
set_option maxRecDepth 20000 in
theorem se_yX5_beginForm : Cond.selects RX5 yX5_beginForm yX5_beginForm ∈ gG := gP3 4 rfl
set_option maxRecDepth 20000 in
theorem cd_X5_beginForm : Cond.code yX5_beginForm cX5_beginForm 5 none ∈ gG := gT4 162 rfl rfl
set_option maxRecDepth 20000 in
theorem ml_X5_105 : Cond.methodLink RX5 105 yX5_addUp ∈ gG := gT4 174 rfl rfl
set_option maxRecDepth 20000 in
theorem im_yX5_addUp : Cond.instanceMethod yX5_addUp ∈ gG := gT4 176 rfl rfl
set_option maxRecDepth 20000 in
theorem se_yX5_addUp : Cond.selects RX5 yX5_addUp yX5_addUp ∈ gG := gP3 7 rfl
set_option maxRecDepth 20000 in
theorem cd_X5_addUp : Cond.code yX5_addUp cX5_addUp 5 none ∈ gG := gT4 177 rfl rfl
set_option maxRecDepth 20000 in
theorem ml_X5_101 : Cond.methodLink RX5 101 yX5_multiply ∈ gG := gT4 164 rfl rfl
set_option maxRecDepth 20000 in
theorem im_yX5_multiply : Cond.instanceMethod yX5_multiply ∈ gG := gT4 166 rfl rfl
set_option maxRecDepth 20000 in
theorem se_yX5_multiply : Cond.selects RX5 yX5_multiply yX5_multiply ∈ gG := gP3 5 rfl
set_option maxRecDepth 20000 in
theorem cd_X5_multiply : Cond.code yX5_multiply cX5_multiply 4 none ∈ gG := gT4 167 rfl rfl
set_option maxRecDepth 20000 in
theorem ml_X5_70 : Cond.methodLink RX5 70 yX5_multiplyOut ∈ gG := gT4 155 rfl rfl
set_option maxRecDepth 20000 in
theorem im_yX5_multiplyOut : Cond.instanceMethod yX5_multiplyOut ∈ gG := gT4 157 rfl rfl
set_option maxRecDepth 20000 in
theorem se_yX5_multiplyOut : Cond.selects RX5 yX5_multiplyOut yX5_multiplyOut ∈ gG := gP3 3 rfl
set_option maxRecDepth 20000 in
theorem cd_X5_multiplyOut : Cond.code yX5_multiplyOut cX5_multiplyOut 5 none ∈ gG := gT4 158 rfl rfl
set_option maxRecDepth 20000 in
theorem fl_X5_23 : Cond.fieldLink RX5 23 "SameAfter$Proof" "leftForm" "[I" ∈ gG := gT2 16 rfl rfl
set_option maxRecDepth 20000 in
theorem ml_X4_71 : Cond.methodLink RX4 71 yX0_fold ∈ gG := gT5 25 rfl rfl
set_option maxRecDepth 20000 in
theorem im_yX0_fold : Cond.instanceMethod yX0_fold ∈ gG := gT5 26 rfl rfl
set_option maxRecDepth 20000 in
theorem se_yX0_fold : Cond.selects RX0 yX0_fold yX0_fold ∈ gG := gT5 27 rfl rfl
set_option maxRecDepth 20000 in
theorem cd_X0_fold : Cond.code yX0_fold cX0_fold 4 none ∈ gG := gT5 28 rfl rfl
set_option maxRecDepth 20000 in
theorem ml_X4_74 : Cond.methodLink RX4 74 yX0_dead ∈ gG := gT5 59 rfl rfl
set_option maxRecDepth 20000 in
theorem im_yX0_dead : Cond.instanceMethod yX0_dead ∈ gG := gT5 60 rfl rfl
set_option maxRecDepth 20000 in
theorem se_yX0_dead : Cond.selects RX0 yX0_dead yX0_dead ∈ gG := gT5 61 rfl rfl
set_option maxRecDepth 20000 in
theorem cd_X0_dead : Cond.code yX0_dead cX0_dead 6 none ∈ gG := gT5 62 rfl rfl
set_option maxRecDepth 20000 in
theorem ml_X4_77 : Cond.methodLink RX4 77 yX0_hastyDead ∈ gG := gT5 73 rfl rfl
set_option maxRecDepth 20000 in
theorem im_yX0_hastyDead : Cond.instanceMethod yX0_hastyDead ∈ gG := gT5 74 rfl rfl
set_option maxRecDepth 20000 in
theorem se_yX0_hastyDead : Cond.selects RX0 yX0_hastyDead yX0_hastyDead ∈ gG := gT5 75 rfl rfl
set_option maxRecDepth 20000 in
theorem cd_X0_hastyDead : Cond.code yX0_hastyDead cX0_hastyDead 5 none ∈ gG := gT5 76 rfl rfl
set_option maxRecDepth 20000 in
theorem ml_X4_80 : Cond.methodLink RX4 80 yX0_hastyCopy ∈ gG := gT5 83 rfl rfl
set_option maxRecDepth 20000 in
theorem im_yX0_hastyCopy : Cond.instanceMethod yX0_hastyCopy ∈ gG := gT5 84 rfl rfl
set_option maxRecDepth 20000 in
theorem se_yX0_hastyCopy : Cond.selects RX0 yX0_hastyCopy yX0_hastyCopy ∈ gG := gT5 85 rfl rfl
set_option maxRecDepth 20000 in
theorem cd_X0_hastyCopy : Cond.code yX0_hastyCopy cX0_hastyCopy 5 none ∈ gG := gT5 86 rfl rfl
set_option maxRecDepth 20000 in
theorem ml_X4_83 : Cond.methodLink RX4 83 yX0_unroll ∈ gG := gT5 104 rfl rfl
set_option maxRecDepth 20000 in
theorem im_yX0_unroll : Cond.instanceMethod yX0_unroll ∈ gG := gT5 105 rfl rfl
set_option maxRecDepth 20000 in
theorem se_yX0_unroll : Cond.selects RX0 yX0_unroll yX0_unroll ∈ gG := gT5 106 rfl rfl
set_option maxRecDepth 20000 in
theorem cd_X0_unroll : Cond.code yX0_unroll cX0_unroll 4 none ∈ gG := gT5 107 rfl rfl
set_option maxRecDepth 20000 in
theorem ml_X4_86 : Cond.methodLink RX4 86 yX4_ruleAt ∈ gG := gT5 112 rfl rfl
set_option maxRecDepth 20000 in
theorem ml_X4_90 : Cond.methodLink RX4 90 yX4_applyRule ∈ gG := gT5 113 rfl rfl
set_option maxRecDepth 20000 in
theorem im_yX4_applyRule : Cond.instanceMethod yX4_applyRule ∈ gG := gT5 115 rfl rfl
set_option maxRecDepth 20000 in
theorem se_yX4_applyRule : Cond.selects RX4 yX4_applyRule yX4_applyRule ∈ gG := gP4 0 rfl
set_option maxRecDepth 20000 in
theorem cd_X4_applyRule : Cond.code yX4_applyRule cX4_applyRule 4 (some .boolean) ∈ gG := gT5 116 rfl rfl
set_option maxRecDepth 20000 in
theorem ml_X4_94 : Cond.methodLink RX4 94 yX8_isTooLarge ∈ gG := gT5 119 rfl rfl
set_option maxRecDepth 20000 in
theorem im_yX8_isTooLarge : Cond.instanceMethod yX8_isTooLarge ∈ gG := gT5 120 rfl rfl
set_option maxRecDepth 20000 in
theorem se_yX8_isTooLarge : Cond.selects RX8 yX8_isTooLarge yX8_isTooLarge ∈ gG := gT5 121 rfl rfl
set_option maxRecDepth 20000 in
theorem cd_X8_isTooLarge : Cond.code yX8_isTooLarge cX8_isTooLarge 1 (some .boolean) ∈ gG := gT5 122 rfl rfl
set_option maxRecDepth 20000 in
theorem ml_X4_109 : Cond.methodLink RX4 109 yX4_makeOf ∈ gG := gT5 133 rfl rfl
set_option maxRecDepth 20000 in
theorem im_yX4_makeOf : Cond.instanceMethod yX4_makeOf ∈ gG := gT5 21 rfl rfl
set_option maxRecDepth 20000 in
theorem se_yX4_makeOf : Cond.selects RX4 yX4_makeOf yX4_makeOf ∈ gG := gT5 22 rfl rfl
set_option maxRecDepth 20000 in
theorem cd_X4_makeOf : Cond.code yX4_makeOf cX4_makeOf 5 (some .boolean) ∈ gG := gT5 23 rfl rfl
set_option maxRecDepth 20000 in
theorem ml_X4_113 : Cond.methodLink RX4 113 yX4_madeWrong ∈ gG := gT5 134 rfl rfl
set_option maxRecDepth 20000 in
theorem im_yX4_madeWrong : Cond.instanceMethod yX4_madeWrong ∈ gG := gT5 136 rfl rfl
set_option maxRecDepth 20000 in
theorem se_yX4_madeWrong : Cond.selects RX4 yX4_madeWrong yX4_madeWrong ∈ gG := gP4 1 rfl
set_option maxRecDepth 20000 in
theorem cd_X4_madeWrong : Cond.code yX4_madeWrong cX4_madeWrong 2 (some .boolean) ∈ gG := gT5 137 rfl rfl
set_option maxRecDepth 20000 in
theorem fl_X4_117 : Cond.fieldLink RX4 117 "SameAfter$Judge" "first" "I" ∈ gG := gT2 98 rfl rfl
set_option maxRecDepth 20000 in
theorem fl_X4_131 : Cond.fieldLink RX4 131 "SameAfter$Row" "length" "I" ∈ gG := gT1 47 rfl rfl
set_option maxRecDepth 20000 in
theorem ml_X4_134 : Cond.methodLink RX4 134 yX8_cell ∈ gG := gT5 152 rfl rfl
set_option maxRecDepth 20000 in
theorem ml_X4_138 : Cond.methodLink RX4 138 yX8_isStatement ∈ gG := gT5 153 rfl rfl
set_option maxRecDepth 20000 in
theorem fl_X4_46 : Cond.fieldLink RX4 46 "SameAfter$Passes" "trial" "LSameAfter$Row;" ∈ gG := gT2 134 rfl rfl
set_option maxRecDepth 20000 in
theorem ml_X4_141 : Cond.methodLink RX4 141 yX8_statementEnd ∈ gG := gT5 154 rfl rfl
set_option maxRecDepth 20000 in
theorem ml_X4_144 : Cond.methodLink RX4 144 yX8_remove ∈ gG := gT5 155 rfl rfl
set_option maxRecDepth 20000 in
theorem ml_X11_77 : Cond.methodLink RX11 77 yX11_slotAt ∈ gG := gT2 225 rfl rfl
set_option maxRecDepth 20000 in
theorem im_yX11_slotAt : Cond.instanceMethod yX11_slotAt ∈ gG := gT2 227 rfl rfl
set_option maxRecDepth 20000 in
theorem se_yX11_slotAt : Cond.selects RX11 yX11_slotAt yX11_slotAt ∈ gG := gP1 0 rfl
set_option maxRecDepth 20000 in
theorem cd_X11_slotAt : Cond.code yX11_slotAt cX11_slotAt 2 (some (.object "SameAfter$Row")) ∈ gG := gT2 228 rfl rfl
set_option maxRecDepth 20000 in
theorem ml_X11_81 : Cond.methodLink RX11 81 yX6_drop ∈ gG := gT2 229 rfl rfl
set_option maxRecDepth 20000 in
theorem im_yX6_drop : Cond.instanceMethod yX6_drop ∈ gG := gT2 230 rfl rfl
set_option maxRecDepth 20000 in
theorem se_yX6_drop : Cond.selects RX6 yX6_drop yX6_drop ∈ gG := gT2 231 rfl rfl
set_option maxRecDepth 20000 in
theorem cd_X6_drop : Cond.code yX6_drop cX6_drop 1 none ∈ gG := gT2 232 rfl rfl
set_option maxRecDepth 20000 in
theorem fl_X11_22 : Cond.fieldLink RX11 22 "SameAfter" "work" "LSameAfter$Row;" ∈ gG := gT2 182 rfl rfl
set_option maxRecDepth 20000 in
theorem ml_X11_84 : Cond.methodLink RX11 84 yX6_beginProgram ∈ gG := gT2 234 rfl rfl
set_option maxRecDepth 20000 in
theorem im_yX6_beginProgram : Cond.instanceMethod yX6_beginProgram ∈ gG := gT2 235 rfl rfl
set_option maxRecDepth 20000 in
theorem se_yX6_beginProgram : Cond.selects RX6 yX6_beginProgram yX6_beginProgram ∈ gG := gT2 236 rfl rfl
set_option maxRecDepth 20000 in
theorem cd_X6_beginProgram : Cond.code yX6_beginProgram cX6_beginProgram 2 none ∈ gG := gT2 237 rfl rfl
set_option maxRecDepth 20000 in
theorem ml_X11_88 : Cond.methodLink RX11 88 yX6_readAll ∈ gG := gT3 6 rfl rfl
set_option maxRecDepth 20000 in
theorem im_yX6_readAll : Cond.instanceMethod yX6_readAll ∈ gG := gT3 7 rfl rfl
set_option maxRecDepth 20000 in
theorem se_yX6_readAll : Cond.selects RX6 yX6_readAll yX6_readAll ∈ gG := gT3 8 rfl rfl
set_option maxRecDepth 20000 in
theorem cd_X6_readAll : Cond.code yX6_readAll cX6_readAll 2 (some .boolean) ∈ gG := gT3 9 rfl rfl
set_option maxRecDepth 20000 in
theorem ml_X11_92 : Cond.methodLink RX11 92 yX8_copy ∈ gG := gT3 202 rfl rfl
set_option maxRecDepth 20000 in
theorem ml_X11_95 : Cond.methodLink RX11 95 yX8_statements ∈ gG := gT3 210 rfl rfl
set_option maxRecDepth 20000 in
theorem ml_X11_103 : Cond.methodLink RX11 103 yX6_beginRule ∈ gG := gT3 226 rfl rfl
set_option maxRecDepth 20000 in
theorem im_yX6_beginRule : Cond.instanceMethod yX6_beginRule ∈ gG := gT3 227 rfl rfl
set_option maxRecDepth 20000 in
theorem se_yX6_beginRule : Cond.selects RX6 yX6_beginRule yX6_beginRule ∈ gG := gT3 228 rfl rfl
set_option maxRecDepth 20000 in
theorem cd_X6_beginRule : Cond.code yX6_beginRule cX6_beginRule 2 none ∈ gG := gT3 229 rfl rfl
set_option maxRecDepth 20000 in
theorem ml_X11_113 : Cond.methodLink RX11 113 yX8_cell ∈ gG := gT4 2 rfl rfl
set_option maxRecDepth 20000 in
theorem ml_X11_117 : Cond.methodLink RX11 117 yX8_expressions ∈ gG := gT4 7 rfl rfl
set_option maxRecDepth 20000 in
theorem fl_X11_120 : Cond.fieldLink RX11 120 "SameAfter$Row" "length" "I" ∈ gG := gT1 46 rfl rfl
set_option maxRecDepth 20000 in
theorem fl_X11_36 : Cond.fieldLink RX11 36 "SameAfter" "machine" "LSameAfter$Machine;" ∈ gG := gT2 184 rfl rfl
set_option maxRecDepth 20000 in
theorem fl_X11_121 : Cond.fieldLink RX11 121 "SameAfter$Machine" "flow" "LSameAfter$Flow;" ∈ gG := gT1 217 rfl rfl
set_option maxRecDepth 20000 in
theorem ml_X11_125 : Cond.methodLink RX11 125 yX1_trace ∈ gG := gT4 14 rfl rfl
set_option maxRecDepth 20000 in
theorem ml_X11_130 : Cond.methodLink RX11 130 yX1_aheadOf ∈ gG := gT4 61 rfl rfl
set_option maxRecDepth 20000 in
theorem ml_X11_133 : Cond.methodLink RX11 133 yX11_isWord ∈ gG := gT4 66 rfl rfl
set_option maxRecDepth 20000 in
theorem st_yX11_isWord : Cond.static yX11_isWord ∈ gG := gT4 67 rfl rfl
set_option maxRecDepth 20000 in
theorem cd_X11_isWord : Cond.code yX11_isWord cX11_isWord 1 (some .boolean) ∈ gG := gT4 68 rfl rfl
set_option maxRecDepth 20000 in
theorem ml_X11_136 : Cond.methodLink RX11 136 yX3_go ∈ gG := gT4 69 rfl rfl
set_option maxRecDepth 20000 in
theorem ml_X11_140 : Cond.methodLink RX11 140 yX3_tell ∈ gG := gT4 95 rfl rfl
set_option maxRecDepth 20000 in
theorem im_yX3_tell : Cond.instanceMethod yX3_tell ∈ gG := gT4 96 rfl rfl
set_option maxRecDepth 20000 in
theorem se_yX3_tell : Cond.selects RX3 yX3_tell yX3_tell ∈ gG := gT4 97 rfl rfl
set_option maxRecDepth 20000 in
theorem cd_X3_tell : Cond.code yX3_tell cX3_tell 2 (some .int) ∈ gG := gT4 98 rfl rfl
set_option maxRecDepth 20000 in
theorem fl_X11_143 : Cond.fieldLink RX11 143 "SameAfter$Passes" "judgement" "LSameAfter$Judge;" ∈ gG := gT2 121 rfl rfl
set_option maxRecDepth 20000 in
theorem ml_X11_147 : Cond.methodLink RX11 147 yX2_compare ∈ gG := gT4 107 rfl rfl
set_option maxRecDepth 20000 in
theorem ml_X11_153 : Cond.methodLink RX11 153 yX2_verdict ∈ gG := gT4 128 rfl rfl
set_option maxRecDepth 20000 in
theorem im_yX2_verdict : Cond.instanceMethod yX2_verdict ∈ gG := gT4 129 rfl rfl
set_option maxRecDepth 20000 in
theorem se_yX2_verdict : Cond.selects RX2 yX2_verdict yX2_verdict ∈ gG := gT4 130 rfl rfl
set_option maxRecDepth 20000 in
theorem cd_X2_verdict : Cond.code yX2_verdict cX2_verdict 1 (some .int) ∈ gG := gT4 131 rfl rfl
set_option maxRecDepth 20000 in
theorem fl_X11_156 : Cond.fieldLink RX11 156 "SameAfter$Judge" "first" "I" ∈ gG := gT2 99 rfl rfl
set_option maxRecDepth 20000 in
theorem fl_X11_159 : Cond.fieldLink RX11 159 "SameAfter$Judge" "firstPlace" "I" ∈ gG := gT2 101 rfl rfl
set_option maxRecDepth 20000 in
theorem fl_X11_162 : Cond.fieldLink RX11 162 "SameAfter$Judge" "parted" "I" ∈ gG := gT2 103 rfl rfl
set_option maxRecDepth 20000 in
theorem ml_X11_165 : Cond.methodLink RX11 165 yX11_ruleAt ∈ gG := gT4 136 rfl rfl
set_option maxRecDepth 20000 in
theorem im_yX11_ruleAt : Cond.instanceMethod yX11_ruleAt ∈ gG := gT4 138 rfl rfl
set_option maxRecDepth 20000 in
theorem se_yX11_ruleAt : Cond.selects RX11 yX11_ruleAt yX11_ruleAt ∈ gG := gP3 0 rfl
set_option maxRecDepth 20000 in
theorem cd_X11_ruleAt : Cond.code yX11_ruleAt cX11_ruleAt 2 (some (.object "SameAfter$Rule")) ∈ gG := gT4 139 rfl rfl
set_option maxRecDepth 20000 in
theorem fl_X11_43 : Cond.fieldLink RX11 43 "SameAfter" "proof" "LSameAfter$Proof;" ∈ gG := gT2 185 rfl rfl
set_option maxRecDepth 20000 in
theorem ml_X11_170 : Cond.methodLink RX11 170 yX5_tryAll ∈ gG := gT4 179 rfl rfl
set_option maxRecDepth 20000 in
theorem im_yX5_tryAll : Cond.instanceMethod yX5_tryAll ∈ gG := gT4 180 rfl rfl
set_option maxRecDepth 20000 in
theorem se_yX5_tryAll : Cond.selects RX5 yX5_tryAll yX5_tryAll ∈ gG := gT4 181 rfl rfl
set_option maxRecDepth 20000 in
theorem cd_X5_tryAll : Cond.code yX5_tryAll cX5_tryAll 8 none ∈ gG := gT4 182 rfl rfl
set_option maxRecDepth 20000 in
theorem fl_X11_173 : Cond.fieldLink RX11 173 "SameAfter$Proof" "wrongs" "I" ∈ gG := gT2 12 rfl rfl
set_option maxRecDepth 20000 in
theorem fl_X11_176 : Cond.fieldLink RX11 176 "SameAfter$Proof" "first" "I" ∈ gG := gT2 10 rfl rfl
set_option maxRecDepth 20000 in
theorem ml_X11_166 : Cond.methodLink RX11 166 yX5_compareForms ∈ gG := gT4 140 rfl rfl
set_option maxRecDepth 20000 in
theorem im_yX5_compareForms : Cond.instanceMethod yX5_compareForms ∈ gG := gT4 141 rfl rfl
set_option maxRecDepth 20000 in
theorem se_yX5_compareForms : Cond.selects RX5 yX5_compareForms yX5_compareForms ∈ gG := gT4 142 rfl rfl
set_option maxRecDepth 20000 in
theorem cd_X5_compareForms : Cond.code yX5_compareForms cX5_compareForms 3 (some .int) ∈ gG := gT4 143 rfl rfl
set_option maxRecDepth 20000 in
theorem ml_X11_177 : Cond.methodLink RX11 177 yX9_countIn ∈ gG := gT4 197 rfl rfl
set_option maxRecDepth 20000 in
theorem im_yX9_countIn : Cond.instanceMethod yX9_countIn ∈ gG := gT4 198 rfl rfl
set_option maxRecDepth 20000 in
theorem se_yX9_countIn : Cond.selects RX9 yX9_countIn yX9_countIn ∈ gG := gT4 199 rfl rfl
set_option maxRecDepth 20000 in
theorem cd_X9_countIn : Cond.code yX9_countIn cX9_countIn 4 (some .int) ∈ gG := gT4 200 rfl rfl
set_option maxRecDepth 20000 in
theorem ml_X11_183 : Cond.methodLink RX11 183 yX9_placeIn ∈ gG := gT4 222 rfl rfl
set_option maxRecDepth 20000 in
theorem ml_X11_187 : Cond.methodLink RX11 187 yX9_rewrite ∈ gG := gT4 226 rfl rfl
set_option maxRecDepth 20000 in
theorem ml_X11_191 : Cond.methodLink RX11 191 yX4_addItem ∈ gG := gT5 1 rfl rfl
set_option maxRecDepth 20000 in
theorem im_yX4_addItem : Cond.instanceMethod yX4_addItem ∈ gG := gT5 2 rfl rfl
set_option maxRecDepth 20000 in
theorem se_yX4_addItem : Cond.selects RX4 yX4_addItem yX4_addItem ∈ gG := gT5 3 rfl rfl
set_option maxRecDepth 20000 in
theorem cd_X4_addItem : Cond.code yX4_addItem cX4_addItem 3 (some .int) ∈ gG := gT5 4 rfl rfl
set_option maxRecDepth 20000 in
theorem ml_X11_198 : Cond.methodLink RX11 198 yX4_makeOf ∈ gG := gT5 20 rfl rfl
set_option maxRecDepth 20000 in
theorem fl_X11_202 : Cond.fieldLink RX11 202 "SameAfter$Passes" "made" "LSameAfter$Row;" ∈ gG := gT2 123 rfl rfl
set_option maxRecDepth 20000 in
theorem ml_X11_205 : Cond.methodLink RX11 205 yX4_findBad ∈ gG := gT5 129 rfl rfl
set_option maxRecDepth 20000 in
theorem im_yX4_findBad : Cond.instanceMethod yX4_findBad ∈ gG := gT5 130 rfl rfl
set_option maxRecDepth 20000 in
theorem se_yX4_findBad : Cond.selects RX4 yX4_findBad yX4_findBad ∈ gG := gT5 131 rfl rfl
set_option maxRecDepth 20000 in
theorem cd_X4_findBad : Cond.code yX4_findBad cX4_findBad 3 none ∈ gG := gT5 132 rfl rfl
set_option maxRecDepth 20000 in
theorem fl_X11_211 : Cond.fieldLink RX11 211 "SameAfter$Passes" "badInputs" "I" ∈ gG := gT2 129 rfl rfl
set_option maxRecDepth 20000 in
theorem fl_X11_208 : Cond.fieldLink RX11 208 "SameAfter$Passes" "bad" "I" ∈ gG := gT2 127 rfl rfl
set_option maxRecDepth 20000 in
theorem ml_X11_214 : Cond.methodLink RX11 214 yX4_cutDown ∈ gG := gT5 147 rfl rfl
set_option maxRecDepth 20000 in
theorem im_yX4_cutDown : Cond.instanceMethod yX4_cutDown ∈ gG := gT5 148 rfl rfl
set_option maxRecDepth 20000 in
theorem se_yX4_cutDown : Cond.selects RX4 yX4_cutDown yX4_cutDown ∈ gG := gT5 149 rfl rfl
set_option maxRecDepth 20000 in
theorem cd_X4_cutDown : Cond.code yX4_cutDown cX4_cutDown 7 (some .boolean) ∈ gG := gT5 150 rfl rfl
set_option maxRecDepth 20000 in
theorem fl_X11_217 : Cond.fieldLink RX11 217 "SameAfter$Passes" "kept" "LSameAfter$Row;" ∈ gG := gT2 125 rfl rfl
set_option maxRecDepth 20000 in
theorem fl_X11_57 : Cond.fieldLink RX11 57 "SameAfter" "dealing" "LSameAfter$Registers;" ∈ gG := gT2 187 rfl rfl
set_option maxRecDepth 20000 in
theorem ml_X11_220 : Cond.methodLink RX11 220 yX7_study ∈ gG := gT5 160 rfl rfl
set_option maxRecDepth 20000 in
theorem im_yX7_study : Cond.instanceMethod yX7_study ∈ gG := gT5 161 rfl rfl
set_option maxRecDepth 20000 in
theorem se_yX7_study : Cond.selects RX7 yX7_study yX7_study ∈ gG := gT5 162 rfl rfl
set_option maxRecDepth 20000 in
theorem cd_X7_study : Cond.code yX7_study cX7_study 3 none ∈ gG := gT5 163 rfl rfl
set_option maxRecDepth 20000 in
theorem ml_X11_226 : Cond.methodLink RX11 226 yX7_registerOf ∈ gG := gT5 198 rfl rfl
set_option maxRecDepth 20000 in
theorem im_yX7_registerOf : Cond.instanceMethod yX7_registerOf ∈ gG := gT5 199 rfl rfl
set_option maxRecDepth 20000 in
theorem se_yX7_registerOf : Cond.selects RX7 yX7_registerOf yX7_registerOf ∈ gG := gT5 200 rfl rfl
set_option maxRecDepth 20000 in
theorem cd_X7_registerOf : Cond.code yX7_registerOf cX7_registerOf 2 (some .int) ∈ gG := gT5 201 rfl rfl
set_option maxRecDepth 20000 in
theorem ml_X11_223 : Cond.methodLink RX11 223 yX7_fewest ∈ gG := gT5 182 rfl rfl
set_option maxRecDepth 20000 in
theorem ml_X11_229 : Cond.methodLink RX11 229 yX7_spills ∈ gG := gT5 203 rfl rfl
set_option maxRecDepth 20000 in
theorem im_yX7_spills : Cond.instanceMethod yX7_spills ∈ gG := gT5 204 rfl rfl
set_option maxRecDepth 20000 in
theorem se_yX7_spills : Cond.selects RX7 yX7_spills yX7_spills ∈ gG := gT5 205 rfl rfl
set_option maxRecDepth 20000 in
theorem cd_X7_spills : Cond.code yX7_spills cX7_spills 6 (some .int) ∈ gG := gT5 206 rfl rfl
set_option maxRecDepth 20000 in
theorem ml_X11_232 : Cond.methodLink RX11 232 yX11_isVariable ∈ gG := gT5 215 rfl rfl
set_option maxRecDepth 20000 in
theorem ml_X11_235 : Cond.methodLink RX11 235 yX7_clashing ∈ gG := gT5 216 rfl rfl
set_option maxRecDepth 20000 in
theorem cs_X11_99 : csV RX11 99 RX4 yX4_ruleAt cX4_ruleAt 2 (some (.object "SameAfter$Rule")) 1 := ⟨gV ml_X11_99 im_yX4_ruleAt se_yX4_ruleAt in_X4 cd_X4_ruleAt, by decide +kernel⟩
set_option maxRecDepth 20000 in
theorem cs_X5_97 : csV RX5 97 RX5 yX5_beginForm cX5_beginForm 5 none 2 := ⟨gV ml_X5_97 im_yX5_beginForm se_yX5_beginForm in_X5 cd_X5_beginForm, by decide +kernel⟩
set_option maxRecDepth 20000 in
theorem cs_X5_105 : csV RX5 105 RX5 yX5_addUp cX5_addUp 5 none 3 := ⟨gV ml_X5_105 im_yX5_addUp se_yX5_addUp in_X5 cd_X5_addUp, by decide +kernel⟩
set_option maxRecDepth 20000 in
theorem cs_X5_101 : csV RX5 101 RX5 yX5_multiply cX5_multiply 4 none 2 := ⟨gV ml_X5_101 im_yX5_multiply se_yX5_multiply in_X5 cd_X5_multiply, by decide +kernel⟩
set_option maxRecDepth 20000 in
theorem cs_X5_70 : csV RX5 70 RX5 yX5_multiplyOut cX5_multiplyOut 5 none 1 := ⟨gV ml_X5_70 im_yX5_multiplyOut se_yX5_multiplyOut in_X5 cd_X5_multiplyOut, by decide +kernel⟩
set_option maxRecDepth 20000 in
theorem cs_X4_71 : csV RX4 71 RX0 yX0_fold cX0_fold 4 none 1 := ⟨gV ml_X4_71 im_yX0_fold se_yX0_fold in_X0 cd_X0_fold, by decide +kernel⟩
set_option maxRecDepth 20000 in
theorem cs_X4_74 : csV RX4 74 RX0 yX0_dead cX0_dead 6 none 1 := ⟨gV ml_X4_74 im_yX0_dead se_yX0_dead in_X0 cd_X0_dead, by decide +kernel⟩
set_option maxRecDepth 20000 in
theorem cs_X4_77 : csV RX4 77 RX0 yX0_hastyDead cX0_hastyDead 5 none 1 := ⟨gV ml_X4_77 im_yX0_hastyDead se_yX0_hastyDead in_X0 cd_X0_hastyDead, by decide +kernel⟩
set_option maxRecDepth 20000 in
theorem cs_X4_80 : csV RX4 80 RX0 yX0_hastyCopy cX0_hastyCopy 5 none 1 := ⟨gV ml_X4_80 im_yX0_hastyCopy se_yX0_hastyCopy in_X0 cd_X0_hastyCopy, by decide +kernel⟩
set_option maxRecDepth 20000 in
theorem cs_X4_83 : csV RX4 83 RX0 yX0_unroll cX0_unroll 4 none 1 := ⟨gV ml_X4_83 im_yX0_unroll se_yX0_unroll in_X0 cd_X0_unroll, by decide +kernel⟩
set_option maxRecDepth 20000 in
theorem cs_X4_86 : csV RX4 86 RX4 yX4_ruleAt cX4_ruleAt 2 (some (.object "SameAfter$Rule")) 1 := ⟨gV ml_X4_86 im_yX4_ruleAt se_yX4_ruleAt in_X4 cd_X4_ruleAt, by decide +kernel⟩
set_option maxRecDepth 20000 in
theorem cs_X4_90 : csV RX4 90 RX4 yX4_applyRule cX4_applyRule 4 (some .boolean) 1 := ⟨gV ml_X4_90 im_yX4_applyRule se_yX4_applyRule in_X4 cd_X4_applyRule, by decide +kernel⟩
set_option maxRecDepth 20000 in
theorem cs_X4_94 : csV RX4 94 RX8 yX8_isTooLarge cX8_isTooLarge 1 (some .boolean) 0 := ⟨gV ml_X4_94 im_yX8_isTooLarge se_yX8_isTooLarge in_X8 cd_X8_isTooLarge, by decide +kernel⟩
set_option maxRecDepth 20000 in
theorem cs_X4_109 : csV RX4 109 RX4 yX4_makeOf cX4_makeOf 5 (some .boolean) 2 := ⟨gV ml_X4_109 im_yX4_makeOf se_yX4_makeOf in_X4 cd_X4_makeOf, by decide +kernel⟩
set_option maxRecDepth 20000 in
theorem cs_X4_113 : csV RX4 113 RX4 yX4_madeWrong cX4_madeWrong 2 (some .boolean) 1 := ⟨gV ml_X4_113 im_yX4_madeWrong se_yX4_madeWrong in_X4 cd_X4_madeWrong, by decide +kernel⟩
set_option maxRecDepth 20000 in
theorem cs_X4_134 : csV RX4 134 RX8 yX8_cell cX8_cell 2 (some .int) 1 := ⟨gV ml_X4_134 im_yX8_cell se_yX8_cell in_X8 cd_X8_cell, by decide +kernel⟩
set_option maxRecDepth 20000 in
theorem cs_X4_138 : csS RX4 138 yX8_isStatement cX8_isStatement 1 (some .boolean) 1 := ⟨gS ml_X4_138 st_yX8_isStatement in_X8 cd_X8_isStatement, by decide +kernel⟩
set_option maxRecDepth 20000 in
theorem cs_X4_141 : csV RX4 141 RX8 yX8_statementEnd cX8_statementEnd 3 (some .int) 1 := ⟨gV ml_X4_141 im_yX8_statementEnd se_yX8_statementEnd in_X8 cd_X8_statementEnd, by decide +kernel⟩
set_option maxRecDepth 20000 in
theorem cs_X4_144 : csV RX4 144 RX8 yX8_remove cX8_remove 3 none 2 := ⟨gV ml_X4_144 im_yX8_remove se_yX8_remove in_X8 cd_X8_remove, by decide +kernel⟩
set_option maxRecDepth 20000 in
theorem cs_X11_77 : csV RX11 77 RX11 yX11_slotAt cX11_slotAt 2 (some (.object "SameAfter$Row")) 1 := ⟨gV ml_X11_77 im_yX11_slotAt se_yX11_slotAt in_X11 cd_X11_slotAt, by decide +kernel⟩
set_option maxRecDepth 20000 in
theorem cs_X11_81 : csV RX11 81 RX6 yX6_drop cX6_drop 1 none 0 := ⟨gV ml_X11_81 im_yX6_drop se_yX6_drop in_X6 cd_X6_drop, by decide +kernel⟩
set_option maxRecDepth 20000 in
theorem cs_X11_84 : csV RX11 84 RX6 yX6_beginProgram cX6_beginProgram 2 none 1 := ⟨gV ml_X11_84 im_yX6_beginProgram se_yX6_beginProgram in_X6 cd_X6_beginProgram, by decide +kernel⟩
set_option maxRecDepth 20000 in
theorem cs_X11_88 : csV RX11 88 RX6 yX6_readAll cX6_readAll 2 (some .boolean) 0 := ⟨gV ml_X11_88 im_yX6_readAll se_yX6_readAll in_X6 cd_X6_readAll, by decide +kernel⟩
set_option maxRecDepth 20000 in
theorem cs_X11_92 : csV RX11 92 RX8 yX8_copy cX8_copy 2 none 1 := ⟨gV ml_X11_92 im_yX8_copy se_yX8_copy in_X8 cd_X8_copy, by decide +kernel⟩
set_option maxRecDepth 20000 in
theorem cs_X11_95 : csV RX11 95 RX8 yX8_statements cX8_statements 3 (some .int) 0 := ⟨gV ml_X11_95 im_yX8_statements se_yX8_statements in_X8 cd_X8_statements, by decide +kernel⟩
set_option maxRecDepth 20000 in
theorem cs_X11_103 : csV RX11 103 RX6 yX6_beginRule cX6_beginRule 2 none 1 := ⟨gV ml_X11_103 im_yX6_beginRule se_yX6_beginRule in_X6 cd_X6_beginRule, by decide +kernel⟩
set_option maxRecDepth 20000 in
theorem cs_X11_113 : csV RX11 113 RX8 yX8_cell cX8_cell 2 (some .int) 1 := ⟨gV ml_X11_113 im_yX8_cell se_yX8_cell in_X8 cd_X8_cell, by decide +kernel⟩
set_option maxRecDepth 20000 in
theorem cs_X11_117 : csV RX11 117 RX8 yX8_expressions cX8_expressions 3 (some .int) 0 := ⟨gV ml_X11_117 im_yX8_expressions se_yX8_expressions in_X8 cd_X8_expressions, by decide +kernel⟩
set_option maxRecDepth 20000 in
theorem cs_X11_125 : csV RX11 125 RX1 yX1_trace cX1_trace 2 none 1 := ⟨gV ml_X11_125 im_yX1_trace se_yX1_trace in_X1 cd_X1_trace, by decide +kernel⟩
set_option maxRecDepth 20000 in
theorem cs_X11_130 : csV RX11 130 RX1 yX1_aheadOf cX1_aheadOf 2 (some .int) 1 := ⟨gV ml_X11_130 im_yX1_aheadOf se_yX1_aheadOf in_X1 cd_X1_aheadOf, by decide +kernel⟩
set_option maxRecDepth 20000 in
theorem cs_X11_133 : csS RX11 133 yX11_isWord cX11_isWord 1 (some .boolean) 1 := ⟨gS ml_X11_133 st_yX11_isWord in_X11 cd_X11_isWord, by decide +kernel⟩
set_option maxRecDepth 20000 in
theorem cs_X11_136 : csV RX11 136 RX3 yX3_go cX3_go 4 none 2 := ⟨gV ml_X11_136 im_yX3_go se_yX3_go in_X3 cd_X3_go, by decide +kernel⟩
set_option maxRecDepth 20000 in
theorem cs_X11_140 : csV RX11 140 RX3 yX3_tell cX3_tell 2 (some .int) 1 := ⟨gV ml_X11_140 im_yX3_tell se_yX3_tell in_X3 cd_X3_tell, by decide +kernel⟩
set_option maxRecDepth 20000 in
theorem cs_X11_147 : csV RX11 147 RX2 yX2_compare cX2_compare 9 (some .boolean) 3 := ⟨gV ml_X11_147 im_yX2_compare se_yX2_compare in_X2 cd_X2_compare, by decide +kernel⟩
set_option maxRecDepth 20000 in
theorem cs_X11_153 : csV RX11 153 RX2 yX2_verdict cX2_verdict 1 (some .int) 0 := ⟨gV ml_X11_153 im_yX2_verdict se_yX2_verdict in_X2 cd_X2_verdict, by decide +kernel⟩
set_option maxRecDepth 20000 in
theorem cs_X11_165 : csV RX11 165 RX11 yX11_ruleAt cX11_ruleAt 2 (some (.object "SameAfter$Rule")) 1 := ⟨gV ml_X11_165 im_yX11_ruleAt se_yX11_ruleAt in_X11 cd_X11_ruleAt, by decide +kernel⟩
set_option maxRecDepth 20000 in
theorem cs_X11_170 : csV RX11 170 RX5 yX5_tryAll cX5_tryAll 8 none 1 := ⟨gV ml_X11_170 im_yX5_tryAll se_yX5_tryAll in_X5 cd_X5_tryAll, by decide +kernel⟩
set_option maxRecDepth 20000 in
theorem cs_X11_166 : csV RX11 166 RX5 yX5_compareForms cX5_compareForms 3 (some .int) 1 := ⟨gV ml_X11_166 im_yX5_compareForms se_yX5_compareForms in_X5 cd_X5_compareForms, by decide +kernel⟩
set_option maxRecDepth 20000 in
theorem cs_X11_177 : csV RX11 177 RX9 yX9_countIn cX9_countIn 4 (some .int) 1 := ⟨gV ml_X11_177 im_yX9_countIn se_yX9_countIn in_X9 cd_X9_countIn, by decide +kernel⟩
set_option maxRecDepth 20000 in
theorem cs_X11_183 : csV RX11 183 RX9 yX9_placeIn cX9_placeIn 5 (some .int) 2 := ⟨gV ml_X11_183 im_yX9_placeIn se_yX9_placeIn in_X9 cd_X9_placeIn, by decide +kernel⟩
set_option maxRecDepth 20000 in
theorem cs_X11_187 : csV RX11 187 RX9 yX9_rewrite cX9_rewrite 7 (some .boolean) 3 := ⟨gV ml_X11_187 im_yX9_rewrite se_yX9_rewrite in_X9 cd_X9_rewrite, by decide +kernel⟩
set_option maxRecDepth 20000 in
theorem cs_X11_191 : csV RX11 191 RX4 yX4_addItem cX4_addItem 3 (some .int) 2 := ⟨gV ml_X11_191 im_yX4_addItem se_yX4_addItem in_X4 cd_X4_addItem, by decide +kernel⟩
set_option maxRecDepth 20000 in
theorem cs_X11_198 : csV RX11 198 RX4 yX4_makeOf cX4_makeOf 5 (some .boolean) 2 := ⟨gV ml_X11_198 im_yX4_makeOf se_yX4_makeOf in_X4 cd_X4_makeOf, by decide +kernel⟩
set_option maxRecDepth 20000 in
theorem cs_X11_205 : csV RX11 205 RX4 yX4_findBad cX4_findBad 3 none 1 := ⟨gV ml_X11_205 im_yX4_findBad se_yX4_findBad in_X4 cd_X4_findBad, by decide +kernel⟩
set_option maxRecDepth 20000 in
theorem cs_X11_214 : csV RX11 214 RX4 yX4_cutDown cX4_cutDown 7 (some .boolean) 2 := ⟨gV ml_X11_214 im_yX4_cutDown se_yX4_cutDown in_X4 cd_X4_cutDown, by decide +kernel⟩
set_option maxRecDepth 20000 in
theorem cs_X11_220 : csV RX11 220 RX7 yX7_study cX7_study 3 none 1 := ⟨gV ml_X11_220 im_yX7_study se_yX7_study in_X7 cd_X7_study, by decide +kernel⟩
set_option maxRecDepth 20000 in
theorem cs_X11_226 : csV RX11 226 RX7 yX7_registerOf cX7_registerOf 2 (some .int) 1 := ⟨gV ml_X11_226 im_yX7_registerOf se_yX7_registerOf in_X7 cd_X7_registerOf, by decide +kernel⟩
set_option maxRecDepth 20000 in
theorem cs_X11_223 : csV RX11 223 RX7 yX7_fewest cX7_fewest 2 (some .int) 0 := ⟨gV ml_X11_223 im_yX7_fewest se_yX7_fewest in_X7 cd_X7_fewest, by decide +kernel⟩
set_option maxRecDepth 20000 in
theorem cs_X11_229 : csV RX11 229 RX7 yX7_spills cX7_spills 6 (some .int) 1 := ⟨gV ml_X11_229 im_yX7_spills se_yX7_spills in_X7 cd_X7_spills, by decide +kernel⟩
set_option maxRecDepth 20000 in
theorem cs_X11_232 : csS RX11 232 yX11_isVariable cX11_isVariable 1 (some .boolean) 1 := ⟨gS ml_X11_232 st_yX11_isVariable in_X11 cd_X11_isVariable, by decide +kernel⟩
set_option maxRecDepth 20000 in
theorem cs_X11_235 : csV RX11 235 RX7 yX7_clashing cX7_clashing 3 (some .boolean) 2 := ⟨gV ml_X11_235 im_yX7_clashing se_yX7_clashing in_X7 cd_X7_clashing, by decide +kernel⟩
theorem dX11_apply_2 : decode cX11_apply 2 = .ok (.invokevirtual 165, 3) := by decide +kernel
theorem dX11_apply_5 : decode cX11_apply 5 = .ok (.astore 5, 2) := by decide +kernel
theorem dX11_apply_7 : decode cX11_apply 7 = .ok (.aload_n 0, 1) := by decide +kernel
theorem dX11_apply_8 : decode cX11_apply 8 = .ok (.iload_n 2, 1) := by decide +kernel
theorem dX11_apply_9 : decode cX11_apply 9 = .ok (.invokevirtual 77, 3) := by decide +kernel
theorem dX11_apply_12 : decode cX11_apply 12 = .ok (.astore 6, 2) := by decide +kernel
theorem dX11_apply_14 : decode cX11_apply 14 = .ok (.aload_n 0, 1) := by decide +kernel
theorem dX11_apply_15 : decode cX11_apply 15 = .ok (.iload 4, 2) := by decide +kernel
theorem dX11_apply_17 : decode cX11_apply 17 = .ok (.invokevirtual 77, 3) := by decide +kernel
theorem dX11_apply_20 : decode cX11_apply 20 = .ok (.astore 7, 2) := by decide +kernel
theorem dX11_apply_22 : decode cX11_apply 22 = .ok (.aload 5, 2) := by decide +kernel
theorem dX11_apply_24 : decode cX11_apply 24 = .ok (.ifnull 13, 3) := by decide +kernel
theorem dX11_apply_27 : decode cX11_apply 27 = .ok (.aload 6, 2) := by decide +kernel
theorem dX11_apply_29 : decode cX11_apply 29 = .ok (.ifnull 8, 3) := by decide +kernel
theorem dX11_apply_32 : decode cX11_apply 32 = .ok (.aload 7, 2) := by decide +kernel
theorem dX11_apply_34 : decode cX11_apply 34 = .ok (.ifnonnull 5, 3) := by decide +kernel
theorem dX11_apply_37 : decode cX11_apply 37 = .ok (.iconst 0, 1) := by decide +kernel
theorem dX11_apply_38 : decode cX11_apply 38 = .ok (.ireturn, 1) := by decide +kernel
theorem dX11_apply_39 : decode cX11_apply 39 = .ok (.aload 5, 2) := by decide +kernel
theorem dX11_apply_41 : decode cX11_apply 41 = .ok (.aload 6, 2) := by decide +kernel
theorem dX11_apply_43 : decode cX11_apply 43 = .ok (.iload_n 3, 1) := by decide +kernel
theorem dX11_apply_44 : decode cX11_apply 44 = .ok (.invokevirtual 183, 3) := by decide +kernel
theorem dX11_apply_47 : decode cX11_apply 47 = .ok (.istore 8, 2) := by decide +kernel
theorem dX11_apply_49 : decode cX11_apply 49 = .ok (.iload 8, 2) := by decide +kernel
theorem dX11_apply_51 : decode cX11_apply 51 = .ok (.iconst (-1), 1) := by decide +kernel
theorem dX11_apply_52 : decode cX11_apply 52 = .ok (.if_icmp .eq 19, 3) := by decide +kernel
theorem dX11_apply_55 : decode cX11_apply 55 = .ok (.aload 5, 2) := by decide +kernel
theorem dX11_apply_57 : decode cX11_apply 57 = .ok (.aload 6, 2) := by decide +kernel
theorem dX11_apply_59 : decode cX11_apply 59 = .ok (.iload 8, 2) := by decide +kernel
theorem dX11_apply_61 : decode cX11_apply 61 = .ok (.aload_n 0, 1) := by decide +kernel
theorem dX11_apply_62 : decode cX11_apply 62 = .ok (.getfield 22, 3) := by decide +kernel
theorem dX11_apply_65 : decode cX11_apply 65 = .ok (.invokevirtual 187, 3) := by decide +kernel
theorem dX11_apply_68 : decode cX11_apply 68 = .ok (.ifCond .ne 5, 3) := by decide +kernel
theorem dX11_apply_71 : decode cX11_apply 71 = .ok (.iconst 0, 1) := by decide +kernel
theorem dX11_apply_72 : decode cX11_apply 72 = .ok (.ireturn, 1) := by decide +kernel
theorem dX11_apply_73 : decode cX11_apply 73 = .ok (.aload 7, 2) := by decide +kernel
theorem dX11_apply_75 : decode cX11_apply 75 = .ok (.aload_n 0, 1) := by decide +kernel
theorem dX11_apply_76 : decode cX11_apply 76 = .ok (.getfield 22, 3) := by decide +kernel
theorem dX11_apply_79 : decode cX11_apply 79 = .ok (.invokevirtual 92, 3) := by decide +kernel
theorem dX11_apply_82 : decode cX11_apply 82 = .ok (.iconst 1, 1) := by decide +kernel
theorem dX11_apply_83 : decode cX11_apply 83 = .ok (.ireturn, 1) := by decide +kernel
theorem dX11_at_2 : decode cX11_at 2 = .ok (.invokevirtual 77, 3) := by decide +kernel
theorem dX11_at_5 : decode cX11_at 5 = .ok (.astore_n 3, 1) := by decide +kernel
theorem dX11_at_6 : decode cX11_at 6 = .ok (.aload_n 3, 1) := by decide +kernel
theorem dX11_at_7 : decode cX11_at 7 = .ok (.ifnonnull 7, 3) := by decide +kernel
theorem dX11_at_10 : decode cX11_at 10 = .ok (.iconst (-1), 1) := by decide +kernel
theorem dX11_at_11 : decode cX11_at 11 = .ok (.goto 8, 3) := by decide +kernel
theorem dX11_at_14 : decode cX11_at 14 = .ok (.aload_n 3, 1) := by decide +kernel
theorem dX11_at_15 : decode cX11_at 15 = .ok (.iload_n 2, 1) := by decide +kernel
theorem dX11_at_16 : decode cX11_at 16 = .ok (.invokevirtual 113, 3) := by decide +kernel
theorem dX11_at_19 : decode cX11_at 19 = .ok (.ireturn, 1) := by decide +kernel
theorem dX11_blame_2 : decode cX11_blame 2 = .ok (.invokevirtual 77, 3) := by decide +kernel
theorem dX11_blame_5 : decode cX11_blame 5 = .ok (.astore_n 3, 1) := by decide +kernel
theorem dX11_blame_6 : decode cX11_blame 6 = .ok (.aload_n 3, 1) := by decide +kernel
theorem dX11_blame_7 : decode cX11_blame 7 = .ok (.ifnull 12, 3) := by decide +kernel
theorem dX11_blame_10 : decode cX11_blame 10 = .ok (.iload_n 2, 1) := by decide +kernel
theorem dX11_blame_11 : decode cX11_blame 11 = .ok (.ifCond .lt 8, 3) := by decide +kernel
theorem dX11_blame_14 : decode cX11_blame 14 = .ok (.iload_n 2, 1) := by decide +kernel
theorem dX11_blame_15 : decode cX11_blame 15 = .ok (.iconst 1, 1) := by decide +kernel
theorem dX11_blame_16 : decode cX11_blame 16 = .ok (.if_icmp .le 5, 3) := by decide +kernel
theorem dX11_blame_19 : decode cX11_blame 19 = .ok (.iconst (-1), 1) := by decide +kernel
theorem dX11_blame_20 : decode cX11_blame 20 = .ok (.ireturn, 1) := by decide +kernel
theorem dX11_blame_21 : decode cX11_blame 21 = .ok (.aload_n 0, 1) := by decide +kernel
theorem dX11_blame_22 : decode cX11_blame 22 = .ok (.getfield 50, 3) := by decide +kernel
theorem dX11_blame_25 : decode cX11_blame 25 = .ok (.aload_n 3, 1) := by decide +kernel
theorem dX11_blame_26 : decode cX11_blame 26 = .ok (.invokevirtual 205, 3) := by decide +kernel
theorem dX11_blame_29 : decode cX11_blame 29 = .ok (.iload_n 2, 1) := by decide +kernel
theorem dX11_blame_30 : decode cX11_blame 30 = .ok (.ifCond .ne 13, 3) := by decide +kernel
theorem dX11_blame_33 : decode cX11_blame 33 = .ok (.aload_n 0, 1) := by decide +kernel
theorem dX11_blame_34 : decode cX11_blame 34 = .ok (.getfield 50, 3) := by decide +kernel
theorem dX11_blame_37 : decode cX11_blame 37 = .ok (.getfield 208, 3) := by decide +kernel
theorem dX11_blame_40 : decode cX11_blame 40 = .ok (.goto 10, 3) := by decide +kernel
theorem dX11_blame_43 : decode cX11_blame 43 = .ok (.aload_n 0, 1) := by decide +kernel
theorem dX11_blame_44 : decode cX11_blame 44 = .ok (.getfield 50, 3) := by decide +kernel
theorem dX11_blame_47 : decode cX11_blame 47 = .ok (.getfield 211, 3) := by decide +kernel
theorem dX11_blame_50 : decode cX11_blame 50 = .ok (.ireturn, 1) := by decide +kernel
theorem dX11_clash_2 : decode cX11_clash 2 = .ok (.invokevirtual 77, 3) := by decide +kernel
theorem dX11_clash_5 : decode cX11_clash 5 = .ok (.astore 4, 2) := by decide +kernel
theorem dX11_clash_7 : decode cX11_clash 7 = .ok (.aload 4, 2) := by decide +kernel
theorem dX11_clash_9 : decode cX11_clash 9 = .ok (.ifnull 22, 3) := by decide +kernel
theorem dX11_clash_12 : decode cX11_clash 12 = .ok (.iload_n 2, 1) := by decide +kernel
theorem dX11_clash_13 : decode cX11_clash 13 = .ok (.invokestatic 232, 3) := by decide +kernel
theorem dX11_clash_16 : decode cX11_clash 16 = .ok (.ifCond .eq 15, 3) := by decide +kernel
theorem dX11_clash_19 : decode cX11_clash 19 = .ok (.iload_n 3, 1) := by decide +kernel
theorem dX11_clash_20 : decode cX11_clash 20 = .ok (.invokestatic 232, 3) := by decide +kernel
theorem dX11_clash_23 : decode cX11_clash 23 = .ok (.ifCond .eq 8, 3) := by decide +kernel
theorem dX11_clash_26 : decode cX11_clash 26 = .ok (.iload_n 2, 1) := by decide +kernel
theorem dX11_clash_27 : decode cX11_clash 27 = .ok (.iload_n 3, 1) := by decide +kernel
theorem dX11_clash_28 : decode cX11_clash 28 = .ok (.if_icmp .ne 5, 3) := by decide +kernel
theorem dX11_clash_31 : decode cX11_clash 31 = .ok (.iconst (-1), 1) := by decide +kernel
theorem dX11_clash_32 : decode cX11_clash 32 = .ok (.ireturn, 1) := by decide +kernel
theorem dX11_clash_33 : decode cX11_clash 33 = .ok (.aload_n 0, 1) := by decide +kernel
theorem dX11_clash_34 : decode cX11_clash 34 = .ok (.getfield 57, 3) := by decide +kernel
theorem dX11_clash_37 : decode cX11_clash 37 = .ok (.aload 4, 2) := by decide +kernel
theorem dX11_clash_39 : decode cX11_clash 39 = .ok (.invokevirtual 220, 3) := by decide +kernel
theorem dX11_clash_42 : decode cX11_clash 42 = .ok (.aload_n 0, 1) := by decide +kernel
theorem dX11_clash_43 : decode cX11_clash 43 = .ok (.getfield 57, 3) := by decide +kernel
theorem dX11_clash_46 : decode cX11_clash 46 = .ok (.iload_n 2, 1) := by decide +kernel
theorem dX11_clash_47 : decode cX11_clash 47 = .ok (.iload_n 3, 1) := by decide +kernel
theorem dX11_clash_48 : decode cX11_clash 48 = .ok (.invokevirtual 235, 3) := by decide +kernel
theorem dX11_clash_51 : decode cX11_clash 51 = .ok (.ifCond .eq 7, 3) := by decide +kernel
theorem dX11_clash_54 : decode cX11_clash 54 = .ok (.iconst 1, 1) := by decide +kernel
theorem dX11_clash_55 : decode cX11_clash 55 = .ok (.goto 4, 3) := by decide +kernel
theorem dX11_clash_58 : decode cX11_clash 58 = .ok (.iconst 0, 1) := by decide +kernel
theorem dX11_clash_59 : decode cX11_clash 59 = .ok (.ireturn, 1) := by decide +kernel
theorem dX11_cut_2 : decode cX11_cut 2 = .ok (.invokevirtual 77, 3) := by decide +kernel
theorem dX11_cut_5 : decode cX11_cut 5 = .ok (.astore 4, 2) := by decide +kernel
theorem dX11_cut_7 : decode cX11_cut 7 = .ok (.aload_n 0, 1) := by decide +kernel
theorem dX11_cut_8 : decode cX11_cut 8 = .ok (.iload_n 3, 1) := by decide +kernel
theorem dX11_cut_9 : decode cX11_cut 9 = .ok (.invokevirtual 77, 3) := by decide +kernel
theorem dX11_cut_12 : decode cX11_cut 12 = .ok (.astore 5, 2) := by decide +kernel
theorem dX11_cut_14 : decode cX11_cut 14 = .ok (.aload 4, 2) := by decide +kernel
theorem dX11_cut_16 : decode cX11_cut 16 = .ok (.ifnull 21, 3) := by decide +kernel
theorem dX11_cut_19 : decode cX11_cut 19 = .ok (.aload 5, 2) := by decide +kernel
theorem dX11_cut_21 : decode cX11_cut 21 = .ok (.ifnull 16, 3) := by decide +kernel
theorem dX11_cut_24 : decode cX11_cut 24 = .ok (.aload_n 0, 1) := by decide +kernel
theorem dX11_cut_25 : decode cX11_cut 25 = .ok (.getfield 50, 3) := by decide +kernel
theorem dX11_cut_28 : decode cX11_cut 28 = .ok (.iload_n 1, 1) := by decide +kernel
theorem dX11_cut_29 : decode cX11_cut 29 = .ok (.aload 4, 2) := by decide +kernel
theorem dX11_cut_31 : decode cX11_cut 31 = .ok (.invokevirtual 214, 3) := by decide +kernel
theorem dX11_cut_34 : decode cX11_cut 34 = .ok (.ifCond .ne 5, 3) := by decide +kernel
theorem dX11_cut_37 : decode cX11_cut 37 = .ok (.iconst (-1), 1) := by decide +kernel
theorem dX11_cut_38 : decode cX11_cut 38 = .ok (.ireturn, 1) := by decide +kernel
theorem dX11_cut_39 : decode cX11_cut 39 = .ok (.aload 5, 2) := by decide +kernel
theorem dX11_cut_41 : decode cX11_cut 41 = .ok (.aload_n 0, 1) := by decide +kernel
theorem dX11_cut_42 : decode cX11_cut 42 = .ok (.getfield 50, 3) := by decide +kernel
theorem dX11_cut_45 : decode cX11_cut 45 = .ok (.getfield 217, 3) := by decide +kernel
theorem dX11_cut_48 : decode cX11_cut 48 = .ok (.invokevirtual 92, 3) := by decide +kernel
theorem dX11_cut_51 : decode cX11_cut 51 = .ok (.aload 5, 2) := by decide +kernel
theorem dX11_cut_53 : decode cX11_cut 53 = .ok (.invokevirtual 95, 3) := by decide +kernel
theorem dX11_cut_56 : decode cX11_cut 56 = .ok (.ireturn, 1) := by decide +kernel
theorem dX11_item_47 : decode cX11_item 47 = .ok (.ireturn, 1) := by decide +kernel
theorem dX11_item_54 : decode cX11_item 54 = .ok (.invokevirtual 191, 3) := by decide +kernel
theorem dX11_item_57 : decode cX11_item 57 = .ok (.ireturn, 1) := by decide +kernel
theorem dX11_judge_2 : decode cX11_judge 2 = .ok (.invokevirtual 77, 3) := by decide +kernel
theorem dX11_judge_5 : decode cX11_judge 5 = .ok (.astore 4, 2) := by decide +kernel
theorem dX11_judge_7 : decode cX11_judge 7 = .ok (.aload_n 0, 1) := by decide +kernel
theorem dX11_judge_8 : decode cX11_judge 8 = .ok (.iload_n 2, 1) := by decide +kernel
theorem dX11_judge_9 : decode cX11_judge 9 = .ok (.invokevirtual 77, 3) := by decide +kernel
theorem dX11_judge_12 : decode cX11_judge 12 = .ok (.astore 5, 2) := by decide +kernel
theorem dX11_judge_14 : decode cX11_judge 14 = .ok (.aload 4, 2) := by decide +kernel
theorem dX11_judge_16 : decode cX11_judge 16 = .ok (.ifnull 17, 3) := by decide +kernel
theorem dX11_judge_19 : decode cX11_judge 19 = .ok (.aload 5, 2) := by decide +kernel
theorem dX11_judge_21 : decode cX11_judge 21 = .ok (.ifnull 12, 3) := by decide +kernel
theorem dX11_judge_24 : decode cX11_judge 24 = .ok (.iload_n 3, 1) := by decide +kernel
theorem dX11_judge_25 : decode cX11_judge 25 = .ok (.ifCond .lt 8, 3) := by decide +kernel
theorem dX11_judge_28 : decode cX11_judge 28 = .ok (.iload_n 3, 1) := by decide +kernel
theorem dX11_judge_29 : decode cX11_judge 29 = .ok (.iconst 3, 1) := by decide +kernel
theorem dX11_judge_30 : decode cX11_judge 30 = .ok (.if_icmp .le 5, 3) := by decide +kernel
theorem dX11_judge_33 : decode cX11_judge 33 = .ok (.iconst (-1), 1) := by decide +kernel
theorem dX11_judge_34 : decode cX11_judge 34 = .ok (.ireturn, 1) := by decide +kernel
theorem dX11_judge_35 : decode cX11_judge 35 = .ok (.aload_n 0, 1) := by decide +kernel
theorem dX11_judge_36 : decode cX11_judge 36 = .ok (.getfield 50, 3) := by decide +kernel
theorem dX11_judge_39 : decode cX11_judge 39 = .ok (.getfield 143, 3) := by decide +kernel
theorem dX11_judge_42 : decode cX11_judge 42 = .ok (.astore 6, 2) := by decide +kernel
theorem dX11_judge_44 : decode cX11_judge 44 = .ok (.aload 6, 2) := by decide +kernel
theorem dX11_judge_46 : decode cX11_judge 46 = .ok (.aload 4, 2) := by decide +kernel
theorem dX11_judge_48 : decode cX11_judge 48 = .ok (.aload 5, 2) := by decide +kernel
theorem dX11_judge_50 : decode cX11_judge 50 = .ok (.iconst 0, 1) := by decide +kernel
theorem dX11_judge_51 : decode cX11_judge 51 = .ok (.invokevirtual 147, 3) := by decide +kernel
theorem dX11_judge_54 : decode cX11_judge 54 = .ok (.pop, 1) := by decide +kernel
theorem dX11_judge_55 : decode cX11_judge 55 = .ok (.iload_n 3, 1) := by decide +kernel
theorem dX11_judge_56 : decode cX11_judge 56 = .ok (.tableswitch 46 0 2 #[28, 34, 40], 28) := by decide +kernel
theorem dX11_judge_84 : decode cX11_judge 84 = .ok (.aload 6, 2) := by decide +kernel
theorem dX11_judge_86 : decode cX11_judge 86 = .ok (.invokevirtual 153, 3) := by decide +kernel
theorem dX11_judge_89 : decode cX11_judge 89 = .ok (.ireturn, 1) := by decide +kernel
theorem dX11_judge_90 : decode cX11_judge 90 = .ok (.aload 6, 2) := by decide +kernel
theorem dX11_judge_92 : decode cX11_judge 92 = .ok (.getfield 156, 3) := by decide +kernel
theorem dX11_judge_95 : decode cX11_judge 95 = .ok (.ireturn, 1) := by decide +kernel
theorem dX11_judge_96 : decode cX11_judge 96 = .ok (.aload 6, 2) := by decide +kernel
theorem dX11_judge_98 : decode cX11_judge 98 = .ok (.getfield 159, 3) := by decide +kernel
theorem dX11_judge_101 : decode cX11_judge 101 = .ok (.ireturn, 1) := by decide +kernel
theorem dX11_judge_102 : decode cX11_judge 102 = .ok (.aload 6, 2) := by decide +kernel
theorem dX11_judge_104 : decode cX11_judge 104 = .ok (.getfield 162, 3) := by decide +kernel
theorem dX11_judge_107 : decode cX11_judge 107 = .ok (.ireturn, 1) := by decide +kernel
theorem dX11_make_2 : decode cX11_make 2 = .ok (.invokevirtual 77, 3) := by decide +kernel
theorem dX11_make_5 : decode cX11_make 5 = .ok (.astore 4, 2) := by decide +kernel
theorem dX11_make_7 : decode cX11_make 7 = .ok (.aload_n 0, 1) := by decide +kernel
theorem dX11_make_8 : decode cX11_make 8 = .ok (.iload_n 3, 1) := by decide +kernel
theorem dX11_make_9 : decode cX11_make 9 = .ok (.invokevirtual 77, 3) := by decide +kernel
theorem dX11_make_12 : decode cX11_make 12 = .ok (.astore 5, 2) := by decide +kernel
theorem dX11_make_14 : decode cX11_make 14 = .ok (.aload 4, 2) := by decide +kernel
theorem dX11_make_16 : decode cX11_make 16 = .ok (.ifnull 21, 3) := by decide +kernel
theorem dX11_make_19 : decode cX11_make 19 = .ok (.aload 5, 2) := by decide +kernel
theorem dX11_make_21 : decode cX11_make 21 = .ok (.ifnull 16, 3) := by decide +kernel
theorem dX11_make_24 : decode cX11_make 24 = .ok (.aload_n 0, 1) := by decide +kernel
theorem dX11_make_25 : decode cX11_make 25 = .ok (.getfield 50, 3) := by decide +kernel
theorem dX11_make_28 : decode cX11_make 28 = .ok (.iload_n 1, 1) := by decide +kernel
theorem dX11_make_29 : decode cX11_make 29 = .ok (.aload 4, 2) := by decide +kernel
theorem dX11_make_31 : decode cX11_make 31 = .ok (.invokevirtual 198, 3) := by decide +kernel
theorem dX11_make_34 : decode cX11_make 34 = .ok (.ifCond .ne 5, 3) := by decide +kernel
theorem dX11_make_37 : decode cX11_make 37 = .ok (.iconst (-1), 1) := by decide +kernel
theorem dX11_make_38 : decode cX11_make 38 = .ok (.ireturn, 1) := by decide +kernel
theorem dX11_make_39 : decode cX11_make 39 = .ok (.aload 5, 2) := by decide +kernel
theorem dX11_make_41 : decode cX11_make 41 = .ok (.aload_n 0, 1) := by decide +kernel
theorem dX11_make_42 : decode cX11_make 42 = .ok (.getfield 50, 3) := by decide +kernel
theorem dX11_make_45 : decode cX11_make 45 = .ok (.getfield 202, 3) := by decide +kernel
theorem dX11_make_48 : decode cX11_make 48 = .ok (.invokevirtual 92, 3) := by decide +kernel
theorem dX11_make_51 : decode cX11_make 51 = .ok (.aload 5, 2) := by decide +kernel
theorem dX11_make_53 : decode cX11_make 53 = .ok (.invokevirtual 95, 3) := by decide +kernel
theorem dX11_make_56 : decode cX11_make 56 = .ok (.ireturn, 1) := by decide +kernel
theorem dX11_places_2 : decode cX11_places 2 = .ok (.invokevirtual 165, 3) := by decide +kernel
theorem dX11_places_5 : decode cX11_places 5 = .ok (.astore_n 3, 1) := by decide +kernel
theorem dX11_places_6 : decode cX11_places 6 = .ok (.aload_n 0, 1) := by decide +kernel
theorem dX11_places_7 : decode cX11_places 7 = .ok (.iload_n 2, 1) := by decide +kernel
theorem dX11_places_8 : decode cX11_places 8 = .ok (.invokevirtual 77, 3) := by decide +kernel
theorem dX11_places_11 : decode cX11_places 11 = .ok (.astore 4, 2) := by decide +kernel
theorem dX11_places_13 : decode cX11_places 13 = .ok (.aload_n 3, 1) := by decide +kernel
theorem dX11_places_14 : decode cX11_places 14 = .ok (.ifnull 8, 3) := by decide +kernel
theorem dX11_places_17 : decode cX11_places 17 = .ok (.aload 4, 2) := by decide +kernel
theorem dX11_places_19 : decode cX11_places 19 = .ok (.ifnonnull 7, 3) := by decide +kernel
theorem dX11_places_22 : decode cX11_places 22 = .ok (.iconst (-1), 1) := by decide +kernel
theorem dX11_places_23 : decode cX11_places 23 = .ok (.goto 9, 3) := by decide +kernel
theorem dX11_places_26 : decode cX11_places 26 = .ok (.aload_n 3, 1) := by decide +kernel
theorem dX11_places_27 : decode cX11_places 27 = .ok (.aload 4, 2) := by decide +kernel
theorem dX11_places_29 : decode cX11_places 29 = .ok (.invokevirtual 177, 3) := by decide +kernel
theorem dX11_places_32 : decode cX11_places 32 = .ok (.ireturn, 1) := by decide +kernel
theorem dX11_program_2 : decode cX11_program 2 = .ok (.invokevirtual 77, 3) := by decide +kernel
theorem dX11_program_5 : decode cX11_program 5 = .ok (.astore_n 2, 1) := by decide +kernel
theorem dX11_program_6 : decode cX11_program 6 = .ok (.aload_n 2, 1) := by decide +kernel
theorem dX11_program_7 : decode cX11_program 7 = .ok (.ifnonnull 12, 3) := by decide +kernel
theorem dX11_program_10 : decode cX11_program 10 = .ok (.aload_n 0, 1) := by decide +kernel
theorem dX11_program_11 : decode cX11_program 11 = .ok (.getfield 29, 3) := by decide +kernel
theorem dX11_program_14 : decode cX11_program 14 = .ok (.invokevirtual 81, 3) := by decide +kernel
theorem dX11_program_17 : decode cX11_program 17 = .ok (.iconst (-1), 1) := by decide +kernel
theorem dX11_program_18 : decode cX11_program 18 = .ok (.ireturn, 1) := by decide +kernel
theorem dX11_program_19 : decode cX11_program 19 = .ok (.aload_n 0, 1) := by decide +kernel
theorem dX11_program_20 : decode cX11_program 20 = .ok (.getfield 29, 3) := by decide +kernel
theorem dX11_program_23 : decode cX11_program 23 = .ok (.aload_n 0, 1) := by decide +kernel
theorem dX11_program_24 : decode cX11_program 24 = .ok (.getfield 22, 3) := by decide +kernel
theorem dX11_program_27 : decode cX11_program 27 = .ok (.invokevirtual 84, 3) := by decide +kernel
theorem dX11_program_30 : decode cX11_program 30 = .ok (.aload_n 0, 1) := by decide +kernel
theorem dX11_program_31 : decode cX11_program 31 = .ok (.getfield 29, 3) := by decide +kernel
theorem dX11_program_34 : decode cX11_program 34 = .ok (.invokevirtual 88, 3) := by decide +kernel
theorem dX11_program_37 : decode cX11_program 37 = .ok (.ifCond .ne 5, 3) := by decide +kernel
theorem dX11_program_40 : decode cX11_program 40 = .ok (.iconst (-1), 1) := by decide +kernel
theorem dX11_program_41 : decode cX11_program 41 = .ok (.ireturn, 1) := by decide +kernel
theorem dX11_program_42 : decode cX11_program 42 = .ok (.aload_n 2, 1) := by decide +kernel
theorem dX11_program_43 : decode cX11_program 43 = .ok (.aload_n 0, 1) := by decide +kernel
theorem dX11_program_44 : decode cX11_program 44 = .ok (.getfield 22, 3) := by decide +kernel
theorem dX11_program_47 : decode cX11_program 47 = .ok (.invokevirtual 92, 3) := by decide +kernel
theorem dX11_program_50 : decode cX11_program 50 = .ok (.aload_n 2, 1) := by decide +kernel
theorem dX11_program_51 : decode cX11_program 51 = .ok (.invokevirtual 95, 3) := by decide +kernel
theorem dX11_program_54 : decode cX11_program 54 = .ok (.ireturn, 1) := by decide +kernel
theorem dX11_registers_2 : decode cX11_registers 2 = .ok (.invokevirtual 77, 3) := by decide +kernel
theorem dX11_registers_5 : decode cX11_registers 5 = .ok (.astore_n 3, 1) := by decide +kernel
theorem dX11_registers_6 : decode cX11_registers 6 = .ok (.aload_n 3, 1) := by decide +kernel
theorem dX11_registers_7 : decode cX11_registers 7 = .ok (.ifnonnull 5, 3) := by decide +kernel
theorem dX11_registers_10 : decode cX11_registers 10 = .ok (.iconst (-1), 1) := by decide +kernel
theorem dX11_registers_11 : decode cX11_registers 11 = .ok (.ireturn, 1) := by decide +kernel
theorem dX11_registers_12 : decode cX11_registers 12 = .ok (.aload_n 0, 1) := by decide +kernel
theorem dX11_registers_13 : decode cX11_registers 13 = .ok (.getfield 57, 3) := by decide +kernel
theorem dX11_registers_16 : decode cX11_registers 16 = .ok (.aload_n 3, 1) := by decide +kernel
theorem dX11_registers_17 : decode cX11_registers 17 = .ok (.invokevirtual 220, 3) := by decide +kernel
theorem dX11_registers_20 : decode cX11_registers 20 = .ok (.iload_n 2, 1) := by decide +kernel
theorem dX11_registers_21 : decode cX11_registers 21 = .ok (.ifCond .ne 11, 3) := by decide +kernel
theorem dX11_registers_24 : decode cX11_registers 24 = .ok (.aload_n 0, 1) := by decide +kernel
theorem dX11_registers_25 : decode cX11_registers 25 = .ok (.getfield 57, 3) := by decide +kernel
theorem dX11_registers_28 : decode cX11_registers 28 = .ok (.invokevirtual 223, 3) := by decide +kernel
theorem dX11_registers_31 : decode cX11_registers 31 = .ok (.ireturn, 1) := by decide +kernel
theorem dX11_registers_32 : decode cX11_registers 32 = .ok (.iload_n 2, 1) := by decide +kernel
theorem dX11_registers_33 : decode cX11_registers 33 = .ok (.bipush 10, 2) := by decide +kernel
theorem dX11_registers_35 : decode cX11_registers 35 = .ok (.if_icmp .lt 21, 3) := by decide +kernel
theorem dX11_registers_38 : decode cX11_registers 38 = .ok (.iload_n 2, 1) := by decide +kernel
theorem dX11_registers_39 : decode cX11_registers 39 = .ok (.bipush 16, 2) := by decide +kernel
theorem dX11_registers_41 : decode cX11_registers 41 = .ok (.if_icmp .ge 15, 3) := by decide +kernel
theorem dX11_registers_44 : decode cX11_registers 44 = .ok (.aload_n 0, 1) := by decide +kernel
theorem dX11_registers_45 : decode cX11_registers 45 = .ok (.getfield 57, 3) := by decide +kernel
theorem dX11_registers_48 : decode cX11_registers 48 = .ok (.iload_n 2, 1) := by decide +kernel
theorem dX11_registers_49 : decode cX11_registers 49 = .ok (.bipush 10, 2) := by decide +kernel
theorem dX11_registers_51 : decode cX11_registers 51 = .ok (.isub, 1) := by decide +kernel
theorem dX11_registers_52 : decode cX11_registers 52 = .ok (.invokevirtual 226, 3) := by decide +kernel
theorem dX11_registers_55 : decode cX11_registers 55 = .ok (.ireturn, 1) := by decide +kernel
theorem dX11_registers_56 : decode cX11_registers 56 = .ok (.iload_n 2, 1) := by decide +kernel
theorem dX11_registers_57 : decode cX11_registers 57 = .ok (.bipush 20, 2) := by decide +kernel
theorem dX11_registers_59 : decode cX11_registers 59 = .ok (.if_icmp .lt 23, 3) := by decide +kernel
theorem dX11_registers_62 : decode cX11_registers 62 = .ok (.iload_n 2, 1) := by decide +kernel
theorem dX11_registers_63 : decode cX11_registers 63 = .ok (.bipush 26, 2) := by decide +kernel
theorem dX11_registers_65 : decode cX11_registers 65 = .ok (.if_icmp .gt 17, 3) := by decide +kernel
theorem dX11_registers_68 : decode cX11_registers 68 = .ok (.aload_n 0, 1) := by decide +kernel
theorem dX11_registers_69 : decode cX11_registers 69 = .ok (.getfield 57, 3) := by decide +kernel
theorem dX11_registers_72 : decode cX11_registers 72 = .ok (.iload_n 2, 1) := by decide +kernel
theorem dX11_registers_73 : decode cX11_registers 73 = .ok (.bipush 20, 2) := by decide +kernel
theorem dX11_registers_75 : decode cX11_registers 75 = .ok (.isub, 1) := by decide +kernel
theorem dX11_registers_76 : decode cX11_registers 76 = .ok (.invokevirtual 229, 3) := by decide +kernel
theorem dX11_registers_79 : decode cX11_registers 79 = .ok (.goto 4, 3) := by decide +kernel
theorem dX11_registers_82 : decode cX11_registers 82 = .ok (.iconst (-1), 1) := by decide +kernel
theorem dX11_registers_83 : decode cX11_registers 83 = .ok (.ireturn, 1) := by decide +kernel
theorem dX11_rule_8 : decode cX11_rule 8 = .ok (.invokevirtual 99, 3) := by decide +kernel
theorem dX11_rule_11 : decode cX11_rule 11 = .ok (.astore_n 1, 1) := by decide +kernel
theorem dX11_rule_12 : decode cX11_rule 12 = .ok (.aload_n 1, 1) := by decide +kernel
theorem dX11_rule_13 : decode cX11_rule 13 = .ok (.ifnonnull 12, 3) := by decide +kernel
theorem dX11_rule_16 : decode cX11_rule 16 = .ok (.aload_n 0, 1) := by decide +kernel
theorem dX11_rule_17 : decode cX11_rule 17 = .ok (.getfield 29, 3) := by decide +kernel
theorem dX11_rule_20 : decode cX11_rule 20 = .ok (.invokevirtual 81, 3) := by decide +kernel
theorem dX11_rule_23 : decode cX11_rule 23 = .ok (.iconst (-1), 1) := by decide +kernel
theorem dX11_rule_24 : decode cX11_rule 24 = .ok (.ireturn, 1) := by decide +kernel
theorem dX11_rule_25 : decode cX11_rule 25 = .ok (.aload_n 0, 1) := by decide +kernel
theorem dX11_rule_26 : decode cX11_rule 26 = .ok (.getfield 29, 3) := by decide +kernel
theorem dX11_rule_29 : decode cX11_rule 29 = .ok (.aload_n 1, 1) := by decide +kernel
theorem dX11_rule_30 : decode cX11_rule 30 = .ok (.invokevirtual 103, 3) := by decide +kernel
theorem dX11_rule_33 : decode cX11_rule 33 = .ok (.aload_n 0, 1) := by decide +kernel
theorem dX11_rule_34 : decode cX11_rule 34 = .ok (.getfield 29, 3) := by decide +kernel
theorem dX11_rule_37 : decode cX11_rule 37 = .ok (.invokevirtual 88, 3) := by decide +kernel
theorem dX11_rule_40 : decode cX11_rule 40 = .ok (.ifCond .ne 5, 3) := by decide +kernel
theorem dX11_rule_43 : decode cX11_rule 43 = .ok (.iconst (-1), 1) := by decide +kernel
theorem dX11_rule_44 : decode cX11_rule 44 = .ok (.ireturn, 1) := by decide +kernel
theorem dX11_rule_45 : decode cX11_rule 45 = .ok (.aload_n 0, 1) := by decide +kernel
theorem dX11_rule_46 : decode cX11_rule 46 = .ok (.dup, 1) := by decide +kernel
theorem dX11_rule_47 : decode cX11_rule 47 = .ok (.getfield 18, 3) := by decide +kernel
theorem dX11_rule_50 : decode cX11_rule 50 = .ok (.iconst 1, 1) := by decide +kernel
theorem dX11_rule_51 : decode cX11_rule 51 = .ok (.iadd, 1) := by decide +kernel
theorem dX11_rule_52 : decode cX11_rule 52 = .ok (.putfield 18, 3) := by decide +kernel
theorem dX11_rule_55 : decode cX11_rule 55 = .ok (.aload_n 0, 1) := by decide +kernel
theorem dX11_rule_56 : decode cX11_rule 56 = .ok (.getfield 18, 3) := by decide +kernel
theorem dX11_rule_59 : decode cX11_rule 59 = .ok (.iconst 1, 1) := by decide +kernel
theorem dX11_rule_60 : decode cX11_rule 60 = .ok (.isub, 1) := by decide +kernel
theorem dX11_rule_61 : decode cX11_rule 61 = .ok (.ireturn, 1) := by decide +kernel
theorem dX11_ruleAt_13 : decode cX11_ruleAt 13 = .ok (.invokevirtual 99, 3) := by decide +kernel
theorem dX11_ruleAt_16 : decode cX11_ruleAt 16 = .ok (.goto 4, 3) := by decide +kernel
theorem dX11_ruleAt_20 : decode cX11_ruleAt 20 = .ok (.areturn, 1) := by decide +kernel
theorem dX11_ruleOf_2 : decode cX11_ruleOf 2 = .ok (.invokevirtual 165, 3) := by decide +kernel
theorem dX11_ruleOf_5 : decode cX11_ruleOf 5 = .ok (.astore_n 3, 1) := by decide +kernel
theorem dX11_ruleOf_6 : decode cX11_ruleOf 6 = .ok (.aload_n 3, 1) := by decide +kernel
theorem dX11_ruleOf_7 : decode cX11_ruleOf 7 = .ok (.ifnonnull 6, 3) := by decide +kernel
theorem dX11_ruleOf_10 : decode cX11_ruleOf 10 = .ok (.bipush (-2), 2) := by decide +kernel
theorem dX11_ruleOf_12 : decode cX11_ruleOf 12 = .ok (.ireturn, 1) := by decide +kernel
theorem dX11_ruleOf_13 : decode cX11_ruleOf 13 = .ok (.iload_n 2, 1) := by decide +kernel
theorem dX11_ruleOf_14 : decode cX11_ruleOf 14 = .ok (.iconst 2, 1) := by decide +kernel
theorem dX11_ruleOf_15 : decode cX11_ruleOf 15 = .ok (.if_icmp .ne 12, 3) := by decide +kernel
theorem dX11_ruleOf_18 : decode cX11_ruleOf 18 = .ok (.aload_n 0, 1) := by decide +kernel
theorem dX11_ruleOf_19 : decode cX11_ruleOf 19 = .ok (.getfield 43, 3) := by decide +kernel
theorem dX11_ruleOf_22 : decode cX11_ruleOf 22 = .ok (.aload_n 3, 1) := by decide +kernel
theorem dX11_ruleOf_23 : decode cX11_ruleOf 23 = .ok (.invokevirtual 166, 3) := by decide +kernel
theorem dX11_ruleOf_26 : decode cX11_ruleOf 26 = .ok (.ireturn, 1) := by decide +kernel
theorem dX11_ruleOf_27 : decode cX11_ruleOf 27 = .ok (.aload_n 0, 1) := by decide +kernel
theorem dX11_ruleOf_28 : decode cX11_ruleOf 28 = .ok (.getfield 43, 3) := by decide +kernel
theorem dX11_ruleOf_31 : decode cX11_ruleOf 31 = .ok (.aload_n 3, 1) := by decide +kernel
theorem dX11_ruleOf_32 : decode cX11_ruleOf 32 = .ok (.invokevirtual 170, 3) := by decide +kernel
theorem dX11_ruleOf_35 : decode cX11_ruleOf 35 = .ok (.iload_n 2, 1) := by decide +kernel
theorem dX11_ruleOf_36 : decode cX11_ruleOf 36 = .ok (.tableswitch 64 0 3 #[32, 48, 64, 56], 32) := by decide +kernel
theorem dX11_ruleOf_68 : decode cX11_ruleOf 68 = .ok (.aload_n 0, 1) := by decide +kernel
theorem dX11_ruleOf_69 : decode cX11_ruleOf 69 = .ok (.getfield 43, 3) := by decide +kernel
theorem dX11_ruleOf_72 : decode cX11_ruleOf 72 = .ok (.getfield 173, 3) := by decide +kernel
theorem dX11_ruleOf_75 : decode cX11_ruleOf 75 = .ok (.ifCond .ne 7, 3) := by decide +kernel
theorem dX11_ruleOf_78 : decode cX11_ruleOf 78 = .ok (.iconst 1, 1) := by decide +kernel
theorem dX11_ruleOf_79 : decode cX11_ruleOf 79 = .ok (.goto 4, 3) := by decide +kernel
theorem dX11_ruleOf_82 : decode cX11_ruleOf 82 = .ok (.iconst 0, 1) := by decide +kernel
theorem dX11_ruleOf_83 : decode cX11_ruleOf 83 = .ok (.ireturn, 1) := by decide +kernel
theorem dX11_ruleOf_84 : decode cX11_ruleOf 84 = .ok (.aload_n 0, 1) := by decide +kernel
theorem dX11_ruleOf_85 : decode cX11_ruleOf 85 = .ok (.getfield 43, 3) := by decide +kernel
theorem dX11_ruleOf_88 : decode cX11_ruleOf 88 = .ok (.getfield 176, 3) := by decide +kernel
theorem dX11_ruleOf_91 : decode cX11_ruleOf 91 = .ok (.ireturn, 1) := by decide +kernel
theorem dX11_ruleOf_92 : decode cX11_ruleOf 92 = .ok (.aload_n 0, 1) := by decide +kernel
theorem dX11_ruleOf_93 : decode cX11_ruleOf 93 = .ok (.getfield 43, 3) := by decide +kernel
theorem dX11_ruleOf_96 : decode cX11_ruleOf 96 = .ok (.getfield 173, 3) := by decide +kernel
theorem dX11_ruleOf_99 : decode cX11_ruleOf 99 = .ok (.ireturn, 1) := by decide +kernel
theorem dX11_ruleOf_100 : decode cX11_ruleOf 100 = .ok (.bipush (-2), 2) := by decide +kernel
theorem dX11_ruleOf_102 : decode cX11_ruleOf 102 = .ok (.ireturn, 1) := by decide +kernel
theorem dX11_run_2 : decode cX11_run 2 = .ok (.invokevirtual 77, 3) := by decide +kernel
theorem dX11_run_5 : decode cX11_run 5 = .ok (.astore 5, 2) := by decide +kernel
theorem dX11_run_7 : decode cX11_run 7 = .ok (.aload 5, 2) := by decide +kernel
theorem dX11_run_9 : decode cX11_run 9 = .ok (.ifnull 17, 3) := by decide +kernel
theorem dX11_run_12 : decode cX11_run 12 = .ok (.iload_n 2, 1) := by decide +kernel
theorem dX11_run_13 : decode cX11_run 13 = .ok (.invokestatic 133, 3) := by decide +kernel
theorem dX11_run_16 : decode cX11_run 16 = .ok (.ifCond .eq 10, 3) := by decide +kernel
theorem dX11_run_19 : decode cX11_run 19 = .ok (.iload_n 3, 1) := by decide +kernel
theorem dX11_run_20 : decode cX11_run 20 = .ok (.invokestatic 133, 3) := by decide +kernel
theorem dX11_run_23 : decode cX11_run 23 = .ok (.ifCond .ne 5, 3) := by decide +kernel
theorem dX11_run_26 : decode cX11_run 26 = .ok (.iconst (-1), 1) := by decide +kernel
theorem dX11_run_27 : decode cX11_run 27 = .ok (.ireturn, 1) := by decide +kernel
theorem dX11_run_28 : decode cX11_run 28 = .ok (.aload_n 0, 1) := by decide +kernel
theorem dX11_run_29 : decode cX11_run 29 = .ok (.getfield 36, 3) := by decide +kernel
theorem dX11_run_32 : decode cX11_run 32 = .ok (.getfield 121, 3) := by decide +kernel
theorem dX11_run_35 : decode cX11_run 35 = .ok (.aload 5, 2) := by decide +kernel
theorem dX11_run_37 : decode cX11_run 37 = .ok (.invokevirtual 125, 3) := by decide +kernel
theorem dX11_run_40 : decode cX11_run 40 = .ok (.aload_n 0, 1) := by decide +kernel
theorem dX11_run_41 : decode cX11_run 41 = .ok (.getfield 36, 3) := by decide +kernel
theorem dX11_run_44 : decode cX11_run 44 = .ok (.iload_n 2, 1) := by decide +kernel
theorem dX11_run_45 : decode cX11_run 45 = .ok (.iload_n 3, 1) := by decide +kernel
theorem dX11_run_46 : decode cX11_run 46 = .ok (.invokevirtual 136, 3) := by decide +kernel
theorem dX11_run_49 : decode cX11_run 49 = .ok (.aload_n 0, 1) := by decide +kernel
theorem dX11_run_50 : decode cX11_run 50 = .ok (.getfield 36, 3) := by decide +kernel
theorem dX11_run_53 : decode cX11_run 53 = .ok (.iload 4, 2) := by decide +kernel
theorem dX11_run_55 : decode cX11_run 55 = .ok (.invokevirtual 140, 3) := by decide +kernel
theorem dX11_run_58 : decode cX11_run 58 = .ok (.ireturn, 1) := by decide +kernel
theorem dX11_size_2 : decode cX11_size 2 = .ok (.invokevirtual 77, 3) := by decide +kernel
theorem dX11_size_5 : decode cX11_size 5 = .ok (.astore_n 3, 1) := by decide +kernel
theorem dX11_size_6 : decode cX11_size 6 = .ok (.aload_n 3, 1) := by decide +kernel
theorem dX11_size_7 : decode cX11_size 7 = .ok (.ifnonnull 5, 3) := by decide +kernel
theorem dX11_size_10 : decode cX11_size 10 = .ok (.iconst (-1), 1) := by decide +kernel
theorem dX11_size_11 : decode cX11_size 11 = .ok (.ireturn, 1) := by decide +kernel
theorem dX11_size_12 : decode cX11_size 12 = .ok (.iload_n 2, 1) := by decide +kernel
theorem dX11_size_13 : decode cX11_size 13 = .ok (.tableswitch 69 0 3 #[31, 36, 41, 46], 31) := by decide +kernel
theorem dX11_size_44 : decode cX11_size 44 = .ok (.aload_n 3, 1) := by decide +kernel
theorem dX11_size_45 : decode cX11_size 45 = .ok (.invokevirtual 95, 3) := by decide +kernel
theorem dX11_size_48 : decode cX11_size 48 = .ok (.ireturn, 1) := by decide +kernel
theorem dX11_size_49 : decode cX11_size 49 = .ok (.aload_n 3, 1) := by decide +kernel
theorem dX11_size_50 : decode cX11_size 50 = .ok (.invokevirtual 117, 3) := by decide +kernel
theorem dX11_size_53 : decode cX11_size 53 = .ok (.ireturn, 1) := by decide +kernel
theorem dX11_size_54 : decode cX11_size 54 = .ok (.aload_n 3, 1) := by decide +kernel
theorem dX11_size_55 : decode cX11_size 55 = .ok (.getfield 120, 3) := by decide +kernel
theorem dX11_size_58 : decode cX11_size 58 = .ok (.ireturn, 1) := by decide +kernel
theorem dX11_size_59 : decode cX11_size 59 = .ok (.aload_n 0, 1) := by decide +kernel
theorem dX11_size_60 : decode cX11_size 60 = .ok (.getfield 36, 3) := by decide +kernel
theorem dX11_size_63 : decode cX11_size 63 = .ok (.getfield 121, 3) := by decide +kernel
theorem dX11_size_66 : decode cX11_size 66 = .ok (.aload_n 3, 1) := by decide +kernel
theorem dX11_size_67 : decode cX11_size 67 = .ok (.invokevirtual 125, 3) := by decide +kernel
theorem dX11_size_70 : decode cX11_size 70 = .ok (.aload_n 0, 1) := by decide +kernel
theorem dX11_size_71 : decode cX11_size 71 = .ok (.getfield 36, 3) := by decide +kernel
theorem dX11_size_74 : decode cX11_size 74 = .ok (.getfield 121, 3) := by decide +kernel
theorem dX11_size_77 : decode cX11_size 77 = .ok (.iconst 0, 1) := by decide +kernel
theorem dX11_size_78 : decode cX11_size 78 = .ok (.invokevirtual 130, 3) := by decide +kernel
theorem dX11_size_81 : decode cX11_size 81 = .ok (.ireturn, 1) := by decide +kernel
theorem dX11_size_82 : decode cX11_size 82 = .ok (.iconst (-1), 1) := by decide +kernel
theorem dX11_size_83 : decode cX11_size 83 = .ok (.ireturn, 1) := by decide +kernel
theorem dX11_slotAt_18 : decode cX11_slotAt 18 = .ok (.aaload, 1) := by decide +kernel
theorem dX11_slotAt_19 : decode cX11_slotAt 19 = .ok (.goto 4, 3) := by decide +kernel
theorem dX11_slotAt_22 : decode cX11_slotAt 22 = .ok (.aconst_null, 1) := by decide +kernel
theorem dX11_slotAt_23 : decode cX11_slotAt 23 = .ok (.areturn, 1) := by decide +kernel
theorem dX4_addItem_18 : decode cX4_addItem 18 = .ok (.iconst (-1), 1) := by decide +kernel
theorem dX4_addItem_19 : decode cX4_addItem 19 = .ok (.ireturn, 1) := by decide +kernel
theorem dX4_addItem_25 : decode cX4_addItem 25 = .ok (.aaload, 1) := by decide +kernel
theorem dX4_addItem_26 : decode cX4_addItem 26 = .ok (.aload_n 0, 1) := by decide +kernel
theorem dX4_addItem_27 : decode cX4_addItem 27 = .ok (.getfield 23, 3) := by decide +kernel
theorem dX4_addItem_30 : decode cX4_addItem 30 = .ok (.iload_n 1, 1) := by decide +kernel
theorem dX4_addItem_31 : decode cX4_addItem 31 = .ok (.iaload, 1) := by decide +kernel
theorem dX4_addItem_32 : decode cX4_addItem 32 = .ok (.iload_n 2, 1) := by decide +kernel
theorem dX4_addItem_33 : decode cX4_addItem 33 = .ok (.iastore, 1) := by decide +kernel
theorem dX4_addItem_34 : decode cX4_addItem 34 = .ok (.aload_n 0, 1) := by decide +kernel
theorem dX4_addItem_35 : decode cX4_addItem 35 = .ok (.getfield 23, 3) := by decide +kernel
theorem dX4_addItem_38 : decode cX4_addItem 38 = .ok (.iload_n 1, 1) := by decide +kernel
theorem dX4_addItem_39 : decode cX4_addItem 39 = .ok (.dup2, 1) := by decide +kernel
theorem dX4_addItem_40 : decode cX4_addItem 40 = .ok (.iaload, 1) := by decide +kernel
theorem dX4_addItem_41 : decode cX4_addItem 41 = .ok (.iconst 1, 1) := by decide +kernel
theorem dX4_addItem_42 : decode cX4_addItem 42 = .ok (.iadd, 1) := by decide +kernel
theorem dX4_addItem_43 : decode cX4_addItem 43 = .ok (.iastore, 1) := by decide +kernel
theorem dX4_addItem_44 : decode cX4_addItem 44 = .ok (.aload_n 0, 1) := by decide +kernel
theorem dX4_addItem_45 : decode cX4_addItem 45 = .ok (.getfield 23, 3) := by decide +kernel
theorem dX4_addItem_48 : decode cX4_addItem 48 = .ok (.iload_n 1, 1) := by decide +kernel
theorem dX4_addItem_49 : decode cX4_addItem 49 = .ok (.iaload, 1) := by decide +kernel
theorem dX4_addItem_50 : decode cX4_addItem 50 = .ok (.ireturn, 1) := by decide +kernel
theorem dX4_cutDown_19 : decode cX4_cutDown 19 = .ok (.invokevirtual 109, 3) := by decide +kernel
theorem dX4_cutDown_22 : decode cX4_cutDown 22 = .ok (.ifCond .eq 11, 3) := by decide +kernel
theorem dX4_cutDown_25 : decode cX4_cutDown 25 = .ok (.aload_n 0, 1) := by decide +kernel
theorem dX4_cutDown_26 : decode cX4_cutDown 26 = .ok (.aload_n 2, 1) := by decide +kernel
theorem dX4_cutDown_27 : decode cX4_cutDown 27 = .ok (.invokevirtual 113, 3) := by decide +kernel
theorem dX4_cutDown_30 : decode cX4_cutDown 30 = .ok (.ifCond .ne 5, 3) := by decide +kernel
theorem dX4_cutDown_33 : decode cX4_cutDown 33 = .ok (.iconst 0, 1) := by decide +kernel
theorem dX4_cutDown_34 : decode cX4_cutDown 34 = .ok (.ireturn, 1) := by decide +kernel
theorem dX4_cutDown_35 : decode cX4_cutDown 35 = .ok (.aload_n 0, 1) := by decide +kernel
theorem dX4_cutDown_36 : decode cX4_cutDown 36 = .ok (.getfield 43, 3) := by decide +kernel
theorem dX4_cutDown_39 : decode cX4_cutDown 39 = .ok (.aload_n 2, 1) := by decide +kernel
theorem dX4_cutDown_40 : decode cX4_cutDown 40 = .ok (.invokevirtual 67, 3) := by decide +kernel
theorem dX4_cutDown_43 : decode cX4_cutDown 43 = .ok (.iconst 1, 1) := by decide +kernel
theorem dX4_cutDown_44 : decode cX4_cutDown 44 = .ok (.istore 4, 2) := by decide +kernel
theorem dX4_cutDown_46 : decode cX4_cutDown 46 = .ok (.iconst 0, 1) := by decide +kernel
theorem dX4_cutDown_47 : decode cX4_cutDown 47 = .ok (.istore 5, 2) := by decide +kernel
theorem dX4_cutDown_49 : decode cX4_cutDown 49 = .ok (.iload 5, 2) := by decide +kernel
theorem dX4_cutDown_51 : decode cX4_cutDown 51 = .ok (.bipush 12, 2) := by decide +kernel
theorem dX4_cutDown_53 : decode cX4_cutDown 53 = .ok (.if_icmp .ge 133, 3) := by decide +kernel
theorem dX4_cutDown_56 : decode cX4_cutDown 56 = .ok (.iload 4, 2) := by decide +kernel
theorem dX4_cutDown_58 : decode cX4_cutDown 58 = .ok (.ifCond .eq 128, 3) := by decide +kernel
theorem dX4_cutDown_61 : decode cX4_cutDown 61 = .ok (.iconst 0, 1) := by decide +kernel
theorem dX4_cutDown_62 : decode cX4_cutDown 62 = .ok (.istore 4, 2) := by decide +kernel
theorem dX4_cutDown_64 : decode cX4_cutDown 64 = .ok (.iconst 0, 1) := by decide +kernel
theorem dX4_cutDown_65 : decode cX4_cutDown 65 = .ok (.istore 6, 2) := by decide +kernel
theorem dX4_cutDown_67 : decode cX4_cutDown 67 = .ok (.iload 6, 2) := by decide +kernel
theorem dX4_cutDown_69 : decode cX4_cutDown 69 = .ok (.aload_n 0, 1) := by decide +kernel
theorem dX4_cutDown_70 : decode cX4_cutDown 70 = .ok (.getfield 43, 3) := by decide +kernel
theorem dX4_cutDown_73 : decode cX4_cutDown 73 = .ok (.getfield 131, 3) := by decide +kernel
theorem dX4_cutDown_76 : decode cX4_cutDown 76 = .ok (.if_icmp .ge 88, 3) := by decide +kernel
theorem dX4_cutDown_79 : decode cX4_cutDown 79 = .ok (.iload 4, 2) := by decide +kernel
theorem dX4_cutDown_81 : decode cX4_cutDown 81 = .ok (.ifCond .ne 83, 3) := by decide +kernel
theorem dX4_cutDown_84 : decode cX4_cutDown 84 = .ok (.aload_n 0, 1) := by decide +kernel
theorem dX4_cutDown_85 : decode cX4_cutDown 85 = .ok (.getfield 43, 3) := by decide +kernel
theorem dX4_cutDown_88 : decode cX4_cutDown 88 = .ok (.iload 6, 2) := by decide +kernel
theorem dX4_cutDown_90 : decode cX4_cutDown 90 = .ok (.invokevirtual 134, 3) := by decide +kernel
theorem dX4_cutDown_93 : decode cX4_cutDown 93 = .ok (.invokestatic 138, 3) := by decide +kernel
theorem dX4_cutDown_96 : decode cX4_cutDown 96 = .ok (.ifCond .eq 62, 3) := by decide +kernel
theorem dX4_cutDown_99 : decode cX4_cutDown 99 = .ok (.aload_n 0, 1) := by decide +kernel
theorem dX4_cutDown_100 : decode cX4_cutDown 100 = .ok (.getfield 46, 3) := by decide +kernel
theorem dX4_cutDown_103 : decode cX4_cutDown 103 = .ok (.aload_n 0, 1) := by decide +kernel
theorem dX4_cutDown_104 : decode cX4_cutDown 104 = .ok (.getfield 43, 3) := by decide +kernel
theorem dX4_cutDown_107 : decode cX4_cutDown 107 = .ok (.invokevirtual 67, 3) := by decide +kernel
theorem dX4_cutDown_110 : decode cX4_cutDown 110 = .ok (.aload_n 0, 1) := by decide +kernel
theorem dX4_cutDown_111 : decode cX4_cutDown 111 = .ok (.getfield 46, 3) := by decide +kernel
theorem dX4_cutDown_114 : decode cX4_cutDown 114 = .ok (.iload 6, 2) := by decide +kernel
theorem dX4_cutDown_116 : decode cX4_cutDown 116 = .ok (.aload_n 0, 1) := by decide +kernel
theorem dX4_cutDown_117 : decode cX4_cutDown 117 = .ok (.getfield 43, 3) := by decide +kernel
theorem dX4_cutDown_120 : decode cX4_cutDown 120 = .ok (.iload 6, 2) := by decide +kernel
theorem dX4_cutDown_122 : decode cX4_cutDown 122 = .ok (.invokevirtual 141, 3) := by decide +kernel
theorem dX4_cutDown_125 : decode cX4_cutDown 125 = .ok (.invokevirtual 144, 3) := by decide +kernel
theorem dX4_cutDown_128 : decode cX4_cutDown 128 = .ok (.aload_n 0, 1) := by decide +kernel
theorem dX4_cutDown_129 : decode cX4_cutDown 129 = .ok (.iload_n 1, 1) := by decide +kernel
theorem dX4_cutDown_130 : decode cX4_cutDown 130 = .ok (.aload_n 0, 1) := by decide +kernel
theorem dX4_cutDown_131 : decode cX4_cutDown 131 = .ok (.getfield 46, 3) := by decide +kernel
theorem dX4_cutDown_134 : decode cX4_cutDown 134 = .ok (.invokevirtual 109, 3) := by decide +kernel
theorem dX4_cutDown_137 : decode cX4_cutDown 137 = .ok (.ifCond .eq 18, 3) := by decide +kernel
theorem dX4_cutDown_140 : decode cX4_cutDown 140 = .ok (.aload_n 0, 1) := by decide +kernel
theorem dX4_cutDown_141 : decode cX4_cutDown 141 = .ok (.aload_n 0, 1) := by decide +kernel
theorem dX4_cutDown_142 : decode cX4_cutDown 142 = .ok (.getfield 46, 3) := by decide +kernel
theorem dX4_cutDown_145 : decode cX4_cutDown 145 = .ok (.invokevirtual 113, 3) := by decide +kernel
theorem dX4_cutDown_148 : decode cX4_cutDown 148 = .ok (.ifCond .eq 7, 3) := by decide +kernel
theorem dX4_cutDown_151 : decode cX4_cutDown 151 = .ok (.iconst 1, 1) := by decide +kernel
theorem dX4_cutDown_152 : decode cX4_cutDown 152 = .ok (.goto 4, 3) := by decide +kernel
theorem dX4_cutDown_155 : decode cX4_cutDown 155 = .ok (.iconst 0, 1) := by decide +kernel
theorem dX4_cutDown_156 : decode cX4_cutDown 156 = .ok (.istore 4, 2) := by decide +kernel
theorem dX4_cutDown_158 : decode cX4_cutDown 158 = .ok (.iinc 6 1, 3) := by decide +kernel
theorem dX4_cutDown_161 : decode cX4_cutDown 161 = .ok (.goto (-94), 3) := by decide +kernel
theorem dX4_cutDown_164 : decode cX4_cutDown 164 = .ok (.iload 4, 2) := by decide +kernel
theorem dX4_cutDown_166 : decode cX4_cutDown 166 = .ok (.ifCond .eq 14, 3) := by decide +kernel
theorem dX4_cutDown_169 : decode cX4_cutDown 169 = .ok (.aload_n 0, 1) := by decide +kernel
theorem dX4_cutDown_170 : decode cX4_cutDown 170 = .ok (.getfield 43, 3) := by decide +kernel
theorem dX4_cutDown_173 : decode cX4_cutDown 173 = .ok (.aload_n 0, 1) := by decide +kernel
theorem dX4_cutDown_174 : decode cX4_cutDown 174 = .ok (.getfield 46, 3) := by decide +kernel
theorem dX4_cutDown_177 : decode cX4_cutDown 177 = .ok (.invokevirtual 67, 3) := by decide +kernel
theorem dX4_cutDown_180 : decode cX4_cutDown 180 = .ok (.iinc 5 1, 3) := by decide +kernel
theorem dX4_cutDown_183 : decode cX4_cutDown 183 = .ok (.goto (-134), 3) := by decide +kernel
theorem dX4_cutDown_186 : decode cX4_cutDown 186 = .ok (.iconst 1, 1) := by decide +kernel
theorem dX4_cutDown_187 : decode cX4_cutDown 187 = .ok (.ireturn, 1) := by decide +kernel
theorem dX4_findBad_40 : decode cX4_findBad 40 = .ok (.invokevirtual 109, 3) := by decide +kernel
theorem dX4_findBad_43 : decode cX4_findBad 43 = .ok (.ifCond .ne 11, 3) := by decide +kernel
theorem dX4_findBad_46 : decode cX4_findBad 46 = .ok (.aload_n 0, 1) := by decide +kernel
theorem dX4_findBad_47 : decode cX4_findBad 47 = .ok (.iload_n 2, 1) := by decide +kernel
theorem dX4_findBad_48 : decode cX4_findBad 48 = .ok (.putfield 56, 3) := by decide +kernel
theorem dX4_findBad_51 : decode cX4_findBad 51 = .ok (.goto 44, 3) := by decide +kernel
theorem dX4_findBad_54 : decode cX4_findBad 54 = .ok (.aload_n 0, 1) := by decide +kernel
theorem dX4_findBad_55 : decode cX4_findBad 55 = .ok (.aload_n 0, 1) := by decide +kernel
theorem dX4_findBad_56 : decode cX4_findBad 56 = .ok (.getfield 43, 3) := by decide +kernel
theorem dX4_findBad_59 : decode cX4_findBad 59 = .ok (.invokevirtual 113, 3) := by decide +kernel
theorem dX4_findBad_62 : decode cX4_findBad 62 = .ok (.ifCond .eq 22, 3) := by decide +kernel
theorem dX4_findBad_65 : decode cX4_findBad 65 = .ok (.aload_n 0, 1) := by decide +kernel
theorem dX4_findBad_66 : decode cX4_findBad 66 = .ok (.iload_n 2, 1) := by decide +kernel
theorem dX4_findBad_67 : decode cX4_findBad 67 = .ok (.putfield 56, 3) := by decide +kernel
theorem dX4_findBad_70 : decode cX4_findBad 70 = .ok (.aload_n 0, 1) := by decide +kernel
theorem dX4_findBad_71 : decode cX4_findBad 71 = .ok (.aload_n 0, 1) := by decide +kernel
theorem dX4_findBad_72 : decode cX4_findBad 72 = .ok (.getfield 52, 3) := by decide +kernel
theorem dX4_findBad_75 : decode cX4_findBad 75 = .ok (.getfield 117, 3) := by decide +kernel
theorem dX4_findBad_78 : decode cX4_findBad 78 = .ok (.putfield 60, 3) := by decide +kernel
theorem dX4_findBad_81 : decode cX4_findBad 81 = .ok (.goto 14, 3) := by decide +kernel
theorem dX4_findBad_84 : decode cX4_findBad 84 = .ok (.aload_n 0, 1) := by decide +kernel
theorem dX4_findBad_85 : decode cX4_findBad 85 = .ok (.getfield 43, 3) := by decide +kernel
theorem dX4_findBad_88 : decode cX4_findBad 88 = .ok (.aload_n 0, 1) := by decide +kernel
theorem dX4_findBad_89 : decode cX4_findBad 89 = .ok (.getfield 39, 3) := by decide +kernel
theorem dX4_findBad_92 : decode cX4_findBad 92 = .ok (.invokevirtual 67, 3) := by decide +kernel
theorem dX4_findBad_95 : decode cX4_findBad 95 = .ok (.iinc 2 1, 3) := by decide +kernel
theorem dX4_findBad_98 : decode cX4_findBad 98 = .ok (.goto (-78), 3) := by decide +kernel
theorem dX4_findBad_101 : decode cX4_findBad 101 = .ok (.return_, 1) := by decide +kernel
theorem dX4_makeOf_8 : decode cX4_makeOf 8 = .ok (.ireturn, 1) := by decide +kernel
theorem dX4_makeOf_43 : decode cX4_makeOf 43 = .ok (.aaload, 1) := by decide +kernel
theorem dX4_makeOf_44 : decode cX4_makeOf 44 = .ok (.iload_n 3, 1) := by decide +kernel
theorem dX4_makeOf_45 : decode cX4_makeOf 45 = .ok (.iaload, 1) := by decide +kernel
theorem dX4_makeOf_46 : decode cX4_makeOf 46 = .ok (.tableswitch 104 20 24 #[34, 48, 62, 76, 90], 34) := by decide +kernel
theorem dX4_makeOf_80 : decode cX4_makeOf 80 = .ok (.aload_n 0, 1) := by decide +kernel
theorem dX4_makeOf_81 : decode cX4_makeOf 81 = .ok (.getfield 30, 3) := by decide +kernel
theorem dX4_makeOf_84 : decode cX4_makeOf 84 = .ok (.aload_n 0, 1) := by decide +kernel
theorem dX4_makeOf_85 : decode cX4_makeOf 85 = .ok (.getfield 39, 3) := by decide +kernel
theorem dX4_makeOf_88 : decode cX4_makeOf 88 = .ok (.invokevirtual 71, 3) := by decide +kernel
theorem dX4_makeOf_91 : decode cX4_makeOf 91 = .ok (.goto 77, 3) := by decide +kernel
theorem dX4_makeOf_94 : decode cX4_makeOf 94 = .ok (.aload_n 0, 1) := by decide +kernel
theorem dX4_makeOf_95 : decode cX4_makeOf 95 = .ok (.getfield 30, 3) := by decide +kernel
theorem dX4_makeOf_98 : decode cX4_makeOf 98 = .ok (.aload_n 0, 1) := by decide +kernel
theorem dX4_makeOf_99 : decode cX4_makeOf 99 = .ok (.getfield 39, 3) := by decide +kernel
theorem dX4_makeOf_102 : decode cX4_makeOf 102 = .ok (.invokevirtual 74, 3) := by decide +kernel
theorem dX4_makeOf_105 : decode cX4_makeOf 105 = .ok (.goto 63, 3) := by decide +kernel
theorem dX4_makeOf_108 : decode cX4_makeOf 108 = .ok (.aload_n 0, 1) := by decide +kernel
theorem dX4_makeOf_109 : decode cX4_makeOf 109 = .ok (.getfield 30, 3) := by decide +kernel
theorem dX4_makeOf_112 : decode cX4_makeOf 112 = .ok (.aload_n 0, 1) := by decide +kernel
theorem dX4_makeOf_113 : decode cX4_makeOf 113 = .ok (.getfield 39, 3) := by decide +kernel
theorem dX4_makeOf_116 : decode cX4_makeOf 116 = .ok (.invokevirtual 77, 3) := by decide +kernel
theorem dX4_makeOf_119 : decode cX4_makeOf 119 = .ok (.goto 49, 3) := by decide +kernel
theorem dX4_makeOf_122 : decode cX4_makeOf 122 = .ok (.aload_n 0, 1) := by decide +kernel
theorem dX4_makeOf_123 : decode cX4_makeOf 123 = .ok (.getfield 30, 3) := by decide +kernel
theorem dX4_makeOf_126 : decode cX4_makeOf 126 = .ok (.aload_n 0, 1) := by decide +kernel
theorem dX4_makeOf_127 : decode cX4_makeOf 127 = .ok (.getfield 39, 3) := by decide +kernel
theorem dX4_makeOf_130 : decode cX4_makeOf 130 = .ok (.invokevirtual 80, 3) := by decide +kernel
theorem dX4_makeOf_133 : decode cX4_makeOf 133 = .ok (.goto 35, 3) := by decide +kernel
theorem dX4_makeOf_136 : decode cX4_makeOf 136 = .ok (.aload_n 0, 1) := by decide +kernel
theorem dX4_makeOf_137 : decode cX4_makeOf 137 = .ok (.getfield 30, 3) := by decide +kernel
theorem dX4_makeOf_140 : decode cX4_makeOf 140 = .ok (.aload_n 0, 1) := by decide +kernel
theorem dX4_makeOf_141 : decode cX4_makeOf 141 = .ok (.getfield 39, 3) := by decide +kernel
theorem dX4_makeOf_144 : decode cX4_makeOf 144 = .ok (.invokevirtual 83, 3) := by decide +kernel
theorem dX4_makeOf_147 : decode cX4_makeOf 147 = .ok (.goto 21, 3) := by decide +kernel
theorem dX4_makeOf_150 : decode cX4_makeOf 150 = .ok (.aload_n 0, 1) := by decide +kernel
theorem dX4_makeOf_151 : decode cX4_makeOf 151 = .ok (.aload_n 0, 1) := by decide +kernel
theorem dX4_makeOf_152 : decode cX4_makeOf 152 = .ok (.aload_n 0, 1) := by decide +kernel
theorem dX4_makeOf_153 : decode cX4_makeOf 153 = .ok (.getfield 20, 3) := by decide +kernel
theorem dX4_makeOf_156 : decode cX4_makeOf 156 = .ok (.iload_n 1, 1) := by decide +kernel
theorem dX4_makeOf_157 : decode cX4_makeOf 157 = .ok (.aaload, 1) := by decide +kernel
theorem dX4_makeOf_158 : decode cX4_makeOf 158 = .ok (.iload_n 3, 1) := by decide +kernel
theorem dX4_makeOf_159 : decode cX4_makeOf 159 = .ok (.iaload, 1) := by decide +kernel
theorem dX4_makeOf_160 : decode cX4_makeOf 160 = .ok (.invokevirtual 86, 3) := by decide +kernel
theorem dX4_makeOf_163 : decode cX4_makeOf 163 = .ok (.invokevirtual 90, 3) := by decide +kernel
theorem dX4_makeOf_166 : decode cX4_makeOf 166 = .ok (.istore 4, 2) := by decide +kernel
theorem dX4_makeOf_168 : decode cX4_makeOf 168 = .ok (.iload 4, 2) := by decide +kernel
theorem dX4_makeOf_170 : decode cX4_makeOf 170 = .ok (.ifCond .eq 13, 3) := by decide +kernel
theorem dX4_makeOf_173 : decode cX4_makeOf 173 = .ok (.aload_n 0, 1) := by decide +kernel
theorem dX4_makeOf_174 : decode cX4_makeOf 174 = .ok (.getfield 39, 3) := by decide +kernel
theorem dX4_makeOf_177 : decode cX4_makeOf 177 = .ok (.invokevirtual 94, 3) := by decide +kernel
theorem dX4_makeOf_180 : decode cX4_makeOf 180 = .ok (.ifCond .eq 5, 3) := by decide +kernel
theorem dX4_makeOf_183 : decode cX4_makeOf 183 = .ok (.iconst 0, 1) := by decide +kernel
theorem dX4_makeOf_184 : decode cX4_makeOf 184 = .ok (.ireturn, 1) := by decide +kernel
theorem dX4_makeOf_185 : decode cX4_makeOf 185 = .ok (.iinc 3 1, 3) := by decide +kernel
theorem dX4_makeOf_188 : decode cX4_makeOf 188 = .ok (.goto (-169), 3) := by decide +kernel
theorem dX4_makeOf_191 : decode cX4_makeOf 191 = .ok (.iconst 1, 1) := by decide +kernel
theorem dX4_makeOf_192 : decode cX4_makeOf 192 = .ok (.ireturn, 1) := by decide +kernel
theorem dX4_ruleAt_18 : decode cX4_ruleAt 18 = .ok (.aaload, 1) := by decide +kernel
theorem dX4_ruleAt_19 : decode cX4_ruleAt 19 = .ok (.goto 4, 3) := by decide +kernel
theorem dX4_ruleAt_22 : decode cX4_ruleAt 22 = .ok (.aconst_null, 1) := by decide +kernel
theorem dX4_ruleAt_23 : decode cX4_ruleAt 23 = .ok (.areturn, 1) := by decide +kernel
theorem dX5_compareForms_22 : decode cX5_compareForms 22 = .ok (.iconst (-1), 1) := by decide +kernel
theorem dX5_compareForms_23 : decode cX5_compareForms 23 = .ok (.ireturn, 1) := by decide +kernel
theorem dX5_compareForms_29 : decode cX5_compareForms 29 = .ok (.invokevirtual 70, 3) := by decide +kernel
theorem dX5_compareForms_32 : decode cX5_compareForms 32 = .ok (.aload_n 0, 1) := by decide +kernel
theorem dX5_compareForms_33 : decode cX5_compareForms 33 = .ok (.getfield 20, 3) := by decide +kernel
theorem dX5_compareForms_36 : decode cX5_compareForms 36 = .ok (.iconst 0, 1) := by decide +kernel
theorem dX5_compareForms_37 : decode cX5_compareForms 37 = .ok (.aaload, 1) := by decide +kernel
theorem dX5_compareForms_38 : decode cX5_compareForms 38 = .ok (.iconst 0, 1) := by decide +kernel
theorem dX5_compareForms_39 : decode cX5_compareForms 39 = .ok (.aload_n 0, 1) := by decide +kernel
theorem dX5_compareForms_40 : decode cX5_compareForms 40 = .ok (.getfield 23, 3) := by decide +kernel
theorem dX5_compareForms_43 : decode cX5_compareForms 43 = .ok (.iconst 0, 1) := by decide +kernel
theorem dX5_compareForms_44 : decode cX5_compareForms 44 = .ok (.sipush 512, 3) := by decide +kernel
theorem dX5_compareForms_47 : decode cX5_compareForms 47 = .ok (.invokestatic 74, 3) := by decide +kernel
theorem dX5_compareForms_50 : decode cX5_compareForms 50 = .ok (.aload_n 0, 1) := by decide +kernel
theorem dX5_compareForms_51 : decode cX5_compareForms 51 = .ok (.aload_n 1, 1) := by decide +kernel
theorem dX5_compareForms_52 : decode cX5_compareForms 52 = .ok (.getfield 54, 3) := by decide +kernel
theorem dX5_compareForms_55 : decode cX5_compareForms 55 = .ok (.invokevirtual 70, 3) := by decide +kernel
theorem dX5_compareForms_58 : decode cX5_compareForms 58 = .ok (.iconst 0, 1) := by decide +kernel
theorem dX5_compareForms_59 : decode cX5_compareForms 59 = .ok (.istore_n 2, 1) := by decide +kernel
theorem dX5_compareForms_60 : decode cX5_compareForms 60 = .ok (.iload_n 2, 1) := by decide +kernel
theorem dX5_compareForms_61 : decode cX5_compareForms 61 = .ok (.sipush 512, 3) := by decide +kernel
theorem dX5_compareForms_64 : decode cX5_compareForms 64 = .ok (.if_icmp .ge 28, 3) := by decide +kernel
theorem dX5_compareForms_67 : decode cX5_compareForms 67 = .ok (.aload_n 0, 1) := by decide +kernel
theorem dX5_compareForms_68 : decode cX5_compareForms 68 = .ok (.getfield 20, 3) := by decide +kernel
theorem dX5_compareForms_71 : decode cX5_compareForms 71 = .ok (.iconst 0, 1) := by decide +kernel
theorem dX5_compareForms_72 : decode cX5_compareForms 72 = .ok (.aaload, 1) := by decide +kernel
theorem dX5_compareForms_73 : decode cX5_compareForms 73 = .ok (.iload_n 2, 1) := by decide +kernel
theorem dX5_compareForms_74 : decode cX5_compareForms 74 = .ok (.iaload, 1) := by decide +kernel
theorem dX5_compareForms_75 : decode cX5_compareForms 75 = .ok (.aload_n 0, 1) := by decide +kernel
theorem dX5_compareForms_76 : decode cX5_compareForms 76 = .ok (.getfield 23, 3) := by decide +kernel
theorem dX5_compareForms_79 : decode cX5_compareForms 79 = .ok (.iload_n 2, 1) := by decide +kernel
theorem dX5_compareForms_80 : decode cX5_compareForms 80 = .ok (.iaload, 1) := by decide +kernel
theorem dX5_compareForms_81 : decode cX5_compareForms 81 = .ok (.if_icmp .eq 5, 3) := by decide +kernel
theorem dX5_compareForms_84 : decode cX5_compareForms 84 = .ok (.iconst 0, 1) := by decide +kernel
theorem dX5_compareForms_85 : decode cX5_compareForms 85 = .ok (.ireturn, 1) := by decide +kernel
theorem dX5_compareForms_86 : decode cX5_compareForms 86 = .ok (.iinc 2 1, 3) := by decide +kernel
theorem dX5_compareForms_89 : decode cX5_compareForms 89 = .ok (.goto (-29), 3) := by decide +kernel
theorem dX5_compareForms_92 : decode cX5_compareForms 92 = .ok (.iconst 1, 1) := by decide +kernel
theorem dX5_compareForms_93 : decode cX5_compareForms 93 = .ok (.ireturn, 1) := by decide +kernel
theorem dX5_multiplyOut_40 : decode cX5_multiplyOut 40 = .ok (.aaload, 1) := by decide +kernel
theorem dX5_multiplyOut_41 : decode cX5_multiplyOut 41 = .ok (.iload 4, 2) := by decide +kernel
theorem dX5_multiplyOut_43 : decode cX5_multiplyOut 43 = .ok (.invokevirtual 97, 3) := by decide +kernel
theorem dX5_multiplyOut_46 : decode cX5_multiplyOut 46 = .ok (.iinc 2 1, 3) := by decide +kernel
theorem dX5_multiplyOut_49 : decode cX5_multiplyOut 49 = .ok (.goto 69, 3) := by decide +kernel
theorem dX5_multiplyOut_52 : decode cX5_multiplyOut 52 = .ok (.iload_n 2, 1) := by decide +kernel
theorem dX5_multiplyOut_53 : decode cX5_multiplyOut 53 = .ok (.iconst 2, 1) := by decide +kernel
theorem dX5_multiplyOut_54 : decode cX5_multiplyOut 54 = .ok (.if_icmp .lt 64, 3) := by decide +kernel
theorem dX5_multiplyOut_57 : decode cX5_multiplyOut 57 = .ok (.iload_n 2, 1) := by decide +kernel
theorem dX5_multiplyOut_58 : decode cX5_multiplyOut 58 = .ok (.bipush 20, 2) := by decide +kernel
theorem dX5_multiplyOut_60 : decode cX5_multiplyOut 60 = .ok (.if_icmp .gt 58, 3) := by decide +kernel
theorem dX5_multiplyOut_63 : decode cX5_multiplyOut 63 = .ok (.iload 4, 2) := by decide +kernel
theorem dX5_multiplyOut_65 : decode cX5_multiplyOut 65 = .ok (.bipush 122, 2) := by decide +kernel
theorem dX5_multiplyOut_67 : decode cX5_multiplyOut 67 = .ok (.if_icmp .ne 26, 3) := by decide +kernel
theorem dX5_multiplyOut_70 : decode cX5_multiplyOut 70 = .ok (.aload_n 0, 1) := by decide +kernel
theorem dX5_multiplyOut_71 : decode cX5_multiplyOut 71 = .ok (.aload_n 0, 1) := by decide +kernel
theorem dX5_multiplyOut_72 : decode cX5_multiplyOut 72 = .ok (.getfield 20, 3) := by decide +kernel
theorem dX5_multiplyOut_75 : decode cX5_multiplyOut 75 = .ok (.iload_n 2, 1) := by decide +kernel
theorem dX5_multiplyOut_76 : decode cX5_multiplyOut 76 = .ok (.iconst 1, 1) := by decide +kernel
theorem dX5_multiplyOut_77 : decode cX5_multiplyOut 77 = .ok (.isub, 1) := by decide +kernel
theorem dX5_multiplyOut_78 : decode cX5_multiplyOut 78 = .ok (.aaload, 1) := by decide +kernel
theorem dX5_multiplyOut_79 : decode cX5_multiplyOut 79 = .ok (.aload_n 0, 1) := by decide +kernel
theorem dX5_multiplyOut_80 : decode cX5_multiplyOut 80 = .ok (.getfield 20, 3) := by decide +kernel
theorem dX5_multiplyOut_83 : decode cX5_multiplyOut 83 = .ok (.iload_n 2, 1) := by decide +kernel
theorem dX5_multiplyOut_84 : decode cX5_multiplyOut 84 = .ok (.iconst 2, 1) := by decide +kernel
theorem dX5_multiplyOut_85 : decode cX5_multiplyOut 85 = .ok (.isub, 1) := by decide +kernel
theorem dX5_multiplyOut_86 : decode cX5_multiplyOut 86 = .ok (.aaload, 1) := by decide +kernel
theorem dX5_multiplyOut_87 : decode cX5_multiplyOut 87 = .ok (.invokevirtual 101, 3) := by decide +kernel
theorem dX5_multiplyOut_90 : decode cX5_multiplyOut 90 = .ok (.goto 25, 3) := by decide +kernel
theorem dX5_multiplyOut_93 : decode cX5_multiplyOut 93 = .ok (.aload_n 0, 1) := by decide +kernel
theorem dX5_multiplyOut_94 : decode cX5_multiplyOut 94 = .ok (.aload_n 0, 1) := by decide +kernel
theorem dX5_multiplyOut_95 : decode cX5_multiplyOut 95 = .ok (.getfield 20, 3) := by decide +kernel
theorem dX5_multiplyOut_98 : decode cX5_multiplyOut 98 = .ok (.iload_n 2, 1) := by decide +kernel
theorem dX5_multiplyOut_99 : decode cX5_multiplyOut 99 = .ok (.iconst 1, 1) := by decide +kernel
theorem dX5_multiplyOut_100 : decode cX5_multiplyOut 100 = .ok (.isub, 1) := by decide +kernel
theorem dX5_multiplyOut_101 : decode cX5_multiplyOut 101 = .ok (.aaload, 1) := by decide +kernel
theorem dX5_multiplyOut_102 : decode cX5_multiplyOut 102 = .ok (.aload_n 0, 1) := by decide +kernel
theorem dX5_multiplyOut_103 : decode cX5_multiplyOut 103 = .ok (.getfield 20, 3) := by decide +kernel
theorem dX5_multiplyOut_106 : decode cX5_multiplyOut 106 = .ok (.iload_n 2, 1) := by decide +kernel
theorem dX5_multiplyOut_107 : decode cX5_multiplyOut 107 = .ok (.iconst 2, 1) := by decide +kernel
theorem dX5_multiplyOut_108 : decode cX5_multiplyOut 108 = .ok (.isub, 1) := by decide +kernel
theorem dX5_multiplyOut_109 : decode cX5_multiplyOut 109 = .ok (.aaload, 1) := by decide +kernel
theorem dX5_multiplyOut_110 : decode cX5_multiplyOut 110 = .ok (.iload 4, 2) := by decide +kernel
theorem dX5_multiplyOut_112 : decode cX5_multiplyOut 112 = .ok (.invokevirtual 105, 3) := by decide +kernel
theorem dX5_multiplyOut_115 : decode cX5_multiplyOut 115 = .ok (.iinc 2 (-1), 3) := by decide +kernel
theorem dX5_multiplyOut_118 : decode cX5_multiplyOut 118 = .ok (.iinc 3 (-1), 3) := by decide +kernel
theorem dX5_multiplyOut_121 : decode cX5_multiplyOut 121 = .ok (.goto (-112), 3) := by decide +kernel
theorem dX5_multiplyOut_124 : decode cX5_multiplyOut 124 = .ok (.return_, 1) := by decide +kernel
set_option maxRecDepth 20000 in
theorem ok_0 : ∀ z0, z0 < 12 → okC [(123 + 7 * z0 + 1), (123 + 7 * z0 + 2)] [(123 + 7 * z0 + 2)] = true := by decide +kernel
set_option maxRecDepth 20000 in
theorem ok_1 : okC [] [] = true := by decide +kernel
set_option maxRecDepth 20000 in
theorem ok_2 : ∀ z0, z0 < 20 → okC [(207 + z0)] [(207 + z0)] = true := by decide +kernel
set_option maxRecDepth 20000 in
theorem ok_3 : ∀ z0, z0 < 20 → ∀ z1, z1 < 20 → z0 ≠ z1 → okC [(207 + z0), (207 + z1)] [(207 + z0), (207 + z1)] = true := by decide +kernel
set_option maxRecDepth 20000 in
theorem ok_4 : ∀ z0, z0 < 20 → ∀ z1, z1 < 20 → z0 ≠ z1 → okC [25, 29, (207 + z0), (207 + z1)] [29, (207 + z0), (207 + z1)] = true := by decide +kernel
set_option maxRecDepth 20000 in
theorem ok_5 : ∀ z0, z0 < 12 → okC [(123 + 7 * z0 + 3), (123 + 7 * z0 + 4)] [(123 + 7 * z0 + 4)] = true := by decide +kernel
set_option maxRecDepth 20000 in
theorem ok_6 : ∀ z0, z0 < 12 → okC [25, (123 + 7 * z0 + 1), (123 + 7 * z0 + 2), 27] [(123 + 7 * z0 + 2), 27] = true := by decide +kernel
set_option maxRecDepth 20000 in
theorem ok_7 : ∀ z0, z0 < 12 → okC [25, (123 + 7 * z0 + 3), (123 + 7 * z0 + 4), 27] [(123 + 7 * z0 + 4), 27] = true := by decide +kernel
set_option maxRecDepth 20000 in
theorem ok_8 : ∀ z0, z0 < 8 → okC [(101 + 2 * z0), (101 + 2 * z0 + 1), 119, 120] [(101 + 2 * z0 + 1), 120] = true := by decide +kernel
set_option maxRecDepth 20000 in
theorem ok_9 : okC [70, 119, 120] [120] = true := by decide +kernel
set_option maxRecDepth 20000 in
theorem ok_10 : okC [70, 71, 119, 120, 83, 82, 72, 73, 79, 74, 75, 78, 76, 77, 81, 80] [120, 83, 82, 72, 73, 79, 74, 75, 78, 76, 77, 81, 80] = true := by decide +kernel
set_option maxRecDepth 20000 in
theorem ok_11 : okC [119, 120] [120] = true := by decide +kernel
set_option maxRecDepth 20000 in
theorem ok_12 : okC [119, 120, 70] [120] = true := by decide +kernel
set_option maxRecDepth 20000 in
theorem ok_13 : okC [70, 121, 122, 119, 120] [122, 120] = true := by decide +kernel
set_option maxRecDepth 20000 in
theorem ok_14 : ∀ z0, z0 < 12 → okC [31, (123 + 7 * z0), 119, 120, (123 + 7 * z0 + 5), (123 + 7 * z0 + 6), (123 + 7 * z0 + 1), (123 + 7 * z0 + 2), 70, (123 + 7 * z0 + 3), (123 + 7 * z0 + 4), 121, 122] [120, (123 + 7 * z0 + 5), (123 + 7 * z0 + 6), (123 + 7 * z0 + 2), (123 + 7 * z0 + 4), 122] = true := by decide +kernel
set_option maxRecDepth 20000 in
theorem ok_15 : ∀ z0, z0 < 6 → okC [(101 + 2 * z0), (101 + 2 * z0 + 1), 113, 114] [(101 + 2 * z0 + 1), 114] = true := by decide +kernel
set_option maxRecDepth 20000 in
theorem ok_16 : okC [31, 113, 114, 119, 120, 32, 33, 37, 49, 48, 38, 39, 45, 40, 41, 44, 42, 43, 47, 46, 50, 54, 66, 65, 55, 56, 62, 57, 58, 61, 59, 60, 64, 63, 35, 36, 34, 52, 53, 51] [114, 120, 49, 48, 38, 39, 45, 40, 41, 44, 42, 43, 47, 46, 66, 65, 55, 56, 62, 57, 58, 61, 59, 60, 64, 63, 35, 36, 34, 52, 53, 51] = true := by decide +kernel
set_option maxRecDepth 20000 in
theorem ok_17 : okC [119, 120, 113, 114] [120, 114] = true := by decide +kernel
set_option maxRecDepth 20000 in
theorem ok_18 : ∀ z0, z0 < 6 → okC [(101 + 2 * z0), (101 + 2 * z0 + 1)] [(101 + 2 * z0 + 1)] = true := by decide +kernel
set_option maxRecDepth 20000 in
theorem ok_19 : ∀ z0, z0 < 6 → okC [31, (101 + 2 * z0), (101 + 2 * z0 + 1), 119, 120, 32, 33, 37, 49, 48, 38, 39, 45, 40, 41, 44, 42, 43, 47, 46, 50, 54, 66, 65, 55, 56, 62, 57, 58, 61, 59, 60, 64, 63, 35, 36, 34, 52, 53, 51] [(101 + 2 * z0 + 1), 120, 49, 48, 38, 39, 45, 40, 41, 44, 42, 43, 47, 46, 66, 65, 55, 56, 62, 57, 58, 61, 59, 60, 64, 63, 35, 36, 34, 52, 53, 51] = true := by decide +kernel
set_option maxRecDepth 20000 in
theorem ok_20 : okC [113, 114] [114] = true := by decide +kernel
set_option maxRecDepth 20000 in
theorem ok_21 : okC [113, 114, 115, 116] [114, 116] = true := by decide +kernel
set_option maxRecDepth 20000 in
theorem ok_22 : okC [115, 116] [116] = true := by decide +kernel
set_option maxRecDepth 20000 in
theorem ok_23 : okC [31, 115, 116, 119, 120, 32, 33, 37, 49, 48, 38, 39, 45, 40, 41, 44, 42, 43, 47, 46, 50, 54, 66, 65, 55, 56, 62, 57, 58, 61, 59, 60, 64, 63, 35, 36, 34, 52, 53, 51] [116, 120, 49, 48, 38, 39, 45, 40, 41, 44, 42, 43, 47, 46, 66, 65, 55, 56, 62, 57, 58, 61, 59, 60, 64, 63, 35, 36, 34, 52, 53, 51] = true := by decide +kernel
set_option maxRecDepth 20000 in
theorem ok_24 : okC [115, 116, 113, 114] [116, 114] = true := by decide +kernel
set_option maxRecDepth 20000 in
theorem ok_25 : okC [2, 3] [] = true := by decide +kernel
set_option maxRecDepth 20000 in
theorem ok_26 : okC [2, 117, 118, 3] [118] = true := by decide +kernel
set_option maxRecDepth 20000 in
theorem ok_27 : okC [2, 3, 4, 117, 118, 5, 6, 7] [4, 118, 5, 6, 7] = true := by decide +kernel
set_option maxRecDepth 20000 in
theorem ok_28 : ∀ z0, z0 < 6 → okC [117, 118, (101 + 2 * z0), (101 + 2 * z0 + 1)] [118, (101 + 2 * z0 + 1)] = true := by decide +kernel
set_option maxRecDepth 20000 in
theorem ok_29 : ∀ z0, z0 < 12 → okC [(123 + 7 * z0), (123 + 7 * z0 + 1), (123 + 7 * z0 + 2), (123 + 7 * z0 + 3), (123 + 7 * z0 + 4), 2, 3] [(123 + 7 * z0 + 2), (123 + 7 * z0 + 4)] = true := by decide +kernel
set_option maxRecDepth 20000 in
theorem ok_30 : ∀ z0, z0 < 12 → okC [2, 3, 4, (123 + 7 * z0 + 1), (123 + 7 * z0 + 2), 5, 6, 7, (123 + 7 * z0), (123 + 7 * z0 + 3), (123 + 7 * z0 + 4)] [4, (123 + 7 * z0 + 2), 5, 6, 7, (123 + 7 * z0 + 4)] = true := by decide +kernel
set_option maxRecDepth 20000 in
theorem ok_31 : ∀ z0, z0 < 6 → okC [12, (101 + 2 * z0), (101 + 2 * z0 + 1), 24, 23, 13, 14, 20, 15, 16, 19, 17, 18, 22, 21] [(101 + 2 * z0 + 1), 24, 23, 13, 14, 20, 15, 16, 19, 17, 18, 22, 21] = true := by decide +kernel
set_option maxRecDepth 20000 in
theorem ok_32 : okC [12, 21] [21] = true := by decide +kernel
set_option maxRecDepth 20000 in
theorem ok_33 : ∀ z0, z0 < 6 → okC [8, 10, 12, 14, 15, 16, (101 + 2 * z0), (101 + 2 * z0 + 1), 11, 9, 13, 18, 17] [10, 14, 15, 16, (101 + 2 * z0 + 1), 11, 9, 13, 18, 17] = true := by decide +kernel
set_option maxRecDepth 20000 in
theorem ok_34 : okC [8, 10, 9] [10, 9] = true := by decide +kernel
set_option maxRecDepth 20000 in
theorem ok_35 : ∀ z0, z0 < 6 → okC [32, 33, 37, (101 + 2 * z0), (101 + 2 * z0 + 1), 49, 48, 38, 39, 45, 40, 41, 44, 42, 43, 47, 46, 50, 54, 66, 65, 55, 56, 62, 57, 58, 61, 59, 60, 64, 63, 35, 36, 34, 52, 53, 51] [(101 + 2 * z0 + 1), 49, 48, 38, 39, 45, 40, 41, 44, 42, 43, 47, 46, 66, 65, 55, 56, 62, 57, 58, 61, 59, 60, 64, 63, 35, 36, 34, 52, 53, 51] = true := by decide +kernel
set_option maxRecDepth 20000 in
theorem ok_36 : okC [32] [] = true := by decide +kernel
set_option maxRecDepth 20000 in
theorem ok_37 : ∀ z0, z0 < 6 → ∀ z1, z1 < 6 → z0 ≠ z1 → okC [32, 33, 37, (101 + 2 * z0), (101 + 2 * z0 + 1), 49, 48, 38, 39, 45, 40, 41, 44, 42, 43, 47, 46, 50, 54, (101 + 2 * z1), (101 + 2 * z1 + 1), 66, 65, 55, 56, 62, 57, 58, 61, 59, 60, 64, 63, 35, 36, 34, 52, 53, 51] [(101 + 2 * z0 + 1), 49, 48, 38, 39, 45, 40, 41, 44, 42, 43, 47, 46, (101 + 2 * z1 + 1), 66, 65, 55, 56, 62, 57, 58, 61, 59, 60, 64, 63, 35, 36, 34, 52, 53, 51] = true := by decide +kernel
set_option maxRecDepth 20000 in
theorem ok_38 : ∀ z0, z0 < 12 → okC [25, (123 + 7 * z0), 26, (123 + 7 * z0 + 1), (123 + 7 * z0 + 2), 27, (123 + 7 * z0 + 3), (123 + 7 * z0 + 4)] [26, (123 + 7 * z0 + 2), 27, (123 + 7 * z0 + 4)] = true := by decide +kernel
set_option maxRecDepth 20000 in
theorem ok_39 : ∀ z0, z0 < 12 → ∀ z1, z1 < 6 → okC [(101 + 2 * z1), (101 + 2 * z1 + 1), (123 + 7 * z0), (123 + 7 * z0 + 5), (123 + 7 * z0 + 6), (123 + 7 * z0 + 1), (123 + 7 * z0 + 2)] [(101 + 2 * z1 + 1), (123 + 7 * z0 + 5), (123 + 7 * z0 + 6), (123 + 7 * z0 + 2)] = true := by decide +kernel
set_option maxRecDepth 20000 in
theorem ok_40 : ∀ z0, z0 < 12 → ∀ z1, z1 < 6 → okC [(123 + 7 * z0), (101 + 2 * z1), (101 + 2 * z1 + 1), (123 + 7 * z0 + 5), (123 + 7 * z0 + 6), (123 + 7 * z0 + 1), (123 + 7 * z0 + 2), (123 + 7 * z0 + 3), (123 + 7 * z0 + 4), 117, 118] [(101 + 2 * z1 + 1), (123 + 7 * z0 + 5), (123 + 7 * z0 + 6), (123 + 7 * z0 + 2), (123 + 7 * z0 + 4), 118] = true := by decide +kernel
set_option maxRecDepth 20000 in
theorem ok_41 : ∀ z0, z0 < 6 → okC [119, 120, (101 + 2 * z0), (101 + 2 * z0 + 1)] [120, (101 + 2 * z0 + 1)] = true := by decide +kernel
set_option maxRecDepth 20000 in
theorem ok_42 : ∀ z0, z0 < 6 → okC [113, 114, (101 + 2 * z0), (101 + 2 * z0 + 1)] [114, (101 + 2 * z0 + 1)] = true := by decide +kernel
set_option maxRecDepth 20000 in
theorem ok_43 : ∀ z0, z0 < 6 → okC [84, 88, (101 + 2 * z0), (101 + 2 * z0 + 1), 100, 99, 89, 90, 96, 91, 92, 95, 93, 94, 98, 97, 85, 86] [(101 + 2 * z0 + 1), 100, 99, 89, 90, 96, 91, 92, 95, 93, 94, 98, 97, 85, 86] = true := by decide +kernel
set_option maxRecDepth 20000 in
theorem ok_44 : okC [84, 87, 85] [87, 85] = true := by decide +kernel
set_option maxRecDepth 20000 in
theorem ok_45 : okC [84, 86, 87, 85] [86, 87, 85] = true := by decide +kernel
set_option maxRecDepth 20000 in
theorem ok_46 : okC [84, 85] [85] = true := by decide +kernel
set_option maxRecDepth 20000 in
theorem ok_47 : okC [0, 2, 3, 4] [4] = true := by decide +kernel
set_option maxRecDepth 20000 in
theorem ok_48 : okC [0, 2, 3] [] = true := by decide +kernel
set_option maxRecDepth 20000 in
theorem ok_49 : okC [0, 2] [] = true := by decide +kernel
set_option maxRecDepth 20000 in
theorem ok_50 : okC [0, 31, 69] [69] = true := by decide +kernel
