set_option maxRecDepth 20000 in
theorem ml_X12_90 : Cond.methodLink RX12 90 yX12_isIn ∈ gG := gT6 161 rfl rfl
set_option maxRecDepth 20000 in
theorem st_yX12_isIn : Cond.static yX12_isIn ∈ gG := gT6 162 rfl rfl
set_option maxRecDepth 20000 in
theorem in_X12 : Cond.initialized RX12 ∈ gG := gT1 14 rfl rfl
set_option maxRecDepth 20000 in
theorem cd_X12_isIn : Cond.code yX12_isIn cX12_isIn 3 (some .boolean) ∈ gG := gT6 163 rfl rfl
set_option maxRecDepth 20000 in
theorem fl_X12_16 : Cond.fieldLink RX12 16 "SameAfterModel" "row" "[I" ∈ gG := gT5 225 rfl rfl
set_option maxRecDepth 20000 in
theorem ml_X12_94 : Cond.methodLink RX12 94 yX12_endOf ∈ gG := gT7 79 rfl rfl
set_option maxRecDepth 20000 in
theorem im_yX12_endOf : Cond.instanceMethod yX12_endOf ∈ gG := gT7 81 rfl rfl
set_option maxRecDepth 20000 in
theorem se_yX12_endOf : Cond.selects RX12 yX12_endOf yX12_endOf ∈ gG := gP6 4 rfl
set_option maxRecDepth 20000 in
theorem cd_X12_endOf : Cond.code yX12_endOf cX12_endOf 2 (some .int) ∈ gG := gT7 82 rfl rfl
set_option maxRecDepth 20000 in
theorem fl_X12_98 : Cond.fieldLink RX12 98 "SameAfterModel" "many" "I" ∈ gG := gT5 227 rfl rfl
set_option maxRecDepth 20000 in
theorem ml_X12_101 : Cond.methodLink RX12 101 yX12_body ∈ gG := gT7 83 rfl rfl
set_option maxRecDepth 20000 in
theorem im_yX12_body : Cond.instanceMethod yX12_body ∈ gG := gT7 85 rfl rfl
set_option maxRecDepth 20000 in
theorem se_yX12_body : Cond.selects RX12 yX12_body yX12_body ∈ gG := gP6 5 rfl
set_option maxRecDepth 20000 in
theorem cd_X12_body : Cond.code yX12_body cX12_body 2 (some .int) ∈ gG := gT7 86 rfl rfl
set_option maxRecDepth 20000 in
theorem ml_X12_104 : Cond.methodLink RX12 104 yX12_behind ∈ gG := gT7 75 rfl rfl
set_option maxRecDepth 20000 in
theorem im_yX12_behind : Cond.instanceMethod yX12_behind ∈ gG := gT7 77 rfl rfl
set_option maxRecDepth 20000 in
theorem se_yX12_behind : Cond.selects RX12 yX12_behind yX12_behind ∈ gG := gP6 3 rfl
set_option maxRecDepth 20000 in
theorem cd_X12_behind : Cond.code yX12_behind cX12_behind 3 (some .int) ∈ gG := gT7 78 rfl rfl
set_option maxRecDepth 20000 in
theorem ml_X12_107 : Cond.methodLink RX12 107 yX12_isLast ∈ gG := gT7 71 rfl rfl
set_option maxRecDepth 20000 in
theorem im_yX12_isLast : Cond.instanceMethod yX12_isLast ∈ gG := gT7 73 rfl rfl
set_option maxRecDepth 20000 in
theorem se_yX12_isLast : Cond.selects RX12 yX12_isLast yX12_isLast ∈ gG := gP6 2 rfl
set_option maxRecDepth 20000 in
theorem cd_X12_isLast : Cond.code yX12_isLast cX12_isLast 2 (some .boolean) ∈ gG := gT7 74 rfl rfl
set_option maxRecDepth 20000 in
theorem ml_X12_111 : Cond.methodLink RX12 111 yX12_isStatement ∈ gG := gT7 36 rfl rfl
set_option maxRecDepth 20000 in
theorem st_yX12_isStatement : Cond.static yX12_isStatement ∈ gG := gT7 37 rfl rfl
set_option maxRecDepth 20000 in
theorem cd_X12_isStatement : Cond.code yX12_isStatement cX12_isStatement 1 (some .boolean) ∈ gG := gT7 38 rfl rfl
set_option maxRecDepth 20000 in
theorem ml_X12_114 : Cond.methodLink RX12 114 yX12_isPart ∈ gG := gT7 63 rfl rfl
set_option maxRecDepth 20000 in
theorem im_yX12_isPart : Cond.instanceMethod yX12_isPart ∈ gG := gT7 65 rfl rfl
set_option maxRecDepth 20000 in
theorem se_yX12_isPart : Cond.selects RX12 yX12_isPart yX12_isPart ∈ gG := gP6 0 rfl
set_option maxRecDepth 20000 in
theorem cd_X12_isPart : Cond.code yX12_isPart cX12_isPart 2 (some .boolean) ∈ gG := gT7 66 rfl rfl
set_option maxRecDepth 20000 in
theorem fl_X12_13 : Cond.fieldLink RX12 13 "SameAfterModel" "slotLong" "[I" ∈ gG := gT5 224 rfl rfl
set_option maxRecDepth 20000 in
theorem fl_X12_7 : Cond.fieldLink RX12 7 "SameAfterModel" "slot" "[I" ∈ gG := gT5 223 rfl rfl
set_option maxRecDepth 20000 in
theorem fl_X12_19 : Cond.fieldLink RX12 19 "SameAfterModel" "fresh" "[I" ∈ gG := gT5 226 rfl rfl
set_option maxRecDepth 20000 in
theorem fl_X12_117 : Cond.fieldLink RX12 117 "SameAfterModel" "made" "I" ∈ gG := gT5 228 rfl rfl
set_option maxRecDepth 20000 in
theorem ml_X12_120 : Cond.methodLink RX12 120 yX12_write ∈ gG := gT6 216 rfl rfl
set_option maxRecDepth 20000 in
theorem im_yX12_write : Cond.instanceMethod yX12_write ∈ gG := gT6 218 rfl rfl
set_option maxRecDepth 20000 in
theorem se_yX12_write : Cond.selects RX12 yX12_write yX12_write ∈ gG := gP4 15 rfl
set_option maxRecDepth 20000 in
theorem cd_X12_write : Cond.code yX12_write cX12_write 2 none ∈ gG := gT6 219 rfl rfl
set_option maxRecDepth 20000 in
theorem fl_X12_124 : Cond.fieldLink RX12 124 "SameAfterModel" "taped" "I" ∈ gG := gT5 230 rfl rfl
set_option maxRecDepth 20000 in
theorem fl_X12_22 : Cond.fieldLink RX12 22 "SameAfterModel" "tape" "[I" ∈ gG := gT5 229 rfl rfl
set_option maxRecDepth 20000 in
theorem fl_X12_127 : Cond.fieldLink RX12 127 "SameAfterModel" "at" "I" ∈ gG := gT5 231 rfl rfl
set_option maxRecDepth 20000 in
theorem fl_X12_130 : Cond.fieldLink RX12 130 "SameAfterModel" "tokenAt" "I" ∈ gG := gT5 233 rfl rfl
set_option maxRecDepth 20000 in
theorem ml_X12_133 : Cond.methodLink RX12 133 yJ0_length_8abf5 ∈ gG := gT6 199 rfl rfl
set_option maxRecDepth 20000 in
theorem im_yJ0_length_8abf5 : Cond.instanceMethod yJ0_length_8abf5 ∈ gG := gT3 34 rfl rfl
set_option maxRecDepth 20000 in
theorem se_yJ0_length_8abf5 : Cond.selects RJ0 yJ0_length_8abf5 yJ0_length_8abf5 ∈ gG := gT3 35 rfl rfl
set_option maxRecDepth 20000 in
theorem in_J0 : Cond.initialized RJ0 ∈ gG := gT1 15 rfl rfl
set_option maxRecDepth 20000 in
theorem cd_J0_length_8abf5 : Cond.code yJ0_length_8abf5 cJ0_length_8abf5 1 (some .int) ∈ gG := gT3 36 rfl rfl
set_option maxRecDepth 20000 in
theorem ml_X12_139 : Cond.methodLink RX12 139 yJ0_charAt_5068e ∈ gG := gT6 200 rfl rfl
set_option maxRecDepth 20000 in
theorem im_yJ0_charAt_5068e : Cond.instanceMethod yJ0_charAt_5068e ∈ gG := gT3 44 rfl rfl
set_option maxRecDepth 20000 in
theorem se_yJ0_charAt_5068e : Cond.selects RJ0 yJ0_charAt_5068e yJ0_charAt_5068e ∈ gG := gT3 45 rfl rfl
set_option maxRecDepth 20000 in
theorem cd_J0_charAt_5068e : Cond.code yJ0_charAt_5068e cJ0_charAt_5068e 2 (some .char) ∈ gG := gT3 46 rfl rfl
set_option maxRecDepth 20000 in
theorem ml_X12_149 : Cond.methodLink RX12 149 yX12_is ∈ gG := gT6 195 rfl rfl
set_option maxRecDepth 20000 in
theorem im_yX12_is : Cond.instanceMethod yX12_is ∈ gG := gT6 197 rfl rfl
set_option maxRecDepth 20000 in
theorem se_yX12_is : Cond.selects RX12 yX12_is yX12_is ∈ gG := gP4 12 rfl
set_option maxRecDepth 20000 in
theorem cd_X12_is : Cond.code yX12_is cX12_is 4 (some .boolean) ∈ gG := gT6 198 rfl rfl
set_option maxRecDepth 20000 in
theorem fl_X12_143 : Cond.fieldLink RX12 143 "SameAfterModel" "isRule" "Z" ∈ gG := gT6 4 rfl rfl
set_option maxRecDepth 20000 in
theorem ml_X12_161 : Cond.methodLink RX12 161 yX12_see ∈ gG := gT6 183 rfl rfl
set_option maxRecDepth 20000 in
theorem im_yX12_see : Cond.instanceMethod yX12_see ∈ gG := gT6 185 rfl rfl
set_option maxRecDepth 20000 in
theorem se_yX12_see : Cond.selects RX12 yX12_see yX12_see ∈ gG := gP4 10 rfl
set_option maxRecDepth 20000 in
theorem cd_X12_see : Cond.code yX12_see cX12_see 2 (some .int) ∈ gG := gT6 186 rfl rfl
set_option maxRecDepth 20000 in
theorem ml_X12_167 : Cond.methodLink RX12 167 yX12_isLetter ∈ gG := gT6 187 rfl rfl
set_option maxRecDepth 20000 in
theorem st_yX12_isLetter : Cond.static yX12_isLetter ∈ gG := gT6 188 rfl rfl
set_option maxRecDepth 20000 in
theorem cd_X12_isLetter : Cond.code yX12_isLetter cX12_isLetter 1 (some .boolean) ∈ gG := gT6 189 rfl rfl
set_option maxRecDepth 20000 in
theorem ml_X12_173 : Cond.methodLink RX12 173 yX12_isDigit ∈ gG := gT6 205 rfl rfl
set_option maxRecDepth 20000 in
theorem st_yX12_isDigit : Cond.static yX12_isDigit ∈ gG := gT6 206 rfl rfl
set_option maxRecDepth 20000 in
theorem cd_X12_isDigit : Cond.code yX12_isDigit cX12_isDigit 1 (some .boolean) ∈ gG := gT6 207 rfl rfl
set_option maxRecDepth 20000 in
theorem fl_X12_176 : Cond.fieldLink RX12 176 "SameAfterModel" "value" "I" ∈ gG := gT5 234 rfl rfl
set_option maxRecDepth 20000 in
theorem fl_X12_164 : Cond.fieldLink RX12 164 "SameAfterModel" "token" "I" ∈ gG := gT5 232 rfl rfl
set_option maxRecDepth 20000 in
theorem ml_X12_170 : Cond.methodLink RX12 170 yX12_word ∈ gG := gT6 190 rfl rfl
set_option maxRecDepth 20000 in
theorem im_yX12_word : Cond.instanceMethod yX12_word ∈ gG := gT6 192 rfl rfl
set_option maxRecDepth 20000 in
theorem se_yX12_word : Cond.selects RX12 yX12_word yX12_word ∈ gG := gP4 11 rfl
set_option maxRecDepth 20000 in
theorem cd_X12_word : Cond.code yX12_word cX12_word 2 (some .int) ∈ gG := gT6 193 rfl rfl
set_option maxRecDepth 20000 in
theorem fl_X12_179 : Cond.fieldLink RX12 179 "SameAfterModel" "wrong" "I" ∈ gG := gT5 235 rfl rfl
set_option maxRecDepth 20000 in
theorem fl_X12_182 : Cond.fieldLink RX12 182 "SameAfterModel" "wrongAt" "I" ∈ gG := gT5 236 rfl rfl
set_option maxRecDepth 20000 in
theorem ml_X12_188 : Cond.methodLink RX12 188 yX12_next0 ∈ gG := gT6 179 rfl rfl
set_option maxRecDepth 20000 in
theorem im_yX12_next0 : Cond.instanceMethod yX12_next0 ∈ gG := gT6 181 rfl rfl
set_option maxRecDepth 20000 in
theorem se_yX12_next0 : Cond.selects RX12 yX12_next0 yX12_next0 ∈ gG := gP4 9 rfl
set_option maxRecDepth 20000 in
theorem cd_X12_next0 : Cond.code yX12_next0 cX12_next0 3 none ∈ gG := gT6 182 rfl rfl
set_option maxRecDepth 20000 in
theorem ml_X12_185 : Cond.methodLink RX12 185 yX12_bad ∈ gG := gT6 212 rfl rfl
set_option maxRecDepth 20000 in
theorem im_yX12_bad : Cond.instanceMethod yX12_bad ∈ gG := gT6 214 rfl rfl
set_option maxRecDepth 20000 in
theorem se_yX12_bad : Cond.selects RX12 yX12_bad yX12_bad ∈ gG := gP4 14 rfl
set_option maxRecDepth 20000 in
theorem cd_X12_bad : Cond.code yX12_bad cX12_bad 2 (some .boolean) ∈ gG := gT6 215 rfl rfl
set_option maxRecDepth 20000 in
theorem fl_X12_191 : Cond.fieldLink RX12 191 "SameAfterModel" "depth" "I" ∈ gG := gT5 238 rfl rfl
set_option maxRecDepth 20000 in
theorem ml_X12_194 : Cond.methodLink RX12 194 yX12_need ∈ gG := gT6 220 rfl rfl
set_option maxRecDepth 20000 in
theorem im_yX12_need : Cond.instanceMethod yX12_need ∈ gG := gT6 222 rfl rfl
set_option maxRecDepth 20000 in
theorem se_yX12_need : Cond.selects RX12 yX12_need yX12_need ∈ gG := gP5 0 rfl
set_option maxRecDepth 20000 in
theorem cd_X12_need : Cond.code yX12_need cX12_need 2 (some .boolean) ∈ gG := gT6 223 rfl rfl
set_option maxRecDepth 20000 in
theorem fl_X12_197 : Cond.fieldLink RX12 197 "SameAfterModel" "countParts" "I" ∈ gG := gT5 239 rfl rfl
set_option maxRecDepth 20000 in
theorem fl_X12_200 : Cond.fieldLink RX12 200 "SameAfterModel" "partsMost" "I" ∈ gG := gT6 1 rfl rfl
set_option maxRecDepth 20000 in
theorem ml_X12_203 : Cond.methodLink RX12 203 yX12_product ∈ gG := gT6 228 rfl rfl
set_option maxRecDepth 20000 in
theorem im_yX12_product : Cond.instanceMethod yX12_product ∈ gG := gT6 230 rfl rfl
set_option maxRecDepth 20000 in
theorem se_yX12_product : Cond.selects RX12 yX12_product yX12_product ∈ gG := gP5 2 rfl
set_option maxRecDepth 20000 in
theorem cd_X12_product : Cond.code yX12_product cX12_product 2 (some .boolean) ∈ gG := gT6 231 rfl rfl
set_option maxRecDepth 20000 in
theorem ml_X12_206 : Cond.methodLink RX12 206 yX12_counts ∈ gG := gT7 4 rfl rfl
set_option maxRecDepth 20000 in
theorem im_yX12_counts : Cond.instanceMethod yX12_counts ∈ gG := gT7 6 rfl rfl
set_option maxRecDepth 20000 in
theorem se_yX12_counts : Cond.selects RX12 yX12_counts yX12_counts ∈ gG := gP5 6 rfl
set_option maxRecDepth 20000 in
theorem cd_X12_counts : Cond.code yX12_counts cX12_counts 1 (some .boolean) ∈ gG := gT7 7 rfl rfl
set_option maxRecDepth 20000 in
theorem ml_X12_209 : Cond.methodLink RX12 209 yX12_ahead ∈ gG := gT7 8 rfl rfl
set_option maxRecDepth 20000 in
theorem im_yX12_ahead : Cond.instanceMethod yX12_ahead ∈ gG := gT7 10 rfl rfl
set_option maxRecDepth 20000 in
theorem se_yX12_ahead : Cond.selects RX12 yX12_ahead yX12_ahead ∈ gG := gP5 7 rfl
set_option maxRecDepth 20000 in
theorem cd_X12_ahead : Cond.code yX12_ahead cX12_ahead 4 none ∈ gG := gT7 11 rfl rfl
set_option maxRecDepth 20000 in
theorem ml_X12_213 : Cond.methodLink RX12 213 yX12_unit ∈ gG := gT6 232 rfl rfl
set_option maxRecDepth 20000 in
theorem im_yX12_unit : Cond.instanceMethod yX12_unit ∈ gG := gT6 234 rfl rfl
set_option maxRecDepth 20000 in
theorem se_yX12_unit : Cond.selects RX12 yX12_unit yX12_unit ∈ gG := gP5 3 rfl
set_option maxRecDepth 20000 in
theorem cd_X12_unit : Cond.code yX12_unit cX12_unit 3 (some .boolean) ∈ gG := gT6 235 rfl rfl
set_option maxRecDepth 20000 in
theorem ml_X12_216 : Cond.methodLink RX12 216 yX12_opens ∈ gG := gT6 236 rfl rfl
set_option maxRecDepth 20000 in
theorem im_yX12_opens : Cond.instanceMethod yX12_opens ∈ gG := gT6 238 rfl rfl
set_option maxRecDepth 20000 in
theorem se_yX12_opens : Cond.selects RX12 yX12_opens yX12_opens ∈ gG := gP5 4 rfl
set_option maxRecDepth 20000 in
theorem cd_X12_opens : Cond.code yX12_opens cX12_opens 2 (some .boolean) ∈ gG := gT6 239 rfl rfl
set_option maxRecDepth 20000 in
theorem ml_X12_219 : Cond.methodLink RX12 219 yX12_sumUp ∈ gG := gT6 224 rfl rfl
set_option maxRecDepth 20000 in
theorem im_yX12_sumUp : Cond.instanceMethod yX12_sumUp ∈ gG := gT6 226 rfl rfl
set_option maxRecDepth 20000 in
theorem se_yX12_sumUp : Cond.selects RX12 yX12_sumUp yX12_sumUp ∈ gG := gP5 1 rfl
set_option maxRecDepth 20000 in
theorem cd_X12_sumUp : Cond.code yX12_sumUp cX12_sumUp 3 (some .boolean) ∈ gG := gT6 227 rfl rfl
set_option maxRecDepth 20000 in
theorem ml_X12_222 : Cond.methodLink RX12 222 yX12_closes ∈ gG := gT7 0 rfl rfl
set_option maxRecDepth 20000 in
theorem im_yX12_closes : Cond.instanceMethod yX12_closes ∈ gG := gT7 2 rfl rfl
set_option maxRecDepth 20000 in
theorem se_yX12_closes : Cond.selects RX12 yX12_closes yX12_closes ∈ gG := gP5 5 rfl
set_option maxRecDepth 20000 in
theorem cd_X12_closes : Cond.code yX12_closes cX12_closes 2 (some .boolean) ∈ gG := gT7 3 rfl rfl
set_option maxRecDepth 20000 in
theorem fl_X12_225 : Cond.fieldLink RX12 225 "SameAfterModel" "isRight" "Z" ∈ gG := gT6 5 rfl rfl
set_option maxRecDepth 20000 in
theorem fl_X12_228 : Cond.fieldLink RX12 228 "SameAfterModel" "leftLetters" "I" ∈ gG := gT6 2 rfl rfl
set_option maxRecDepth 20000 in
theorem ml_X12_231 : Cond.methodLink RX12 231 yX12_statement ∈ gG := gT6 208 rfl rfl
set_option maxRecDepth 20000 in
theorem im_yX12_statement : Cond.instanceMethod yX12_statement ∈ gG := gT6 210 rfl rfl
set_option maxRecDepth 20000 in
theorem se_yX12_statement : Cond.selects RX12 yX12_statement yX12_statement ∈ gG := gP4 13 rfl
set_option maxRecDepth 20000 in
theorem cd_X12_statement : Cond.code yX12_statement cX12_statement 3 (some .boolean) ∈ gG := gT6 211 rfl rfl
set_option maxRecDepth 20000 in
theorem fl_X12_237 : Cond.fieldLink RX12 237 "SameAfterModel" "countStatements" "I" ∈ gG := gT6 0 rfl rfl
set_option maxRecDepth 20000 in
theorem ml_X12_240 : Cond.methodLink RX12 240 yX12_asks ∈ gG := gT7 12 rfl rfl
set_option maxRecDepth 20000 in
theorem im_yX12_asks : Cond.instanceMethod yX12_asks ∈ gG := gT7 14 rfl rfl
set_option maxRecDepth 20000 in
theorem se_yX12_asks : Cond.selects RX12 yX12_asks yX12_asks ∈ gG := gP5 8 rfl
set_option maxRecDepth 20000 in
theorem cd_X12_asks : Cond.code yX12_asks cX12_asks 3 (some .boolean) ∈ gG := gT7 15 rfl rfl
set_option maxRecDepth 20000 in
theorem ml_X12_234 : Cond.methodLink RX12 234 yX12_block ∈ gG := gT7 16 rfl rfl
set_option maxRecDepth 20000 in
theorem im_yX12_block : Cond.instanceMethod yX12_block ∈ gG := gT7 18 rfl rfl
set_option maxRecDepth 20000 in
theorem se_yX12_block : Cond.selects RX12 yX12_block yX12_block ∈ gG := gP5 9 rfl
set_option maxRecDepth 20000 in
theorem cd_X12_block : Cond.code yX12_block cX12_block 1 (some .boolean) ∈ gG := gT7 19 rfl rfl
set_option maxRecDepth 20000 in
theorem ml_X12_243 : Cond.methodLink RX12 243 yX12_otherwise ∈ gG := gT7 20 rfl rfl
set_option maxRecDepth 20000 in
theorem im_yX12_otherwise : Cond.instanceMethod yX12_otherwise ∈ gG := gT7 22 rfl rfl
set_option maxRecDepth 20000 in
theorem se_yX12_otherwise : Cond.selects RX12 yX12_otherwise yX12_otherwise ∈ gG := gP5 10 rfl
set_option maxRecDepth 20000 in
theorem cd_X12_otherwise : Cond.code yX12_otherwise cX12_otherwise 1 (some .boolean) ∈ gG := gT7 23 rfl rfl
set_option maxRecDepth 20000 in
theorem fl_X12_246 : Cond.fieldLink RX12 246 "SameAfterModel" "faultKind" "I" ∈ gG := gT5 237 rfl rfl
set_option maxRecDepth 20000 in
theorem fl_X12_25 : Cond.fieldLink RX12 25 "SameAfterModel" "faultPlace" "I" ∈ gG := gT6 3 rfl rfl
set_option maxRecDepth 20000 in
theorem ml_X12_249 : Cond.methodLink RX12 249 yX12_isSlot ∈ gG := gT6 168 rfl rfl
set_option maxRecDepth 20000 in
theorem st_yX12_isSlot : Cond.static yX12_isSlot ∈ gG := gT6 169 rfl rfl
set_option maxRecDepth 20000 in
theorem cd_X12_isSlot : Cond.code yX12_isSlot cX12_isSlot 1 (some .boolean) ∈ gG := gT6 170 rfl rfl
set_option maxRecDepth 20000 in
theorem ml_X12_255 : Cond.methodLink RX12 255 yX12_begins ∈ gG := gT6 175 rfl rfl
set_option maxRecDepth 20000 in
theorem im_yX12_begins : Cond.instanceMethod yX12_begins ∈ gG := gT6 177 rfl rfl
set_option maxRecDepth 20000 in
theorem se_yX12_begins : Cond.selects RX12 yX12_begins yX12_begins ∈ gG := gP4 8 rfl
set_option maxRecDepth 20000 in
theorem cd_X12_begins : Cond.code yX12_begins cX12_begins 3 none ∈ gG := gT6 178 rfl rfl
set_option maxRecDepth 20000 in
theorem ml_X12_252 : Cond.methodLink RX12 252 yX12_ends ∈ gG := gT6 171 rfl rfl
set_option maxRecDepth 20000 in
theorem im_yX12_ends : Cond.instanceMethod yX12_ends ∈ gG := gT6 173 rfl rfl
set_option maxRecDepth 20000 in
theorem se_yX12_ends : Cond.selects RX12 yX12_ends yX12_ends ∈ gG := gP4 7 rfl
set_option maxRecDepth 20000 in
theorem cd_X12_ends : Cond.code yX12_ends cX12_ends 1 none ∈ gG := gT6 174 rfl rfl
set_option maxRecDepth 20000 in
theorem ml_X12_259 : Cond.methodLink RX12 259 yX12_turns ∈ gG := gT7 24 rfl rfl
set_option maxRecDepth 20000 in
theorem im_yX12_turns : Cond.instanceMethod yX12_turns ∈ gG := gT7 26 rfl rfl
set_option maxRecDepth 20000 in
theorem se_yX12_turns : Cond.selects RX12 yX12_turns yX12_turns ∈ gG := gP5 11 rfl
set_option maxRecDepth 20000 in
theorem cd_X12_turns : Cond.code yX12_turns cX12_turns 2 none ∈ gG := gT7 27 rfl rfl
set_option maxRecDepth 20000 in
theorem ml_X12_262 : Cond.methodLink RX12 262 yX12_puts ∈ gG := gT7 28 rfl rfl
set_option maxRecDepth 20000 in
theorem im_yX12_puts : Cond.instanceMethod yX12_puts ∈ gG := gT7 30 rfl rfl
set_option maxRecDepth 20000 in
theorem se_yX12_puts : Cond.selects RX12 yX12_puts yX12_puts ∈ gG := gP5 12 rfl
set_option maxRecDepth 20000 in
theorem cd_X12_puts : Cond.code yX12_puts cX12_puts 3 none ∈ gG := gT7 31 rfl rfl
set_option maxRecDepth 20000 in
theorem ml_X12_265 : Cond.methodLink RX12 265 yX12_statements ∈ gG := gT7 32 rfl rfl
set_option maxRecDepth 20000 in
theorem im_yX12_statements : Cond.instanceMethod yX12_statements ∈ gG := gT7 34 rfl rfl
set_option maxRecDepth 20000 in
theorem se_yX12_statements : Cond.selects RX12 yX12_statements yX12_statements ∈ gG := gP5 13 rfl
set_option maxRecDepth 20000 in
theorem cd_X12_statements : Cond.code yX12_statements cX12_statements 3 (some .int) ∈ gG := gT7 35 rfl rfl
set_option maxRecDepth 20000 in
theorem fl_X12_268 : Cond.fieldLink RX12 268 "SameAfterModel" "rules" "I" ∈ gG := gT6 6 rfl rfl
set_option maxRecDepth 20000 in
theorem fl_X12_32 : Cond.fieldLink RX12 32 "SameAfterModel" "ruleRight" "[I" ∈ gG := gT6 8 rfl rfl
set_option maxRecDepth 20000 in
theorem fl_X12_35 : Cond.fieldLink RX12 35 "SameAfterModel" "ruleLong" "[I" ∈ gG := gT6 9 rfl rfl
set_option maxRecDepth 20000 in
theorem fl_X12_38 : Cond.fieldLink RX12 38 "SameAfterModel" "letters" "[I" ∈ gG := gT6 10 rfl rfl
set_option maxRecDepth 20000 in
theorem fl_X12_29 : Cond.fieldLink RX12 29 "SameAfterModel" "rule" "[I" ∈ gG := gT6 7 rfl rfl
set_option maxRecDepth 20000 in
theorem ml_X12_277 : Cond.methodLink RX12 277 yX12_liveFrom ∈ gG := gT7 67 rfl rfl
set_option maxRecDepth 20000 in
theorem im_yX12_liveFrom : Cond.instanceMethod yX12_liveFrom ∈ gG := gT7 69 rfl rfl
set_option maxRecDepth 20000 in
theorem se_yX12_liveFrom : Cond.selects RX12 yX12_liveFrom yX12_liveFrom ∈ gG := gP6 1 rfl
set_option maxRecDepth 20000 in
theorem cd_X12_liveFrom : Cond.code yX12_liveFrom cX12_liveFrom 3 (some .int) ∈ gG := gT7 70 rfl rfl
set_option maxRecDepth 20000 in
theorem ml_X12_376 : Cond.methodLink RX12 376 yX12_liveAt ∈ gG := gT7 87 rfl rfl
set_option maxRecDepth 20000 in
theorem im_yX12_liveAt : Cond.instanceMethod yX12_liveAt ∈ gG := gT7 89 rfl rfl
set_option maxRecDepth 20000 in
theorem se_yX12_liveAt : Cond.selects RX12 yX12_liveAt yX12_liveAt ∈ gG := gP6 6 rfl
set_option maxRecDepth 20000 in
theorem cd_X12_liveAt : Cond.code yX12_liveAt cX12_liveAt 7 (some .int) ∈ gG := gT7 90 rfl rfl
set_option maxRecDepth 20000 in
theorem ml_X12_379 : Cond.methodLink RX12 379 yX12_reads ∈ gG := gT7 91 rfl rfl
set_option maxRecDepth 20000 in
theorem im_yX12_reads : Cond.instanceMethod yX12_reads ∈ gG := gT7 93 rfl rfl
set_option maxRecDepth 20000 in
theorem se_yX12_reads : Cond.selects RX12 yX12_reads yX12_reads ∈ gG := gP6 7 rfl
set_option maxRecDepth 20000 in
theorem cd_X12_reads : Cond.code yX12_reads cX12_reads 5 (some .int) ∈ gG := gT7 94 rfl rfl
set_option maxRecDepth 20000 in
theorem ml_X12_309 : Cond.methodLink RX12 309 yX12_close ∈ gG := gT7 95 rfl rfl
set_option maxRecDepth 20000 in
theorem im_yX12_close : Cond.instanceMethod yX12_close ∈ gG := gT7 97 rfl rfl
set_option maxRecDepth 20000 in
theorem se_yX12_close : Cond.selects RX12 yX12_close yX12_close ∈ gG := gP6 8 rfl
set_option maxRecDepth 20000 in
theorem cd_X12_close : Cond.code yX12_close cX12_close 3 (some .int) ∈ gG := gT7 98 rfl rfl
set_option maxRecDepth 20000 in
theorem ml_X12_271 : Cond.methodLink RX12 271 yX12_takes ∈ gG := gT7 55 rfl rfl
set_option maxRecDepth 20000 in
theorem im_yX12_takes : Cond.instanceMethod yX12_takes ∈ gG := gT7 57 rfl rfl
set_option maxRecDepth 20000 in
theorem se_yX12_takes : Cond.selects RX12 yX12_takes yX12_takes ∈ gG := gP5 14 rfl
set_option maxRecDepth 20000 in
theorem cd_X12_takes : Cond.code yX12_takes cX12_takes 3 none ∈ gG := gT7 58 rfl rfl
set_option maxRecDepth 20000 in
theorem ml_X12_274 : Cond.methodLink RX12 274 yX12_parts ∈ gG := gT7 59 rfl rfl
set_option maxRecDepth 20000 in
theorem im_yX12_parts : Cond.instanceMethod yX12_parts ∈ gG := gT7 61 rfl rfl
set_option maxRecDepth 20000 in
theorem se_yX12_parts : Cond.selects RX12 yX12_parts yX12_parts ∈ gG := gP5 15 rfl
set_option maxRecDepth 20000 in
theorem cd_X12_parts : Cond.code yX12_parts cX12_parts 3 (some .int) ∈ gG := gT7 62 rfl rfl
set_option maxRecDepth 20000 in
theorem fl_X12_281 : Cond.fieldLink RX12 281 "SameAfterModel" "cursor" "I" ∈ gG := gT6 16 rfl rfl
set_option maxRecDepth 20000 in
theorem ml_X12_284 : Cond.methodLink RX12 284 yX12_worth ∈ gG := gT7 123 rfl rfl
set_option maxRecDepth 20000 in
theorem im_yX12_worth : Cond.instanceMethod yX12_worth ∈ gG := gT7 125 rfl rfl
set_option maxRecDepth 20000 in
theorem se_yX12_worth : Cond.selects RX12 yX12_worth yX12_worth ∈ gG := gP6 14 rfl
set_option maxRecDepth 20000 in
theorem cd_X12_worth : Cond.code yX12_worth cX12_worth 3 (some .int) ∈ gG := gT7 126 rfl rfl
set_option maxRecDepth 20000 in
theorem ml_X12_287 : Cond.methodLink RX12 287 yX12_both ∈ gG := gT7 127 rfl rfl
set_option maxRecDepth 20000 in
theorem st_yX12_both : Cond.static yX12_both ∈ gG := gT7 128 rfl rfl
set_option maxRecDepth 20000 in
theorem cd_X12_both : Cond.code yX12_both cX12_both 3 (some .int) ∈ gG := gT7 129 rfl rfl
set_option maxRecDepth 20000 in
theorem fl_X12_41 : Cond.fieldLink RX12 41 "SameAfterModel" "holds" "[I" ∈ gG := gT6 11 rfl rfl
set_option maxRecDepth 20000 in
theorem fl_X12_291 : Cond.fieldLink RX12 291 "SameAfterModel" "steps" "I" ∈ gG := gT6 13 rfl rfl
set_option maxRecDepth 20000 in
theorem fl_X12_294 : Cond.fieldLink RX12 294 "SameAfterModel" "ending" "I" ∈ gG := gT6 14 rfl rfl
set_option maxRecDepth 20000 in
theorem ml_X12_297 : Cond.methodLink RX12 297 yX12_doesOne ∈ gG := gT7 111 rfl rfl
set_option maxRecDepth 20000 in
theorem im_yX12_doesOne : Cond.instanceMethod yX12_doesOne ∈ gG := gT7 113 rfl rfl
set_option maxRecDepth 20000 in
theorem se_yX12_doesOne : Cond.selects RX12 yX12_doesOne yX12_doesOne ∈ gG := gP6 11 rfl
set_option maxRecDepth 20000 in
theorem cd_X12_doesOne : Cond.code yX12_doesOne cX12_doesOne 4 (some .boolean) ∈ gG := gT7 114 rfl rfl
set_option maxRecDepth 20000 in
theorem ml_X12_300 : Cond.methodLink RX12 300 yX12_step ∈ gG := gT7 115 rfl rfl
set_option maxRecDepth 20000 in
theorem im_yX12_step : Cond.instanceMethod yX12_step ∈ gG := gT7 117 rfl rfl
set_option maxRecDepth 20000 in
theorem se_yX12_step : Cond.selects RX12 yX12_step yX12_step ∈ gG := gP6 12 rfl
set_option maxRecDepth 20000 in
theorem cd_X12_step : Cond.code yX12_step cX12_step 1 (some .boolean) ∈ gG := gT7 118 rfl rfl
set_option maxRecDepth 20000 in
theorem fl_X12_44 : Cond.fieldLink RX12 44 "SameAfterModel" "outs" "[I" ∈ gG := gT6 12 rfl rfl
set_option maxRecDepth 20000 in
theorem fl_X12_312 : Cond.fieldLink RX12 312 "SameAfterModel" "outMany" "I" ∈ gG := gT6 15 rfl rfl
set_option maxRecDepth 20000 in
theorem ml_X12_303 : Cond.methodLink RX12 303 yX12_isSo ∈ gG := gT7 119 rfl rfl
set_option maxRecDepth 20000 in
theorem im_yX12_isSo : Cond.instanceMethod yX12_isSo ∈ gG := gT7 121 rfl rfl
set_option maxRecDepth 20000 in
theorem se_yX12_isSo : Cond.selects RX12 yX12_isSo yX12_isSo ∈ gG := gP6 13 rfl
set_option maxRecDepth 20000 in
theorem cd_X12_isSo : Cond.code yX12_isSo cX12_isSo 5 (some .boolean) ∈ gG := gT7 122 rfl rfl
set_option maxRecDepth 20000 in
theorem ml_X12_306 : Cond.methodLink RX12 306 yX12_does ∈ gG := gT7 107 rfl rfl
set_option maxRecDepth 20000 in
theorem im_yX12_does : Cond.instanceMethod yX12_does ∈ gG := gT7 109 rfl rfl
set_option maxRecDepth 20000 in
theorem se_yX12_does : Cond.selects RX12 yX12_does yX12_does ∈ gG := gP6 10 rfl
set_option maxRecDepth 20000 in
theorem cd_X12_does : Cond.code yX12_does cX12_does 3 (some .boolean) ∈ gG := gT7 110 rfl rfl
set_option maxRecDepth 20000 in
theorem ml_X12_315 : Cond.methodLink RX12 315 yX12_runs ∈ gG := gT7 103 rfl rfl
set_option maxRecDepth 20000 in
theorem im_yX12_runs : Cond.instanceMethod yX12_runs ∈ gG := gT7 105 rfl rfl
set_option maxRecDepth 20000 in
theorem se_yX12_runs : Cond.selects RX12 yX12_runs yX12_runs ∈ gG := gP6 9 rfl
set_option maxRecDepth 20000 in
theorem cd_X12_runs : Cond.code yX12_runs cX12_runs 4 none ∈ gG := gT7 106 rfl rfl
set_option maxRecDepth 20000 in
theorem fl_X12_47 : Cond.fieldLink RX12 47 "SameAfterModel" "keptEnd" "[I" ∈ gG := gT6 17 rfl rfl
set_option maxRecDepth 20000 in
theorem fl_X12_50 : Cond.fieldLink RX12 50 "SameAfterModel" "keptMany" "[I" ∈ gG := gT6 18 rfl rfl
set_option maxRecDepth 20000 in
theorem fl_X12_53 : Cond.fieldLink RX12 53 "SameAfterModel" "keptOut" "[I" ∈ gG := gT6 19 rfl rfl
set_option maxRecDepth 20000 in
theorem fl_X12_318 : Cond.fieldLink RX12 318 "SameAfterModel" "firstParting" "I" ∈ gG := gT6 20 rfl rfl
set_option maxRecDepth 20000 in
theorem fl_X12_321 : Cond.fieldLink RX12 321 "SameAfterModel" "firstPlace" "I" ∈ gG := gT6 21 rfl rfl
set_option maxRecDepth 20000 in
theorem fl_X12_324 : Cond.fieldLink RX12 324 "SameAfterModel" "partings" "I" ∈ gG := gT6 22 rfl rfl
set_option maxRecDepth 20000 in
theorem fl_X12_327 : Cond.fieldLink RX12 327 "SameAfterModel" "anyTired" "Z" ∈ gG := gT6 23 rfl rfl
set_option maxRecDepth 20000 in
theorem ml_X12_330 : Cond.methodLink RX12 330 yX12_keeps ∈ gG := gT7 134 rfl rfl
set_option maxRecDepth 20000 in
theorem im_yX12_keeps : Cond.instanceMethod yX12_keeps ∈ gG := gT7 136 rfl rfl
set_option maxRecDepth 20000 in
theorem se_yX12_keeps : Cond.selects RX12 yX12_keeps yX12_keeps ∈ gG := gP6 15 rfl
set_option maxRecDepth 20000 in
theorem cd_X12_keeps : Cond.code yX12_keeps cX12_keeps 3 none ∈ gG := gT7 137 rfl rfl
set_option maxRecDepth 20000 in
theorem ml_X12_333 : Cond.methodLink RX12 333 yX12_compares ∈ gG := gT7 138 rfl rfl
set_option maxRecDepth 20000 in
theorem im_yX12_compares : Cond.instanceMethod yX12_compares ∈ gG := gT7 140 rfl rfl
set_option maxRecDepth 20000 in
theorem se_yX12_compares : Cond.selects RX12 yX12_compares yX12_compares ∈ gG := gP7 0 rfl
set_option maxRecDepth 20000 in
theorem cd_X12_compares : Cond.code yX12_compares cX12_compares 5 none ∈ gG := gT7 141 rfl rfl
set_option maxRecDepth 20000 in
theorem ml_X12_336 : Cond.methodLink RX12 336 yX12_ruleWorth ∈ gG := gT7 162 rfl rfl
set_option maxRecDepth 20000 in
theorem im_yX12_ruleWorth : Cond.instanceMethod yX12_ruleWorth ∈ gG := gT7 164 rfl rfl
set_option maxRecDepth 20000 in
theorem se_yX12_ruleWorth : Cond.selects RX12 yX12_ruleWorth yX12_ruleWorth ∈ gG := gP7 5 rfl
set_option maxRecDepth 20000 in
theorem cd_X12_ruleWorth : Cond.code yX12_ruleWorth cX12_ruleWorth 4 (some .int) ∈ gG := gT7 165 rfl rfl
set_option maxRecDepth 20000 in
theorem fl_X12_56 : Cond.fieldLink RX12 56 "SameAfterModel" "stands" "[I" ∈ gG := gT6 24 rfl rfl
set_option maxRecDepth 20000 in
theorem fl_X12_62 : Cond.fieldLink RX12 62 "SameAfterModel" "product" "[I" ∈ gG := gT6 27 rfl rfl
set_option maxRecDepth 20000 in
theorem fl_X12_59 : Cond.fieldLink RX12 59 "SameAfterModel" "form" "[I" ∈ gG := gT6 25 rfl rfl
set_option maxRecDepth 20000 in
theorem fl_X12_345 : Cond.fieldLink RX12 345 "SameAfterModel" "isForm" "Z" ∈ gG := gT6 26 rfl rfl
set_option maxRecDepth 20000 in
theorem ml_X12_339 : Cond.methodLink RX12 339 yX12_forms ∈ gG := gT7 150 rfl rfl
set_option maxRecDepth 20000 in
theorem im_yX12_forms : Cond.instanceMethod yX12_forms ∈ gG := gT7 152 rfl rfl
set_option maxRecDepth 20000 in
theorem se_yX12_forms : Cond.selects RX12 yX12_forms yX12_forms ∈ gG := gP7 2 rfl
set_option maxRecDepth 20000 in
theorem cd_X12_forms : Cond.code yX12_forms cX12_forms 5 none ∈ gG := gT7 153 rfl rfl
set_option maxRecDepth 20000 in
theorem ml_X12_342 : Cond.methodLink RX12 342 yX12_products ∈ gG := gT7 154 rfl rfl
set_option maxRecDepth 20000 in
theorem im_yX12_products : Cond.instanceMethod yX12_products ∈ gG := gT7 156 rfl rfl
set_option maxRecDepth 20000 in
theorem se_yX12_products : Cond.selects RX12 yX12_products yX12_products ∈ gG := gP7 3 rfl
set_option maxRecDepth 20000 in
theorem cd_X12_products : Cond.code yX12_products cX12_products 6 none ∈ gG := gT7 157 rfl rfl
set_option maxRecDepth 20000 in
theorem ml_X12_348 : Cond.methodLink RX12 348 yX12_sameForms ∈ gG := gT7 146 rfl rfl
set_option maxRecDepth 20000 in
theorem im_yX12_sameForms : Cond.instanceMethod yX12_sameForms ∈ gG := gT7 148 rfl rfl
set_option maxRecDepth 20000 in
theorem se_yX12_sameForms : Cond.selects RX12 yX12_sameForms yX12_sameForms ∈ gG := gP7 1 rfl
set_option maxRecDepth 20000 in
theorem cd_X12_sameForms : Cond.code yX12_sameForms cX12_sameForms 3 (some .int) ∈ gG := gT7 149 rfl rfl
set_option maxRecDepth 20000 in
theorem ml_X12_351 : Cond.methodLink RX12 351 yX12_isAlike ∈ gG := gT7 158 rfl rfl
set_option maxRecDepth 20000 in
theorem im_yX12_isAlike : Cond.instanceMethod yX12_isAlike ∈ gG := gT7 160 rfl rfl
set_option maxRecDepth 20000 in
theorem se_yX12_isAlike : Cond.selects RX12 yX12_isAlike yX12_isAlike ∈ gG := gP7 4 rfl
set_option maxRecDepth 20000 in
theorem cd_X12_isAlike : Cond.code yX12_isAlike cX12_isAlike 3 (some .boolean) ∈ gG := gT7 161 rfl rfl
set_option maxRecDepth 20000 in
theorem fl_X12_354 : Cond.fieldLink RX12 354 "SameAfterModel" "patternAt" "I" ∈ gG := gT6 29 rfl rfl
set_option maxRecDepth 20000 in
theorem ml_X12_361 : Cond.methodLink RX12 361 yX12_fits ∈ gG := gT7 174 rfl rfl
set_option maxRecDepth 20000 in
theorem im_yX12_fits : Cond.instanceMethod yX12_fits ∈ gG := gT7 176 rfl rfl
set_option maxRecDepth 20000 in
theorem se_yX12_fits : Cond.selects RX12 yX12_fits yX12_fits ∈ gG := gP7 7 rfl
set_option maxRecDepth 20000 in
theorem cd_X12_fits : Cond.code yX12_fits cX12_fits 5 (some .boolean) ∈ gG := gT7 177 rfl rfl
set_option maxRecDepth 20000 in
theorem fl_X12_65 : Cond.fieldLink RX12 65 "SameAfterModel" "bound" "[I" ∈ gG := gT6 28 rfl rfl
set_option maxRecDepth 20000 in
theorem ml_X12_357 : Cond.methodLink RX12 357 yX12_sameParts ∈ gG := gT7 178 rfl rfl
set_option maxRecDepth 20000 in
theorem im_yX12_sameParts : Cond.instanceMethod yX12_sameParts ∈ gG := gT7 180 rfl rfl
set_option maxRecDepth 20000 in
theorem se_yX12_sameParts : Cond.selects RX12 yX12_sameParts yX12_sameParts ∈ gG := gP7 8 rfl
set_option maxRecDepth 20000 in
theorem cd_X12_sameParts : Cond.code yX12_sameParts cX12_sameParts 6 (some .boolean) ∈ gG := gT7 181 rfl rfl
set_option maxRecDepth 20000 in
theorem ml_X12_364 : Cond.methodLink RX12 364 yX12_matches ∈ gG := gT7 170 rfl rfl
set_option maxRecDepth 20000 in
theorem im_yX12_matches : Cond.instanceMethod yX12_matches ∈ gG := gT7 172 rfl rfl
set_option maxRecDepth 20000 in
theorem se_yX12_matches : Cond.selects RX12 yX12_matches yX12_matches ∈ gG := gP7 6 rfl
set_option maxRecDepth 20000 in
theorem cd_X12_matches : Cond.code yX12_matches cX12_matches 4 (some .boolean) ∈ gG := gT7 173 rfl rfl
set_option maxRecDepth 20000 in
theorem ml_X12_367 : Cond.methodLink RX12 367 yX12_writes ∈ gG := gT7 194 rfl rfl
set_option maxRecDepth 20000 in
theorem im_yX12_writes : Cond.instanceMethod yX12_writes ∈ gG := gT7 196 rfl rfl
set_option maxRecDepth 20000 in
theorem se_yX12_writes : Cond.selects RX12 yX12_writes yX12_writes ∈ gG := gP7 11 rfl
set_option maxRecDepth 20000 in
theorem cd_X12_writes : Cond.code yX12_writes cX12_writes 4 none ∈ gG := gT7 197 rfl rfl
set_option maxRecDepth 20000 in
theorem ml_X12_370 : Cond.methodLink RX12 370 yX12_match ∈ gG := gT7 186 rfl rfl
set_option maxRecDepth 20000 in
theorem im_yX12_match : Cond.instanceMethod yX12_match ∈ gG := gT7 188 rfl rfl
set_option maxRecDepth 20000 in
theorem se_yX12_match : Cond.selects RX12 yX12_match yX12_match ∈ gG := gP7 9 rfl
set_option maxRecDepth 20000 in
theorem cd_X12_match : Cond.code yX12_match cX12_match 5 (some .int) ∈ gG := gT7 189 rfl rfl
set_option maxRecDepth 20000 in
theorem ml_X12_373 : Cond.methodLink RX12 373 yX12_applies ∈ gG := gT7 190 rfl rfl
set_option maxRecDepth 20000 in
theorem im_yX12_applies : Cond.instanceMethod yX12_applies ∈ gG := gT7 192 rfl rfl
set_option maxRecDepth 20000 in
theorem se_yX12_applies : Cond.selects RX12 yX12_applies yX12_applies ∈ gG := gP7 10 rfl
set_option maxRecDepth 20000 in
theorem cd_X12_applies : Cond.code yX12_applies cX12_applies 6 (some .boolean) ∈ gG := gT7 193 rfl rfl
set_option maxRecDepth 20000 in
theorem fl_X12_68 : Cond.fieldLink RX12 68 "SameAfterModel" "isOut" "[Z" ∈ gG := gT6 30 rfl rfl
set_option maxRecDepth 20000 in
theorem fl_X12_382 : Cond.fieldLink RX12 382 "SameAfterModel" "someOut" "Z" ∈ gG := gT6 31 rfl rfl
set_option maxRecDepth 20000 in
theorem ml_X12_385 : Cond.methodLink RX12 385 yX12_drops ∈ gG := gT8 5 rfl rfl
set_option maxRecDepth 20000 in
theorem im_yX12_drops : Cond.instanceMethod yX12_drops ∈ gG := gT8 7 rfl rfl
set_option maxRecDepth 20000 in
theorem se_yX12_drops : Cond.selects RX12 yX12_drops yX12_drops ∈ gG := gP8 4 rfl
set_option maxRecDepth 20000 in
theorem cd_X12_drops : Cond.code yX12_drops cX12_drops 2 none ∈ gG := gT8 8 rfl rfl
set_option maxRecDepth 20000 in
theorem ml_X12_388 : Cond.methodLink RX12 388 yX12_marks ∈ gG := gT8 9 rfl rfl
set_option maxRecDepth 20000 in
theorem im_yX12_marks : Cond.instanceMethod yX12_marks ∈ gG := gT8 11 rfl rfl
set_option maxRecDepth 20000 in
theorem se_yX12_marks : Cond.selects RX12 yX12_marks yX12_marks ∈ gG := gP8 5 rfl
set_option maxRecDepth 20000 in
theorem cd_X12_marks : Cond.code yX12_marks cX12_marks 7 none ∈ gG := gT8 12 rfl rfl
set_option maxRecDepth 20000 in
theorem ml_X12_391 : Cond.methodLink RX12 391 yX12_copies ∈ gG := gT8 13 rfl rfl
set_option maxRecDepth 20000 in
theorem im_yX12_copies : Cond.instanceMethod yX12_copies ∈ gG := gT8 15 rfl rfl
set_option maxRecDepth 20000 in
theorem se_yX12_copies : Cond.selects RX12 yX12_copies yX12_copies ∈ gG := gP8 6 rfl
set_option maxRecDepth 20000 in
theorem cd_X12_copies : Cond.code yX12_copies cX12_copies 4 none ∈ gG := gT8 16 rfl rfl
set_option maxRecDepth 20000 in
theorem ml_X12_394 : Cond.methodLink RX12 394 yX12_clears ∈ gG := gT7 237 rfl rfl
set_option maxRecDepth 20000 in
theorem im_yX12_clears : Cond.instanceMethod yX12_clears ∈ gG := gT7 239 rfl rfl
set_option maxRecDepth 20000 in
theorem se_yX12_clears : Cond.selects RX12 yX12_clears yX12_clears ∈ gG := gP8 2 rfl
set_option maxRecDepth 20000 in
theorem cd_X12_clears : Cond.code yX12_clears cX12_clears 2 none ∈ gG := gT8 0 rfl rfl
set_option maxRecDepth 20000 in
theorem ml_X12_397 : Cond.methodLink RX12 397 yX12_marksHasty ∈ gG := gT8 1 rfl rfl
set_option maxRecDepth 20000 in
theorem im_yX12_marksHasty : Cond.instanceMethod yX12_marksHasty ∈ gG := gT8 3 rfl rfl
set_option maxRecDepth 20000 in
theorem se_yX12_marksHasty : Cond.selects RX12 yX12_marksHasty yX12_marksHasty ∈ gG := gP8 3 rfl
set_option maxRecDepth 20000 in
theorem cd_X12_marksHasty : Cond.code yX12_marksHasty cX12_marksHasty 2 none ∈ gG := gT8 4 rfl rfl
set_option maxRecDepth 20000 in
theorem ml_X12_400 : Cond.methodLink RX12 400 yX12_folds ∈ gG := gT7 229 rfl rfl
set_option maxRecDepth 20000 in
theorem im_yX12_folds : Cond.instanceMethod yX12_folds ∈ gG := gT7 231 rfl rfl
set_option maxRecDepth 20000 in
theorem se_yX12_folds : Cond.selects RX12 yX12_folds yX12_folds ∈ gG := gP8 0 rfl
set_option maxRecDepth 20000 in
theorem cd_X12_folds : Cond.code yX12_folds cX12_folds 5 (some .boolean) ∈ gG := gT7 232 rfl rfl
set_option maxRecDepth 20000 in
theorem ml_X12_403 : Cond.methodLink RX12 403 yX12_foldOne ∈ gG := gT7 225 rfl rfl
set_option maxRecDepth 20000 in
theorem im_yX12_foldOne : Cond.instanceMethod yX12_foldOne ∈ gG := gT7 227 rfl rfl
set_option maxRecDepth 20000 in
theorem se_yX12_foldOne : Cond.selects RX12 yX12_foldOne yX12_foldOne ∈ gG := gP7 15 rfl
set_option maxRecDepth 20000 in
theorem cd_X12_foldOne : Cond.code yX12_foldOne cX12_foldOne 10 none ∈ gG := gT7 228 rfl rfl
set_option maxRecDepth 20000 in
theorem ml_X12_406 : Cond.methodLink RX12 406 yX12_foldAll ∈ gG := gT7 221 rfl rfl
set_option maxRecDepth 20000 in
theorem im_yX12_foldAll : Cond.instanceMethod yX12_foldAll ∈ gG := gT7 223 rfl rfl
set_option maxRecDepth 20000 in
theorem se_yX12_foldAll : Cond.selects RX12 yX12_foldAll yX12_foldAll ∈ gG := gP7 14 rfl
set_option maxRecDepth 20000 in
theorem cd_X12_foldAll : Cond.code yX12_foldAll cX12_foldAll 3 none ∈ gG := gT7 224 rfl rfl
set_option maxRecDepth 20000 in
theorem ml_X12_409 : Cond.methodLink RX12 409 yX12_sets ∈ gG := gT8 25 rfl rfl
set_option maxRecDepth 20000 in
theorem im_yX12_sets : Cond.instanceMethod yX12_sets ∈ gG := gT8 27 rfl rfl
set_option maxRecDepth 20000 in
theorem se_yX12_sets : Cond.selects RX12 yX12_sets yX12_sets ∈ gG := gP8 9 rfl
set_option maxRecDepth 20000 in
theorem cd_X12_sets : Cond.code yX12_sets cX12_sets 6 (some .boolean) ∈ gG := gT8 28 rfl rfl
set_option maxRecDepth 20000 in
theorem ml_X12_412 : Cond.methodLink RX12 412 yX12_replaces ∈ gG := gT8 29 rfl rfl
set_option maxRecDepth 20000 in
theorem im_yX12_replaces : Cond.instanceMethod yX12_replaces ∈ gG := gT8 31 rfl rfl
set_option maxRecDepth 20000 in
theorem se_yX12_replaces : Cond.selects RX12 yX12_replaces yX12_replaces ∈ gG := gP8 10 rfl
set_option maxRecDepth 20000 in
theorem cd_X12_replaces : Cond.code yX12_replaces cX12_replaces 6 none ∈ gG := gT8 32 rfl rfl
set_option maxRecDepth 20000 in
theorem ml_X12_416 : Cond.methodLink RX12 416 yX12_copyFrom ∈ gG := gT8 21 rfl rfl
set_option maxRecDepth 20000 in
theorem im_yX12_copyFrom : Cond.instanceMethod yX12_copyFrom ∈ gG := gT8 23 rfl rfl
set_option maxRecDepth 20000 in
theorem se_yX12_copyFrom : Cond.selects RX12 yX12_copyFrom yX12_copyFrom ∈ gG := gP8 8 rfl
set_option maxRecDepth 20000 in
theorem cd_X12_copyFrom : Cond.code yX12_copyFrom cX12_copyFrom 6 none ∈ gG := gT8 24 rfl rfl
set_option maxRecDepth 20000 in
theorem ml_X12_420 : Cond.methodLink RX12 420 yX12_unrolls ∈ gG := gT8 33 rfl rfl
set_option maxRecDepth 20000 in
theorem im_yX12_unrolls : Cond.instanceMethod yX12_unrolls ∈ gG := gT8 35 rfl rfl
set_option maxRecDepth 20000 in
theorem se_yX12_unrolls : Cond.selects RX12 yX12_unrolls yX12_unrolls ∈ gG := gP8 11 rfl
set_option maxRecDepth 20000 in
theorem cd_X12_unrolls : Cond.code yX12_unrolls cX12_unrolls 4 none ∈ gG := gT8 36 rfl rfl
set_option maxRecDepth 20000 in
theorem ml_X12_423 : Cond.methodLink RX12 423 yX12_isPass ∈ gG := gT7 202 rfl rfl
set_option maxRecDepth 20000 in
theorem st_yX12_isPass : Cond.static yX12_isPass ∈ gG := gT7 203 rfl rfl
set_option maxRecDepth 20000 in
theorem cd_X12_isPass : Cond.code yX12_isPass cX12_isPass 1 (some .boolean) ∈ gG := gT7 204 rfl rfl
set_option maxRecDepth 20000 in
theorem fl_X12_75 : Cond.fieldLink RX12 75 "SameAfterModel" "itemMany" "[I" ∈ gG := gT6 33 rfl rfl
set_option maxRecDepth 20000 in
theorem fl_X12_72 : Cond.fieldLink RX12 72 "SameAfterModel" "items" "[I" ∈ gG := gT6 32 rfl rfl
set_option maxRecDepth 20000 in
theorem ml_X12_426 : Cond.methodLink RX12 426 yX12_again ∈ gG := gT7 217 rfl rfl
set_option maxRecDepth 20000 in
theorem im_yX12_again : Cond.instanceMethod yX12_again ∈ gG := gT7 219 rfl rfl
set_option maxRecDepth 20000 in
theorem se_yX12_again : Cond.selects RX12 yX12_again yX12_again ∈ gG := gP7 13 rfl
set_option maxRecDepth 20000 in
theorem cd_X12_again : Cond.code yX12_again cX12_again 4 (some .boolean) ∈ gG := gT7 220 rfl rfl
set_option maxRecDepth 20000 in
theorem ml_X12_429 : Cond.methodLink RX12 429 yX12_dead ∈ gG := gT7 233 rfl rfl
set_option maxRecDepth 20000 in
theorem im_yX12_dead : Cond.instanceMethod yX12_dead ∈ gG := gT7 235 rfl rfl
set_option maxRecDepth 20000 in
theorem se_yX12_dead : Cond.selects RX12 yX12_dead yX12_dead ∈ gG := gP8 1 rfl
set_option maxRecDepth 20000 in
theorem cd_X12_dead : Cond.code yX12_dead cX12_dead 2 none ∈ gG := gT7 236 rfl rfl
set_option maxRecDepth 20000 in
theorem ml_X12_433 : Cond.methodLink RX12 433 yX12_hastyCopy ∈ gG := gT8 17 rfl rfl
set_option maxRecDepth 20000 in
theorem im_yX12_hastyCopy : Cond.instanceMethod yX12_hastyCopy ∈ gG := gT8 19 rfl rfl
set_option maxRecDepth 20000 in
theorem se_yX12_hastyCopy : Cond.selects RX12 yX12_hastyCopy yX12_hastyCopy ∈ gG := gP8 7 rfl
set_option maxRecDepth 20000 in
theorem cd_X12_hastyCopy : Cond.code yX12_hastyCopy cX12_hastyCopy 4 none ∈ gG := gT8 20 rfl rfl
set_option maxRecDepth 20000 in
theorem ml_X12_436 : Cond.methodLink RX12 436 yX12_isSmall ∈ gG := gT8 37 rfl rfl
set_option maxRecDepth 20000 in
theorem im_yX12_isSmall : Cond.instanceMethod yX12_isSmall ∈ gG := gT8 39 rfl rfl
set_option maxRecDepth 20000 in
theorem se_yX12_isSmall : Cond.selects RX12 yX12_isSmall yX12_isSmall ∈ gG := gP8 12 rfl
set_option maxRecDepth 20000 in
theorem cd_X12_isSmall : Cond.code yX12_isSmall cX12_isSmall 1 (some .boolean) ∈ gG := gT8 40 rfl rfl
set_option maxRecDepth 20000 in
theorem ml_X12_439 : Cond.methodLink RX12 439 yX12_makes ∈ gG := gT7 213 rfl rfl
set_option maxRecDepth 20000 in
theorem im_yX12_makes : Cond.instanceMethod yX12_makes ∈ gG := gT7 215 rfl rfl
set_option maxRecDepth 20000 in
theorem se_yX12_makes : Cond.selects RX12 yX12_makes yX12_makes ∈ gG := gP7 12 rfl
set_option maxRecDepth 20000 in
theorem cd_X12_makes : Cond.code yX12_makes cX12_makes 4 (some .boolean) ∈ gG := gT7 216 rfl rfl
set_option maxRecDepth 20000 in
theorem fl_X12_442 : Cond.fieldLink RX12 442 "SameAfterModel" "wholeLong" "I" ∈ gG := gT6 35 rfl rfl
set_option maxRecDepth 20000 in
theorem fl_X12_78 : Cond.fieldLink RX12 78 "SameAfterModel" "whole" "[I" ∈ gG := gT6 34 rfl rfl
set_option maxRecDepth 20000 in
theorem ml_X12_445 : Cond.methodLink RX12 445 yX12_takesWhole ∈ gG := gT8 61 rfl rfl
set_option maxRecDepth 20000 in
theorem im_yX12_takesWhole : Cond.instanceMethod yX12_takesWhole ∈ gG := gT8 63 rfl rfl
set_option maxRecDepth 20000 in
theorem se_yX12_takesWhole : Cond.selects RX12 yX12_takesWhole yX12_takesWhole ∈ gG := gP9 0 rfl
set_option maxRecDepth 20000 in
theorem cd_X12_takesWhole : Cond.code yX12_takesWhole cX12_takesWhole 2 none ∈ gG := gT8 64 rfl rfl
set_option maxRecDepth 20000 in
theorem ml_X12_448 : Cond.methodLink RX12 448 yX12_isWrong ∈ gG := gT8 53 rfl rfl
set_option maxRecDepth 20000 in
theorem im_yX12_isWrong : Cond.instanceMethod yX12_isWrong ∈ gG := gT8 55 rfl rfl
set_option maxRecDepth 20000 in
theorem se_yX12_isWrong : Cond.selects RX12 yX12_isWrong yX12_isWrong ∈ gG := gP8 14 rfl
set_option maxRecDepth 20000 in
theorem cd_X12_isWrong : Cond.code yX12_isWrong cX12_isWrong 2 (some .boolean) ∈ gG := gT8 56 rfl rfl
set_option maxRecDepth 20000 in
theorem fl_X12_81 : Cond.fieldLink RX12 81 "SameAfterModel" "cutRow" "[I" ∈ gG := gT6 36 rfl rfl
set_option maxRecDepth 20000 in
theorem ml_X12_451 : Cond.methodLink RX12 451 yX12_keepsWhole ∈ gG := gT8 49 rfl rfl
set_option maxRecDepth 20000 in
theorem im_yX12_keepsWhole : Cond.instanceMethod yX12_keepsWhole ∈ gG := gT8 51 rfl rfl
set_option maxRecDepth 20000 in
theorem se_yX12_keepsWhole : Cond.selects RX12 yX12_keepsWhole yX12_keepsWhole ∈ gG := gP8 13 rfl
set_option maxRecDepth 20000 in
theorem cd_X12_keepsWhole : Cond.code yX12_keepsWhole cX12_keepsWhole 2 none ∈ gG := gT8 52 rfl rfl
set_option maxRecDepth 20000 in
theorem ml_X12_454 : Cond.methodLink RX12 454 yX12_cutsOne ∈ gG := gT8 57 rfl rfl
set_option maxRecDepth 20000 in
theorem im_yX12_cutsOne : Cond.instanceMethod yX12_cutsOne ∈ gG := gT8 59 rfl rfl
set_option maxRecDepth 20000 in
theorem se_yX12_cutsOne : Cond.selects RX12 yX12_cutsOne yX12_cutsOne ∈ gG := gP8 15 rfl
set_option maxRecDepth 20000 in
theorem cd_X12_cutsOne : Cond.code yX12_cutsOne cX12_cutsOne 5 (some .boolean) ∈ gG := gT8 60 rfl rfl
set_option maxRecDepth 20000 in
theorem fl_X12_84 : Cond.fieldLink RX12 84 "SameAfterModel" "clashes" "[I" ∈ gG := gT6 37 rfl rfl
set_option maxRecDepth 20000 in
theorem ml_X12_457 : Cond.methodLink RX12 457 yX12_clashAll ∈ gG := gT8 77 rfl rfl
set_option maxRecDepth 20000 in
theorem im_yX12_clashAll : Cond.instanceMethod yX12_clashAll ∈ gG := gT8 79 rfl rfl
set_option maxRecDepth 20000 in
theorem se_yX12_clashAll : Cond.selects RX12 yX12_clashAll yX12_clashAll ∈ gG := gP9 3 rfl
set_option maxRecDepth 20000 in
theorem cd_X12_clashAll : Cond.code yX12_clashAll cX12_clashAll 3 none ∈ gG := gT8 80 rfl rfl
set_option maxRecDepth 20000 in
theorem ml_X12_460 : Cond.methodLink RX12 460 yX12_clashSet ∈ gG := gT8 81 rfl rfl
set_option maxRecDepth 20000 in
theorem im_yX12_clashSet : Cond.instanceMethod yX12_clashSet ∈ gG := gT8 83 rfl rfl
set_option maxRecDepth 20000 in
theorem se_yX12_clashSet : Cond.selects RX12 yX12_clashSet yX12_clashSet ∈ gG := gP9 4 rfl
set_option maxRecDepth 20000 in
theorem cd_X12_clashSet : Cond.code yX12_clashSet cX12_clashSet 4 none ∈ gG := gT8 84 rfl rfl
set_option maxRecDepth 20000 in
theorem ml_X12_463 : Cond.methodLink RX12 463 yX12_clashFrom ∈ gG := gT8 73 rfl rfl
set_option maxRecDepth 20000 in
theorem im_yX12_clashFrom : Cond.instanceMethod yX12_clashFrom ∈ gG := gT8 75 rfl rfl
set_option maxRecDepth 20000 in
theorem se_yX12_clashFrom : Cond.selects RX12 yX12_clashFrom yX12_clashFrom ∈ gG := gP9 2 rfl
set_option maxRecDepth 20000 in
theorem cd_X12_clashFrom : Cond.code yX12_clashFrom cX12_clashFrom 7 none ∈ gG := gT8 76 rfl rfl
set_option maxRecDepth 20000 in
theorem fl_X12_87 : Cond.fieldLink RX12 87 "SameAfterModel" "deal" "[I" ∈ gG := gT6 38 rfl rfl
set_option maxRecDepth 20000 in
theorem ml_X12_466 : Cond.methodLink RX12 466 yX12_deals ∈ gG := gT8 97 rfl rfl
set_option maxRecDepth 20000 in
theorem im_yX12_deals : Cond.instanceMethod yX12_deals ∈ gG := gT8 99 rfl rfl
set_option maxRecDepth 20000 in
theorem se_yX12_deals : Cond.selects RX12 yX12_deals yX12_deals ∈ gG := gP9 8 rfl
set_option maxRecDepth 20000 in
theorem cd_X12_deals : Cond.code yX12_deals cX12_deals 9 (some .boolean) ∈ gG := gT8 100 rfl rfl
set_option maxRecDepth 20000 in
theorem ml_X12_469 : Cond.methodLink RX12 469 yX12_timesOf ∈ gG := gT8 93 rfl rfl
set_option maxRecDepth 20000 in
theorem im_yX12_timesOf : Cond.instanceMethod yX12_timesOf ∈ gG := gT8 95 rfl rfl
set_option maxRecDepth 20000 in
theorem se_yX12_timesOf : Cond.selects RX12 yX12_timesOf yX12_timesOf ∈ gG := gP9 7 rfl
set_option maxRecDepth 20000 in
theorem cd_X12_timesOf : Cond.code yX12_timesOf cX12_timesOf 6 (some .int) ∈ gG := gT8 96 rfl rfl
set_option maxRecDepth 20000 in
theorem ml_X12_472 : Cond.methodLink RX12 472 yX12_clashIn ∈ gG := gT8 69 rfl rfl
set_option maxRecDepth 20000 in
theorem im_yX12_clashIn : Cond.instanceMethod yX12_clashIn ∈ gG := gT8 71 rfl rfl
set_option maxRecDepth 20000 in
theorem se_yX12_clashIn : Cond.selects RX12 yX12_clashIn yX12_clashIn ∈ gG := gP9 1 rfl
set_option maxRecDepth 20000 in
theorem cd_X12_clashIn : Cond.code yX12_clashIn cX12_clashIn 3 none ∈ gG := gT8 72 rfl rfl
set_option maxRecDepth 20000 in
theorem ml_X12_475 : Cond.methodLink RX12 475 yX12_inRow ∈ gG := gT8 85 rfl rfl
set_option maxRecDepth 20000 in
theorem im_yX12_inRow : Cond.instanceMethod yX12_inRow ∈ gG := gT8 87 rfl rfl
set_option maxRecDepth 20000 in
theorem se_yX12_inRow : Cond.selects RX12 yX12_inRow yX12_inRow ∈ gG := gP9 5 rfl
set_option maxRecDepth 20000 in
theorem cd_X12_inRow : Cond.code yX12_inRow cX12_inRow 3 (some .int) ∈ gG := gT8 88 rfl rfl
set_option maxRecDepth 20000 in
theorem ml_X12_481 : Cond.methodLink RX12 481 yX12_enough ∈ gG := gT8 101 rfl rfl
set_option maxRecDepth 20000 in
theorem im_yX12_enough : Cond.instanceMethod yX12_enough ∈ gG := gT8 103 rfl rfl
set_option maxRecDepth 20000 in
theorem se_yX12_enough : Cond.selects RX12 yX12_enough yX12_enough ∈ gG := gP9 9 rfl
set_option maxRecDepth 20000 in
theorem cd_X12_enough : Cond.code yX12_enough cX12_enough 3 (some .int) ∈ gG := gT8 104 rfl rfl
set_option maxRecDepth 20000 in
theorem ml_X12_478 : Cond.methodLink RX12 478 yX12_spills ∈ gG := gT8 89 rfl rfl
set_option maxRecDepth 20000 in
theorem im_yX12_spills : Cond.instanceMethod yX12_spills ∈ gG := gT8 91 rfl rfl
set_option maxRecDepth 20000 in
theorem se_yX12_spills : Cond.selects RX12 yX12_spills yX12_spills ∈ gG := gP9 6 rfl
set_option maxRecDepth 20000 in
theorem cd_X12_spills : Cond.code yX12_spills cX12_spills 5 (some .int) ∈ gG := gT8 92 rfl rfl
set_option maxRecDepth 20000 in
theorem fl_J0_38 : Cond.fieldLink RJ0 38 "java/lang/String" "COMPACT_STRINGS" "Z" ∈ gG := gT3 41 rfl rfl
set_option maxRecDepth 20000 in
theorem fl_J0_15 : Cond.fieldLink RJ0 15 "java/lang/String" "coder" "B" ∈ gG := gT8 110 rfl rfl
set_option maxRecDepth 20000 in
theorem fl_J0_9 : Cond.fieldLink RJ0 9 "java/lang/String" "value" "[B" ∈ gG := gT8 109 rfl rfl
set_option maxRecDepth 20000 in
theorem ml_J0_335 : Cond.methodLink RJ0 335 yJ0_coder_7d493 ∈ gG := gT3 37 rfl rfl
set_option maxRecDepth 20000 in
theorem im_yJ0_coder_7d493 : Cond.instanceMethod yJ0_coder_7d493 ∈ gG := gT3 38 rfl rfl
set_option maxRecDepth 20000 in
theorem se_yJ0_coder_7d493 : Cond.selects RJ0 yJ0_coder_7d493 yJ0_coder_7d493 ∈ gG := gT3 39 rfl rfl
set_option maxRecDepth 20000 in
theorem cd_J0_coder_7d493 : Cond.code yJ0_coder_7d493 cJ0_coder_7d493 1 (some .byte) ∈ gG := gT3 40 rfl rfl
set_option maxRecDepth 20000 in
theorem fl_J0_1053 : Cond.fieldLink RJ0 1053 "jdk/internal/util/Preconditions" "SIOOBE_FORMATTER" "Ljava/util/function/BiFunction;" ∈ gG := gT3 57 rfl rfl
set_option maxRecDepth 20000 in
theorem ml_J0_1059 : Cond.methodLink RJ0 1059 yJ3_checkIndex_8e157 ∈ gG := gT3 59 rfl rfl
set_option maxRecDepth 20000 in
theorem st_yJ3_checkIndex_8e157 : Cond.static yJ3_checkIndex_8e157 ∈ gG := gT3 60 rfl rfl
set_option maxRecDepth 20000 in
theorem in_J3 : Cond.initialized RJ3 ∈ gG := gT1 17 rfl rfl
set_option maxRecDepth 20000 in
theorem cd_J3_checkIndex_8e157 : Cond.code yJ3_checkIndex_8e157 cJ3_checkIndex_8e157 3 (some .int) ∈ gG := gT3 61 rfl rfl
set_option maxRecDepth 20000 in
theorem ml_J1_9 : Cond.methodLink RJ1 9 yJ0_checkIndex_df160 ∈ gG := gT3 54 rfl rfl
set_option maxRecDepth 20000 in
theorem st_yJ0_checkIndex_df160 : Cond.static yJ0_checkIndex_df160 ∈ gG := gT3 55 rfl rfl
set_option maxRecDepth 20000 in
theorem cd_J0_checkIndex_df160 : Cond.code yJ0_checkIndex_df160 cJ0_checkIndex_df160 2 none ∈ gG := gT3 56 rfl rfl
set_option maxRecDepth 20000 in
theorem ml_J0_492 : Cond.methodLink RJ0 492 yJ0_isLatin1_aae02 ∈ gG := gT3 47 rfl rfl
set_option maxRecDepth 20000 in
theorem im_yJ0_isLatin1_aae02 : Cond.instanceMethod yJ0_isLatin1_aae02 ∈ gG := gT3 48 rfl rfl
set_option maxRecDepth 20000 in
theorem se_yJ0_isLatin1_aae02 : Cond.selects RJ0 yJ0_isLatin1_aae02 yJ0_isLatin1_aae02 ∈ gG := gT3 49 rfl rfl
set_option maxRecDepth 20000 in
theorem cd_J0_isLatin1_aae02 : Cond.code yJ0_isLatin1_aae02 cJ0_isLatin1_aae02 1 (some .boolean) ∈ gG := gT3 50 rfl rfl
set_option maxRecDepth 20000 in
theorem ml_J0_495 : Cond.methodLink RJ0 495 yJ1_charAt_3b067 ∈ gG := gT3 51 rfl rfl
set_option maxRecDepth 20000 in
theorem st_yJ1_charAt_3b067 : Cond.static yJ1_charAt_3b067 ∈ gG := gT3 52 rfl rfl
set_option maxRecDepth 20000 in
theorem in_J1 : Cond.initialized RJ1 ∈ gG := gT1 16 rfl rfl
set_option maxRecDepth 20000 in
theorem cd_J1_charAt_3b067 : Cond.code yJ1_charAt_3b067 cJ1_charAt_3b067 2 (some .char) ∈ gG := gT3 53 rfl rfl
set_option maxRecDepth 20000 in
theorem cs_X12_90 : csS RX12 90 yX12_isIn cX12_isIn 3 (some .boolean) 3 := ⟨gS ml_X12_90 st_yX12_isIn in_X12 cd_X12_isIn, by decide +kernel⟩
set_option maxRecDepth 20000 in
theorem cs_X12_94 : csV RX12 94 RX12 yX12_endOf cX12_endOf 2 (some .int) 1 := ⟨gV ml_X12_94 im_yX12_endOf se_yX12_endOf in_X12 cd_X12_endOf, by decide +kernel⟩
set_option maxRecDepth 20000 in
theorem cs_X12_101 : csV RX12 101 RX12 yX12_body cX12_body 2 (some .int) 1 := ⟨gV ml_X12_101 im_yX12_body se_yX12_body in_X12 cd_X12_body, by decide +kernel⟩
set_option maxRecDepth 20000 in
theorem cs_X12_104 : csV RX12 104 RX12 yX12_behind cX12_behind 3 (some .int) 1 := ⟨gV ml_X12_104 im_yX12_behind se_yX12_behind in_X12 cd_X12_behind, by decide +kernel⟩
set_option maxRecDepth 20000 in
theorem cs_X12_107 : csV RX12 107 RX12 yX12_isLast cX12_isLast 2 (some .boolean) 1 := ⟨gV ml_X12_107 im_yX12_isLast se_yX12_isLast in_X12 cd_X12_isLast, by decide +kernel⟩
set_option maxRecDepth 20000 in
theorem cs_X12_111 : csS RX12 111 yX12_isStatement cX12_isStatement 1 (some .boolean) 1 := ⟨gS ml_X12_111 st_yX12_isStatement in_X12 cd_X12_isStatement, by decide +kernel⟩
set_option maxRecDepth 20000 in
theorem cs_X12_114 : csV RX12 114 RX12 yX12_isPart cX12_isPart 2 (some .boolean) 1 := ⟨gV ml_X12_114 im_yX12_isPart se_yX12_isPart in_X12 cd_X12_isPart, by decide +kernel⟩
set_option maxRecDepth 20000 in
theorem cs_X12_120 : csV RX12 120 RX12 yX12_write cX12_write 2 none 1 := ⟨gV ml_X12_120 im_yX12_write se_yX12_write in_X12 cd_X12_write, by decide +kernel⟩
set_option maxRecDepth 20000 in
theorem cs_X12_133 : csV RX12 133 RJ0 yJ0_length_8abf5 cJ0_length_8abf5 1 (some .int) 0 := ⟨gV ml_X12_133 im_yJ0_length_8abf5 se_yJ0_length_8abf5 in_J0 cd_J0_length_8abf5, by decide +kernel⟩
set_option maxRecDepth 20000 in
theorem cs_X12_139 : csV RX12 139 RJ0 yJ0_charAt_5068e cJ0_charAt_5068e 2 (some .char) 1 := ⟨gV ml_X12_139 im_yJ0_charAt_5068e se_yJ0_charAt_5068e in_J0 cd_J0_charAt_5068e, by decide +kernel⟩
set_option maxRecDepth 20000 in
theorem cs_X12_149 : csV RX12 149 RX12 yX12_is cX12_is 4 (some .boolean) 1 := ⟨gV ml_X12_149 im_yX12_is se_yX12_is in_X12 cd_X12_is, by decide +kernel⟩
set_option maxRecDepth 20000 in
theorem cs_X12_161 : csV RX12 161 RX12 yX12_see cX12_see 2 (some .int) 1 := ⟨gV ml_X12_161 im_yX12_see se_yX12_see in_X12 cd_X12_see, by decide +kernel⟩
set_option maxRecDepth 20000 in
theorem cs_X12_167 : csS RX12 167 yX12_isLetter cX12_isLetter 1 (some .boolean) 1 := ⟨gS ml_X12_167 st_yX12_isLetter in_X12 cd_X12_isLetter, by decide +kernel⟩
set_option maxRecDepth 20000 in
theorem cs_X12_173 : csS RX12 173 yX12_isDigit cX12_isDigit 1 (some .boolean) 1 := ⟨gS ml_X12_173 st_yX12_isDigit in_X12 cd_X12_isDigit, by decide +kernel⟩
set_option maxRecDepth 20000 in
theorem cs_X12_170 : csV RX12 170 RX12 yX12_word cX12_word 2 (some .int) 0 := ⟨gV ml_X12_170 im_yX12_word se_yX12_word in_X12 cd_X12_word, by decide +kernel⟩
set_option maxRecDepth 20000 in
theorem cs_X12_188 : csV RX12 188 RX12 yX12_next0 cX12_next0 3 none 0 := ⟨gV ml_X12_188 im_yX12_next0 se_yX12_next0 in_X12 cd_X12_next0, by decide +kernel⟩
set_option maxRecDepth 20000 in
theorem cs_X12_185 : csV RX12 185 RX12 yX12_bad cX12_bad 2 (some .boolean) 1 := ⟨gV ml_X12_185 im_yX12_bad se_yX12_bad in_X12 cd_X12_bad, by decide +kernel⟩
set_option maxRecDepth 20000 in
theorem cs_X12_194 : csV RX12 194 RX12 yX12_need cX12_need 2 (some .boolean) 1 := ⟨gV ml_X12_194 im_yX12_need se_yX12_need in_X12 cd_X12_need, by decide +kernel⟩
set_option maxRecDepth 20000 in
theorem cs_X12_203 : csV RX12 203 RX12 yX12_product cX12_product 2 (some .boolean) 0 := ⟨gV ml_X12_203 im_yX12_product se_yX12_product in_X12 cd_X12_product, by decide +kernel⟩
set_option maxRecDepth 20000 in
theorem cs_X12_206 : csV RX12 206 RX12 yX12_counts cX12_counts 1 (some .boolean) 0 := ⟨gV ml_X12_206 im_yX12_counts se_yX12_counts in_X12 cd_X12_counts, by decide +kernel⟩
set_option maxRecDepth 20000 in
theorem cs_X12_209 : csV RX12 209 RX12 yX12_ahead cX12_ahead 4 none 2 := ⟨gV ml_X12_209 im_yX12_ahead se_yX12_ahead in_X12 cd_X12_ahead, by decide +kernel⟩
set_option maxRecDepth 20000 in
theorem cs_X12_213 : csV RX12 213 RX12 yX12_unit cX12_unit 3 (some .boolean) 0 := ⟨gV ml_X12_213 im_yX12_unit se_yX12_unit in_X12 cd_X12_unit, by decide +kernel⟩
set_option maxRecDepth 20000 in
theorem cs_X12_216 : csV RX12 216 RX12 yX12_opens cX12_opens 2 (some .boolean) 1 := ⟨gV ml_X12_216 im_yX12_opens se_yX12_opens in_X12 cd_X12_opens, by decide +kernel⟩
set_option maxRecDepth 20000 in
theorem cs_X12_219 : csV RX12 219 RX12 yX12_sumUp cX12_sumUp 3 (some .boolean) 0 := ⟨gV ml_X12_219 im_yX12_sumUp se_yX12_sumUp in_X12 cd_X12_sumUp, by decide +kernel⟩
set_option maxRecDepth 20000 in
theorem cs_X12_222 : csV RX12 222 RX12 yX12_closes cX12_closes 2 (some .boolean) 1 := ⟨gV ml_X12_222 im_yX12_closes se_yX12_closes in_X12 cd_X12_closes, by decide +kernel⟩
set_option maxRecDepth 20000 in
theorem cs_X12_231 : csV RX12 231 RX12 yX12_statement cX12_statement 3 (some .boolean) 0 := ⟨gV ml_X12_231 im_yX12_statement se_yX12_statement in_X12 cd_X12_statement, by decide +kernel⟩
set_option maxRecDepth 20000 in
theorem cs_X12_240 : csV RX12 240 RX12 yX12_asks cX12_asks 3 (some .boolean) 0 := ⟨gV ml_X12_240 im_yX12_asks se_yX12_asks in_X12 cd_X12_asks, by decide +kernel⟩
set_option maxRecDepth 20000 in
theorem cs_X12_234 : csV RX12 234 RX12 yX12_block cX12_block 1 (some .boolean) 0 := ⟨gV ml_X12_234 im_yX12_block se_yX12_block in_X12 cd_X12_block, by decide +kernel⟩
set_option maxRecDepth 20000 in
theorem cs_X12_243 : csV RX12 243 RX12 yX12_otherwise cX12_otherwise 1 (some .boolean) 0 := ⟨gV ml_X12_243 im_yX12_otherwise se_yX12_otherwise in_X12 cd_X12_otherwise, by decide +kernel⟩
set_option maxRecDepth 20000 in
theorem cs_X12_249 : csS RX12 249 yX12_isSlot cX12_isSlot 1 (some .boolean) 1 := ⟨gS ml_X12_249 st_yX12_isSlot in_X12 cd_X12_isSlot, by decide +kernel⟩
set_option maxRecDepth 20000 in
theorem cs_X12_255 : csV RX12 255 RX12 yX12_begins cX12_begins 3 none 2 := ⟨gV ml_X12_255 im_yX12_begins se_yX12_begins in_X12 cd_X12_begins, by decide +kernel⟩
set_option maxRecDepth 20000 in
theorem cs_X12_252 : csV RX12 252 RX12 yX12_ends cX12_ends 1 none 0 := ⟨gV ml_X12_252 im_yX12_ends se_yX12_ends in_X12 cd_X12_ends, by decide +kernel⟩
set_option maxRecDepth 20000 in
theorem cs_X12_259 : csV RX12 259 RX12 yX12_turns cX12_turns 2 none 0 := ⟨gV ml_X12_259 im_yX12_turns se_yX12_turns in_X12 cd_X12_turns, by decide +kernel⟩
set_option maxRecDepth 20000 in
theorem cs_X12_262 : csV RX12 262 RX12 yX12_puts cX12_puts 3 none 1 := ⟨gV ml_X12_262 im_yX12_puts se_yX12_puts in_X12 cd_X12_puts, by decide +kernel⟩
set_option maxRecDepth 20000 in
theorem cs_X12_265 : csV RX12 265 RX12 yX12_statements cX12_statements 3 (some .int) 0 := ⟨gV ml_X12_265 im_yX12_statements se_yX12_statements in_X12 cd_X12_statements, by decide +kernel⟩
set_option maxRecDepth 20000 in
theorem cs_X12_277 : csV RX12 277 RX12 yX12_liveFrom cX12_liveFrom 3 (some .int) 2 := ⟨gV ml_X12_277 im_yX12_liveFrom se_yX12_liveFrom in_X12 cd_X12_liveFrom, by decide +kernel⟩
set_option maxRecDepth 20000 in
theorem cs_X12_376 : csV RX12 376 RX12 yX12_liveAt cX12_liveAt 7 (some .int) 2 := ⟨gV ml_X12_376 im_yX12_liveAt se_yX12_liveAt in_X12 cd_X12_liveAt, by decide +kernel⟩
set_option maxRecDepth 20000 in
theorem cs_X12_379 : csV RX12 379 RX12 yX12_reads cX12_reads 5 (some .int) 2 := ⟨gV ml_X12_379 im_yX12_reads se_yX12_reads in_X12 cd_X12_reads, by decide +kernel⟩
set_option maxRecDepth 20000 in
theorem cs_X12_309 : csV RX12 309 RX12 yX12_close cX12_close 3 (some .int) 1 := ⟨gV ml_X12_309 im_yX12_close se_yX12_close in_X12 cd_X12_close, by decide +kernel⟩
set_option maxRecDepth 20000 in
theorem cs_X12_271 : csV RX12 271 RX12 yX12_takes cX12_takes 3 none 1 := ⟨gV ml_X12_271 im_yX12_takes se_yX12_takes in_X12 cd_X12_takes, by decide +kernel⟩
set_option maxRecDepth 20000 in
theorem cs_X12_274 : csV RX12 274 RX12 yX12_parts cX12_parts 3 (some .int) 0 := ⟨gV ml_X12_274 im_yX12_parts se_yX12_parts in_X12 cd_X12_parts, by decide +kernel⟩
set_option maxRecDepth 20000 in
theorem cs_X12_284 : csV RX12 284 RX12 yX12_worth cX12_worth 3 (some .int) 0 := ⟨gV ml_X12_284 im_yX12_worth se_yX12_worth in_X12 cd_X12_worth, by decide +kernel⟩
set_option maxRecDepth 20000 in
theorem cs_X12_287 : csS RX12 287 yX12_both cX12_both 3 (some .int) 3 := ⟨gS ml_X12_287 st_yX12_both in_X12 cd_X12_both, by decide +kernel⟩
set_option maxRecDepth 20000 in
theorem cs_X12_297 : csV RX12 297 RX12 yX12_doesOne cX12_doesOne 4 (some .boolean) 1 := ⟨gV ml_X12_297 im_yX12_doesOne se_yX12_doesOne in_X12 cd_X12_doesOne, by decide +kernel⟩
set_option maxRecDepth 20000 in
theorem cs_X12_300 : csV RX12 300 RX12 yX12_step cX12_step 1 (some .boolean) 0 := ⟨gV ml_X12_300 im_yX12_step se_yX12_step in_X12 cd_X12_step, by decide +kernel⟩
set_option maxRecDepth 20000 in
theorem cs_X12_303 : csV RX12 303 RX12 yX12_isSo cX12_isSo 5 (some .boolean) 1 := ⟨gV ml_X12_303 im_yX12_isSo se_yX12_isSo in_X12 cd_X12_isSo, by decide +kernel⟩
set_option maxRecDepth 20000 in
theorem cs_X12_306 : csV RX12 306 RX12 yX12_does cX12_does 3 (some .boolean) 1 := ⟨gV ml_X12_306 im_yX12_does se_yX12_does in_X12 cd_X12_does, by decide +kernel⟩
set_option maxRecDepth 20000 in
theorem cs_X12_315 : csV RX12 315 RX12 yX12_runs cX12_runs 4 none 2 := ⟨gV ml_X12_315 im_yX12_runs se_yX12_runs in_X12 cd_X12_runs, by decide +kernel⟩
set_option maxRecDepth 20000 in
theorem cs_X12_330 : csV RX12 330 RX12 yX12_keeps cX12_keeps 3 none 0 := ⟨gV ml_X12_330 im_yX12_keeps se_yX12_keeps in_X12 cd_X12_keeps, by decide +kernel⟩
set_option maxRecDepth 20000 in
theorem cs_X12_333 : csV RX12 333 RX12 yX12_compares cX12_compares 5 none 0 := ⟨gV ml_X12_333 im_yX12_compares se_yX12_compares in_X12 cd_X12_compares, by decide +kernel⟩
set_option maxRecDepth 20000 in
theorem cs_X12_336 : csV RX12 336 RX12 yX12_ruleWorth cX12_ruleWorth 4 (some .int) 1 := ⟨gV ml_X12_336 im_yX12_ruleWorth se_yX12_ruleWorth in_X12 cd_X12_ruleWorth, by decide +kernel⟩
set_option maxRecDepth 20000 in
theorem cs_X12_339 : csV RX12 339 RX12 yX12_forms cX12_forms 5 none 2 := ⟨gV ml_X12_339 im_yX12_forms se_yX12_forms in_X12 cd_X12_forms, by decide +kernel⟩
set_option maxRecDepth 20000 in
theorem cs_X12_342 : csV RX12 342 RX12 yX12_products cX12_products 6 none 1 := ⟨gV ml_X12_342 im_yX12_products se_yX12_products in_X12 cd_X12_products, by decide +kernel⟩
set_option maxRecDepth 20000 in
theorem cs_X12_348 : csV RX12 348 RX12 yX12_sameForms cX12_sameForms 3 (some .int) 1 := ⟨gV ml_X12_348 im_yX12_sameForms se_yX12_sameForms in_X12 cd_X12_sameForms, by decide +kernel⟩
set_option maxRecDepth 20000 in
theorem cs_X12_351 : csV RX12 351 RX12 yX12_isAlike cX12_isAlike 3 (some .boolean) 1 := ⟨gV ml_X12_351 im_yX12_isAlike se_yX12_isAlike in_X12 cd_X12_isAlike, by decide +kernel⟩
set_option maxRecDepth 20000 in
theorem cs_X12_361 : csV RX12 361 RX12 yX12_fits cX12_fits 5 (some .boolean) 2 := ⟨gV ml_X12_361 im_yX12_fits se_yX12_fits in_X12 cd_X12_fits, by decide +kernel⟩
set_option maxRecDepth 20000 in
theorem cs_X12_357 : csV RX12 357 RX12 yX12_sameParts cX12_sameParts 6 (some .boolean) 2 := ⟨gV ml_X12_357 im_yX12_sameParts se_yX12_sameParts in_X12 cd_X12_sameParts, by decide +kernel⟩
set_option maxRecDepth 20000 in
theorem cs_X12_364 : csV RX12 364 RX12 yX12_matches cX12_matches 4 (some .boolean) 2 := ⟨gV ml_X12_364 im_yX12_matches se_yX12_matches in_X12 cd_X12_matches, by decide +kernel⟩
set_option maxRecDepth 20000 in
theorem cs_X12_367 : csV RX12 367 RX12 yX12_writes cX12_writes 4 none 2 := ⟨gV ml_X12_367 im_yX12_writes se_yX12_writes in_X12 cd_X12_writes, by decide +kernel⟩
set_option maxRecDepth 20000 in
theorem cs_X12_370 : csV RX12 370 RX12 yX12_match cX12_match 5 (some .int) 2 := ⟨gV ml_X12_370 im_yX12_match se_yX12_match in_X12 cd_X12_match, by decide +kernel⟩
set_option maxRecDepth 20000 in
theorem cs_X12_373 : csV RX12 373 RX12 yX12_applies cX12_applies 6 (some .boolean) 2 := ⟨gV ml_X12_373 im_yX12_applies se_yX12_applies in_X12 cd_X12_applies, by decide +kernel⟩
set_option maxRecDepth 20000 in
theorem cs_X12_385 : csV RX12 385 RX12 yX12_drops cX12_drops 2 none 1 := ⟨gV ml_X12_385 im_yX12_drops se_yX12_drops in_X12 cd_X12_drops, by decide +kernel⟩
set_option maxRecDepth 20000 in
theorem cs_X12_388 : csV RX12 388 RX12 yX12_marks cX12_marks 7 none 2 := ⟨gV ml_X12_388 im_yX12_marks se_yX12_marks in_X12 cd_X12_marks, by decide +kernel⟩
set_option maxRecDepth 20000 in
theorem cs_X12_391 : csV RX12 391 RX12 yX12_copies cX12_copies 4 none 1 := ⟨gV ml_X12_391 im_yX12_copies se_yX12_copies in_X12 cd_X12_copies, by decide +kernel⟩
set_option maxRecDepth 20000 in
theorem cs_X12_394 : csV RX12 394 RX12 yX12_clears cX12_clears 2 none 0 := ⟨gV ml_X12_394 im_yX12_clears se_yX12_clears in_X12 cd_X12_clears, by decide +kernel⟩
set_option maxRecDepth 20000 in
theorem cs_X12_397 : csV RX12 397 RX12 yX12_marksHasty cX12_marksHasty 2 none 0 := ⟨gV ml_X12_397 im_yX12_marksHasty se_yX12_marksHasty in_X12 cd_X12_marksHasty, by decide +kernel⟩
set_option maxRecDepth 20000 in
theorem cs_X12_400 : csV RX12 400 RX12 yX12_folds cX12_folds 5 (some .boolean) 1 := ⟨gV ml_X12_400 im_yX12_folds se_yX12_folds in_X12 cd_X12_folds, by decide +kernel⟩
set_option maxRecDepth 20000 in
theorem cs_X12_403 : csV RX12 403 RX12 yX12_foldOne cX12_foldOne 10 none 1 := ⟨gV ml_X12_403 im_yX12_foldOne se_yX12_foldOne in_X12 cd_X12_foldOne, by decide +kernel⟩
set_option maxRecDepth 20000 in
theorem cs_X12_406 : csV RX12 406 RX12 yX12_foldAll cX12_foldAll 3 none 1 := ⟨gV ml_X12_406 im_yX12_foldAll se_yX12_foldAll in_X12 cd_X12_foldAll, by decide +kernel⟩
set_option maxRecDepth 20000 in
theorem cs_X12_409 : csV RX12 409 RX12 yX12_sets cX12_sets 6 (some .boolean) 3 := ⟨gV ml_X12_409 im_yX12_sets se_yX12_sets in_X12 cd_X12_sets, by decide +kernel⟩
set_option maxRecDepth 20000 in
theorem cs_X12_412 : csV RX12 412 RX12 yX12_replaces cX12_replaces 6 none 4 := ⟨gV ml_X12_412 im_yX12_replaces se_yX12_replaces in_X12 cd_X12_replaces, by decide +kernel⟩
set_option maxRecDepth 20000 in
theorem cs_X12_416 : csV RX12 416 RX12 yX12_copyFrom cX12_copyFrom 6 none 3 := ⟨gV ml_X12_416 im_yX12_copyFrom se_yX12_copyFrom in_X12 cd_X12_copyFrom, by decide +kernel⟩
set_option maxRecDepth 20000 in
theorem cs_X12_420 : csV RX12 420 RX12 yX12_unrolls cX12_unrolls 4 none 1 := ⟨gV ml_X12_420 im_yX12_unrolls se_yX12_unrolls in_X12 cd_X12_unrolls, by decide +kernel⟩
set_option maxRecDepth 20000 in
theorem cs_X12_423 : csS RX12 423 yX12_isPass cX12_isPass 1 (some .boolean) 1 := ⟨gS ml_X12_423 st_yX12_isPass in_X12 cd_X12_isPass, by decide +kernel⟩
set_option maxRecDepth 20000 in
theorem cs_X12_426 : csV RX12 426 RX12 yX12_again cX12_again 4 (some .boolean) 1 := ⟨gV ml_X12_426 im_yX12_again se_yX12_again in_X12 cd_X12_again, by decide +kernel⟩
set_option maxRecDepth 20000 in
theorem cs_X12_429 : csV RX12 429 RX12 yX12_dead cX12_dead 2 none 1 := ⟨gV ml_X12_429 im_yX12_dead se_yX12_dead in_X12 cd_X12_dead, by decide +kernel⟩
set_option maxRecDepth 20000 in
theorem cs_X12_433 : csV RX12 433 RX12 yX12_hastyCopy cX12_hastyCopy 4 none 0 := ⟨gV ml_X12_433 im_yX12_hastyCopy se_yX12_hastyCopy in_X12 cd_X12_hastyCopy, by decide +kernel⟩
set_option maxRecDepth 20000 in
theorem cs_X12_436 : csV RX12 436 RX12 yX12_isSmall cX12_isSmall 1 (some .boolean) 0 := ⟨gV ml_X12_436 im_yX12_isSmall se_yX12_isSmall in_X12 cd_X12_isSmall, by decide +kernel⟩
set_option maxRecDepth 20000 in
theorem cs_X12_439 : csV RX12 439 RX12 yX12_makes cX12_makes 4 (some .boolean) 1 := ⟨gV ml_X12_439 im_yX12_makes se_yX12_makes in_X12 cd_X12_makes, by decide +kernel⟩
set_option maxRecDepth 20000 in
theorem cs_X12_445 : csV RX12 445 RX12 yX12_takesWhole cX12_takesWhole 2 none 0 := ⟨gV ml_X12_445 im_yX12_takesWhole se_yX12_takesWhole in_X12 cd_X12_takesWhole, by decide +kernel⟩
set_option maxRecDepth 20000 in
theorem cs_X12_448 : csV RX12 448 RX12 yX12_isWrong cX12_isWrong 2 (some .boolean) 1 := ⟨gV ml_X12_448 im_yX12_isWrong se_yX12_isWrong in_X12 cd_X12_isWrong, by decide +kernel⟩
set_option maxRecDepth 20000 in
theorem cs_X12_451 : csV RX12 451 RX12 yX12_keepsWhole cX12_keepsWhole 2 none 0 := ⟨gV ml_X12_451 im_yX12_keepsWhole se_yX12_keepsWhole in_X12 cd_X12_keepsWhole, by decide +kernel⟩
set_option maxRecDepth 20000 in
theorem cs_X12_454 : csV RX12 454 RX12 yX12_cutsOne cX12_cutsOne 5 (some .boolean) 1 := ⟨gV ml_X12_454 im_yX12_cutsOne se_yX12_cutsOne in_X12 cd_X12_cutsOne, by decide +kernel⟩
set_option maxRecDepth 20000 in
theorem cs_X12_457 : csV RX12 457 RX12 yX12_clashAll cX12_clashAll 3 none 1 := ⟨gV ml_X12_457 im_yX12_clashAll se_yX12_clashAll in_X12 cd_X12_clashAll, by decide +kernel⟩
set_option maxRecDepth 20000 in
theorem cs_X12_460 : csV RX12 460 RX12 yX12_clashSet cX12_clashSet 4 none 2 := ⟨gV ml_X12_460 im_yX12_clashSet se_yX12_clashSet in_X12 cd_X12_clashSet, by decide +kernel⟩
set_option maxRecDepth 20000 in
theorem cs_X12_463 : csV RX12 463 RX12 yX12_clashFrom cX12_clashFrom 7 none 2 := ⟨gV ml_X12_463 im_yX12_clashFrom se_yX12_clashFrom in_X12 cd_X12_clashFrom, by decide +kernel⟩
set_option maxRecDepth 20000 in
theorem cs_X12_466 : csV RX12 466 RX12 yX12_deals cX12_deals 9 (some .boolean) 2 := ⟨gV ml_X12_466 im_yX12_deals se_yX12_deals in_X12 cd_X12_deals, by decide +kernel⟩
set_option maxRecDepth 20000 in
theorem cs_X12_469 : csV RX12 469 RX12 yX12_timesOf cX12_timesOf 6 (some .int) 1 := ⟨gV ml_X12_469 im_yX12_timesOf se_yX12_timesOf in_X12 cd_X12_timesOf, by decide +kernel⟩
set_option maxRecDepth 20000 in
theorem cs_X12_472 : csV RX12 472 RX12 yX12_clashIn cX12_clashIn 3 none 1 := ⟨gV ml_X12_472 im_yX12_clashIn se_yX12_clashIn in_X12 cd_X12_clashIn, by decide +kernel⟩
set_option maxRecDepth 20000 in
theorem cs_X12_475 : csV RX12 475 RX12 yX12_inRow cX12_inRow 3 (some .int) 0 := ⟨gV ml_X12_475 im_yX12_inRow se_yX12_inRow in_X12 cd_X12_inRow, by decide +kernel⟩
set_option maxRecDepth 20000 in
theorem cs_X12_481 : csV RX12 481 RX12 yX12_enough cX12_enough 3 (some .int) 1 := ⟨gV ml_X12_481 im_yX12_enough se_yX12_enough in_X12 cd_X12_enough, by decide +kernel⟩
set_option maxRecDepth 20000 in
theorem cs_X12_478 : csV RX12 478 RX12 yX12_spills cX12_spills 5 (some .int) 2 := ⟨gV ml_X12_478 im_yX12_spills se_yX12_spills in_X12 cd_X12_spills, by decide +kernel⟩
set_option maxRecDepth 20000 in
theorem cs_J0_335 : csV RJ0 335 RJ0 yJ0_coder_7d493 cJ0_coder_7d493 1 (some .byte) 0 := ⟨gV ml_J0_335 im_yJ0_coder_7d493 se_yJ0_coder_7d493 in_J0 cd_J0_coder_7d493, by decide +kernel⟩
set_option maxRecDepth 20000 in
theorem cs_J0_1059 : csS RJ0 1059 yJ3_checkIndex_8e157 cJ3_checkIndex_8e157 3 (some .int) 3 := ⟨gS ml_J0_1059 st_yJ3_checkIndex_8e157 in_J3 cd_J3_checkIndex_8e157, by decide +kernel⟩
set_option maxRecDepth 20000 in
theorem cs_J1_9 : csS RJ1 9 yJ0_checkIndex_df160 cJ0_checkIndex_df160 2 none 2 := ⟨gS ml_J1_9 st_yJ0_checkIndex_df160 in_J0 cd_J0_checkIndex_df160, by decide +kernel⟩
set_option maxRecDepth 20000 in
theorem cs_J0_492 : csV RJ0 492 RJ0 yJ0_isLatin1_aae02 cJ0_isLatin1_aae02 1 (some .boolean) 0 := ⟨gV ml_J0_492 im_yJ0_isLatin1_aae02 se_yJ0_isLatin1_aae02 in_J0 cd_J0_isLatin1_aae02, by decide +kernel⟩
set_option maxRecDepth 20000 in
theorem cs_J0_495 : csS RJ0 495 yJ1_charAt_3b067 cJ1_charAt_3b067 2 (some .char) 2 := ⟨gS ml_J0_495 st_yJ1_charAt_3b067 in_J1 cd_J1_charAt_3b067, by decide +kernel⟩
