set_option maxRecDepth 20000 in
theorem inX0 : ∀ w ∈ wsX00, w ∈ gG := List.forall_mem_cons.mpr ⟨gT2 82 rfl rfl, List.forall_mem_cons.mpr ⟨gT2 84 rfl rfl, fun _ h => absurd h List.not_mem_nil⟩⟩
theorem KX0 : clsOK 0 RX0 TX0 2 tyX0 := ⟨rfl, inX0, tyX0_ok, nmX0⟩
set_option maxRecDepth 20000 in
theorem inX1 : ∀ w ∈ wsX10, w ∈ gG := List.forall_mem_cons.mpr ⟨gT1 186 rfl rfl, List.forall_mem_cons.mpr ⟨gT1 188 rfl rfl, List.forall_mem_cons.mpr ⟨gT1 190 rfl rfl, List.forall_mem_cons.mpr ⟨gT1 192 rfl rfl, List.forall_mem_cons.mpr ⟨gT1 194 rfl rfl, List.forall_mem_cons.mpr ⟨gT1 196 rfl rfl, List.forall_mem_cons.mpr ⟨gT1 198 rfl rfl, List.forall_mem_cons.mpr ⟨gT1 200 rfl rfl, List.forall_mem_cons.mpr ⟨gT1 202 rfl rfl, List.forall_mem_cons.mpr ⟨gT1 204 rfl rfl, List.forall_mem_cons.mpr ⟨gT1 206 rfl rfl, List.forall_mem_cons.mpr ⟨gT1 208 rfl rfl, List.forall_mem_cons.mpr ⟨gT1 210 rfl rfl, List.forall_mem_cons.mpr ⟨gT1 212 rfl rfl, fun _ h => absurd h List.not_mem_nil⟩⟩⟩⟩⟩⟩⟩⟩⟩⟩⟩⟩⟩⟩
theorem KX1 : clsOK 1 RX1 TX1 14 tyX1 := ⟨rfl, inX1, tyX1_ok, nmX1⟩
set_option maxRecDepth 20000 in
theorem inX2 : ∀ w ∈ wsX20, w ∈ gG := List.forall_mem_cons.mpr ⟨gT2 107 rfl rfl, List.forall_mem_cons.mpr ⟨gT2 109 rfl rfl, List.forall_mem_cons.mpr ⟨gT2 111 rfl rfl, List.forall_mem_cons.mpr ⟨gT2 113 rfl rfl, List.forall_mem_cons.mpr ⟨gT2 115 rfl rfl, List.forall_mem_cons.mpr ⟨gT2 117 rfl rfl, fun _ h => absurd h List.not_mem_nil⟩⟩⟩⟩⟩⟩
theorem KX2 : clsOK 2 RX2 TX2 6 tyX2 := ⟨rfl, inX2, tyX2_ok, nmX2⟩
set_option maxRecDepth 20000 in
theorem inX3 : ∀ w ∈ wsX30, w ∈ gG := List.forall_mem_cons.mpr ⟨gT1 226 rfl rfl, List.forall_mem_cons.mpr ⟨gT1 228 rfl rfl, List.forall_mem_cons.mpr ⟨gT1 230 rfl rfl, List.forall_mem_cons.mpr ⟨gT1 232 rfl rfl, List.forall_mem_cons.mpr ⟨gT1 234 rfl rfl, List.forall_mem_cons.mpr ⟨gT1 236 rfl rfl, List.forall_mem_cons.mpr ⟨gT1 238 rfl rfl, fun _ h => absurd h List.not_mem_nil⟩⟩⟩⟩⟩⟩⟩
theorem KX3 : clsOK 3 RX3 TX3 7 tyX3 := ⟨rfl, inX3, tyX3_ok, nmX3⟩
set_option maxRecDepth 20000 in
theorem inX4 : ∀ w ∈ wsX40, w ∈ gG := List.forall_mem_cons.mpr ⟨gT2 135 rfl rfl, List.forall_mem_cons.mpr ⟨gT2 137 rfl rfl, List.forall_mem_cons.mpr ⟨gT2 139 rfl rfl, List.forall_mem_cons.mpr ⟨gT2 141 rfl rfl, List.forall_mem_cons.mpr ⟨gT2 143 rfl rfl, List.forall_mem_cons.mpr ⟨gT2 145 rfl rfl, List.forall_mem_cons.mpr ⟨gT2 147 rfl rfl, List.forall_mem_cons.mpr ⟨gT2 149 rfl rfl, List.forall_mem_cons.mpr ⟨gT2 151 rfl rfl, List.forall_mem_cons.mpr ⟨gT2 153 rfl rfl, fun _ h => absurd h List.not_mem_nil⟩⟩⟩⟩⟩⟩⟩⟩⟩⟩
theorem KX4 : clsOK 4 RX4 TX4 10 tyX4 := ⟨rfl, inX4, tyX4_ok, nmX4⟩
set_option maxRecDepth 20000 in
theorem inX5 : ∀ w ∈ wsX50, w ∈ gG := List.forall_mem_cons.mpr ⟨gT2 18 rfl rfl, List.forall_mem_cons.mpr ⟨gT2 20 rfl rfl, List.forall_mem_cons.mpr ⟨gT2 22 rfl rfl, List.forall_mem_cons.mpr ⟨gT2 24 rfl rfl, List.forall_mem_cons.mpr ⟨gT2 26 rfl rfl, List.forall_mem_cons.mpr ⟨gT2 28 rfl rfl, List.forall_mem_cons.mpr ⟨gT2 30 rfl rfl, fun _ h => absurd h List.not_mem_nil⟩⟩⟩⟩⟩⟩⟩
theorem KX5 : clsOK 5 RX5 TX5 7 tyX5 := ⟨rfl, inX5, tyX5_ok, nmX5⟩
set_option maxRecDepth 20000 in
theorem inX6 : ∀ w ∈ wsX60, w ∈ gG := List.forall_mem_cons.mpr ⟨gT1 111 rfl rfl, List.forall_mem_cons.mpr ⟨gT1 113 rfl rfl, List.forall_mem_cons.mpr ⟨gT1 115 rfl rfl, List.forall_mem_cons.mpr ⟨gT1 117 rfl rfl, List.forall_mem_cons.mpr ⟨gT1 119 rfl rfl, List.forall_mem_cons.mpr ⟨gT1 121 rfl rfl, List.forall_mem_cons.mpr ⟨gT1 123 rfl rfl, List.forall_mem_cons.mpr ⟨gT1 125 rfl rfl, List.forall_mem_cons.mpr ⟨gT1 127 rfl rfl, List.forall_mem_cons.mpr ⟨gT1 129 rfl rfl, List.forall_mem_cons.mpr ⟨gT1 131 rfl rfl, List.forall_mem_cons.mpr ⟨gT1 133 rfl rfl, List.forall_mem_cons.mpr ⟨gT1 135 rfl rfl, List.forall_mem_cons.mpr ⟨gT1 137 rfl rfl, List.forall_mem_cons.mpr ⟨gT1 139 rfl rfl, List.forall_mem_cons.mpr ⟨gT1 141 rfl rfl, List.forall_mem_cons.mpr ⟨gT1 143 rfl rfl, fun _ h => absurd h List.not_mem_nil⟩⟩⟩⟩⟩⟩⟩⟩⟩⟩⟩⟩⟩⟩⟩⟩⟩
theorem KX6 : clsOK 6 RX6 TX6 17 tyX6 := ⟨rfl, inX6, tyX6_ok, nmX6⟩
set_option maxRecDepth 20000 in
theorem inX7 : ∀ w ∈ wsX70, w ∈ gG := List.forall_mem_cons.mpr ⟨gT2 169 rfl rfl, List.forall_mem_cons.mpr ⟨gT2 171 rfl rfl, List.forall_mem_cons.mpr ⟨gT2 173 rfl rfl, List.forall_mem_cons.mpr ⟨gT2 175 rfl rfl, List.forall_mem_cons.mpr ⟨gT2 177 rfl rfl, fun _ h => absurd h List.not_mem_nil⟩⟩⟩⟩⟩
theorem KX7 : clsOK 7 RX7 TX7 5 tyX7 := ⟨rfl, inX7, tyX7_ok, nmX7⟩
set_option maxRecDepth 20000 in
theorem inX8 : ∀ w ∈ wsX80, w ∈ gG := List.forall_mem_cons.mpr ⟨gT1 48 rfl rfl, List.forall_mem_cons.mpr ⟨gT1 50 rfl rfl, fun _ h => absurd h List.not_mem_nil⟩⟩
theorem KX8 : clsOK 8 RX8 TX8 2 tyX8 := ⟨rfl, inX8, tyX8_ok, nmX8⟩
set_option maxRecDepth 20000 in
theorem inX9 : ∀ w ∈ wsX90, w ∈ gG := List.forall_mem_cons.mpr ⟨gT2 57 rfl rfl, List.forall_mem_cons.mpr ⟨gT2 59 rfl rfl, List.forall_mem_cons.mpr ⟨gT2 61 rfl rfl, List.forall_mem_cons.mpr ⟨gT2 63 rfl rfl, List.forall_mem_cons.mpr ⟨gT2 65 rfl rfl, fun _ h => absurd h List.not_mem_nil⟩⟩⟩⟩⟩
theorem KX9 : clsOK 9 RX9 TX9 5 tyX9 := ⟨rfl, inX9, tyX9_ok, nmX9⟩
set_option maxRecDepth 20000 in
theorem inX10 : ∀ w ∈ wsX100, w ∈ gG := List.forall_mem_cons.mpr ⟨gT1 76 rfl rfl, List.forall_mem_cons.mpr ⟨gT1 78 rfl rfl, List.forall_mem_cons.mpr ⟨gT1 80 rfl rfl, List.forall_mem_cons.mpr ⟨gT1 82 rfl rfl, List.forall_mem_cons.mpr ⟨gT1 84 rfl rfl, List.forall_mem_cons.mpr ⟨gT1 86 rfl rfl, fun _ h => absurd h List.not_mem_nil⟩⟩⟩⟩⟩⟩
theorem KX10 : clsOK 10 RX10 TX10 6 tyX10 := ⟨rfl, inX10, tyX10_ok, nmX10⟩
set_option maxRecDepth 20000 in
theorem inX11 : ∀ w ∈ wsX110, w ∈ gG := List.forall_mem_cons.mpr ⟨gT2 188 rfl rfl, List.forall_mem_cons.mpr ⟨gT2 190 rfl rfl, List.forall_mem_cons.mpr ⟨gT2 192 rfl rfl, List.forall_mem_cons.mpr ⟨gT2 194 rfl rfl, List.forall_mem_cons.mpr ⟨gT2 196 rfl rfl, List.forall_mem_cons.mpr ⟨gT2 198 rfl rfl, List.forall_mem_cons.mpr ⟨gT2 200 rfl rfl, List.forall_mem_cons.mpr ⟨gT2 202 rfl rfl, fun _ h => absurd h List.not_mem_nil⟩⟩⟩⟩⟩⟩⟩⟩
theorem KX11 : clsOK 11 RX11 TX11 8 tyX11 := ⟨rfl, inX11, tyX11_ok, nmX11⟩
set_option maxRecDepth 20000 in
theorem inX12 : ∀ w ∈ wsX120, w ∈ gG := List.forall_mem_cons.mpr ⟨gT6 39 rfl rfl, List.forall_mem_cons.mpr ⟨gT6 41 rfl rfl, List.forall_mem_cons.mpr ⟨gT6 43 rfl rfl, List.forall_mem_cons.mpr ⟨gT6 45 rfl rfl, List.forall_mem_cons.mpr ⟨gT6 47 rfl rfl, List.forall_mem_cons.mpr ⟨gT6 49 rfl rfl, List.forall_mem_cons.mpr ⟨gT6 51 rfl rfl, List.forall_mem_cons.mpr ⟨gT6 53 rfl rfl, List.forall_mem_cons.mpr ⟨gT6 55 rfl rfl, List.forall_mem_cons.mpr ⟨gT6 57 rfl rfl, List.forall_mem_cons.mpr ⟨gT6 59 rfl rfl, List.forall_mem_cons.mpr ⟨gT6 61 rfl rfl, List.forall_mem_cons.mpr ⟨gT6 63 rfl rfl, List.forall_mem_cons.mpr ⟨gT6 65 rfl rfl, List.forall_mem_cons.mpr ⟨gT6 67 rfl rfl, List.forall_mem_cons.mpr ⟨gT6 69 rfl rfl, List.forall_mem_cons.mpr ⟨gT6 71 rfl rfl, List.forall_mem_cons.mpr ⟨gT6 73 rfl rfl, List.forall_mem_cons.mpr ⟨gT6 75 rfl rfl, List.forall_mem_cons.mpr ⟨gT6 77 rfl rfl, List.forall_mem_cons.mpr ⟨gT6 79 rfl rfl, List.forall_mem_cons.mpr ⟨gT6 81 rfl rfl, List.forall_mem_cons.mpr ⟨gT6 83 rfl rfl, List.forall_mem_cons.mpr ⟨gT6 85 rfl rfl, List.forall_mem_cons.mpr ⟨gT6 87 rfl rfl, List.forall_mem_cons.mpr ⟨gT6 89 rfl rfl, List.forall_mem_cons.mpr ⟨gT6 91 rfl rfl, List.forall_mem_cons.mpr ⟨gT6 93 rfl rfl, List.forall_mem_cons.mpr ⟨gT6 95 rfl rfl, List.forall_mem_cons.mpr ⟨gT6 97 rfl rfl, List.forall_mem_cons.mpr ⟨gT6 99 rfl rfl, List.forall_mem_cons.mpr ⟨gT6 101 rfl rfl, List.forall_mem_cons.mpr ⟨gT6 103 rfl rfl, List.forall_mem_cons.mpr ⟨gT6 105 rfl rfl, List.forall_mem_cons.mpr ⟨gT6 107 rfl rfl, List.forall_mem_cons.mpr ⟨gT6 109 rfl rfl, List.forall_mem_cons.mpr ⟨gT6 111 rfl rfl, List.forall_mem_cons.mpr ⟨gT6 113 rfl rfl, List.forall_mem_cons.mpr ⟨gT6 115 rfl rfl, List.forall_mem_cons.mpr ⟨gT6 117 rfl rfl, List.forall_mem_cons.mpr ⟨gT6 119 rfl rfl, List.forall_mem_cons.mpr ⟨gT6 121 rfl rfl, List.forall_mem_cons.mpr ⟨gT6 123 rfl rfl, List.forall_mem_cons.mpr ⟨gT6 125 rfl rfl, List.forall_mem_cons.mpr ⟨gT6 127 rfl rfl, List.forall_mem_cons.mpr ⟨gT6 129 rfl rfl, List.forall_mem_cons.mpr ⟨gT6 131 rfl rfl, List.forall_mem_cons.mpr ⟨gT6 133 rfl rfl, List.forall_mem_cons.mpr ⟨gT6 135 rfl rfl, List.forall_mem_cons.mpr ⟨gT6 137 rfl rfl, List.forall_mem_cons.mpr ⟨gT6 139 rfl rfl, List.forall_mem_cons.mpr ⟨gT6 141 rfl rfl, List.forall_mem_cons.mpr ⟨gT6 143 rfl rfl, List.forall_mem_cons.mpr ⟨gT6 145 rfl rfl, List.forall_mem_cons.mpr ⟨gT6 147 rfl rfl, List.forall_mem_cons.mpr ⟨gT6 149 rfl rfl, fun _ h => absurd h List.not_mem_nil⟩⟩⟩⟩⟩⟩⟩⟩⟩⟩⟩⟩⟩⟩⟩⟩⟩⟩⟩⟩⟩⟩⟩⟩⟩⟩⟩⟩⟩⟩⟩⟩⟩⟩⟩⟩⟩⟩⟩⟩⟩⟩⟩⟩⟩⟩⟩⟩⟩⟩⟩⟩⟩⟩⟩⟩
theorem KX12 : clsOK 12 RX12 TX12 56 tyX12 := ⟨rfl, inX12, tyX12_ok, nmX12⟩
set_option maxRecDepth 20000 in
theorem fl_X8_21 : Cond.fieldLink RX8 21 "SameAfter$Row" "length" "I" ∈ gG := gT1 39 rfl rfl
set_option maxRecDepth 20000 in
theorem fl_X8_15 : Cond.fieldLink RX8 15 "SameAfter$Row" "cells" "[I" ∈ gG := gT1 38 rfl rfl
set_option maxRecDepth 20000 in
theorem mlac_X8_25 : Cond.methodLink RX8 25 arraycopyName ∈ gG := gT3 179 rfl rfl
set_option maxRecDepth 20000 in
theorem nat_ac : Cond.native arraycopyName ∈ gG := gT3 181 rfl rfl
set_option maxRecDepth 20000 in
theorem sta_ac : Cond.static arraycopyName ∈ gG := gT3 180 rfl rfl
set_option maxRecDepth 20000 in
theorem ini_sys : Cond.initialized "java/lang/System" ∈ gG := gT1 19 rfl rfl
set_option maxRecDepth 20000 in
theorem ml_X8_31 : Cond.methodLink RX8 31 yX8_addPart ∈ gG := gT3 206 rfl rfl
set_option maxRecDepth 20000 in
theorem im_yX8_addPart : Cond.instanceMethod yX8_addPart ∈ gG := gT3 207 rfl rfl
set_option maxRecDepth 20000 in
theorem se_yX8_addPart : Cond.selects RX8 yX8_addPart yX8_addPart ∈ gG := gT3 208 rfl rfl
set_option maxRecDepth 20000 in
theorem in_X8 : Cond.initialized RX8 ∈ gG := gT1 2 rfl rfl
set_option maxRecDepth 20000 in
theorem cd_X8_addPart : Cond.code yX8_addPart cX8_addPart 5 none ∈ gG := gT3 209 rfl rfl
set_option maxRecDepth 20000 in
theorem ml_X8_35 : Cond.methodLink RX8 35 yX8_isStatement ∈ gG := gT3 214 rfl rfl
set_option maxRecDepth 20000 in
theorem st_yX8_isStatement : Cond.static yX8_isStatement ∈ gG := gT3 215 rfl rfl
set_option maxRecDepth 20000 in
theorem cd_X8_isStatement : Cond.code yX8_isStatement cX8_isStatement 1 (some .boolean) ∈ gG := gT3 216 rfl rfl
set_option maxRecDepth 20000 in
theorem ml_X8_39 : Cond.methodLink RX8 39 yX8_isExpression ∈ gG := gT4 11 rfl rfl
set_option maxRecDepth 20000 in
theorem st_yX8_isExpression : Cond.static yX8_isExpression ∈ gG := gT4 12 rfl rfl
set_option maxRecDepth 20000 in
theorem cd_X8_isExpression : Cond.code yX8_isExpression cX8_isExpression 1 (some .boolean) ∈ gG := gT4 13 rfl rfl
set_option maxRecDepth 20000 in
theorem ml_X8_42 : Cond.methodLink RX8 42 yX8_statements ∈ gG := gT5 123 rfl rfl
set_option maxRecDepth 20000 in
theorem im_yX8_statements : Cond.instanceMethod yX8_statements ∈ gG := gT3 211 rfl rfl
set_option maxRecDepth 20000 in
theorem se_yX8_statements : Cond.selects RX8 yX8_statements yX8_statements ∈ gG := gT3 212 rfl rfl
set_option maxRecDepth 20000 in
theorem cd_X8_statements : Cond.code yX8_statements cX8_statements 3 (some .int) ∈ gG := gT3 213 rfl rfl
set_option maxRecDepth 20000 in
theorem ml_X8_46 : Cond.methodLink RX8 46 yX8_expressions ∈ gG := gT5 124 rfl rfl
set_option maxRecDepth 20000 in
theorem im_yX8_expressions : Cond.instanceMethod yX8_expressions ∈ gG := gT4 8 rfl rfl
set_option maxRecDepth 20000 in
theorem se_yX8_expressions : Cond.selects RX8 yX8_expressions yX8_expressions ∈ gG := gT4 9 rfl rfl
set_option maxRecDepth 20000 in
theorem cd_X8_expressions : Cond.code yX8_expressions cX8_expressions 3 (some .int) ∈ gG := gT4 10 rfl rfl
set_option maxRecDepth 20000 in
theorem ml_X8_9 : Cond.methodLink RX8 9 Lib.Math.max.name ∈ gG := gT1 35 rfl rfl
set_option maxRecDepth 20000 in
theorem st_Lib_Math_max_name : Cond.static Lib.Math.max.name ∈ gG := gT1 36 rfl rfl
set_option maxRecDepth 20000 in
theorem in_J9 : Cond.initialized RJ9 ∈ gG := gT1 3 rfl rfl
set_option maxRecDepth 20000 in
theorem cd_max : Cond.code Lib.Math.max.name Lib.Math.max.code 2 (some .int) ∈ gG := gT1 37 rfl rfl
set_option maxRecDepth 20000 in
theorem ml_X8_49 : Cond.methodLink RX8 49 yX8_isOperation ∈ gG := gT4 83 rfl rfl
set_option maxRecDepth 20000 in
theorem st_yX8_isOperation : Cond.static yX8_isOperation ∈ gG := gT4 84 rfl rfl
set_option maxRecDepth 20000 in
theorem cd_X8_isOperation : Cond.code yX8_isOperation cX8_isOperation 1 (some .boolean) ∈ gG := gT4 85 rfl rfl
set_option maxRecDepth 20000 in
theorem ml_X8_52 : Cond.methodLink RX8 52 yX8_isBranch ∈ gG := gT5 54 rfl rfl
set_option maxRecDepth 20000 in
theorem st_yX8_isBranch : Cond.static yX8_isBranch ∈ gG := gT4 25 rfl rfl
set_option maxRecDepth 20000 in
theorem cd_X8_isBranch : Cond.code yX8_isBranch cX8_isBranch 1 (some .boolean) ∈ gG := gT4 26 rfl rfl
set_option maxRecDepth 20000 in
theorem ml_X8_55 : Cond.methodLink RX8 55 yX8_cell ∈ gG := gT5 97 rfl rfl
set_option maxRecDepth 20000 in
theorem im_yX8_cell : Cond.instanceMethod yX8_cell ∈ gG := gT3 191 rfl rfl
set_option maxRecDepth 20000 in
theorem se_yX8_cell : Cond.selects RX8 yX8_cell yX8_cell ∈ gG := gT3 192 rfl rfl
set_option maxRecDepth 20000 in
theorem cd_X8_cell : Cond.code yX8_cell cX8_cell 2 (some .int) ∈ gG := gT3 193 rfl rfl
set_option maxRecDepth 20000 in
theorem ml_X8_62 : Cond.methodLink RX8 62 yX8_expressionEnd ∈ gG := gT5 99 rfl rfl
set_option maxRecDepth 20000 in
theorem im_yX8_expressionEnd : Cond.instanceMethod yX8_expressionEnd ∈ gG := gT4 207 rfl rfl
set_option maxRecDepth 20000 in
theorem se_yX8_expressionEnd : Cond.selects RX8 yX8_expressionEnd yX8_expressionEnd ∈ gG := gT4 208 rfl rfl
set_option maxRecDepth 20000 in
theorem cd_X8_expressionEnd : Cond.code yX8_expressionEnd cX8_expressionEnd 4 (some .int) ∈ gG := gT4 209 rfl rfl
set_option maxRecDepth 20000 in
theorem ml_X8_59 : Cond.methodLink RX8 59 yX8_closeOf ∈ gG := gT5 98 rfl rfl
set_option maxRecDepth 20000 in
theorem im_yX8_closeOf : Cond.instanceMethod yX8_closeOf ∈ gG := gT5 51 rfl rfl
set_option maxRecDepth 20000 in
theorem se_yX8_closeOf : Cond.selects RX8 yX8_closeOf yX8_closeOf ∈ gG := gT5 52 rfl rfl
set_option maxRecDepth 20000 in
theorem cd_X8_closeOf : Cond.code yX8_closeOf cX8_closeOf 4 (some .int) ∈ gG := gT5 53 rfl rfl
set_option maxRecDepth 20000 in
theorem ml_X8_65 : Cond.methodLink RX8 65 Lib.Math.min.name ∈ gG := gT4 82 rfl rfl
set_option maxRecDepth 20000 in
theorem st_Lib_Math_min_name : Cond.static Lib.Math.min.name ∈ gG := gT4 47 rfl rfl
set_option maxRecDepth 20000 in
theorem cd_min : Cond.code Lib.Math.min.name Lib.Math.min.code 2 (some .int) ∈ gG := gT4 48 rfl rfl
set_option maxRecDepth 20000 in
theorem ml_X8_68 : Cond.methodLink RX8 68 yX8_result ∈ gG := gT4 86 rfl rfl
set_option maxRecDepth 20000 in
theorem st_yX8_result : Cond.static yX8_result ∈ gG := gT4 87 rfl rfl
set_option maxRecDepth 20000 in
theorem cd_X8_result : Cond.code yX8_result cX8_result 4 (some .int) ∈ gG := gT4 88 rfl rfl
set_option maxRecDepth 20000 in
theorem fl_X10_15 : Cond.fieldLink RX10 15 "SameAfter$Tape" "length" "I" ∈ gG := gT1 67 rfl rfl
set_option maxRecDepth 20000 in
theorem fl_X10_11 : Cond.fieldLink RX10 11 "SameAfter$Tape" "bytes" "[I" ∈ gG := gT1 66 rfl rfl
set_option maxRecDepth 20000 in
theorem fl_X10_19 : Cond.fieldLink RX10 19 "SameAfter$Tape" "next" "I" ∈ gG := gT1 75 rfl rfl
set_option maxRecDepth 20000 in
theorem fl_X10_22 : Cond.fieldLink RX10 22 "SameAfter$Tape" "place" "I" ∈ gG := gT1 73 rfl rfl
set_option maxRecDepth 20000 in
theorem fl_X10_25 : Cond.fieldLink RX10 25 "SameAfter$Tape" "kind" "I" ∈ gG := gT1 69 rfl rfl
set_option maxRecDepth 20000 in
theorem fl_X10_28 : Cond.fieldLink RX10 28 "SameAfter$Tape" "value" "I" ∈ gG := gT1 71 rfl rfl
set_option maxRecDepth 20000 in
theorem ml_X10_31 : Cond.methodLink RX10 31 yX10_byteAt ∈ gG := gT3 14 rfl rfl
set_option maxRecDepth 20000 in
theorem im_yX10_byteAt : Cond.instanceMethod yX10_byteAt ∈ gG := gT3 15 rfl rfl
set_option maxRecDepth 20000 in
theorem se_yX10_byteAt : Cond.selects RX10 yX10_byteAt yX10_byteAt ∈ gG := gT3 16 rfl rfl
set_option maxRecDepth 20000 in
theorem in_X10 : Cond.initialized RX10 ∈ gG := gT1 5 rfl rfl
set_option maxRecDepth 20000 in
theorem cd_X10_byteAt : Cond.code yX10_byteAt cX10_byteAt 2 (some .int) ∈ gG := gT3 17 rfl rfl
set_option maxRecDepth 20000 in
theorem ml_X10_52 : Cond.methodLink RX10 52 yX10_isSmallLetter ∈ gG := gT3 21 rfl rfl
set_option maxRecDepth 20000 in
theorem st_yX10_isSmallLetter : Cond.static yX10_isSmallLetter ∈ gG := gT3 22 rfl rfl
set_option maxRecDepth 20000 in
theorem cd_X10_isSmallLetter : Cond.code yX10_isSmallLetter cX10_isSmallLetter 1 (some .boolean) ∈ gG := gT3 23 rfl rfl
set_option maxRecDepth 20000 in
theorem ml_X10_35 : Cond.methodLink RX10 35 yX10_isLetter ∈ gG := gT3 18 rfl rfl
set_option maxRecDepth 20000 in
theorem st_yX10_isLetter : Cond.static yX10_isLetter ∈ gG := gT3 19 rfl rfl
set_option maxRecDepth 20000 in
theorem cd_X10_isLetter : Cond.code yX10_isLetter cX10_isLetter 1 (some .boolean) ∈ gG := gT3 20 rfl rfl
set_option maxRecDepth 20000 in
theorem ml_X10_42 : Cond.methodLink RX10 42 yX10_isDigit ∈ gG := gT3 85 rfl rfl
set_option maxRecDepth 20000 in
theorem st_yX10_isDigit : Cond.static yX10_isDigit ∈ gG := gT3 86 rfl rfl
set_option maxRecDepth 20000 in
theorem cd_X10_isDigit : Cond.code yX10_isDigit cX10_isDigit 1 (some .boolean) ∈ gG := gT3 87 rfl rfl
set_option maxRecDepth 20000 in
theorem ml_X10_78 : Cond.methodLink RX10 78 yX10_isSign ∈ gG := gT3 96 rfl rfl
set_option maxRecDepth 20000 in
theorem st_yX10_isSign : Cond.static yX10_isSign ∈ gG := gT3 97 rfl rfl
set_option maxRecDepth 20000 in
theorem cd_X10_isSign : Cond.code yX10_isSign cX10_isSign 3 (some .boolean) ∈ gG := gT3 98 rfl rfl
set_option maxRecDepth 20000 in
theorem ml_X10_48 : Cond.methodLink RX10 48 yX10_takeSign ∈ gG := gT3 92 rfl rfl
set_option maxRecDepth 20000 in
theorem im_yX10_takeSign : Cond.instanceMethod yX10_takeSign ∈ gG := gT3 94 rfl rfl
set_option maxRecDepth 20000 in
theorem se_yX10_takeSign : Cond.selects RX10 yX10_takeSign yX10_takeSign ∈ gG := gP1 5 rfl
set_option maxRecDepth 20000 in
theorem cd_X10_takeSign : Cond.code yX10_takeSign cX10_takeSign 3 none ∈ gG := gT3 95 rfl rfl
set_option maxRecDepth 20000 in
theorem ml_X10_45 : Cond.methodLink RX10 45 yX10_takeDigits ∈ gG := gT3 88 rfl rfl
set_option maxRecDepth 20000 in
theorem im_yX10_takeDigits : Cond.instanceMethod yX10_takeDigits ∈ gG := gT3 90 rfl rfl
set_option maxRecDepth 20000 in
theorem se_yX10_takeDigits : Cond.selects RX10 yX10_takeDigits yX10_takeDigits ∈ gG := gP1 4 rfl
set_option maxRecDepth 20000 in
theorem cd_X10_takeDigits : Cond.code yX10_takeDigits cX10_takeDigits 2 none ∈ gG := gT3 91 rfl rfl
set_option maxRecDepth 20000 in
theorem fl_X1_14 : Cond.fieldLink RX1 14 "SameAfter$Flow" "row" "LSameAfter$Row;" ∈ gG := gT1 160 rfl rfl
set_option maxRecDepth 20000 in
theorem fl_X1_57 : Cond.fieldLink RX1 57 "SameAfter$Flow" "count" "I" ∈ gG := gT1 162 rfl rfl
set_option maxRecDepth 20000 in
theorem fl_X1_78 : Cond.fieldLink RX1 78 "SameAfter$Row" "length" "I" ∈ gG := gT1 45 rfl rfl
set_option maxRecDepth 20000 in
theorem fl_X1_54 : Cond.fieldLink RX1 54 "SameAfter$Flow" "owner" "[I" ∈ gG := gT1 185 rfl rfl
set_option maxRecDepth 20000 in
theorem ml_X1_81 : Cond.methodLink RX1 81 yX8_cell ∈ gG := gT4 22 rfl rfl
set_option maxRecDepth 20000 in
theorem ml_X1_84 : Cond.methodLink RX1 84 yX8_isStatement ∈ gG := gT4 23 rfl rfl
set_option maxRecDepth 20000 in
theorem ml_X1_87 : Cond.methodLink RX1 87 yX8_isBranch ∈ gG := gT4 24 rfl rfl
set_option maxRecDepth 20000 in
theorem fl_X1_51 : Cond.fieldLink RX1 51 "SameAfter$Flow" "open" "[I" ∈ gG := gT1 184 rfl rfl
set_option maxRecDepth 20000 in
theorem fl_X1_20 : Cond.fieldLink RX1 20 "SameAfter$Flow" "place" "[I" ∈ gG := gT1 166 rfl rfl
set_option maxRecDepth 20000 in
theorem fl_X1_24 : Cond.fieldLink RX1 24 "SameAfter$Flow" "kinds" "[I" ∈ gG := gT1 169 rfl rfl
set_option maxRecDepth 20000 in
theorem fl_X1_42 : Cond.fieldLink RX1 42 "SameAfter$Flow" "sets" "[I" ∈ gG := gT1 181 rfl rfl
set_option maxRecDepth 20000 in
theorem ml_X1_100 : Cond.methodLink RX1 100 yX8_isSet ∈ gG := gT4 31 rfl rfl
set_option maxRecDepth 20000 in
theorem st_yX8_isSet : Cond.static yX8_isSet ∈ gG := gT4 32 rfl rfl
set_option maxRecDepth 20000 in
theorem cd_X8_isSet : Cond.code yX8_isSet cX8_isSet 1 (some .boolean) ∈ gG := gT4 33 rfl rfl
set_option maxRecDepth 20000 in
theorem fl_X1_27 : Cond.fieldLink RX1 27 "SameAfter$Flow" "from" "[I" ∈ gG := gT1 171 rfl rfl
set_option maxRecDepth 20000 in
theorem fl_X1_30 : Cond.fieldLink RX1 30 "SameAfter$Flow" "to" "[I" ∈ gG := gT1 173 rfl rfl
set_option maxRecDepth 20000 in
theorem fl_X1_39 : Cond.fieldLink RX1 39 "SameAfter$Flow" "reads" "[I" ∈ gG := gT1 180 rfl rfl
set_option maxRecDepth 20000 in
theorem fl_X1_33 : Cond.fieldLink RX1 33 "SameAfter$Flow" "yes" "[I" ∈ gG := gT1 176 rfl rfl
set_option maxRecDepth 20000 in
theorem fl_X1_36 : Cond.fieldLink RX1 36 "SameAfter$Flow" "no" "[I" ∈ gG := gT1 178 rfl rfl
set_option maxRecDepth 20000 in
theorem ml_X1_90 : Cond.methodLink RX1 90 yX1_begin ∈ gG := gT4 27 rfl rfl
set_option maxRecDepth 20000 in
theorem im_yX1_begin : Cond.instanceMethod yX1_begin ∈ gG := gT4 29 rfl rfl
set_option maxRecDepth 20000 in
theorem se_yX1_begin : Cond.selects RX1 yX1_begin yX1_begin ∈ gG := gP2 9 rfl
set_option maxRecDepth 20000 in
theorem in_X1 : Cond.initialized RX1 ∈ gG := gT1 7 rfl rfl
set_option maxRecDepth 20000 in
theorem cd_X1_begin : Cond.code yX1_begin cX1_begin 3 none ∈ gG := gT4 30 rfl rfl
set_option maxRecDepth 20000 in
theorem ml_X1_94 : Cond.methodLink RX1 94 yX8_isExpression ∈ gG := gT4 34 rfl rfl
set_option maxRecDepth 20000 in
theorem ml_X1_70 : Cond.methodLink RX1 70 yX1_isHere ∈ gG := gT4 35 rfl rfl
set_option maxRecDepth 20000 in
theorem im_yX1_isHere : Cond.instanceMethod yX1_isHere ∈ gG := gT4 36 rfl rfl
set_option maxRecDepth 20000 in
theorem se_yX1_isHere : Cond.selects RX1 yX1_isHere yX1_isHere ∈ gG := gT4 37 rfl rfl
set_option maxRecDepth 20000 in
theorem cd_X1_isHere : Cond.code yX1_isHere cX1_isHere 2 (some .boolean) ∈ gG := gT4 38 rfl rfl
set_option maxRecDepth 20000 in
theorem ml_X1_97 : Cond.methodLink RX1 97 yX8_isRead ∈ gG := gT4 39 rfl rfl
set_option maxRecDepth 20000 in
theorem st_yX8_isRead : Cond.static yX8_isRead ∈ gG := gT4 40 rfl rfl
set_option maxRecDepth 20000 in
theorem cd_X8_isRead : Cond.code yX8_isRead cX8_isRead 1 (some .boolean) ∈ gG := gT4 41 rfl rfl
set_option maxRecDepth 20000 in
theorem ml_X1_61 : Cond.methodLink RX1 61 yX1_number ∈ gG := gT4 18 rfl rfl
set_option maxRecDepth 20000 in
theorem im_yX1_number : Cond.instanceMethod yX1_number ∈ gG := gT4 20 rfl rfl
set_option maxRecDepth 20000 in
theorem se_yX1_number : Cond.selects RX1 yX1_number yX1_number ∈ gG := gP2 8 rfl
set_option maxRecDepth 20000 in
theorem cd_X1_number : Cond.code yX1_number cX1_number 4 none ∈ gG := gT4 21 rfl rfl
set_option maxRecDepth 20000 in
theorem ml_X1_103 : Cond.methodLink RX1 103 Lib.Math.min.name ∈ gG := gT4 46 rfl rfl
set_option maxRecDepth 20000 in
theorem fl_X1_48 : Cond.fieldLink RX1 48 "SameAfter$Flow" "behindAll" "[I" ∈ gG := gT1 183 rfl rfl
set_option maxRecDepth 20000 in
theorem ml_X1_109 : Cond.methodLink RX1 109 yX1_linkAt ∈ gG := gT4 49 rfl rfl
set_option maxRecDepth 20000 in
theorem im_yX1_linkAt : Cond.instanceMethod yX1_linkAt ∈ gG := gT4 51 rfl rfl
set_option maxRecDepth 20000 in
theorem se_yX1_linkAt : Cond.selects RX1 yX1_linkAt yX1_linkAt ∈ gG := gP2 11 rfl
set_option maxRecDepth 20000 in
theorem cd_X1_linkAt : Cond.code yX1_linkAt cX1_linkAt 4 (some .int) ∈ gG := gT4 52 rfl rfl
set_option maxRecDepth 20000 in
theorem ml_X1_64 : Cond.methodLink RX1 64 yX1_link ∈ gG := gT4 42 rfl rfl
set_option maxRecDepth 20000 in
theorem im_yX1_link : Cond.instanceMethod yX1_link ∈ gG := gT4 44 rfl rfl
set_option maxRecDepth 20000 in
theorem se_yX1_link : Cond.selects RX1 yX1_link yX1_link ∈ gG := gP2 10 rfl
set_option maxRecDepth 20000 in
theorem cd_X1_link : Cond.code yX1_link cX1_link 4 none ∈ gG := gT4 45 rfl rfl
set_option maxRecDepth 20000 in
theorem fl_X1_45 : Cond.fieldLink RX1 45 "SameAfter$Flow" "ahead" "[I" ∈ gG := gT1 182 rfl rfl
set_option maxRecDepth 20000 in
theorem ml_X1_74 : Cond.methodLink RX1 74 yX1_aheadOf ∈ gG := gT4 57 rfl rfl
set_option maxRecDepth 20000 in
theorem im_yX1_aheadOf : Cond.instanceMethod yX1_aheadOf ∈ gG := gT4 58 rfl rfl
set_option maxRecDepth 20000 in
theorem se_yX1_aheadOf : Cond.selects RX1 yX1_aheadOf yX1_aheadOf ∈ gG := gT4 59 rfl rfl
set_option maxRecDepth 20000 in
theorem cd_X1_aheadOf : Cond.code yX1_aheadOf cX1_aheadOf 2 (some .int) ∈ gG := gT4 60 rfl rfl
set_option maxRecDepth 20000 in
theorem ml_X1_67 : Cond.methodLink RX1 67 yX1_settle ∈ gG := gT4 53 rfl rfl
set_option maxRecDepth 20000 in
theorem im_yX1_settle : Cond.instanceMethod yX1_settle ∈ gG := gT4 55 rfl rfl
set_option maxRecDepth 20000 in
theorem se_yX1_settle : Cond.selects RX1 yX1_settle yX1_settle ∈ gG := gP2 12 rfl
set_option maxRecDepth 20000 in
theorem cd_X1_settle : Cond.code yX1_settle cX1_settle 5 none ∈ gG := gT4 56 rfl rfl
set_option maxRecDepth 20000 in
theorem fl_X9_14 : Cond.fieldLink RX9 14 "SameAfter$Rule" "left" "LSameAfter$Row;" ∈ gG := gT2 48 rfl rfl
set_option maxRecDepth 20000 in
theorem fl_X9_34 : Cond.fieldLink RX9 34 "SameAfter$Row" "length" "I" ∈ gG := gT1 40 rfl rfl
set_option maxRecDepth 20000 in
theorem fl_X9_20 : Cond.fieldLink RX9 20 "SameAfter$Rule" "right" "LSameAfter$Row;" ∈ gG := gT2 51 rfl rfl
set_option maxRecDepth 20000 in
theorem fl_X9_30 : Cond.fieldLink RX9 30 "SameAfter$Rule" "letters" "I" ∈ gG := gT2 54 rfl rfl
set_option maxRecDepth 20000 in
theorem ml_X9_37 : Cond.methodLink RX9 37 yX8_cell ∈ gG := gT3 198 rfl rfl
set_option maxRecDepth 20000 in
theorem ml_X9_41 : Cond.methodLink RX9 41 yX9_letterOf ∈ gG := gT3 199 rfl rfl
set_option maxRecDepth 20000 in
theorem st_yX9_letterOf : Cond.static yX9_letterOf ∈ gG := gT3 200 rfl rfl
set_option maxRecDepth 20000 in
theorem in_X9 : Cond.initialized RX9 ∈ gG := gT1 10 rfl rfl
set_option maxRecDepth 20000 in
theorem cd_X9_letterOf : Cond.code yX9_letterOf cX9_letterOf 1 (some .int) ∈ gG := gT3 201 rfl rfl
set_option maxRecDepth 20000 in
theorem ml_X9_48 : Cond.methodLink RX9 48 yX8_isExpression ∈ gG := gT4 205 rfl rfl
set_option maxRecDepth 20000 in
theorem fl_X9_23 : Cond.fieldLink RX9 23 "SameAfter$Rule" "starts" "[I" ∈ gG := gT2 55 rfl rfl
set_option maxRecDepth 20000 in
theorem fl_X9_27 : Cond.fieldLink RX9 27 "SameAfter$Rule" "ends" "[I" ∈ gG := gT2 56 rfl rfl
set_option maxRecDepth 20000 in
theorem ml_X9_52 : Cond.methodLink RX9 52 yX8_expressionEnd ∈ gG := gT4 206 rfl rfl
set_option maxRecDepth 20000 in
theorem ml_X9_59 : Cond.methodLink RX9 59 yX8_repeats ∈ gG := gT4 214 rfl rfl
set_option maxRecDepth 20000 in
theorem im_yX8_repeats : Cond.instanceMethod yX8_repeats ∈ gG := gT4 215 rfl rfl
set_option maxRecDepth 20000 in
theorem se_yX8_repeats : Cond.selects RX8 yX8_repeats yX8_repeats ∈ gG := gT4 216 rfl rfl
set_option maxRecDepth 20000 in
theorem cd_X8_repeats : Cond.code yX8_repeats cX8_repeats 5 (some .boolean) ∈ gG := gT4 217 rfl rfl
set_option maxRecDepth 20000 in
theorem ml_X9_55 : Cond.methodLink RX9 55 yX9_bind ∈ gG := gT4 210 rfl rfl
set_option maxRecDepth 20000 in
theorem im_yX9_bind : Cond.instanceMethod yX9_bind ∈ gG := gT4 212 rfl rfl
set_option maxRecDepth 20000 in
theorem se_yX9_bind : Cond.selects RX9 yX9_bind yX9_bind ∈ gG := gP3 11 rfl
set_option maxRecDepth 20000 in
theorem cd_X9_bind : Cond.code yX9_bind cX9_bind 6 (some .boolean) ∈ gG := gT4 213 rfl rfl
set_option maxRecDepth 20000 in
theorem ml_X9_44 : Cond.methodLink RX9 44 yX9_matches ∈ gG := gT4 201 rfl rfl
set_option maxRecDepth 20000 in
theorem im_yX9_matches : Cond.instanceMethod yX9_matches ∈ gG := gT4 203 rfl rfl
set_option maxRecDepth 20000 in
theorem se_yX9_matches : Cond.selects RX9 yX9_matches yX9_matches ∈ gG := gP3 10 rfl
set_option maxRecDepth 20000 in
theorem cd_X9_matches : Cond.code yX9_matches cX9_matches 7 (some .boolean) ∈ gG := gT4 204 rfl rfl
set_option maxRecDepth 20000 in
theorem ml_X9_63 : Cond.methodLink RX9 63 yX8_expressions ∈ gG := gT4 230 rfl rfl
set_option maxRecDepth 20000 in
theorem ml_X9_67 : Cond.methodLink RX9 67 yX9_lengthOfRight ∈ gG := gT4 231 rfl rfl
set_option maxRecDepth 20000 in
theorem im_yX9_lengthOfRight : Cond.instanceMethod yX9_lengthOfRight ∈ gG := gT4 233 rfl rfl
set_option maxRecDepth 20000 in
theorem se_yX9_lengthOfRight : Cond.selects RX9 yX9_lengthOfRight yX9_lengthOfRight ∈ gG := gP3 12 rfl
set_option maxRecDepth 20000 in
theorem cd_X9_lengthOfRight : Cond.code yX9_lengthOfRight cX9_lengthOfRight 4 (some .int) ∈ gG := gT4 234 rfl rfl
set_option maxRecDepth 20000 in
theorem ml_X9_70 : Cond.methodLink RX9 70 yX8_addPart ∈ gG := gT4 235 rfl rfl
set_option maxRecDepth 20000 in
theorem ml_X9_74 : Cond.methodLink RX9 74 yX8_add ∈ gG := gT4 236 rfl rfl
set_option maxRecDepth 20000 in
theorem im_yX8_add : Cond.instanceMethod yX8_add ∈ gG := gT3 104 rfl rfl
set_option maxRecDepth 20000 in
theorem se_yX8_add : Cond.selects RX8 yX8_add yX8_add ∈ gG := gT3 105 rfl rfl
set_option maxRecDepth 20000 in
theorem cd_X8_add : Cond.code yX8_add cX8_add 2 none ∈ gG := gT3 106 rfl rfl
set_option maxRecDepth 20000 in
theorem fl_X3_22 : Cond.fieldLink RX3 22 "SameAfter$Machine" "words" "[I" ∈ gG := gT1 224 rfl rfl
set_option maxRecDepth 20000 in
theorem fl_X3_28 : Cond.fieldLink RX3 28 "SameAfter$Machine" "outputCount" "I" ∈ gG := gT1 219 rfl rfl
set_option maxRecDepth 20000 in
theorem fl_X3_12 : Cond.fieldLink RX3 12 "SameAfter$Machine" "flow" "LSameAfter$Flow;" ∈ gG := gT1 215 rfl rfl
set_option maxRecDepth 20000 in
theorem fl_X3_32 : Cond.fieldLink RX3 32 "SameAfter$Flow" "count" "I" ∈ gG := gT1 163 rfl rfl
set_option maxRecDepth 20000 in
theorem fl_X3_35 : Cond.fieldLink RX3 35 "SameAfter$Machine" "steps" "I" ∈ gG := gT1 221 rfl rfl
set_option maxRecDepth 20000 in
theorem ml_X3_48 : Cond.methodLink RX3 48 yX1_isHere ∈ gG := gT4 77 rfl rfl
set_option maxRecDepth 20000 in
theorem fl_X3_52 : Cond.fieldLink RX3 52 "SameAfter$Flow" "kinds" "[I" ∈ gG := gT1 170 rfl rfl
set_option maxRecDepth 20000 in
theorem fl_X3_55 : Cond.fieldLink RX3 55 "SameAfter$Flow" "row" "LSameAfter$Row;" ∈ gG := gT1 161 rfl rfl
set_option maxRecDepth 20000 in
theorem fl_X3_59 : Cond.fieldLink RX3 59 "SameAfter$Flow" "from" "[I" ∈ gG := gT1 172 rfl rfl
set_option maxRecDepth 20000 in
theorem fl_X3_62 : Cond.fieldLink RX3 62 "SameAfter$Flow" "to" "[I" ∈ gG := gT1 175 rfl rfl
set_option maxRecDepth 20000 in
theorem fl_X3_25 : Cond.fieldLink RX3 25 "SameAfter$Machine" "stack" "[I" ∈ gG := gT1 225 rfl rfl
set_option maxRecDepth 20000 in
theorem ml_X3_65 : Cond.methodLink RX3 65 yX8_reckon ∈ gG := gT4 78 rfl rfl
set_option maxRecDepth 20000 in
theorem im_yX8_reckon : Cond.instanceMethod yX8_reckon ∈ gG := gT4 79 rfl rfl
set_option maxRecDepth 20000 in
theorem se_yX8_reckon : Cond.selects RX8 yX8_reckon yX8_reckon ∈ gG := gT4 80 rfl rfl
set_option maxRecDepth 20000 in
theorem cd_X8_reckon : Cond.code yX8_reckon cX8_reckon 9 none ∈ gG := gT4 81 rfl rfl
set_option maxRecDepth 20000 in
theorem ml_X3_71 : Cond.methodLink RX3 71 yX8_isBranch ∈ gG := gT4 89 rfl rfl
set_option maxRecDepth 20000 in
theorem fl_X3_18 : Cond.fieldLink RX3 18 "SameAfter$Machine" "outputs" "[I" ∈ gG := gT1 218 rfl rfl
set_option maxRecDepth 20000 in
theorem fl_X3_74 : Cond.fieldLink RX3 74 "SameAfter$Flow" "place" "[I" ∈ gG := gT1 168 rfl rfl
set_option maxRecDepth 20000 in
theorem ml_X3_77 : Cond.methodLink RX3 77 yX8_cell ∈ gG := gT4 90 rfl rfl
set_option maxRecDepth 20000 in
theorem ml_X3_80 : Cond.methodLink RX3 80 yX8_holds ∈ gG := gT4 91 rfl rfl
set_option maxRecDepth 20000 in
theorem st_yX8_holds : Cond.static yX8_holds ∈ gG := gT4 92 rfl rfl
set_option maxRecDepth 20000 in
theorem cd_X8_holds : Cond.code yX8_holds cX8_holds 3 (some .boolean) ∈ gG := gT4 93 rfl rfl
set_option maxRecDepth 20000 in
theorem fl_X3_87 : Cond.fieldLink RX3 87 "SameAfter$Flow" "no" "[I" ∈ gG := gT1 179 rfl rfl
set_option maxRecDepth 20000 in
theorem fl_X3_84 : Cond.fieldLink RX3 84 "SameAfter$Flow" "yes" "[I" ∈ gG := gT1 177 rfl rfl
set_option maxRecDepth 20000 in
theorem ml_X3_90 : Cond.methodLink RX3 90 yX8_isSet ∈ gG := gT4 94 rfl rfl
set_option maxRecDepth 20000 in
theorem ml_X3_38 : Cond.methodLink RX3 38 yX3_doStatement ∈ gG := gT4 73 rfl rfl
set_option maxRecDepth 20000 in
theorem im_yX3_doStatement : Cond.instanceMethod yX3_doStatement ∈ gG := gT4 75 rfl rfl
set_option maxRecDepth 20000 in
theorem se_yX3_doStatement : Cond.selects RX3 yX3_doStatement yX3_doStatement ∈ gG := gP2 13 rfl
set_option maxRecDepth 20000 in
theorem in_X3 : Cond.initialized RX3 ∈ gG := gT1 6 rfl rfl
set_option maxRecDepth 20000 in
theorem cd_X3_doStatement : Cond.code yX3_doStatement cX3_doStatement 4 (some .int) ∈ gG := gT4 76 rfl rfl
set_option maxRecDepth 20000 in
theorem fl_X3_42 : Cond.fieldLink RX3 42 "SameAfter$Machine" "ending" "I" ∈ gG := gT1 222 rfl rfl
set_option maxRecDepth 20000 in
theorem ml_X3_45 : Cond.methodLink RX3 45 yX3_output ∈ gG := gT4 99 rfl rfl
set_option maxRecDepth 20000 in
theorem im_yX3_output : Cond.instanceMethod yX3_output ∈ gG := gT4 100 rfl rfl
set_option maxRecDepth 20000 in
theorem se_yX3_output : Cond.selects RX3 yX3_output yX3_output ∈ gG := gT4 101 rfl rfl
set_option maxRecDepth 20000 in
theorem cd_X3_output : Cond.code yX3_output cX3_output 2 (some .int) ∈ gG := gT4 102 rfl rfl
set_option maxRecDepth 20000 in
theorem fl_X2_28 : Cond.fieldLink RX2 28 "SameAfter$Judge" "parted" "I" ∈ gG := gT2 102 rfl rfl
set_option maxRecDepth 20000 in
theorem fl_X2_31 : Cond.fieldLink RX2 31 "SameAfter$Judge" "tired" "Z" ∈ gG := gT2 104 rfl rfl
set_option maxRecDepth 20000 in
theorem fl_X2_21 : Cond.fieldLink RX2 21 "SameAfter$Judge" "first" "I" ∈ gG := gT2 97 rfl rfl
set_option maxRecDepth 20000 in
theorem fl_X2_25 : Cond.fieldLink RX2 25 "SameAfter$Judge" "firstPlace" "I" ∈ gG := gT2 100 rfl rfl
set_option maxRecDepth 20000 in
theorem fl_X2_12 : Cond.fieldLink RX2 12 "SameAfter$Judge" "one" "LSameAfter$Machine;" ∈ gG := gT2 105 rfl rfl
set_option maxRecDepth 20000 in
theorem fl_X2_35 : Cond.fieldLink RX2 35 "SameAfter$Machine" "flow" "LSameAfter$Flow;" ∈ gG := gT1 216 rfl rfl
set_option maxRecDepth 20000 in
theorem ml_X2_39 : Cond.methodLink RX2 39 yX1_trace ∈ gG := gT4 111 rfl rfl
set_option maxRecDepth 20000 in
theorem im_yX1_trace : Cond.instanceMethod yX1_trace ∈ gG := gT4 15 rfl rfl
set_option maxRecDepth 20000 in
theorem se_yX1_trace : Cond.selects RX1 yX1_trace yX1_trace ∈ gG := gT4 16 rfl rfl
set_option maxRecDepth 20000 in
theorem cd_X1_trace : Cond.code yX1_trace cX1_trace 2 none ∈ gG := gT4 17 rfl rfl
set_option maxRecDepth 20000 in
theorem fl_X2_18 : Cond.fieldLink RX2 18 "SameAfter$Judge" "other" "LSameAfter$Machine;" ∈ gG := gT2 106 rfl rfl
set_option maxRecDepth 20000 in
theorem ml_X2_45 : Cond.methodLink RX2 45 yX1_aheadOf ∈ gG := gT4 112 rfl rfl
set_option maxRecDepth 20000 in
theorem ml_X2_49 : Cond.methodLink RX2 49 yX3_go ∈ gG := gT4 113 rfl rfl
set_option maxRecDepth 20000 in
theorem im_yX3_go : Cond.instanceMethod yX3_go ∈ gG := gT4 70 rfl rfl
set_option maxRecDepth 20000 in
theorem se_yX3_go : Cond.selects RX3 yX3_go yX3_go ∈ gG := gT4 71 rfl rfl
set_option maxRecDepth 20000 in
theorem cd_X3_go : Cond.code yX3_go cX3_go 4 none ∈ gG := gT4 72 rfl rfl
set_option maxRecDepth 20000 in
theorem fl_X2_64 : Cond.fieldLink RX2 64 "SameAfter$Machine" "outputCount" "I" ∈ gG := gT1 220 rfl rfl
set_option maxRecDepth 20000 in
theorem ml_X2_70 : Cond.methodLink RX2 70 Lib.Math.min.name ∈ gG := gT4 122 rfl rfl
set_option maxRecDepth 20000 in
theorem ml_X2_76 : Cond.methodLink RX2 76 yX3_output ∈ gG := gT4 123 rfl rfl
set_option maxRecDepth 20000 in
theorem ml_X2_56 : Cond.methodLink RX2 56 yX2_placeThatDiffers ∈ gG := gT4 118 rfl rfl
set_option maxRecDepth 20000 in
theorem im_yX2_placeThatDiffers : Cond.instanceMethod yX2_placeThatDiffers ∈ gG := gT4 120 rfl rfl
set_option maxRecDepth 20000 in
theorem se_yX2_placeThatDiffers : Cond.selects RX2 yX2_placeThatDiffers yX2_placeThatDiffers ∈ gG := gP2 15 rfl
set_option maxRecDepth 20000 in
theorem in_X2 : Cond.initialized RX2 ∈ gG := gT1 12 rfl rfl
set_option maxRecDepth 20000 in
theorem cd_X2_placeThatDiffers : Cond.code yX2_placeThatDiffers cX2_placeThatDiffers 3 (some .int) ∈ gG := gT4 121 rfl rfl
set_option maxRecDepth 20000 in
theorem ml_X2_60 : Cond.methodLink RX2 60 yX3_isTired ∈ gG := gT4 124 rfl rfl
set_option maxRecDepth 20000 in
theorem im_yX3_isTired : Cond.instanceMethod yX3_isTired ∈ gG := gT4 125 rfl rfl
set_option maxRecDepth 20000 in
theorem se_yX3_isTired : Cond.selects RX3 yX3_isTired yX3_isTired ∈ gG := gT4 126 rfl rfl
set_option maxRecDepth 20000 in
theorem cd_X3_isTired : Cond.code yX3_isTired cX3_isTired 1 (some .boolean) ∈ gG := gT4 127 rfl rfl
set_option maxRecDepth 20000 in
theorem fl_X2_67 : Cond.fieldLink RX2 67 "SameAfter$Machine" "ending" "I" ∈ gG := gT1 223 rfl rfl
set_option maxRecDepth 20000 in
theorem ml_X2_53 : Cond.methodLink RX2 53 yX2_note ∈ gG := gT4 114 rfl rfl
set_option maxRecDepth 20000 in
theorem im_yX2_note : Cond.instanceMethod yX2_note ∈ gG := gT4 116 rfl rfl
set_option maxRecDepth 20000 in
theorem se_yX2_note : Cond.selects RX2 yX2_note yX2_note ∈ gG := gP2 14 rfl
set_option maxRecDepth 20000 in
theorem cd_X2_note : Cond.code yX2_note cX2_note 6 none ∈ gG := gT4 117 rfl rfl
set_option maxRecDepth 20000 in
theorem fl_X7_12 : Cond.fieldLink RX7 12 "SameAfter$Registers" "flow" "LSameAfter$Flow;" ∈ gG := gT2 164 rfl rfl
set_option maxRecDepth 20000 in
theorem ml_X7_28 : Cond.methodLink RX7 28 yX1_trace ∈ gG := gT5 164 rfl rfl
set_option maxRecDepth 20000 in
theorem fl_X7_32 : Cond.fieldLink RX7 32 "SameAfter$Registers" "present" "I" ∈ gG := gT2 168 rfl rfl
set_option maxRecDepth 20000 in
theorem fl_X7_18 : Cond.fieldLink RX7 18 "SameAfter$Registers" "clashes" "[I" ∈ gG := gT2 165 rfl rfl
set_option maxRecDepth 20000 in
theorem fl_X7_22 : Cond.fieldLink RX7 22 "SameAfter$Registers" "comings" "[I" ∈ gG := gT2 166 rfl rfl
set_option maxRecDepth 20000 in
theorem fl_X7_36 : Cond.fieldLink RX7 36 "SameAfter$Row" "length" "I" ∈ gG := gT1 42 rfl rfl
set_option maxRecDepth 20000 in
theorem ml_X7_41 : Cond.methodLink RX7 41 yX8_cell ∈ gG := gT5 165 rfl rfl
set_option maxRecDepth 20000 in
theorem ml_X7_64 : Cond.methodLink RX7 64 yX8_isSet ∈ gG := gT5 170 rfl rfl
set_option maxRecDepth 20000 in
theorem ml_X7_68 : Cond.methodLink RX7 68 yX8_isRead ∈ gG := gT5 171 rfl rfl
set_option maxRecDepth 20000 in
theorem cd_X11_isVariable : Cond.code yX11_isVariable cX11_isVariable 1 (some .boolean) ∈ gG := gT5 174 rfl rfl
set_option maxRecDepth 20000 in
theorem st_yX11_isVariable : Cond.static yX11_isVariable ∈ gG := gT5 173 rfl rfl
set_option maxRecDepth 20000 in
theorem in_X11 : Cond.initialized RX11 ∈ gG := gT1 1 rfl rfl
set_option maxRecDepth 20000 in
theorem ml_X7_45 : Cond.methodLink RX7 45 yX7_count ∈ gG := gT5 166 rfl rfl
set_option maxRecDepth 20000 in
theorem im_yX7_count : Cond.instanceMethod yX7_count ∈ gG := gT5 168 rfl rfl
set_option maxRecDepth 20000 in
theorem se_yX7_count : Cond.selects RX7 yX7_count yX7_count ∈ gG := gP4 2 rfl
set_option maxRecDepth 20000 in
theorem in_X7 : Cond.initialized RX7 ∈ gG := gT1 13 rfl rfl
set_option maxRecDepth 20000 in
theorem cd_X7_count : Cond.code yX7_count cX7_count 3 none ∈ gG := gT5 169 rfl rfl
set_option maxRecDepth 20000 in
theorem fl_X7_49 : Cond.fieldLink RX7 49 "SameAfter$Flow" "count" "I" ∈ gG := gT1 164 rfl rfl
set_option maxRecDepth 20000 in
theorem ml_X7_51 : Cond.methodLink RX7 51 yX1_aheadOf ∈ gG := gT5 175 rfl rfl
set_option maxRecDepth 20000 in
theorem ml_X7_54 : Cond.methodLink RX7 54 yX7_noteClashes ∈ gG := gT5 176 rfl rfl
set_option maxRecDepth 20000 in
theorem im_yX7_noteClashes : Cond.instanceMethod yX7_noteClashes ∈ gG := gT5 178 rfl rfl
set_option maxRecDepth 20000 in
theorem se_yX7_noteClashes : Cond.selects RX7 yX7_noteClashes yX7_noteClashes ∈ gG := gP4 3 rfl
set_option maxRecDepth 20000 in
theorem cd_X7_noteClashes : Cond.code yX7_noteClashes cX7_noteClashes 5 none ∈ gG := gT5 179 rfl rfl
set_option maxRecDepth 20000 in
theorem ml_X7_58 : Cond.methodLink RX7 58 yX1_setBy ∈ gG := gT5 180 rfl rfl
set_option maxRecDepth 20000 in
theorem im_yX1_setBy : Cond.instanceMethod yX1_setBy ∈ gG := gT5 65 rfl rfl
set_option maxRecDepth 20000 in
theorem se_yX1_setBy : Cond.selects RX1 yX1_setBy yX1_setBy ∈ gG := gT5 66 rfl rfl
set_option maxRecDepth 20000 in
theorem cd_X1_setBy : Cond.code yX1_setBy cX1_setBy 2 (some .int) ∈ gG := gT5 67 rfl rfl
set_option maxRecDepth 20000 in
theorem ml_X7_61 : Cond.methodLink RX7 61 yX1_behind ∈ gG := gT5 181 rfl rfl
set_option maxRecDepth 20000 in
theorem im_yX1_behind : Cond.instanceMethod yX1_behind ∈ gG := gT5 69 rfl rfl
set_option maxRecDepth 20000 in
theorem se_yX1_behind : Cond.selects RX1 yX1_behind yX1_behind ∈ gG := gT5 70 rfl rfl
set_option maxRecDepth 20000 in
theorem cd_X1_behind : Cond.code yX1_behind cX1_behind 2 (some .int) ∈ gG := gT5 71 rfl rfl
set_option maxRecDepth 20000 in
theorem fl_X7_25 : Cond.fieldLink RX7 25 "SameAfter$Registers" "given" "[I" ∈ gG := gT2 167 rfl rfl
set_option maxRecDepth 20000 in
theorem ml_X7_74 : Cond.methodLink RX7 74 yX7_deal ∈ gG := gT5 186 rfl rfl
set_option maxRecDepth 20000 in
theorem im_yX7_deal : Cond.instanceMethod yX7_deal ∈ gG := gT5 188 rfl rfl
set_option maxRecDepth 20000 in
theorem se_yX7_deal : Cond.selects RX7 yX7_deal yX7_deal ∈ gG := gP4 4 rfl
set_option maxRecDepth 20000 in
theorem cd_X7_deal : Cond.code yX7_deal cX7_deal 5 (some .boolean) ∈ gG := gT5 189 rfl rfl
set_option maxRecDepth 20000 in
theorem ml_X7_89 : Cond.methodLink RX7 89 yX7_clashing ∈ gG := gT5 194 rfl rfl
set_option maxRecDepth 20000 in
theorem im_yX7_clashing : Cond.instanceMethod yX7_clashing ∈ gG := gT5 195 rfl rfl
set_option maxRecDepth 20000 in
theorem se_yX7_clashing : Cond.selects RX7 yX7_clashing yX7_clashing ∈ gG := gT5 196 rfl rfl
set_option maxRecDepth 20000 in
theorem cd_X7_clashing : Cond.code yX7_clashing cX7_clashing 3 (some .boolean) ∈ gG := gT5 197 rfl rfl
set_option maxRecDepth 20000 in
theorem ml_X7_85 : Cond.methodLink RX7 85 yX7_isFree ∈ gG := gT5 190 rfl rfl
set_option maxRecDepth 20000 in
theorem im_yX7_isFree : Cond.instanceMethod yX7_isFree ∈ gG := gT5 192 rfl rfl
set_option maxRecDepth 20000 in
theorem se_yX7_isFree : Cond.selects RX7 yX7_isFree yX7_isFree ∈ gG := gP4 5 rfl
set_option maxRecDepth 20000 in
theorem cd_X7_isFree : Cond.code yX7_isFree cX7_isFree 4 (some .boolean) ∈ gG := gT5 193 rfl rfl
set_option maxRecDepth 20000 in
theorem ml_X7_78 : Cond.methodLink RX7 78 yX7_fewest ∈ gG := gT5 202 rfl rfl
set_option maxRecDepth 20000 in
theorem im_yX7_fewest : Cond.instanceMethod yX7_fewest ∈ gG := gT5 183 rfl rfl
set_option maxRecDepth 20000 in
theorem se_yX7_fewest : Cond.selects RX7 yX7_fewest yX7_fewest ∈ gG := gT5 184 rfl rfl
set_option maxRecDepth 20000 in
theorem cd_X7_fewest : Cond.code yX7_fewest cX7_fewest 2 (some .int) ∈ gG := gT5 185 rfl rfl
set_option maxRecDepth 20000 in
theorem ml_X7_82 : Cond.methodLink RX7 82 yX7_comingsOf ∈ gG := gT5 207 rfl rfl
set_option maxRecDepth 20000 in
theorem im_yX7_comingsOf : Cond.instanceMethod yX7_comingsOf ∈ gG := gT5 209 rfl rfl
set_option maxRecDepth 20000 in
theorem se_yX7_comingsOf : Cond.selects RX7 yX7_comingsOf yX7_comingsOf ∈ gG := gP4 6 rfl
set_option maxRecDepth 20000 in
theorem cd_X7_comingsOf : Cond.code yX7_comingsOf cX7_comingsOf 4 (some .int) ∈ gG := gT5 210 rfl rfl
set_option maxRecDepth 20000 in
theorem fl_X0_31 : Cond.fieldLink RX0 31 "SameAfter$Row" "length" "I" ∈ gG := gT1 41 rfl rfl
set_option maxRecDepth 20000 in
theorem ml_X0_35 : Cond.methodLink RX0 35 yX8_cell ∈ gG := gT5 33 rfl rfl
set_option maxRecDepth 20000 in
theorem ml_X0_54 : Cond.methodLink RX0 54 yX8_isOperation ∈ gG := gT5 34 rfl rfl
set_option maxRecDepth 20000 in
theorem ml_X0_39 : Cond.methodLink RX0 39 yX8_isNumber ∈ gG := gT5 35 rfl rfl
set_option maxRecDepth 20000 in
theorem st_yX8_isNumber : Cond.static yX8_isNumber ∈ gG := gT5 36 rfl rfl
set_option maxRecDepth 20000 in
theorem cd_X8_isNumber : Cond.code yX8_isNumber cX8_isNumber 1 (some .boolean) ∈ gG := gT5 37 rfl rfl
set_option maxRecDepth 20000 in
theorem ml_X0_57 : Cond.methodLink RX0 57 yX8_result ∈ gG := gT5 38 rfl rfl
set_option maxRecDepth 20000 in
theorem ml_X0_61 : Cond.methodLink RX0 61 yX8_change ∈ gG := gT5 39 rfl rfl
set_option maxRecDepth 20000 in
theorem im_yX8_change : Cond.instanceMethod yX8_change ∈ gG := gT3 187 rfl rfl
set_option maxRecDepth 20000 in
theorem se_yX8_change : Cond.selects RX8 yX8_change yX8_change ∈ gG := gT3 188 rfl rfl
set_option maxRecDepth 20000 in
theorem cd_X8_change : Cond.code yX8_change cX8_change 3 none ∈ gG := gT3 189 rfl rfl
set_option maxRecDepth 20000 in
theorem ml_X0_65 : Cond.methodLink RX0 65 yX8_remove ∈ gG := gT5 40 rfl rfl
set_option maxRecDepth 20000 in
theorem im_yX8_remove : Cond.instanceMethod yX8_remove ∈ gG := gT5 41 rfl rfl
set_option maxRecDepth 20000 in
theorem se_yX8_remove : Cond.selects RX8 yX8_remove yX8_remove ∈ gG := gT5 42 rfl rfl
set_option maxRecDepth 20000 in
theorem cd_X8_remove : Cond.code yX8_remove cX8_remove 3 none ∈ gG := gT5 43 rfl rfl
set_option maxRecDepth 20000 in
theorem ml_X0_27 : Cond.methodLink RX0 27 yX0_foldOperations ∈ gG := gT5 29 rfl rfl
set_option maxRecDepth 20000 in
theorem im_yX0_foldOperations : Cond.instanceMethod yX0_foldOperations ∈ gG := gT5 31 rfl rfl
set_option maxRecDepth 20000 in
theorem se_yX0_foldOperations : Cond.selects RX0 yX0_foldOperations yX0_foldOperations ∈ gG := gP3 13 rfl
set_option maxRecDepth 20000 in
theorem in_X0 : Cond.initialized RX0 ∈ gG := gT1 11 rfl rfl
set_option maxRecDepth 20000 in
theorem cd_X0_foldOperations : Cond.code yX0_foldOperations cX0_foldOperations 6 none ∈ gG := gT5 32 rfl rfl
set_option maxRecDepth 20000 in
theorem ml_X0_43 : Cond.methodLink RX0 43 yX8_isBranch ∈ gG := gT5 44 rfl rfl
set_option maxRecDepth 20000 in
theorem ml_X0_46 : Cond.methodLink RX0 46 yX8_holds ∈ gG := gT5 45 rfl rfl
set_option maxRecDepth 20000 in
theorem ml_X0_68 : Cond.methodLink RX0 68 yX8_closeOf ∈ gG := gT5 50 rfl rfl
set_option maxRecDepth 20000 in
theorem ml_X0_71 : Cond.methodLink RX0 71 yX8_elseOf ∈ gG := gT5 55 rfl rfl
set_option maxRecDepth 20000 in
theorem im_yX8_elseOf : Cond.instanceMethod yX8_elseOf ∈ gG := gT5 56 rfl rfl
set_option maxRecDepth 20000 in
theorem se_yX8_elseOf : Cond.selects RX8 yX8_elseOf yX8_elseOf ∈ gG := gT5 57 rfl rfl
set_option maxRecDepth 20000 in
theorem cd_X8_elseOf : Cond.code yX8_elseOf cX8_elseOf 4 (some .int) ∈ gG := gT5 58 rfl rfl
set_option maxRecDepth 20000 in
theorem ml_X0_50 : Cond.methodLink RX0 50 yX0_foldBranch ∈ gG := gT5 46 rfl rfl
set_option maxRecDepth 20000 in
theorem im_yX0_foldBranch : Cond.instanceMethod yX0_foldBranch ∈ gG := gT5 48 rfl rfl
set_option maxRecDepth 20000 in
theorem se_yX0_foldBranch : Cond.selects RX0 yX0_foldBranch yX0_foldBranch ∈ gG := gP3 14 rfl
set_option maxRecDepth 20000 in
theorem cd_X0_foldBranch : Cond.code yX0_foldBranch cX0_foldBranch 6 none ∈ gG := gT5 49 rfl rfl
set_option maxRecDepth 20000 in
theorem fl_X0_23 : Cond.fieldLink RX0 23 "SameAfter$Acts" "flow" "LSameAfter$Flow;" ∈ gG := gT2 81 rfl rfl
set_option maxRecDepth 20000 in
theorem ml_X0_74 : Cond.methodLink RX0 74 yX1_trace ∈ gG := gT5 63 rfl rfl
set_option maxRecDepth 20000 in
theorem fl_X0_77 : Cond.fieldLink RX0 77 "SameAfter$Flow" "count" "I" ∈ gG := gT1 165 rfl rfl
set_option maxRecDepth 20000 in
theorem ml_X0_80 : Cond.methodLink RX0 80 yX1_setBy ∈ gG := gT5 64 rfl rfl
set_option maxRecDepth 20000 in
theorem ml_X0_83 : Cond.methodLink RX0 83 yX1_behind ∈ gG := gT5 68 rfl rfl
set_option maxRecDepth 20000 in
theorem ml_X0_86 : Cond.methodLink RX0 86 yX1_isHere ∈ gG := gT5 72 rfl rfl
set_option maxRecDepth 20000 in
theorem fl_X0_89 : Cond.fieldLink RX0 89 "SameAfter$Flow" "place" "[I" ∈ gG := gT1 167 rfl rfl
set_option maxRecDepth 20000 in
theorem fl_X0_93 : Cond.fieldLink RX0 93 "SameAfter$Flow" "to" "[I" ∈ gG := gT1 174 rfl rfl
set_option maxRecDepth 20000 in
theorem ml_X0_96 : Cond.methodLink RX0 96 yX8_expressionEnd ∈ gG := gT5 77 rfl rfl
set_option maxRecDepth 20000 in
theorem ml_X0_99 : Cond.methodLink RX0 99 yX8_isSet ∈ gG := gT5 78 rfl rfl
set_option maxRecDepth 20000 in
theorem ml_X0_102 : Cond.methodLink RX0 102 yX8_has ∈ gG := gT5 79 rfl rfl
set_option maxRecDepth 20000 in
theorem im_yX8_has : Cond.instanceMethod yX8_has ∈ gG := gT5 80 rfl rfl
set_option maxRecDepth 20000 in
theorem se_yX8_has : Cond.selects RX8 yX8_has yX8_has ∈ gG := gT5 81 rfl rfl
set_option maxRecDepth 20000 in
theorem cd_X8_has : Cond.code yX8_has cX8_has 5 (some .boolean) ∈ gG := gT5 82 rfl rfl
set_option maxRecDepth 20000 in
theorem ml_X0_105 : Cond.methodLink RX0 105 yX8_isRead ∈ gG := gT5 87 rfl rfl
set_option maxRecDepth 20000 in
theorem ml_X0_112 : Cond.methodLink RX0 112 yX8_isStatement ∈ gG := gT5 92 rfl rfl
set_option maxRecDepth 20000 in
theorem ml_X0_115 : Cond.methodLink RX0 115 yX8_statementEnd ∈ gG := gT5 93 rfl rfl
set_option maxRecDepth 20000 in
theorem im_yX8_statementEnd : Cond.instanceMethod yX8_statementEnd ∈ gG := gT5 94 rfl rfl
set_option maxRecDepth 20000 in
theorem se_yX8_statementEnd : Cond.selects RX8 yX8_statementEnd yX8_statementEnd ∈ gG := gT5 95 rfl rfl
set_option maxRecDepth 20000 in
theorem cd_X8_statementEnd : Cond.code yX8_statementEnd cX8_statementEnd 3 (some .int) ∈ gG := gT5 96 rfl rfl
set_option maxRecDepth 20000 in
theorem ml_X0_118 : Cond.methodLink RX0 118 yX8_replace ∈ gG := gT5 100 rfl rfl
set_option maxRecDepth 20000 in
theorem im_yX8_replace : Cond.instanceMethod yX8_replace ∈ gG := gT5 101 rfl rfl
set_option maxRecDepth 20000 in
theorem se_yX8_replace : Cond.selects RX8 yX8_replace yX8_replace ∈ gG := gT5 102 rfl rfl
set_option maxRecDepth 20000 in
theorem cd_X8_replace : Cond.code yX8_replace cX8_replace 6 none ∈ gG := gT5 103 rfl rfl
set_option maxRecDepth 20000 in
theorem ml_X0_108 : Cond.methodLink RX0 108 yX0_copyBehind ∈ gG := gT5 88 rfl rfl
set_option maxRecDepth 20000 in
theorem im_yX0_copyBehind : Cond.instanceMethod yX0_copyBehind ∈ gG := gT5 90 rfl rfl
set_option maxRecDepth 20000 in
theorem se_yX0_copyBehind : Cond.selects RX0 yX0_copyBehind yX0_copyBehind ∈ gG := gP3 15 rfl
set_option maxRecDepth 20000 in
theorem cd_X0_copyBehind : Cond.code yX0_copyBehind cX0_copyBehind 9 none ∈ gG := gT5 91 rfl rfl
set_option maxRecDepth 20000 in
theorem fl_X0_14 : Cond.fieldLink RX0 14 "SameAfter$Acts" "spare" "LSameAfter$Row;" ∈ gG := gT2 79 rfl rfl
set_option maxRecDepth 20000 in
theorem ml_X0_135 : Cond.methodLink RX0 135 yX8_copy ∈ gG := gT5 111 rfl rfl
set_option maxRecDepth 20000 in
theorem im_yX8_copy : Cond.instanceMethod yX8_copy ∈ gG := gT3 203 rfl rfl
set_option maxRecDepth 20000 in
theorem se_yX8_copy : Cond.selects RX8 yX8_copy yX8_copy ∈ gG := gT3 204 rfl rfl
set_option maxRecDepth 20000 in
theorem cd_X8_copy : Cond.code yX8_copy cX8_copy 2 none ∈ gG := gT3 205 rfl rfl
set_option maxRecDepth 20000 in
theorem ml_X0_122 : Cond.methodLink RX0 122 yX8_add ∈ gG := gT5 108 rfl rfl
set_option maxRecDepth 20000 in
theorem ml_X0_125 : Cond.methodLink RX0 125 yX8_addPart ∈ gG := gT5 109 rfl rfl
set_option maxRecDepth 20000 in
theorem ml_X0_129 : Cond.methodLink RX0 129 Lib.Math.max.name ∈ gG := gT5 110 rfl rfl
set_option maxRecDepth 20000 in
theorem fl_X5_29 : Cond.fieldLink RX5 29 "SameAfter$Proof" "first" "I" ∈ gG := gT2 9 rfl rfl
set_option maxRecDepth 20000 in
theorem fl_X5_33 : Cond.fieldLink RX5 33 "SameAfter$Proof" "wrongs" "I" ∈ gG := gT2 11 rfl rfl
set_option maxRecDepth 20000 in
theorem ml_X5_36 : Cond.methodLink RX5 36 yX9_hasLetter ∈ gG := gT4 183 rfl rfl
set_option maxRecDepth 20000 in
theorem im_yX9_hasLetter : Cond.instanceMethod yX9_hasLetter ∈ gG := gT3 164 rfl rfl
set_option maxRecDepth 20000 in
theorem se_yX9_hasLetter : Cond.selects RX9 yX9_hasLetter yX9_hasLetter ∈ gG := gT3 165 rfl rfl
set_option maxRecDepth 20000 in
theorem cd_X9_hasLetter : Cond.code yX9_hasLetter cX9_hasLetter 2 (some .boolean) ∈ gG := gT3 166 rfl rfl
set_option maxRecDepth 20000 in
theorem fl_X5_9 : Cond.fieldLink RX5 9 "SameAfter$Proof" "words" "[I" ∈ gG := gT2 13 rfl rfl
set_option maxRecDepth 20000 in
theorem fl_X5_46 : Cond.fieldLink RX5 46 "SameAfter$Rule" "left" "LSameAfter$Row;" ∈ gG := gT2 49 rfl rfl
set_option maxRecDepth 20000 in
theorem fl_X5_57 : Cond.fieldLink RX5 57 "SameAfter$Row" "length" "I" ∈ gG := gT1 43 rfl rfl
set_option maxRecDepth 20000 in
theorem fl_X5_15 : Cond.fieldLink RX5 15 "SameAfter$Proof" "stack" "[I" ∈ gG := gT2 14 rfl rfl
set_option maxRecDepth 20000 in
theorem ml_X5_62 : Cond.methodLink RX5 62 yX8_reckon ∈ gG := gT4 192 rfl rfl
set_option maxRecDepth 20000 in
theorem ml_X5_50 : Cond.methodLink RX5 50 yX5_valueOf ∈ gG := gT4 188 rfl rfl
set_option maxRecDepth 20000 in
theorem im_yX5_valueOf : Cond.instanceMethod yX5_valueOf ∈ gG := gT4 190 rfl rfl
set_option maxRecDepth 20000 in
theorem se_yX5_valueOf : Cond.selects RX5 yX5_valueOf yX5_valueOf ∈ gG := gP3 9 rfl
set_option maxRecDepth 20000 in
theorem in_X5 : Cond.initialized RX5 ∈ gG := gT1 8 rfl rfl
set_option maxRecDepth 20000 in
theorem cd_X5_valueOf : Cond.code yX5_valueOf cX5_valueOf 2 (some .int) ∈ gG := gT4 191 rfl rfl
set_option maxRecDepth 20000 in
theorem fl_X5_54 : Cond.fieldLink RX5 54 "SameAfter$Rule" "right" "LSameAfter$Row;" ∈ gG := gT2 52 rfl rfl
set_option maxRecDepth 20000 in
theorem ml_X5_42 : Cond.methodLink RX5 42 yX5_tryOne ∈ gG := gT4 184 rfl rfl
set_option maxRecDepth 20000 in
theorem im_yX5_tryOne : Cond.instanceMethod yX5_tryOne ∈ gG := gT4 186 rfl rfl
set_option maxRecDepth 20000 in
theorem se_yX5_tryOne : Cond.selects RX5 yX5_tryOne yX5_tryOne ∈ gG := gP3 8 rfl
set_option maxRecDepth 20000 in
theorem cd_X5_tryOne : Cond.code yX5_tryOne cX5_tryOne 5 none ∈ gG := gT4 187 rfl rfl
set_option maxRecDepth 20000 in
theorem ml_X5_84 : Cond.methodLink RX5 84 yX8_cell ∈ gG := gT4 152 rfl rfl
set_option maxRecDepth 20000 in
theorem ml_X5_88 : Cond.methodLink RX5 88 yX8_isOperation ∈ gG := gT4 153 rfl rfl
set_option maxRecDepth 20000 in
theorem ml_X5_91 : Cond.methodLink RX5 91 Lib.Math.max.name ∈ gG := gT4 154 rfl rfl
set_option maxRecDepth 20000 in
theorem ml_X5_80 : Cond.methodLink RX5 80 yX5_mostTimes ∈ gG := gT4 148 rfl rfl
set_option maxRecDepth 20000 in
theorem im_yX5_mostTimes : Cond.instanceMethod yX5_mostTimes ∈ gG := gT4 150 rfl rfl
set_option maxRecDepth 20000 in
theorem se_yX5_mostTimes : Cond.selects RX5 yX5_mostTimes yX5_mostTimes ∈ gG := gP3 2 rfl
set_option maxRecDepth 20000 in
theorem cd_X5_mostTimes : Cond.code yX5_mostTimes cX5_mostTimes 8 (some .int) ∈ gG := gT4 151 rfl rfl
set_option maxRecDepth 20000 in
theorem ml_X5_66 : Cond.methodLink RX5 66 yX5_hasForm ∈ gG := gT4 144 rfl rfl
set_option maxRecDepth 20000 in
theorem im_yX5_hasForm : Cond.instanceMethod yX5_hasForm ∈ gG := gT4 146 rfl rfl
set_option maxRecDepth 20000 in
theorem se_yX5_hasForm : Cond.selects RX5 yX5_hasForm yX5_hasForm ∈ gG := gP3 1 rfl
set_option maxRecDepth 20000 in
theorem cd_X5_hasForm : Cond.code yX5_hasForm cX5_hasForm 3 (some .boolean) ∈ gG := gT4 147 rfl rfl
set_option maxRecDepth 20000 in
theorem fl_X5_20 : Cond.fieldLink RX5 20 "SameAfter$Proof" "forms" "[[I" ∈ gG := gT2 15 rfl rfl
set_option maxRecDepth 20000 in
theorem ml_X5_109 : Cond.methodLink RX5 109 yX9_letterOf ∈ gG := gT4 163 rfl rfl
set_option maxRecDepth 20000 in
theorem ml_X5_112 : Cond.methodLink RX5 112 yX8_result ∈ gG := gT4 178 rfl rfl
set_option maxRecDepth 20000 in
theorem fl_X5_26 : Cond.fieldLink RX5 26 "SameAfter$Proof" "product" "[I" ∈ gG := gT2 17 rfl rfl
set_option maxRecDepth 20000 in
theorem ml_X5_120 : Cond.methodLink RX5 120 Lib.Math.min.name ∈ gG := gT4 172 rfl rfl
set_option maxRecDepth 20000 in
theorem mlac_X5_74 : Cond.methodLink RX5 74 arraycopyName ∈ gG := gT4 173 rfl rfl
set_option maxRecDepth 20000 in
theorem ml_X5_116 : Cond.methodLink RX5 116 yX5_addMultiple ∈ gG := gT4 168 rfl rfl
set_option maxRecDepth 20000 in
theorem im_yX5_addMultiple : Cond.instanceMethod yX5_addMultiple ∈ gG := gT4 170 rfl rfl
set_option maxRecDepth 20000 in
theorem se_yX5_addMultiple : Cond.selects RX5 yX5_addMultiple yX5_addMultiple ∈ gG := gP3 6 rfl
set_option maxRecDepth 20000 in
theorem cd_X5_addMultiple : Cond.code yX5_addMultiple cX5_addMultiple 5 none ∈ gG := gT4 171 rfl rfl
set_option maxRecDepth 20000 in
theorem fl_X6_37 : Cond.fieldLink RX6 37 "SameAfter$Reader" "fault" "I" ∈ gG := gT1 93 rfl rfl
set_option maxRecDepth 20000 in
theorem fl_X6_41 : Cond.fieldLink RX6 41 "SameAfter$Reader" "faultPlace" "I" ∈ gG := gT1 95 rfl rfl
set_option maxRecDepth 20000 in
theorem fl_X6_12 : Cond.fieldLink RX6 12 "SameAfter$Reader" "tape" "LSameAfter$Tape;" ∈ gG := gT1 91 rfl rfl
set_option maxRecDepth 20000 in
theorem ml_X6_44 : Cond.methodLink RX6 44 yX10_shorten ∈ gG := gT2 233 rfl rfl
set_option maxRecDepth 20000 in
theorem im_yX10_shorten : Cond.instanceMethod yX10_shorten ∈ gG := gT2 218 rfl rfl
set_option maxRecDepth 20000 in
theorem se_yX10_shorten : Cond.selects RX10 yX10_shorten yX10_shorten ∈ gG := gT2 219 rfl rfl
set_option maxRecDepth 20000 in
theorem cd_X10_shorten : Cond.code yX10_shorten cX10_shorten 2 (some .boolean) ∈ gG := gT2 220 rfl rfl
set_option maxRecDepth 20000 in
theorem fl_X6_23 : Cond.fieldLink RX6 23 "SameAfter$Reader" "row" "LSameAfter$Row;" ∈ gG := gT1 97 rfl rfl
set_option maxRecDepth 20000 in
theorem fl_X6_66 : Cond.fieldLink RX6 66 "SameAfter$Row" "length" "I" ∈ gG := gT1 44 rfl rfl
set_option maxRecDepth 20000 in
theorem fl_X6_69 : Cond.fieldLink RX6 69 "SameAfter$Reader" "rule" "LSameAfter$Rule;" ∈ gG := gT1 98 rfl rfl
set_option maxRecDepth 20000 in
theorem fl_X6_73 : Cond.fieldLink RX6 73 "SameAfter$Reader" "statements" "I" ∈ gG := gT1 101 rfl rfl
set_option maxRecDepth 20000 in
theorem fl_X6_76 : Cond.fieldLink RX6 76 "SameAfter$Reader" "things" "I" ∈ gG := gT1 102 rfl rfl
set_option maxRecDepth 20000 in
theorem fl_X6_79 : Cond.fieldLink RX6 79 "SameAfter$Reader" "mostThings" "I" ∈ gG := gT1 103 rfl rfl
set_option maxRecDepth 20000 in
theorem fl_X6_82 : Cond.fieldLink RX6 82 "SameAfter$Reader" "opened" "I" ∈ gG := gT1 107 rfl rfl
set_option maxRecDepth 20000 in
theorem ml_X6_85 : Cond.methodLink RX6 85 yX10_rewind ∈ gG := gT3 2 rfl rfl
set_option maxRecDepth 20000 in
theorem im_yX10_rewind : Cond.instanceMethod yX10_rewind ∈ gG := gT3 3 rfl rfl
set_option maxRecDepth 20000 in
theorem se_yX10_rewind : Cond.selects RX10 yX10_rewind yX10_rewind ∈ gG := gT3 4 rfl rfl
set_option maxRecDepth 20000 in
theorem cd_X10_rewind : Cond.code yX10_rewind cX10_rewind 1 none ∈ gG := gT3 5 rfl rfl
set_option maxRecDepth 20000 in
theorem ml_X6_55 : Cond.methodLink RX6 55 yX9_forget ∈ gG := gT3 230 rfl rfl
set_option maxRecDepth 20000 in
theorem im_yX9_forget : Cond.instanceMethod yX9_forget ∈ gG := gT3 231 rfl rfl
set_option maxRecDepth 20000 in
theorem se_yX9_forget : Cond.selects RX9 yX9_forget yX9_forget ∈ gG := gT3 232 rfl rfl
set_option maxRecDepth 20000 in
theorem cd_X9_forget : Cond.code yX9_forget cX9_forget 1 none ∈ gG := gT3 233 rfl rfl
set_option maxRecDepth 20000 in
theorem fl_X6_60 : Cond.fieldLink RX6 60 "SameAfter$Rule" "left" "LSameAfter$Row;" ∈ gG := gT2 50 rfl rfl
set_option maxRecDepth 20000 in
theorem ml_X6_48 : Cond.methodLink RX6 48 yX6_begin ∈ gG := gT2 238 rfl rfl
set_option maxRecDepth 20000 in
theorem im_yX6_begin : Cond.instanceMethod yX6_begin ∈ gG := gT3 0 rfl rfl
set_option maxRecDepth 20000 in
theorem se_yX6_begin : Cond.selects RX6 yX6_begin yX6_begin ∈ gG := gP1 1 rfl
set_option maxRecDepth 20000 in
theorem in_X6 : Cond.initialized RX6 ∈ gG := gT1 4 rfl rfl
set_option maxRecDepth 20000 in
theorem cd_X6_begin : Cond.code yX6_begin cX6_begin 4 none ∈ gG := gT3 1 rfl rfl
set_option maxRecDepth 20000 in
theorem fl_X6_140 : Cond.fieldLink RX6 140 "SameAfter$Reader" "purpose" "I" ∈ gG := gT1 100 rfl rfl
set_option maxRecDepth 20000 in
theorem fl_X6_143 : Cond.fieldLink RX6 143 "SameAfter$Reader" "sumStart" "I" ∈ gG := gT1 104 rfl rfl
set_option maxRecDepth 20000 in
theorem fl_X6_146 : Cond.fieldLink RX6 146 "SameAfter$Reader" "productStart" "I" ∈ gG := gT1 105 rfl rfl
set_option maxRecDepth 20000 in
theorem fl_X6_52 : Cond.fieldLink RX6 52 "SameAfter$Reader" "state" "I" ∈ gG := gT1 99 rfl rfl
set_option maxRecDepth 20000 in
theorem ml_X6_63 : Cond.methodLink RX6 63 yX6_beginExpression ∈ gG := gT3 123 rfl rfl
set_option maxRecDepth 20000 in
theorem im_yX6_beginExpression : Cond.instanceMethod yX6_beginExpression ∈ gG := gT3 125 rfl rfl
set_option maxRecDepth 20000 in
theorem se_yX6_beginExpression : Cond.selects RX6 yX6_beginExpression yX6_beginExpression ∈ gG := gP1 11 rfl
set_option maxRecDepth 20000 in
theorem cd_X6_beginExpression : Cond.code yX6_beginExpression cX6_beginExpression 2 none ∈ gG := gT3 126 rfl rfl
set_option maxRecDepth 20000 in
theorem fl_X6_88 : Cond.fieldLink RX6 88 "SameAfter$Tape" "kind" "I" ∈ gG := gT1 70 rfl rfl
set_option maxRecDepth 20000 in
theorem fl_X6_116 : Cond.fieldLink RX6 116 "SameAfter$Tape" "place" "I" ∈ gG := gT1 74 rfl rfl
set_option maxRecDepth 20000 in
theorem ml_X6_119 : Cond.methodLink RX6 119 yX8_add ∈ gG := gT3 103 rfl rfl
set_option maxRecDepth 20000 in
theorem fl_X6_27 : Cond.fieldLink RX6 27 "SameAfter$Reader" "openKinds" "[I" ∈ gG := gT1 108 rfl rfl
set_option maxRecDepth 20000 in
theorem ml_X6_128 : Cond.methodLink RX6 128 yX6_closeBlock ∈ gG := gT3 111 rfl rfl
set_option maxRecDepth 20000 in
theorem im_yX6_closeBlock : Cond.instanceMethod yX6_closeBlock ∈ gG := gT3 113 rfl rfl
set_option maxRecDepth 20000 in
theorem se_yX6_closeBlock : Cond.selects RX6 yX6_closeBlock yX6_closeBlock ∈ gG := gP1 8 rfl
set_option maxRecDepth 20000 in
theorem cd_X6_closeBlock : Cond.code yX6_closeBlock cX6_closeBlock 1 none ∈ gG := gT3 114 rfl rfl
set_option maxRecDepth 20000 in
theorem fl_X6_131 : Cond.fieldLink RX6 131 "SameAfter$Tape" "value" "I" ∈ gG := gT1 72 rfl rfl
set_option maxRecDepth 20000 in
theorem ml_X6_125 : Cond.methodLink RX6 125 yX6_refuse ∈ gG := gT3 115 rfl rfl
set_option maxRecDepth 20000 in
theorem im_yX6_refuse : Cond.instanceMethod yX6_refuse ∈ gG := gT3 117 rfl rfl
set_option maxRecDepth 20000 in
theorem se_yX6_refuse : Cond.selects RX6 yX6_refuse yX6_refuse ∈ gG := gP1 9 rfl
set_option maxRecDepth 20000 in
theorem cd_X6_refuse : Cond.code yX6_refuse cX6_refuse 2 none ∈ gG := gT3 118 rfl rfl
set_option maxRecDepth 20000 in
theorem fl_X6_137 : Cond.fieldLink RX6 137 "SameAfter$Reader" "testPlace" "I" ∈ gG := gT1 106 rfl rfl
set_option maxRecDepth 20000 in
theorem ml_X6_134 : Cond.methodLink RX6 134 yX6_beginStatement ∈ gG := gT3 119 rfl rfl
set_option maxRecDepth 20000 in
theorem im_yX6_beginStatement : Cond.instanceMethod yX6_beginStatement ∈ gG := gT3 121 rfl rfl
set_option maxRecDepth 20000 in
theorem se_yX6_beginStatement : Cond.selects RX6 yX6_beginStatement yX6_beginStatement ∈ gG := gP1 10 rfl
set_option maxRecDepth 20000 in
theorem cd_X6_beginStatement : Cond.code yX6_beginStatement cX6_beginStatement 2 none ∈ gG := gT3 122 rfl rfl
set_option maxRecDepth 20000 in
theorem ml_X6_113 : Cond.methodLink RX6 113 yX6_takeStatement ∈ gG := gT3 107 rfl rfl
set_option maxRecDepth 20000 in
theorem im_yX6_takeStatement : Cond.instanceMethod yX6_takeStatement ∈ gG := gT3 109 rfl rfl
set_option maxRecDepth 20000 in
theorem se_yX6_takeStatement : Cond.selects RX6 yX6_takeStatement yX6_takeStatement ∈ gG := gP1 7 rfl
set_option maxRecDepth 20000 in
theorem cd_X6_takeStatement : Cond.code yX6_takeStatement cX6_takeStatement 5 none ∈ gG := gT3 110 rfl rfl
set_option maxRecDepth 20000 in
theorem fl_X6_31 : Cond.fieldLink RX6 31 "SameAfter$Reader" "openSums" "[I" ∈ gG := gT1 109 rfl rfl
set_option maxRecDepth 20000 in
theorem fl_X6_34 : Cond.fieldLink RX6 34 "SameAfter$Reader" "openProducts" "[I" ∈ gG := gT1 110 rfl rfl
set_option maxRecDepth 20000 in
theorem ml_X6_149 : Cond.methodLink RX6 149 yX6_open ∈ gG := gT3 135 rfl rfl
set_option maxRecDepth 20000 in
theorem im_yX6_open : Cond.instanceMethod yX6_open ∈ gG := gT3 137 rfl rfl
set_option maxRecDepth 20000 in
theorem se_yX6_open : Cond.selects RX6 yX6_open yX6_open ∈ gG := gP1 14 rfl
set_option maxRecDepth 20000 in
theorem cd_X6_open : Cond.code yX6_open cX6_open 2 (some .boolean) ∈ gG := gT3 138 rfl rfl
set_option maxRecDepth 20000 in
theorem ml_X6_122 : Cond.methodLink RX6 122 yX6_openBlock ∈ gG := gT3 131 rfl rfl
set_option maxRecDepth 20000 in
theorem im_yX6_openBlock : Cond.instanceMethod yX6_openBlock ∈ gG := gT3 133 rfl rfl
set_option maxRecDepth 20000 in
theorem se_yX6_openBlock : Cond.selects RX6 yX6_openBlock yX6_openBlock ∈ gG := gP1 13 rfl
set_option maxRecDepth 20000 in
theorem cd_X6_openBlock : Cond.code yX6_openBlock cX6_openBlock 2 none ∈ gG := gT3 134 rfl rfl
set_option maxRecDepth 20000 in
theorem ml_X6_162 : Cond.methodLink RX6 162 yX9_hasLetter ∈ gG := gT3 163 rfl rfl
set_option maxRecDepth 20000 in
theorem ml_X6_158 : Cond.methodLink RX6 158 yX6_countThing ∈ gG := gT3 155 rfl rfl
set_option maxRecDepth 20000 in
theorem im_yX6_countThing : Cond.instanceMethod yX6_countThing ∈ gG := gT3 157 rfl rfl
set_option maxRecDepth 20000 in
theorem se_yX6_countThing : Cond.selects RX6 yX6_countThing yX6_countThing ∈ gG := gP2 3 rfl
set_option maxRecDepth 20000 in
theorem cd_X6_countThing : Cond.code yX6_countThing cX6_countThing 1 (some .boolean) ∈ gG := gT3 158 rfl rfl
set_option maxRecDepth 20000 in
theorem ml_X6_155 : Cond.methodLink RX6 155 yX6_takeLetter ∈ gG := gT3 159 rfl rfl
set_option maxRecDepth 20000 in
theorem im_yX6_takeLetter : Cond.instanceMethod yX6_takeLetter ∈ gG := gT3 161 rfl rfl
set_option maxRecDepth 20000 in
theorem se_yX6_takeLetter : Cond.selects RX6 yX6_takeLetter yX6_takeLetter ∈ gG := gP2 4 rfl
set_option maxRecDepth 20000 in
theorem cd_X6_takeLetter : Cond.code yX6_takeLetter cX6_takeLetter 2 none ∈ gG := gT3 162 rfl rfl
set_option maxRecDepth 20000 in
theorem ml_X6_152 : Cond.methodLink RX6 152 yX6_takeNumber ∈ gG := gT3 151 rfl rfl
set_option maxRecDepth 20000 in
theorem im_yX6_takeNumber : Cond.instanceMethod yX6_takeNumber ∈ gG := gT3 153 rfl rfl
set_option maxRecDepth 20000 in
theorem se_yX6_takeNumber : Cond.selects RX6 yX6_takeNumber yX6_takeNumber ∈ gG := gP2 2 rfl
set_option maxRecDepth 20000 in
theorem cd_X6_takeNumber : Cond.code yX6_takeNumber cX6_takeNumber 1 none ∈ gG := gT3 154 rfl rfl
set_option maxRecDepth 20000 in
theorem ml_X6_175 : Cond.methodLink RX6 175 yX8_change ∈ gG := gT3 186 rfl rfl
set_option maxRecDepth 20000 in
theorem ml_X6_178 : Cond.methodLink RX6 178 yX8_cell ∈ gG := gT3 190 rfl rfl
set_option maxRecDepth 20000 in
theorem ml_X6_182 : Cond.methodLink RX6 182 yX9_noteLetters ∈ gG := gT3 194 rfl rfl
set_option maxRecDepth 20000 in
theorem im_yX9_noteLetters : Cond.instanceMethod yX9_noteLetters ∈ gG := gT3 195 rfl rfl
set_option maxRecDepth 20000 in
theorem se_yX9_noteLetters : Cond.selects RX9 yX9_noteLetters yX9_noteLetters ∈ gG := gT3 196 rfl rfl
set_option maxRecDepth 20000 in
theorem cd_X9_noteLetters : Cond.code yX9_noteLetters cX9_noteLetters 3 none ∈ gG := gT3 197 rfl rfl
set_option maxRecDepth 20000 in
theorem fl_X6_185 : Cond.fieldLink RX6 185 "SameAfter$Rule" "right" "LSameAfter$Row;" ∈ gG := gT2 53 rfl rfl
set_option maxRecDepth 20000 in
theorem ml_X6_168 : Cond.methodLink RX6 168 yX6_endExpression ∈ gG := gT3 182 rfl rfl
set_option maxRecDepth 20000 in
theorem im_yX6_endExpression : Cond.instanceMethod yX6_endExpression ∈ gG := gT3 184 rfl rfl
set_option maxRecDepth 20000 in
theorem se_yX6_endExpression : Cond.selects RX6 yX6_endExpression yX6_endExpression ∈ gG := gP2 7 rfl
set_option maxRecDepth 20000 in
theorem cd_X6_endExpression : Cond.code yX6_endExpression cX6_endExpression 3 none ∈ gG := gT3 185 rfl rfl
set_option maxRecDepth 20000 in
theorem ml_X6_171 : Cond.methodLink RX6 171 yX8_insert ∈ gG := gT3 175 rfl rfl
set_option maxRecDepth 20000 in
theorem im_yX8_insert : Cond.instanceMethod yX8_insert ∈ gG := gT3 176 rfl rfl
set_option maxRecDepth 20000 in
theorem se_yX8_insert : Cond.selects RX8 yX8_insert yX8_insert ∈ gG := gT3 177 rfl rfl
set_option maxRecDepth 20000 in
theorem cd_X8_insert : Cond.code yX8_insert cX8_insert 3 none ∈ gG := gT3 178 rfl rfl
set_option maxRecDepth 20000 in
theorem ml_X6_165 : Cond.methodLink RX6 165 yX6_takeOperation ∈ gG := gT3 171 rfl rfl
set_option maxRecDepth 20000 in
theorem im_yX6_takeOperation : Cond.instanceMethod yX6_takeOperation ∈ gG := gT3 173 rfl rfl
set_option maxRecDepth 20000 in
theorem se_yX6_takeOperation : Cond.selects RX6 yX6_takeOperation yX6_takeOperation ∈ gG := gP2 6 rfl
set_option maxRecDepth 20000 in
theorem cd_X6_takeOperation : Cond.code yX6_takeOperation cX6_takeOperation 2 none ∈ gG := gT3 174 rfl rfl
set_option maxRecDepth 20000 in
theorem fl_X4_11 : Cond.fieldLink RX4 11 "SameAfter$Passes" "rules" "[LSameAfter$Rule;" ∈ gG := gT2 130 rfl rfl
set_option maxRecDepth 20000 in
theorem ml_X4_63 : Cond.methodLink RX4 63 yX4_isPass ∈ gG := gT5 5 rfl rfl
set_option maxRecDepth 20000 in
theorem st_yX4_isPass : Cond.static yX4_isPass ∈ gG := gT5 6 rfl rfl
set_option maxRecDepth 20000 in
theorem in_X4 : Cond.initialized RX4 ∈ gG := gT1 9 rfl rfl
set_option maxRecDepth 20000 in
theorem cd_X4_isPass : Cond.code yX4_isPass cX4_isPass 1 (some .boolean) ∈ gG := gT5 7 rfl rfl
set_option maxRecDepth 20000 in
theorem fl_X4_23 : Cond.fieldLink RX4 23 "SameAfter$Passes" "counts" "[I" ∈ gG := gT2 132 rfl rfl
set_option maxRecDepth 20000 in
theorem fl_X4_20 : Cond.fieldLink RX4 20 "SameAfter$Passes" "items" "[[I" ∈ gG := gT2 131 rfl rfl
set_option maxRecDepth 20000 in
theorem fl_X4_39 : Cond.fieldLink RX4 39 "SameAfter$Passes" "made" "LSameAfter$Row;" ∈ gG := gT2 122 rfl rfl
set_option maxRecDepth 20000 in
theorem ml_X4_67 : Cond.methodLink RX4 67 yX8_copy ∈ gG := gT5 24 rfl rfl
set_option maxRecDepth 20000 in
theorem ml_X4_98 : Cond.methodLink RX4 98 yX9_placeIn ∈ gG := gT5 117 rfl rfl
set_option maxRecDepth 20000 in
theorem im_yX9_placeIn : Cond.instanceMethod yX9_placeIn ∈ gG := gT4 223 rfl rfl
set_option maxRecDepth 20000 in
theorem se_yX9_placeIn : Cond.selects RX9 yX9_placeIn yX9_placeIn ∈ gG := gT4 224 rfl rfl
set_option maxRecDepth 20000 in
theorem cd_X9_placeIn : Cond.code yX9_placeIn cX9_placeIn 5 (some .int) ∈ gG := gT4 225 rfl rfl
set_option maxRecDepth 20000 in
theorem fl_X4_30 : Cond.fieldLink RX4 30 "SameAfter$Passes" "acts" "LSameAfter$Acts;" ∈ gG := gT2 133 rfl rfl
set_option maxRecDepth 20000 in
theorem fl_X4_102 : Cond.fieldLink RX4 102 "SameAfter$Acts" "spare" "LSameAfter$Row;" ∈ gG := gT2 80 rfl rfl
set_option maxRecDepth 20000 in
theorem ml_X4_105 : Cond.methodLink RX4 105 yX9_rewrite ∈ gG := gT5 118 rfl rfl
set_option maxRecDepth 20000 in
theorem im_yX9_rewrite : Cond.instanceMethod yX9_rewrite ∈ gG := gT4 227 rfl rfl
set_option maxRecDepth 20000 in
theorem se_yX9_rewrite : Cond.selects RX9 yX9_rewrite yX9_rewrite ∈ gG := gT4 228 rfl rfl
set_option maxRecDepth 20000 in
theorem cd_X9_rewrite : Cond.code yX9_rewrite cX9_rewrite 7 (some .boolean) ∈ gG := gT4 229 rfl rfl
set_option maxRecDepth 20000 in
theorem fl_X4_56 : Cond.fieldLink RX4 56 "SameAfter$Passes" "bad" "I" ∈ gG := gT2 126 rfl rfl
set_option maxRecDepth 20000 in
theorem fl_X4_60 : Cond.fieldLink RX4 60 "SameAfter$Passes" "badInputs" "I" ∈ gG := gT2 128 rfl rfl
set_option maxRecDepth 20000 in
theorem fl_X4_43 : Cond.fieldLink RX4 43 "SameAfter$Passes" "kept" "LSameAfter$Row;" ∈ gG := gT2 124 rfl rfl
set_option maxRecDepth 20000 in
theorem ml_X4_120 : Cond.methodLink RX4 120 yX8_isLike ∈ gG := gT5 138 rfl rfl
set_option maxRecDepth 20000 in
theorem im_yX8_isLike : Cond.instanceMethod yX8_isLike ∈ gG := gT5 139 rfl rfl
set_option maxRecDepth 20000 in
theorem se_yX8_isLike : Cond.selects RX8 yX8_isLike yX8_isLike ∈ gG := gT5 140 rfl rfl
set_option maxRecDepth 20000 in
theorem cd_X8_isLike : Cond.code yX8_isLike cX8_isLike 3 (some .boolean) ∈ gG := gT5 141 rfl rfl
set_option maxRecDepth 20000 in
theorem fl_X4_52 : Cond.fieldLink RX4 52 "SameAfter$Passes" "judgement" "LSameAfter$Judge;" ∈ gG := gT2 120 rfl rfl
set_option maxRecDepth 20000 in
theorem ml_X4_123 : Cond.methodLink RX4 123 yX2_compare ∈ gG := gT5 142 rfl rfl
set_option maxRecDepth 20000 in
theorem im_yX2_compare : Cond.instanceMethod yX2_compare ∈ gG := gT4 108 rfl rfl
set_option maxRecDepth 20000 in
theorem se_yX2_compare : Cond.selects RX2 yX2_compare yX2_compare ∈ gG := gT4 109 rfl rfl
set_option maxRecDepth 20000 in
theorem cd_X2_compare : Cond.code yX2_compare cX2_compare 9 (some .boolean) ∈ gG := gT4 110 rfl rfl
set_option maxRecDepth 20000 in
theorem ml_X4_127 : Cond.methodLink RX4 127 yX8_statements ∈ gG := gT5 151 rfl rfl
set_option maxRecDepth 20000 in
theorem fl_X11_29 : Cond.fieldLink RX11 29 "SameAfter" "reader" "LSameAfter$Reader;" ∈ gG := gT2 183 rfl rfl
set_option maxRecDepth 20000 in
theorem fl_X11_61 : Cond.fieldLink RX11 61 "SameAfter$Reader" "tape" "LSameAfter$Tape;" ∈ gG := gT1 92 rfl rfl
set_option maxRecDepth 20000 in
theorem fl_X11_65 : Cond.fieldLink RX11 65 "SameAfter$Tape" "length" "I" ∈ gG := gT1 68 rfl rfl
set_option maxRecDepth 20000 in
theorem ml_X11_70 : Cond.methodLink RX11 70 yX10_put ∈ gG := gT2 209 rfl rfl
set_option maxRecDepth 20000 in
theorem im_yX10_put : Cond.instanceMethod yX10_put ∈ gG := gT2 210 rfl rfl
set_option maxRecDepth 20000 in
theorem se_yX10_put : Cond.selects RX10 yX10_put yX10_put ∈ gG := gT2 211 rfl rfl
set_option maxRecDepth 20000 in
theorem cd_X10_put : Cond.code yX10_put cX10_put 3 none ∈ gG := gT2 212 rfl rfl
set_option maxRecDepth 20000 in
theorem ml_X11_73 : Cond.methodLink RX11 73 yX10_shorten ∈ gG := gT2 217 rfl rfl
set_option maxRecDepth 20000 in
theorem fl_X11_11 : Cond.fieldLink RX11 11 "SameAfter" "slots" "[LSameAfter$Row;" ∈ gG := gT2 180 rfl rfl
set_option maxRecDepth 20000 in
theorem fl_X11_50 : Cond.fieldLink RX11 50 "SameAfter" "passes" "LSameAfter$Passes;" ∈ gG := gT2 186 rfl rfl
set_option maxRecDepth 20000 in
theorem fl_X11_18 : Cond.fieldLink RX11 18 "SameAfter" "ruleCount" "I" ∈ gG := gT2 181 rfl rfl
set_option maxRecDepth 20000 in
theorem fl_X11_110 : Cond.fieldLink RX11 110 "SameAfter$Reader" "faultPlace" "I" ∈ gG := gT1 96 rfl rfl
set_option maxRecDepth 20000 in
theorem fl_X11_107 : Cond.fieldLink RX11 107 "SameAfter$Reader" "fault" "I" ∈ gG := gT1 94 rfl rfl
set_option maxRecDepth 20000 in
theorem ml_X11_195 : Cond.methodLink RX11 195 yX4_dropItems ∈ gG := gT5 12 rfl rfl
set_option maxRecDepth 20000 in
theorem im_yX4_dropItems : Cond.instanceMethod yX4_dropItems ∈ gG := gT5 13 rfl rfl
set_option maxRecDepth 20000 in
theorem se_yX4_dropItems : Cond.selects RX4 yX4_dropItems yX4_dropItems ∈ gG := gT5 14 rfl rfl
set_option maxRecDepth 20000 in
theorem cd_X4_dropItems : Cond.code yX4_dropItems cX4_dropItems 2 (some .boolean) ∈ gG := gT5 15 rfl rfl
