set_option maxRecDepth 20000 in
theorem is_X0 : Cond.instantiable RX0 2 ∈ gG := gT2 70 rfl rfl
set_option maxRecDepth 20000 in
theorem is_X1 : Cond.instantiable RX1 14 ∈ gG := gT1 153 rfl rfl
set_option maxRecDepth 20000 in
theorem is_X2 : Cond.instantiable RX2 6 ∈ gG := gT2 90 rfl rfl
set_option maxRecDepth 20000 in
theorem is_X3 : Cond.instantiable RX3 7 ∈ gG := gT1 147 rfl rfl
set_option maxRecDepth 20000 in
theorem is_X4 : Cond.instantiable RX4 10 ∈ gG := gT2 34 rfl rfl
set_option maxRecDepth 20000 in
theorem is_X5 : Cond.instantiable RX5 7 ∈ gG := gT2 2 rfl rfl
set_option maxRecDepth 20000 in
theorem is_X6 : Cond.instantiable RX6 17 ∈ gG := gT1 55 rfl rfl
set_option maxRecDepth 20000 in
theorem is_X7 : Cond.instantiable RX7 5 ∈ gG := gT2 157 rfl rfl
set_option maxRecDepth 20000 in
theorem is_X8 : Cond.instantiable RX8 2 ∈ gG := gT1 30 rfl rfl
set_option maxRecDepth 20000 in
theorem is_X9 : Cond.instantiable RX9 5 ∈ gG := gT2 41 rfl rfl
set_option maxRecDepth 20000 in
theorem is_X10 : Cond.instantiable RX10 6 ∈ gG := gT1 61 rfl rfl
set_option maxRecDepth 20000 in
theorem is_X11 : Cond.instantiable RX11 8 ∈ gG := gT1 21 rfl rfl
set_option maxRecDepth 20000 in
theorem is_X12 : Cond.instantiable RX12 56 ∈ gG := gT5 218 rfl rfl
set_option maxRecDepth 20000 in
theorem ml_X11_1 : Cond.methodLink RX11 1 objectInit ∈ gG := gT1 25 rfl rfl
set_option maxRecDepth 20000 in
theorem im_objectInit : Cond.instanceMethod objectInit ∈ gG := gT1 26 rfl rfl
set_option maxRecDepth 20000 in
theorem cd_obj : Cond.code objectInit ⟨#[0xb1]⟩ 1 none ∈ gG := gT1 27 rfl rfl
set_option maxRecDepth 20000 in
theorem cl_X11_9 : Cond.classLink RX11 9 RX8 ∈ gG := gT1 28 rfl rfl
set_option maxRecDepth 20000 in
theorem fl_X11_11 : Cond.fieldLink RX11 11 "SameAfter" "slots" "[LSameAfter$Row;" ∈ gG := gT2 180 rfl rfl
set_option maxRecDepth 20000 in
theorem in_X8 : Cond.initialized RX8 ∈ gG := gT1 2 rfl rfl
set_option maxRecDepth 20000 in
theorem ml_X8_3 : Cond.methodLink RX8 3 objectInit ∈ gG := gT1 34 rfl rfl
set_option maxRecDepth 20000 in
theorem ml_X8_9 : Cond.methodLink RX8 9 Lib.Math.max.name ∈ gG := gT1 35 rfl rfl
set_option maxRecDepth 20000 in
theorem st_Lib_Math_max_name : Cond.static Lib.Math.max.name ∈ gG := gT1 36 rfl rfl
set_option maxRecDepth 20000 in
theorem in_J9 : Cond.initialized RJ9 ∈ gG := gT1 3 rfl rfl
set_option maxRecDepth 20000 in
theorem cd_max : Cond.code Lib.Math.max.name Lib.Math.max.code 2 (some .int) ∈ gG := gT1 37 rfl rfl
set_option maxRecDepth 20000 in
theorem ac_int : Cond.arrayClass .int ∈ gG := gT1 53 rfl rfl
set_option maxRecDepth 20000 in
theorem fl_X8_15 : Cond.fieldLink RX8 15 "SameAfter$Row" "cells" "[I" ∈ gG := gT1 38 rfl rfl
set_option maxRecDepth 20000 in
theorem fl_X8_21 : Cond.fieldLink RX8 21 "SameAfter$Row" "length" "I" ∈ gG := gT1 39 rfl rfl
set_option maxRecDepth 20000 in
theorem cd_X8_init : Cond.code yX8_init cX8_init 2 none ∈ gG := gT1 33 rfl rfl
set_option maxRecDepth 20000 in
theorem ml_X11_15 : Cond.methodLink RX11 15 yX8_init ∈ gG := gT1 31 rfl rfl
set_option maxRecDepth 20000 in
theorem im_yX8_init : Cond.instanceMethod yX8_init ∈ gG := gT1 32 rfl rfl
set_option maxRecDepth 20000 in
theorem fl_X11_18 : Cond.fieldLink RX11 18 "SameAfter" "ruleCount" "I" ∈ gG := gT2 181 rfl rfl
set_option maxRecDepth 20000 in
theorem fl_X11_22 : Cond.fieldLink RX11 22 "SameAfter" "work" "LSameAfter$Row;" ∈ gG := gT2 182 rfl rfl
set_option maxRecDepth 20000 in
theorem cl_X11_26 : Cond.classLink RX11 26 RX6 ∈ gG := gT1 54 rfl rfl
set_option maxRecDepth 20000 in
theorem in_X6 : Cond.initialized RX6 ∈ gG := gT1 4 rfl rfl
set_option maxRecDepth 20000 in
theorem ml_X6_3 : Cond.methodLink RX6 3 objectInit ∈ gG := gT1 59 rfl rfl
set_option maxRecDepth 20000 in
theorem cl_X6_9 : Cond.classLink RX6 9 RX10 ∈ gG := gT1 60 rfl rfl
set_option maxRecDepth 20000 in
theorem in_X10 : Cond.initialized RX10 ∈ gG := gT1 5 rfl rfl
set_option maxRecDepth 20000 in
theorem ml_X10_3 : Cond.methodLink RX10 3 objectInit ∈ gG := gT1 65 rfl rfl
set_option maxRecDepth 20000 in
theorem fl_X10_11 : Cond.fieldLink RX10 11 "SameAfter$Tape" "bytes" "[I" ∈ gG := gT1 66 rfl rfl
set_option maxRecDepth 20000 in
theorem fl_X10_15 : Cond.fieldLink RX10 15 "SameAfter$Tape" "length" "I" ∈ gG := gT1 67 rfl rfl
set_option maxRecDepth 20000 in
theorem cd_X10_init : Cond.code yX10_init cX10_init 1 none ∈ gG := gT1 64 rfl rfl
set_option maxRecDepth 20000 in
theorem ml_X6_11 : Cond.methodLink RX6 11 yX10_init ∈ gG := gT1 62 rfl rfl
set_option maxRecDepth 20000 in
theorem im_yX10_init : Cond.instanceMethod yX10_init ∈ gG := gT1 63 rfl rfl
set_option maxRecDepth 20000 in
theorem fl_X6_12 : Cond.fieldLink RX6 12 "SameAfter$Reader" "tape" "LSameAfter$Tape;" ∈ gG := gT1 91 rfl rfl
set_option maxRecDepth 20000 in
theorem cl_X6_18 : Cond.classLink RX6 18 RX8 ∈ gG := gT1 89 rfl rfl
set_option maxRecDepth 20000 in
theorem ml_X6_20 : Cond.methodLink RX6 20 yX8_init ∈ gG := gT1 90 rfl rfl
set_option maxRecDepth 20000 in
theorem fl_X6_23 : Cond.fieldLink RX6 23 "SameAfter$Reader" "row" "LSameAfter$Row;" ∈ gG := gT1 97 rfl rfl
set_option maxRecDepth 20000 in
theorem fl_X6_27 : Cond.fieldLink RX6 27 "SameAfter$Reader" "openKinds" "[I" ∈ gG := gT1 108 rfl rfl
set_option maxRecDepth 20000 in
theorem fl_X6_31 : Cond.fieldLink RX6 31 "SameAfter$Reader" "openSums" "[I" ∈ gG := gT1 109 rfl rfl
set_option maxRecDepth 20000 in
theorem fl_X6_34 : Cond.fieldLink RX6 34 "SameAfter$Reader" "openProducts" "[I" ∈ gG := gT1 110 rfl rfl
set_option maxRecDepth 20000 in
theorem fl_X6_37 : Cond.fieldLink RX6 37 "SameAfter$Reader" "fault" "I" ∈ gG := gT1 93 rfl rfl
set_option maxRecDepth 20000 in
theorem fl_X6_41 : Cond.fieldLink RX6 41 "SameAfter$Reader" "faultPlace" "I" ∈ gG := gT1 95 rfl rfl
set_option maxRecDepth 20000 in
theorem cd_X6_init : Cond.code yX6_init cX6_init 1 none ∈ gG := gT1 58 rfl rfl
set_option maxRecDepth 20000 in
theorem ml_X11_28 : Cond.methodLink RX11 28 yX6_init ∈ gG := gT1 56 rfl rfl
set_option maxRecDepth 20000 in
theorem im_yX6_init : Cond.instanceMethod yX6_init ∈ gG := gT1 57 rfl rfl
set_option maxRecDepth 20000 in
theorem fl_X11_29 : Cond.fieldLink RX11 29 "SameAfter" "reader" "LSameAfter$Reader;" ∈ gG := gT2 183 rfl rfl
set_option maxRecDepth 20000 in
theorem cl_X11_33 : Cond.classLink RX11 33 RX3 ∈ gG := gT1 146 rfl rfl
set_option maxRecDepth 20000 in
theorem in_X3 : Cond.initialized RX3 ∈ gG := gT1 6 rfl rfl
set_option maxRecDepth 20000 in
theorem ml_X3_3 : Cond.methodLink RX3 3 objectInit ∈ gG := gT1 151 rfl rfl
set_option maxRecDepth 20000 in
theorem cl_X3_9 : Cond.classLink RX3 9 RX1 ∈ gG := gT1 152 rfl rfl
set_option maxRecDepth 20000 in
theorem in_X1 : Cond.initialized RX1 ∈ gG := gT1 7 rfl rfl
set_option maxRecDepth 20000 in
theorem ml_X1_3 : Cond.methodLink RX1 3 objectInit ∈ gG := gT1 157 rfl rfl
set_option maxRecDepth 20000 in
theorem cl_X1_9 : Cond.classLink RX1 9 RX8 ∈ gG := gT1 158 rfl rfl
set_option maxRecDepth 20000 in
theorem ml_X1_11 : Cond.methodLink RX1 11 yX8_init ∈ gG := gT1 159 rfl rfl
set_option maxRecDepth 20000 in
theorem fl_X1_14 : Cond.fieldLink RX1 14 "SameAfter$Flow" "row" "LSameAfter$Row;" ∈ gG := gT1 160 rfl rfl
set_option maxRecDepth 20000 in
theorem fl_X1_20 : Cond.fieldLink RX1 20 "SameAfter$Flow" "place" "[I" ∈ gG := gT1 166 rfl rfl
set_option maxRecDepth 20000 in
theorem fl_X1_24 : Cond.fieldLink RX1 24 "SameAfter$Flow" "kinds" "[I" ∈ gG := gT1 169 rfl rfl
set_option maxRecDepth 20000 in
theorem fl_X1_27 : Cond.fieldLink RX1 27 "SameAfter$Flow" "from" "[I" ∈ gG := gT1 171 rfl rfl
set_option maxRecDepth 20000 in
theorem fl_X1_30 : Cond.fieldLink RX1 30 "SameAfter$Flow" "to" "[I" ∈ gG := gT1 173 rfl rfl
set_option maxRecDepth 20000 in
theorem fl_X1_33 : Cond.fieldLink RX1 33 "SameAfter$Flow" "yes" "[I" ∈ gG := gT1 176 rfl rfl
set_option maxRecDepth 20000 in
theorem fl_X1_36 : Cond.fieldLink RX1 36 "SameAfter$Flow" "no" "[I" ∈ gG := gT1 178 rfl rfl
set_option maxRecDepth 20000 in
theorem fl_X1_39 : Cond.fieldLink RX1 39 "SameAfter$Flow" "reads" "[I" ∈ gG := gT1 180 rfl rfl
set_option maxRecDepth 20000 in
theorem fl_X1_42 : Cond.fieldLink RX1 42 "SameAfter$Flow" "sets" "[I" ∈ gG := gT1 181 rfl rfl
set_option maxRecDepth 20000 in
theorem fl_X1_45 : Cond.fieldLink RX1 45 "SameAfter$Flow" "ahead" "[I" ∈ gG := gT1 182 rfl rfl
set_option maxRecDepth 20000 in
theorem fl_X1_48 : Cond.fieldLink RX1 48 "SameAfter$Flow" "behindAll" "[I" ∈ gG := gT1 183 rfl rfl
set_option maxRecDepth 20000 in
theorem fl_X1_51 : Cond.fieldLink RX1 51 "SameAfter$Flow" "open" "[I" ∈ gG := gT1 184 rfl rfl
set_option maxRecDepth 20000 in
theorem fl_X1_54 : Cond.fieldLink RX1 54 "SameAfter$Flow" "owner" "[I" ∈ gG := gT1 185 rfl rfl
set_option maxRecDepth 20000 in
theorem fl_X1_57 : Cond.fieldLink RX1 57 "SameAfter$Flow" "count" "I" ∈ gG := gT1 162 rfl rfl
set_option maxRecDepth 20000 in
theorem cd_X1_init : Cond.code yX1_init cX1_init 1 none ∈ gG := gT1 156 rfl rfl
set_option maxRecDepth 20000 in
theorem ml_X3_11 : Cond.methodLink RX3 11 yX1_init ∈ gG := gT1 154 rfl rfl
set_option maxRecDepth 20000 in
theorem im_yX1_init : Cond.instanceMethod yX1_init ∈ gG := gT1 155 rfl rfl
set_option maxRecDepth 20000 in
theorem fl_X3_12 : Cond.fieldLink RX3 12 "SameAfter$Machine" "flow" "LSameAfter$Flow;" ∈ gG := gT1 215 rfl rfl
set_option maxRecDepth 20000 in
theorem fl_X3_18 : Cond.fieldLink RX3 18 "SameAfter$Machine" "outputs" "[I" ∈ gG := gT1 218 rfl rfl
set_option maxRecDepth 20000 in
theorem fl_X3_22 : Cond.fieldLink RX3 22 "SameAfter$Machine" "words" "[I" ∈ gG := gT1 224 rfl rfl
set_option maxRecDepth 20000 in
theorem fl_X3_25 : Cond.fieldLink RX3 25 "SameAfter$Machine" "stack" "[I" ∈ gG := gT1 225 rfl rfl
set_option maxRecDepth 20000 in
theorem cd_X3_init : Cond.code yX3_init cX3_init 1 none ∈ gG := gT1 150 rfl rfl
set_option maxRecDepth 20000 in
theorem ml_X11_35 : Cond.methodLink RX11 35 yX3_init ∈ gG := gT1 148 rfl rfl
set_option maxRecDepth 20000 in
theorem im_yX3_init : Cond.instanceMethod yX3_init ∈ gG := gT1 149 rfl rfl
set_option maxRecDepth 20000 in
theorem fl_X11_36 : Cond.fieldLink RX11 36 "SameAfter" "machine" "LSameAfter$Machine;" ∈ gG := gT2 184 rfl rfl
set_option maxRecDepth 20000 in
theorem cl_X11_40 : Cond.classLink RX11 40 RX5 ∈ gG := gT2 1 rfl rfl
set_option maxRecDepth 20000 in
theorem in_X5 : Cond.initialized RX5 ∈ gG := gT1 8 rfl rfl
set_option maxRecDepth 20000 in
theorem ml_X5_3 : Cond.methodLink RX5 3 objectInit ∈ gG := gT2 6 rfl rfl
set_option maxRecDepth 20000 in
theorem fl_X5_9 : Cond.fieldLink RX5 9 "SameAfter$Proof" "words" "[I" ∈ gG := gT2 13 rfl rfl
set_option maxRecDepth 20000 in
theorem fl_X5_15 : Cond.fieldLink RX5 15 "SameAfter$Proof" "stack" "[I" ∈ gG := gT2 14 rfl rfl
set_option maxRecDepth 20000 in
theorem cl_X5_18 : Cond.classLink RX5 18 "[[I" ∈ gG := gT2 7 rfl rfl
set_option maxRecDepth 20000 in
theorem fl_X5_20 : Cond.fieldLink RX5 20 "SameAfter$Proof" "forms" "[[I" ∈ gG := gT2 15 rfl rfl
set_option maxRecDepth 20000 in
theorem fl_X5_23 : Cond.fieldLink RX5 23 "SameAfter$Proof" "leftForm" "[I" ∈ gG := gT2 16 rfl rfl
set_option maxRecDepth 20000 in
theorem fl_X5_26 : Cond.fieldLink RX5 26 "SameAfter$Proof" "product" "[I" ∈ gG := gT2 17 rfl rfl
set_option maxRecDepth 20000 in
theorem fl_X5_29 : Cond.fieldLink RX5 29 "SameAfter$Proof" "first" "I" ∈ gG := gT2 9 rfl rfl
set_option maxRecDepth 20000 in
theorem cd_X5_init : Cond.code yX5_init cX5_init 1 none ∈ gG := gT2 5 rfl rfl
set_option maxRecDepth 20000 in
theorem ml_X11_42 : Cond.methodLink RX11 42 yX5_init ∈ gG := gT2 3 rfl rfl
set_option maxRecDepth 20000 in
theorem im_yX5_init : Cond.instanceMethod yX5_init ∈ gG := gT2 4 rfl rfl
set_option maxRecDepth 20000 in
theorem fl_X11_43 : Cond.fieldLink RX11 43 "SameAfter" "proof" "LSameAfter$Proof;" ∈ gG := gT2 185 rfl rfl
set_option maxRecDepth 20000 in
theorem cl_X11_47 : Cond.classLink RX11 47 RX4 ∈ gG := gT2 33 rfl rfl
set_option maxRecDepth 20000 in
theorem in_X4 : Cond.initialized RX4 ∈ gG := gT1 9 rfl rfl
set_option maxRecDepth 20000 in
theorem ml_X4_3 : Cond.methodLink RX4 3 objectInit ∈ gG := gT2 38 rfl rfl
set_option maxRecDepth 20000 in
theorem cl_X4_9 : Cond.classLink RX4 9 RX9 ∈ gG := gT2 39 rfl rfl
set_option maxRecDepth 20000 in
theorem fl_X4_11 : Cond.fieldLink RX4 11 "SameAfter$Passes" "rules" "[LSameAfter$Rule;" ∈ gG := gT2 130 rfl rfl
set_option maxRecDepth 20000 in
theorem in_X9 : Cond.initialized RX9 ∈ gG := gT1 10 rfl rfl
set_option maxRecDepth 20000 in
theorem ml_X9_3 : Cond.methodLink RX9 3 objectInit ∈ gG := gT2 45 rfl rfl
set_option maxRecDepth 20000 in
theorem cl_X9_9 : Cond.classLink RX9 9 RX8 ∈ gG := gT2 46 rfl rfl
set_option maxRecDepth 20000 in
theorem ml_X9_11 : Cond.methodLink RX9 11 yX8_init ∈ gG := gT2 47 rfl rfl
set_option maxRecDepth 20000 in
theorem fl_X9_14 : Cond.fieldLink RX9 14 "SameAfter$Rule" "left" "LSameAfter$Row;" ∈ gG := gT2 48 rfl rfl
set_option maxRecDepth 20000 in
theorem fl_X9_20 : Cond.fieldLink RX9 20 "SameAfter$Rule" "right" "LSameAfter$Row;" ∈ gG := gT2 51 rfl rfl
set_option maxRecDepth 20000 in
theorem fl_X9_23 : Cond.fieldLink RX9 23 "SameAfter$Rule" "starts" "[I" ∈ gG := gT2 55 rfl rfl
set_option maxRecDepth 20000 in
theorem fl_X9_27 : Cond.fieldLink RX9 27 "SameAfter$Rule" "ends" "[I" ∈ gG := gT2 56 rfl rfl
set_option maxRecDepth 20000 in
theorem fl_X9_30 : Cond.fieldLink RX9 30 "SameAfter$Rule" "letters" "I" ∈ gG := gT2 54 rfl rfl
set_option maxRecDepth 20000 in
theorem cd_X9_init : Cond.code yX9_init cX9_init 1 none ∈ gG := gT2 44 rfl rfl
set_option maxRecDepth 20000 in
theorem ml_X4_17 : Cond.methodLink RX4 17 yX9_init ∈ gG := gT2 42 rfl rfl
set_option maxRecDepth 20000 in
theorem im_yX9_init : Cond.instanceMethod yX9_init ∈ gG := gT2 43 rfl rfl
set_option maxRecDepth 20000 in
theorem cl_X4_18 : Cond.classLink RX4 18 "[[I" ∈ gG := gT2 68 rfl rfl
set_option maxRecDepth 20000 in
theorem fl_X4_20 : Cond.fieldLink RX4 20 "SameAfter$Passes" "items" "[[I" ∈ gG := gT2 131 rfl rfl
set_option maxRecDepth 20000 in
theorem fl_X4_23 : Cond.fieldLink RX4 23 "SameAfter$Passes" "counts" "[I" ∈ gG := gT2 132 rfl rfl
set_option maxRecDepth 20000 in
theorem cl_X4_27 : Cond.classLink RX4 27 RX0 ∈ gG := gT2 69 rfl rfl
set_option maxRecDepth 20000 in
theorem in_X0 : Cond.initialized RX0 ∈ gG := gT1 11 rfl rfl
set_option maxRecDepth 20000 in
theorem ml_X0_3 : Cond.methodLink RX0 3 objectInit ∈ gG := gT2 74 rfl rfl
set_option maxRecDepth 20000 in
theorem cl_X0_9 : Cond.classLink RX0 9 RX8 ∈ gG := gT2 75 rfl rfl
set_option maxRecDepth 20000 in
theorem ml_X0_11 : Cond.methodLink RX0 11 yX8_init ∈ gG := gT2 76 rfl rfl
set_option maxRecDepth 20000 in
theorem fl_X0_14 : Cond.fieldLink RX0 14 "SameAfter$Acts" "spare" "LSameAfter$Row;" ∈ gG := gT2 79 rfl rfl
set_option maxRecDepth 20000 in
theorem cl_X0_20 : Cond.classLink RX0 20 RX1 ∈ gG := gT2 77 rfl rfl
set_option maxRecDepth 20000 in
theorem ml_X0_22 : Cond.methodLink RX0 22 yX1_init ∈ gG := gT2 78 rfl rfl
set_option maxRecDepth 20000 in
theorem fl_X0_23 : Cond.fieldLink RX0 23 "SameAfter$Acts" "flow" "LSameAfter$Flow;" ∈ gG := gT2 81 rfl rfl
set_option maxRecDepth 20000 in
theorem cd_X0_init : Cond.code yX0_init cX0_init 1 none ∈ gG := gT2 73 rfl rfl
set_option maxRecDepth 20000 in
theorem ml_X4_29 : Cond.methodLink RX4 29 yX0_init ∈ gG := gT2 71 rfl rfl
set_option maxRecDepth 20000 in
theorem im_yX0_init : Cond.instanceMethod yX0_init ∈ gG := gT2 72 rfl rfl
set_option maxRecDepth 20000 in
theorem fl_X4_30 : Cond.fieldLink RX4 30 "SameAfter$Passes" "acts" "LSameAfter$Acts;" ∈ gG := gT2 133 rfl rfl
set_option maxRecDepth 20000 in
theorem cl_X4_34 : Cond.classLink RX4 34 RX8 ∈ gG := gT2 87 rfl rfl
set_option maxRecDepth 20000 in
theorem ml_X4_36 : Cond.methodLink RX4 36 yX8_init ∈ gG := gT2 88 rfl rfl
set_option maxRecDepth 20000 in
theorem fl_X4_39 : Cond.fieldLink RX4 39 "SameAfter$Passes" "made" "LSameAfter$Row;" ∈ gG := gT2 122 rfl rfl
set_option maxRecDepth 20000 in
theorem fl_X4_43 : Cond.fieldLink RX4 43 "SameAfter$Passes" "kept" "LSameAfter$Row;" ∈ gG := gT2 124 rfl rfl
set_option maxRecDepth 20000 in
theorem fl_X4_46 : Cond.fieldLink RX4 46 "SameAfter$Passes" "trial" "LSameAfter$Row;" ∈ gG := gT2 134 rfl rfl
set_option maxRecDepth 20000 in
theorem cl_X4_49 : Cond.classLink RX4 49 RX2 ∈ gG := gT2 89 rfl rfl
set_option maxRecDepth 20000 in
theorem in_X2 : Cond.initialized RX2 ∈ gG := gT1 12 rfl rfl
set_option maxRecDepth 20000 in
theorem ml_X2_3 : Cond.methodLink RX2 3 objectInit ∈ gG := gT2 94 rfl rfl
set_option maxRecDepth 20000 in
theorem cl_X2_9 : Cond.classLink RX2 9 RX3 ∈ gG := gT2 95 rfl rfl
set_option maxRecDepth 20000 in
theorem ml_X2_11 : Cond.methodLink RX2 11 yX3_init ∈ gG := gT2 96 rfl rfl
set_option maxRecDepth 20000 in
theorem fl_X2_12 : Cond.fieldLink RX2 12 "SameAfter$Judge" "one" "LSameAfter$Machine;" ∈ gG := gT2 105 rfl rfl
set_option maxRecDepth 20000 in
theorem fl_X2_18 : Cond.fieldLink RX2 18 "SameAfter$Judge" "other" "LSameAfter$Machine;" ∈ gG := gT2 106 rfl rfl
set_option maxRecDepth 20000 in
theorem fl_X2_21 : Cond.fieldLink RX2 21 "SameAfter$Judge" "first" "I" ∈ gG := gT2 97 rfl rfl
set_option maxRecDepth 20000 in
theorem fl_X2_25 : Cond.fieldLink RX2 25 "SameAfter$Judge" "firstPlace" "I" ∈ gG := gT2 100 rfl rfl
set_option maxRecDepth 20000 in
theorem cd_X2_init : Cond.code yX2_init cX2_init 1 none ∈ gG := gT2 93 rfl rfl
set_option maxRecDepth 20000 in
theorem ml_X4_51 : Cond.methodLink RX4 51 yX2_init ∈ gG := gT2 91 rfl rfl
set_option maxRecDepth 20000 in
theorem im_yX2_init : Cond.instanceMethod yX2_init ∈ gG := gT2 92 rfl rfl
set_option maxRecDepth 20000 in
theorem fl_X4_52 : Cond.fieldLink RX4 52 "SameAfter$Passes" "judgement" "LSameAfter$Judge;" ∈ gG := gT2 120 rfl rfl
set_option maxRecDepth 20000 in
theorem fl_X4_56 : Cond.fieldLink RX4 56 "SameAfter$Passes" "bad" "I" ∈ gG := gT2 126 rfl rfl
set_option maxRecDepth 20000 in
theorem fl_X4_60 : Cond.fieldLink RX4 60 "SameAfter$Passes" "badInputs" "I" ∈ gG := gT2 128 rfl rfl
set_option maxRecDepth 20000 in
theorem cd_X4_init : Cond.code yX4_init cX4_init 2 none ∈ gG := gT2 37 rfl rfl
set_option maxRecDepth 20000 in
theorem ml_X11_49 : Cond.methodLink RX11 49 yX4_init ∈ gG := gT2 35 rfl rfl
set_option maxRecDepth 20000 in
theorem im_yX4_init : Cond.instanceMethod yX4_init ∈ gG := gT2 36 rfl rfl
set_option maxRecDepth 20000 in
theorem fl_X11_50 : Cond.fieldLink RX11 50 "SameAfter" "passes" "LSameAfter$Passes;" ∈ gG := gT2 186 rfl rfl
set_option maxRecDepth 20000 in
theorem cl_X11_54 : Cond.classLink RX11 54 RX7 ∈ gG := gT2 156 rfl rfl
set_option maxRecDepth 20000 in
theorem in_X7 : Cond.initialized RX7 ∈ gG := gT1 13 rfl rfl
set_option maxRecDepth 20000 in
theorem ml_X7_3 : Cond.methodLink RX7 3 objectInit ∈ gG := gT2 161 rfl rfl
set_option maxRecDepth 20000 in
theorem cl_X7_9 : Cond.classLink RX7 9 RX1 ∈ gG := gT2 162 rfl rfl
set_option maxRecDepth 20000 in
theorem ml_X7_11 : Cond.methodLink RX7 11 yX1_init ∈ gG := gT2 163 rfl rfl
set_option maxRecDepth 20000 in
theorem fl_X7_12 : Cond.fieldLink RX7 12 "SameAfter$Registers" "flow" "LSameAfter$Flow;" ∈ gG := gT2 164 rfl rfl
set_option maxRecDepth 20000 in
theorem fl_X7_18 : Cond.fieldLink RX7 18 "SameAfter$Registers" "clashes" "[I" ∈ gG := gT2 165 rfl rfl
set_option maxRecDepth 20000 in
theorem fl_X7_22 : Cond.fieldLink RX7 22 "SameAfter$Registers" "comings" "[I" ∈ gG := gT2 166 rfl rfl
set_option maxRecDepth 20000 in
theorem fl_X7_25 : Cond.fieldLink RX7 25 "SameAfter$Registers" "given" "[I" ∈ gG := gT2 167 rfl rfl
set_option maxRecDepth 20000 in
theorem cd_X7_init : Cond.code yX7_init cX7_init 1 none ∈ gG := gT2 160 rfl rfl
set_option maxRecDepth 20000 in
theorem ml_X11_56 : Cond.methodLink RX11 56 yX7_init ∈ gG := gT2 158 rfl rfl
set_option maxRecDepth 20000 in
theorem im_yX7_init : Cond.instanceMethod yX7_init ∈ gG := gT2 159 rfl rfl
set_option maxRecDepth 20000 in
theorem fl_X11_57 : Cond.fieldLink RX11 57 "SameAfter" "dealing" "LSameAfter$Registers;" ∈ gG := gT2 187 rfl rfl
set_option maxRecDepth 20000 in
theorem fl_X11_61 : Cond.fieldLink RX11 61 "SameAfter$Reader" "tape" "LSameAfter$Tape;" ∈ gG := gT1 92 rfl rfl
set_option maxRecDepth 20000 in
theorem fl_X11_65 : Cond.fieldLink RX11 65 "SameAfter$Tape" "length" "I" ∈ gG := gT1 68 rfl rfl
set_option maxRecDepth 20000 in
theorem ml_X11_70 : Cond.methodLink RX11 70 yX10_put ∈ gG := gT2 209 rfl rfl
set_option maxRecDepth 20000 in
theorem im_yX10_put : Cond.instanceMethod yX10_put ∈ gG := gT2 210 rfl rfl
set_option maxRecDepth 20000 in
theorem se_yX10_put : Cond.selects RX10 yX10_put yX10_put ∈ gG := gT2 211 rfl rfl
set_option maxRecDepth 20000 in
theorem cd_X10_put : Cond.code yX10_put cX10_put 3 none ∈ gG := gT2 212 rfl rfl
set_option maxRecDepth 20000 in
theorem ml_X11_73 : Cond.methodLink RX11 73 yX10_shorten ∈ gG := gT2 217 rfl rfl
set_option maxRecDepth 20000 in
theorem im_yX10_shorten : Cond.instanceMethod yX10_shorten ∈ gG := gT2 218 rfl rfl
set_option maxRecDepth 20000 in
theorem se_yX10_shorten : Cond.selects RX10 yX10_shorten yX10_shorten ∈ gG := gT2 219 rfl rfl
set_option maxRecDepth 20000 in
theorem cd_X10_shorten : Cond.code yX10_shorten cX10_shorten 2 (some .boolean) ∈ gG := gT2 220 rfl rfl
set_option maxRecDepth 20000 in
theorem ml_X11_99 : Cond.methodLink RX11 99 yX4_ruleAt ∈ gG := gT3 222 rfl rfl
set_option maxRecDepth 20000 in
theorem im_yX4_ruleAt : Cond.instanceMethod yX4_ruleAt ∈ gG := gT3 223 rfl rfl
set_option maxRecDepth 20000 in
theorem se_yX4_ruleAt : Cond.selects RX4 yX4_ruleAt yX4_ruleAt ∈ gG := gT3 224 rfl rfl
set_option maxRecDepth 20000 in
theorem cd_X4_ruleAt : Cond.code yX4_ruleAt cX4_ruleAt 2 (some (.object "SameAfter$Rule")) ∈ gG := gT3 225 rfl rfl
set_option maxRecDepth 20000 in
theorem fl_X9_34 : Cond.fieldLink RX9 34 "SameAfter$Row" "length" "I" ∈ gG := gT1 40 rfl rfl
set_option maxRecDepth 20000 in
theorem ml_X6_55 : Cond.methodLink RX6 55 yX9_forget ∈ gG := gT3 230 rfl rfl
set_option maxRecDepth 20000 in
theorem im_yX9_forget : Cond.instanceMethod yX9_forget ∈ gG := gT3 231 rfl rfl
set_option maxRecDepth 20000 in
theorem se_yX9_forget : Cond.selects RX9 yX9_forget yX9_forget ∈ gG := gT3 232 rfl rfl
set_option maxRecDepth 20000 in
theorem cd_X9_forget : Cond.code yX9_forget cX9_forget 1 none ∈ gG := gT3 233 rfl rfl
set_option maxRecDepth 20000 in
theorem fl_X6_60 : Cond.fieldLink RX6 60 "SameAfter$Rule" "left" "LSameAfter$Row;" ∈ gG := gT2 50 rfl rfl
set_option maxRecDepth 20000 in
theorem fl_X6_66 : Cond.fieldLink RX6 66 "SameAfter$Row" "length" "I" ∈ gG := gT1 44 rfl rfl
set_option maxRecDepth 20000 in
theorem fl_X6_69 : Cond.fieldLink RX6 69 "SameAfter$Reader" "rule" "LSameAfter$Rule;" ∈ gG := gT1 98 rfl rfl
set_option maxRecDepth 20000 in
theorem fl_X6_73 : Cond.fieldLink RX6 73 "SameAfter$Reader" "statements" "I" ∈ gG := gT1 101 rfl rfl
set_option maxRecDepth 20000 in
theorem fl_X6_76 : Cond.fieldLink RX6 76 "SameAfter$Reader" "things" "I" ∈ gG := gT1 102 rfl rfl
set_option maxRecDepth 20000 in
theorem fl_X6_79 : Cond.fieldLink RX6 79 "SameAfter$Reader" "mostThings" "I" ∈ gG := gT1 103 rfl rfl
set_option maxRecDepth 20000 in
theorem fl_X6_82 : Cond.fieldLink RX6 82 "SameAfter$Reader" "opened" "I" ∈ gG := gT1 107 rfl rfl
set_option maxRecDepth 20000 in
theorem fl_X10_19 : Cond.fieldLink RX10 19 "SameAfter$Tape" "next" "I" ∈ gG := gT1 75 rfl rfl
set_option maxRecDepth 20000 in
theorem fl_X10_22 : Cond.fieldLink RX10 22 "SameAfter$Tape" "place" "I" ∈ gG := gT1 73 rfl rfl
set_option maxRecDepth 20000 in
theorem fl_X10_25 : Cond.fieldLink RX10 25 "SameAfter$Tape" "kind" "I" ∈ gG := gT1 69 rfl rfl
set_option maxRecDepth 20000 in
theorem fl_X10_28 : Cond.fieldLink RX10 28 "SameAfter$Tape" "value" "I" ∈ gG := gT1 71 rfl rfl
set_option maxRecDepth 20000 in
theorem ml_X6_85 : Cond.methodLink RX6 85 yX10_rewind ∈ gG := gT3 2 rfl rfl
set_option maxRecDepth 20000 in
theorem im_yX10_rewind : Cond.instanceMethod yX10_rewind ∈ gG := gT3 3 rfl rfl
set_option maxRecDepth 20000 in
theorem se_yX10_rewind : Cond.selects RX10 yX10_rewind yX10_rewind ∈ gG := gT3 4 rfl rfl
set_option maxRecDepth 20000 in
theorem cd_X10_rewind : Cond.code yX10_rewind cX10_rewind 1 none ∈ gG := gT3 5 rfl rfl
set_option maxRecDepth 20000 in
theorem ml_X6_48 : Cond.methodLink RX6 48 yX6_begin ∈ gG := gT2 238 rfl rfl
set_option maxRecDepth 20000 in
theorem im_yX6_begin : Cond.instanceMethod yX6_begin ∈ gG := gT3 0 rfl rfl
set_option maxRecDepth 20000 in
theorem se_yX6_begin : Cond.selects RX6 yX6_begin yX6_begin ∈ gG := gP1 1 rfl
set_option maxRecDepth 20000 in
theorem cd_X6_begin : Cond.code yX6_begin cX6_begin 4 none ∈ gG := gT3 1 rfl rfl
set_option maxRecDepth 20000 in
theorem fl_X6_140 : Cond.fieldLink RX6 140 "SameAfter$Reader" "purpose" "I" ∈ gG := gT1 100 rfl rfl
set_option maxRecDepth 20000 in
theorem fl_X6_143 : Cond.fieldLink RX6 143 "SameAfter$Reader" "sumStart" "I" ∈ gG := gT1 104 rfl rfl
set_option maxRecDepth 20000 in
theorem fl_X6_146 : Cond.fieldLink RX6 146 "SameAfter$Reader" "productStart" "I" ∈ gG := gT1 105 rfl rfl
set_option maxRecDepth 20000 in
theorem fl_X6_52 : Cond.fieldLink RX6 52 "SameAfter$Reader" "state" "I" ∈ gG := gT1 99 rfl rfl
set_option maxRecDepth 20000 in
theorem ml_X6_63 : Cond.methodLink RX6 63 yX6_beginExpression ∈ gG := gT3 123 rfl rfl
set_option maxRecDepth 20000 in
theorem im_yX6_beginExpression : Cond.instanceMethod yX6_beginExpression ∈ gG := gT3 125 rfl rfl
set_option maxRecDepth 20000 in
theorem se_yX6_beginExpression : Cond.selects RX6 yX6_beginExpression yX6_beginExpression ∈ gG := gP1 11 rfl
set_option maxRecDepth 20000 in
theorem cd_X6_beginExpression : Cond.code yX6_beginExpression cX6_beginExpression 2 none ∈ gG := gT3 126 rfl rfl
set_option maxRecDepth 20000 in
theorem ml_X11_103 : Cond.methodLink RX11 103 yX6_beginRule ∈ gG := gT3 226 rfl rfl
set_option maxRecDepth 20000 in
theorem im_yX6_beginRule : Cond.instanceMethod yX6_beginRule ∈ gG := gT3 227 rfl rfl
set_option maxRecDepth 20000 in
theorem se_yX6_beginRule : Cond.selects RX6 yX6_beginRule yX6_beginRule ∈ gG := gT3 228 rfl rfl
set_option maxRecDepth 20000 in
theorem cd_X6_beginRule : Cond.code yX6_beginRule cX6_beginRule 2 none ∈ gG := gT3 229 rfl rfl
set_option maxRecDepth 20000 in
theorem fl_X6_88 : Cond.fieldLink RX6 88 "SameAfter$Tape" "kind" "I" ∈ gG := gT1 70 rfl rfl
set_option maxRecDepth 20000 in
theorem ml_X10_31 : Cond.methodLink RX10 31 yX10_byteAt ∈ gG := gT3 14 rfl rfl
set_option maxRecDepth 20000 in
theorem im_yX10_byteAt : Cond.instanceMethod yX10_byteAt ∈ gG := gT3 15 rfl rfl
set_option maxRecDepth 20000 in
theorem se_yX10_byteAt : Cond.selects RX10 yX10_byteAt yX10_byteAt ∈ gG := gT3 16 rfl rfl
set_option maxRecDepth 20000 in
theorem cd_X10_byteAt : Cond.code yX10_byteAt cX10_byteAt 2 (some .int) ∈ gG := gT3 17 rfl rfl
set_option maxRecDepth 20000 in
theorem ml_X10_52 : Cond.methodLink RX10 52 yX10_isSmallLetter ∈ gG := gT3 21 rfl rfl
set_option maxRecDepth 20000 in
theorem st_yX10_isSmallLetter : Cond.static yX10_isSmallLetter ∈ gG := gT3 22 rfl rfl
set_option maxRecDepth 20000 in
theorem cd_X10_isSmallLetter : Cond.code yX10_isSmallLetter cX10_isSmallLetter 1 (some .boolean) ∈ gG := gT3 23 rfl rfl
set_option maxRecDepth 20000 in
theorem ml_X10_35 : Cond.methodLink RX10 35 yX10_isLetter ∈ gG := gT3 18 rfl rfl
set_option maxRecDepth 20000 in
theorem st_yX10_isLetter : Cond.static yX10_isLetter ∈ gG := gT3 19 rfl rfl
set_option maxRecDepth 20000 in
theorem cd_X10_isLetter : Cond.code yX10_isLetter cX10_isLetter 1 (some .boolean) ∈ gG := gT3 20 rfl rfl
set_option maxRecDepth 20000 in
theorem ml_X10_42 : Cond.methodLink RX10 42 yX10_isDigit ∈ gG := gT3 85 rfl rfl
set_option maxRecDepth 20000 in
theorem st_yX10_isDigit : Cond.static yX10_isDigit ∈ gG := gT3 86 rfl rfl
set_option maxRecDepth 20000 in
theorem cd_X10_isDigit : Cond.code yX10_isDigit cX10_isDigit 1 (some .boolean) ∈ gG := gT3 87 rfl rfl
set_option maxRecDepth 20000 in
theorem ml_X10_48 : Cond.methodLink RX10 48 yX10_takeSign ∈ gG := gT3 92 rfl rfl
set_option maxRecDepth 20000 in
theorem im_yX10_takeSign : Cond.instanceMethod yX10_takeSign ∈ gG := gT3 94 rfl rfl
set_option maxRecDepth 20000 in
theorem se_yX10_takeSign : Cond.selects RX10 yX10_takeSign yX10_takeSign ∈ gG := gP1 5 rfl
set_option maxRecDepth 20000 in
theorem cd_X10_takeSign : Cond.code yX10_takeSign cX10_takeSign 3 none ∈ gG := gT3 95 rfl rfl
set_option maxRecDepth 20000 in
theorem ml_X6_91 : Cond.methodLink RX6 91 yX10_advance ∈ gG := gT3 10 rfl rfl
set_option maxRecDepth 20000 in
theorem im_yX10_advance : Cond.instanceMethod yX10_advance ∈ gG := gT3 11 rfl rfl
set_option maxRecDepth 20000 in
theorem se_yX10_advance : Cond.selects RX10 yX10_advance yX10_advance ∈ gG := gT3 12 rfl rfl
set_option maxRecDepth 20000 in
theorem cd_X10_advance : Cond.code yX10_advance cX10_advance 3 none ∈ gG := gT3 13 rfl rfl
set_option maxRecDepth 20000 in
theorem fl_X6_116 : Cond.fieldLink RX6 116 "SameAfter$Tape" "place" "I" ∈ gG := gT1 74 rfl rfl
set_option maxRecDepth 20000 in
theorem ml_X6_125 : Cond.methodLink RX6 125 yX6_refuse ∈ gG := gT3 115 rfl rfl
set_option maxRecDepth 20000 in
theorem im_yX6_refuse : Cond.instanceMethod yX6_refuse ∈ gG := gT3 117 rfl rfl
set_option maxRecDepth 20000 in
theorem se_yX6_refuse : Cond.selects RX6 yX6_refuse yX6_refuse ∈ gG := gP1 9 rfl
set_option maxRecDepth 20000 in
theorem cd_X6_refuse : Cond.code yX6_refuse cX6_refuse 2 none ∈ gG := gT3 118 rfl rfl
set_option maxRecDepth 20000 in
theorem ml_X6_107 : Cond.methodLink RX6 107 yX6_takeOperand ∈ gG := gT3 147 rfl rfl
set_option maxRecDepth 20000 in
theorem im_yX6_takeOperand : Cond.instanceMethod yX6_takeOperand ∈ gG := gT3 149 rfl rfl
set_option maxRecDepth 20000 in
theorem se_yX6_takeOperand : Cond.selects RX6 yX6_takeOperand yX6_takeOperand ∈ gG := gP2 1 rfl
set_option maxRecDepth 20000 in
theorem cd_X6_takeOperand : Cond.code yX6_takeOperand cX6_takeOperand 1 none ∈ gG := gT3 150 rfl rfl
set_option maxRecDepth 20000 in
theorem ml_X6_44 : Cond.methodLink RX6 44 yX10_shorten ∈ gG := gT2 233 rfl rfl
set_option maxRecDepth 20000 in
theorem ml_X11_88 : Cond.methodLink RX11 88 yX6_readAll ∈ gG := gT3 6 rfl rfl
set_option maxRecDepth 20000 in
theorem im_yX6_readAll : Cond.instanceMethod yX6_readAll ∈ gG := gT3 7 rfl rfl
set_option maxRecDepth 20000 in
theorem se_yX6_readAll : Cond.selects RX6 yX6_readAll yX6_readAll ∈ gG := gT3 8 rfl rfl
set_option maxRecDepth 20000 in
theorem cd_X6_readAll : Cond.code yX6_readAll cX6_readAll 2 (some .boolean) ∈ gG := gT3 9 rfl rfl
set_option maxRecDepth 20000 in
theorem fl_X11_110 : Cond.fieldLink RX11 110 "SameAfter$Reader" "faultPlace" "I" ∈ gG := gT1 96 rfl rfl
set_option maxRecDepth 20000 in
theorem fl_X11_107 : Cond.fieldLink RX11 107 "SameAfter$Reader" "fault" "I" ∈ gG := gT1 94 rfl rfl
set_option maxRecDepth 20000 in
theorem ml_X11_77 : Cond.methodLink RX11 77 yX11_slotAt ∈ gG := gT2 225 rfl rfl
set_option maxRecDepth 20000 in
theorem im_yX11_slotAt : Cond.instanceMethod yX11_slotAt ∈ gG := gT2 227 rfl rfl
set_option maxRecDepth 20000 in
theorem se_yX11_slotAt : Cond.selects RX11 yX11_slotAt yX11_slotAt ∈ gG := gP1 0 rfl
set_option maxRecDepth 20000 in
theorem in_X11 : Cond.initialized RX11 ∈ gG := gT1 1 rfl rfl
set_option maxRecDepth 20000 in
theorem cd_X11_slotAt : Cond.code yX11_slotAt cX11_slotAt 2 (some (.object "SameAfter$Row")) ∈ gG := gT2 228 rfl rfl
set_option maxRecDepth 20000 in
theorem ml_X11_81 : Cond.methodLink RX11 81 yX6_drop ∈ gG := gT2 229 rfl rfl
set_option maxRecDepth 20000 in
theorem im_yX6_drop : Cond.instanceMethod yX6_drop ∈ gG := gT2 230 rfl rfl
set_option maxRecDepth 20000 in
theorem se_yX6_drop : Cond.selects RX6 yX6_drop yX6_drop ∈ gG := gT2 231 rfl rfl
set_option maxRecDepth 20000 in
theorem cd_X6_drop : Cond.code yX6_drop cX6_drop 1 none ∈ gG := gT2 232 rfl rfl
set_option maxRecDepth 20000 in
theorem ml_X11_84 : Cond.methodLink RX11 84 yX6_beginProgram ∈ gG := gT2 234 rfl rfl
set_option maxRecDepth 20000 in
theorem im_yX6_beginProgram : Cond.instanceMethod yX6_beginProgram ∈ gG := gT2 235 rfl rfl
set_option maxRecDepth 20000 in
theorem se_yX6_beginProgram : Cond.selects RX6 yX6_beginProgram yX6_beginProgram ∈ gG := gT2 236 rfl rfl
set_option maxRecDepth 20000 in
theorem cd_X6_beginProgram : Cond.code yX6_beginProgram cX6_beginProgram 2 none ∈ gG := gT2 237 rfl rfl
set_option maxRecDepth 20000 in
theorem ml_X6_113 : Cond.methodLink RX6 113 yX6_takeStatement ∈ gG := gT3 107 rfl rfl
set_option maxRecDepth 20000 in
theorem im_yX6_takeStatement : Cond.instanceMethod yX6_takeStatement ∈ gG := gT3 109 rfl rfl
set_option maxRecDepth 20000 in
theorem se_yX6_takeStatement : Cond.selects RX6 yX6_takeStatement yX6_takeStatement ∈ gG := gP1 7 rfl
set_option maxRecDepth 20000 in
theorem cd_X6_takeStatement : Cond.code yX6_takeStatement cX6_takeStatement 5 none ∈ gG := gT3 110 rfl rfl
set_option maxRecDepth 20000 in
theorem ml_X8_31 : Cond.methodLink RX8 31 yX8_addPart ∈ gG := gT3 206 rfl rfl
set_option maxRecDepth 20000 in
theorem im_yX8_addPart : Cond.instanceMethod yX8_addPart ∈ gG := gT3 207 rfl rfl
set_option maxRecDepth 20000 in
theorem se_yX8_addPart : Cond.selects RX8 yX8_addPart yX8_addPart ∈ gG := gT3 208 rfl rfl
set_option maxRecDepth 20000 in
theorem cd_X8_addPart : Cond.code yX8_addPart cX8_addPart 5 none ∈ gG := gT3 209 rfl rfl
set_option maxRecDepth 20000 in
theorem ml_X11_92 : Cond.methodLink RX11 92 yX8_copy ∈ gG := gT3 202 rfl rfl
set_option maxRecDepth 20000 in
theorem im_yX8_copy : Cond.instanceMethod yX8_copy ∈ gG := gT3 203 rfl rfl
set_option maxRecDepth 20000 in
theorem se_yX8_copy : Cond.selects RX8 yX8_copy yX8_copy ∈ gG := gT3 204 rfl rfl
set_option maxRecDepth 20000 in
theorem cd_X8_copy : Cond.code yX8_copy cX8_copy 2 none ∈ gG := gT3 205 rfl rfl
set_option maxRecDepth 20000 in
theorem ml_X11_95 : Cond.methodLink RX11 95 yX8_statements ∈ gG := gT3 210 rfl rfl
set_option maxRecDepth 20000 in
theorem im_yX8_statements : Cond.instanceMethod yX8_statements ∈ gG := gT3 211 rfl rfl
set_option maxRecDepth 20000 in
theorem se_yX8_statements : Cond.selects RX8 yX8_statements yX8_statements ∈ gG := gT3 212 rfl rfl
set_option maxRecDepth 20000 in
theorem cd_X8_statements : Cond.code yX8_statements cX8_statements 3 (some .int) ∈ gG := gT3 213 rfl rfl
set_option maxRecDepth 20000 in
theorem ml_X11_113 : Cond.methodLink RX11 113 yX8_cell ∈ gG := gT4 2 rfl rfl
set_option maxRecDepth 20000 in
theorem im_yX8_cell : Cond.instanceMethod yX8_cell ∈ gG := gT3 191 rfl rfl
set_option maxRecDepth 20000 in
theorem se_yX8_cell : Cond.selects RX8 yX8_cell yX8_cell ∈ gG := gT3 192 rfl rfl
set_option maxRecDepth 20000 in
theorem cd_X8_cell : Cond.code yX8_cell cX8_cell 2 (some .int) ∈ gG := gT3 193 rfl rfl
set_option maxRecDepth 20000 in
theorem ml_X11_117 : Cond.methodLink RX11 117 yX8_expressions ∈ gG := gT4 7 rfl rfl
set_option maxRecDepth 20000 in
theorem im_yX8_expressions : Cond.instanceMethod yX8_expressions ∈ gG := gT4 8 rfl rfl
set_option maxRecDepth 20000 in
theorem se_yX8_expressions : Cond.selects RX8 yX8_expressions yX8_expressions ∈ gG := gT4 9 rfl rfl
set_option maxRecDepth 20000 in
theorem cd_X8_expressions : Cond.code yX8_expressions cX8_expressions 3 (some .int) ∈ gG := gT4 10 rfl rfl
set_option maxRecDepth 20000 in
theorem fl_X11_120 : Cond.fieldLink RX11 120 "SameAfter$Row" "length" "I" ∈ gG := gT1 46 rfl rfl
set_option maxRecDepth 20000 in
theorem fl_X11_121 : Cond.fieldLink RX11 121 "SameAfter$Machine" "flow" "LSameAfter$Flow;" ∈ gG := gT1 217 rfl rfl
set_option maxRecDepth 20000 in
theorem fl_X1_78 : Cond.fieldLink RX1 78 "SameAfter$Row" "length" "I" ∈ gG := gT1 45 rfl rfl
set_option maxRecDepth 20000 in
theorem ml_X1_61 : Cond.methodLink RX1 61 yX1_number ∈ gG := gT4 18 rfl rfl
set_option maxRecDepth 20000 in
theorem im_yX1_number : Cond.instanceMethod yX1_number ∈ gG := gT4 20 rfl rfl
set_option maxRecDepth 20000 in
theorem se_yX1_number : Cond.selects RX1 yX1_number yX1_number ∈ gG := gP2 8 rfl
set_option maxRecDepth 20000 in
theorem cd_X1_number : Cond.code yX1_number cX1_number 4 none ∈ gG := gT4 21 rfl rfl
set_option maxRecDepth 20000 in
theorem ml_X1_103 : Cond.methodLink RX1 103 Lib.Math.min.name ∈ gG := gT4 46 rfl rfl
set_option maxRecDepth 20000 in
theorem st_Lib_Math_min_name : Cond.static Lib.Math.min.name ∈ gG := gT4 47 rfl rfl
set_option maxRecDepth 20000 in
theorem cd_min : Cond.code Lib.Math.min.name Lib.Math.min.code 2 (some .int) ∈ gG := gT4 48 rfl rfl
set_option maxRecDepth 20000 in
theorem ml_X1_64 : Cond.methodLink RX1 64 yX1_link ∈ gG := gT4 42 rfl rfl
set_option maxRecDepth 20000 in
theorem im_yX1_link : Cond.instanceMethod yX1_link ∈ gG := gT4 44 rfl rfl
set_option maxRecDepth 20000 in
theorem se_yX1_link : Cond.selects RX1 yX1_link yX1_link ∈ gG := gP2 10 rfl
set_option maxRecDepth 20000 in
theorem cd_X1_link : Cond.code yX1_link cX1_link 4 none ∈ gG := gT4 45 rfl rfl
set_option maxRecDepth 20000 in
theorem ml_X1_67 : Cond.methodLink RX1 67 yX1_settle ∈ gG := gT4 53 rfl rfl
set_option maxRecDepth 20000 in
theorem im_yX1_settle : Cond.instanceMethod yX1_settle ∈ gG := gT4 55 rfl rfl
set_option maxRecDepth 20000 in
theorem se_yX1_settle : Cond.selects RX1 yX1_settle yX1_settle ∈ gG := gP2 12 rfl
set_option maxRecDepth 20000 in
theorem cd_X1_settle : Cond.code yX1_settle cX1_settle 5 none ∈ gG := gT4 56 rfl rfl
set_option maxRecDepth 20000 in
theorem ml_X11_125 : Cond.methodLink RX11 125 yX1_trace ∈ gG := gT4 14 rfl rfl
set_option maxRecDepth 20000 in
theorem im_yX1_trace : Cond.instanceMethod yX1_trace ∈ gG := gT4 15 rfl rfl
set_option maxRecDepth 20000 in
theorem se_yX1_trace : Cond.selects RX1 yX1_trace yX1_trace ∈ gG := gT4 16 rfl rfl
set_option maxRecDepth 20000 in
theorem cd_X1_trace : Cond.code yX1_trace cX1_trace 2 none ∈ gG := gT4 17 rfl rfl
set_option maxRecDepth 20000 in
theorem ml_X1_70 : Cond.methodLink RX1 70 yX1_isHere ∈ gG := gT4 35 rfl rfl
set_option maxRecDepth 20000 in
theorem im_yX1_isHere : Cond.instanceMethod yX1_isHere ∈ gG := gT4 36 rfl rfl
set_option maxRecDepth 20000 in
theorem se_yX1_isHere : Cond.selects RX1 yX1_isHere yX1_isHere ∈ gG := gT4 37 rfl rfl
set_option maxRecDepth 20000 in
theorem cd_X1_isHere : Cond.code yX1_isHere cX1_isHere 2 (some .boolean) ∈ gG := gT4 38 rfl rfl
set_option maxRecDepth 20000 in
theorem ml_X11_130 : Cond.methodLink RX11 130 yX1_aheadOf ∈ gG := gT4 61 rfl rfl
set_option maxRecDepth 20000 in
theorem im_yX1_aheadOf : Cond.instanceMethod yX1_aheadOf ∈ gG := gT4 58 rfl rfl
set_option maxRecDepth 20000 in
theorem se_yX1_aheadOf : Cond.selects RX1 yX1_aheadOf yX1_aheadOf ∈ gG := gT4 59 rfl rfl
set_option maxRecDepth 20000 in
theorem cd_X1_aheadOf : Cond.code yX1_aheadOf cX1_aheadOf 2 (some .int) ∈ gG := gT4 60 rfl rfl
set_option maxRecDepth 20000 in
theorem ml_X11_133 : Cond.methodLink RX11 133 yX11_isWord ∈ gG := gT4 66 rfl rfl
set_option maxRecDepth 20000 in
theorem st_yX11_isWord : Cond.static yX11_isWord ∈ gG := gT4 67 rfl rfl
set_option maxRecDepth 20000 in
theorem cd_X11_isWord : Cond.code yX11_isWord cX11_isWord 1 (some .boolean) ∈ gG := gT4 68 rfl rfl
set_option maxRecDepth 20000 in
theorem fl_X3_28 : Cond.fieldLink RX3 28 "SameAfter$Machine" "outputCount" "I" ∈ gG := gT1 219 rfl rfl
set_option maxRecDepth 20000 in
theorem fl_X3_32 : Cond.fieldLink RX3 32 "SameAfter$Flow" "count" "I" ∈ gG := gT1 163 rfl rfl
set_option maxRecDepth 20000 in
theorem fl_X3_35 : Cond.fieldLink RX3 35 "SameAfter$Machine" "steps" "I" ∈ gG := gT1 221 rfl rfl
set_option maxRecDepth 20000 in
theorem fl_X3_42 : Cond.fieldLink RX3 42 "SameAfter$Machine" "ending" "I" ∈ gG := gT1 222 rfl rfl
set_option maxRecDepth 20000 in
theorem ml_X11_136 : Cond.methodLink RX11 136 yX3_go ∈ gG := gT4 69 rfl rfl
set_option maxRecDepth 20000 in
theorem im_yX3_go : Cond.instanceMethod yX3_go ∈ gG := gT4 70 rfl rfl
set_option maxRecDepth 20000 in
theorem se_yX3_go : Cond.selects RX3 yX3_go yX3_go ∈ gG := gT4 71 rfl rfl
set_option maxRecDepth 20000 in
theorem cd_X3_go : Cond.code yX3_go cX3_go 4 none ∈ gG := gT4 72 rfl rfl
set_option maxRecDepth 20000 in
theorem ml_X3_45 : Cond.methodLink RX3 45 yX3_output ∈ gG := gT4 99 rfl rfl
set_option maxRecDepth 20000 in
theorem im_yX3_output : Cond.instanceMethod yX3_output ∈ gG := gT4 100 rfl rfl
set_option maxRecDepth 20000 in
theorem se_yX3_output : Cond.selects RX3 yX3_output yX3_output ∈ gG := gT4 101 rfl rfl
set_option maxRecDepth 20000 in
theorem cd_X3_output : Cond.code yX3_output cX3_output 2 (some .int) ∈ gG := gT4 102 rfl rfl
set_option maxRecDepth 20000 in
theorem ml_X11_140 : Cond.methodLink RX11 140 yX3_tell ∈ gG := gT4 95 rfl rfl
set_option maxRecDepth 20000 in
theorem im_yX3_tell : Cond.instanceMethod yX3_tell ∈ gG := gT4 96 rfl rfl
set_option maxRecDepth 20000 in
theorem se_yX3_tell : Cond.selects RX3 yX3_tell yX3_tell ∈ gG := gT4 97 rfl rfl
set_option maxRecDepth 20000 in
theorem cd_X3_tell : Cond.code yX3_tell cX3_tell 2 (some .int) ∈ gG := gT4 98 rfl rfl
set_option maxRecDepth 20000 in
theorem ml_X4_67 : Cond.methodLink RX4 67 yX8_copy ∈ gG := gT5 24 rfl rfl
set_option maxRecDepth 20000 in
theorem ml_X4_63 : Cond.methodLink RX4 63 yX4_isPass ∈ gG := gT5 5 rfl rfl
set_option maxRecDepth 20000 in
theorem st_yX4_isPass : Cond.static yX4_isPass ∈ gG := gT5 6 rfl rfl
set_option maxRecDepth 20000 in
theorem cd_X4_isPass : Cond.code yX4_isPass cX4_isPass 1 (some .boolean) ∈ gG := gT5 7 rfl rfl
set_option maxRecDepth 20000 in
theorem ml_X4_109 : Cond.methodLink RX4 109 yX4_makeOf ∈ gG := gT5 133 rfl rfl
set_option maxRecDepth 20000 in
theorem im_yX4_makeOf : Cond.instanceMethod yX4_makeOf ∈ gG := gT5 21 rfl rfl
set_option maxRecDepth 20000 in
theorem se_yX4_makeOf : Cond.selects RX4 yX4_makeOf yX4_makeOf ∈ gG := gT5 22 rfl rfl
set_option maxRecDepth 20000 in
theorem cd_X4_makeOf : Cond.code yX4_makeOf cX4_makeOf 5 (some .boolean) ∈ gG := gT5 23 rfl rfl
set_option maxRecDepth 20000 in
theorem ml_X4_120 : Cond.methodLink RX4 120 yX8_isLike ∈ gG := gT5 138 rfl rfl
set_option maxRecDepth 20000 in
theorem im_yX8_isLike : Cond.instanceMethod yX8_isLike ∈ gG := gT5 139 rfl rfl
set_option maxRecDepth 20000 in
theorem se_yX8_isLike : Cond.selects RX8 yX8_isLike yX8_isLike ∈ gG := gT5 140 rfl rfl
set_option maxRecDepth 20000 in
theorem cd_X8_isLike : Cond.code yX8_isLike cX8_isLike 3 (some .boolean) ∈ gG := gT5 141 rfl rfl
set_option maxRecDepth 20000 in
theorem ml_X4_113 : Cond.methodLink RX4 113 yX4_madeWrong ∈ gG := gT5 134 rfl rfl
set_option maxRecDepth 20000 in
theorem im_yX4_madeWrong : Cond.instanceMethod yX4_madeWrong ∈ gG := gT5 136 rfl rfl
set_option maxRecDepth 20000 in
theorem se_yX4_madeWrong : Cond.selects RX4 yX4_madeWrong yX4_madeWrong ∈ gG := gP4 1 rfl
set_option maxRecDepth 20000 in
theorem cd_X4_madeWrong : Cond.code yX4_madeWrong cX4_madeWrong 2 (some .boolean) ∈ gG := gT5 137 rfl rfl
set_option maxRecDepth 20000 in
theorem ml_X11_205 : Cond.methodLink RX11 205 yX4_findBad ∈ gG := gT5 129 rfl rfl
set_option maxRecDepth 20000 in
theorem im_yX4_findBad : Cond.instanceMethod yX4_findBad ∈ gG := gT5 130 rfl rfl
set_option maxRecDepth 20000 in
theorem se_yX4_findBad : Cond.selects RX4 yX4_findBad yX4_findBad ∈ gG := gT5 131 rfl rfl
set_option maxRecDepth 20000 in
theorem cd_X4_findBad : Cond.code yX4_findBad cX4_findBad 3 none ∈ gG := gT5 132 rfl rfl
set_option maxRecDepth 20000 in
theorem fl_X11_211 : Cond.fieldLink RX11 211 "SameAfter$Passes" "badInputs" "I" ∈ gG := gT2 129 rfl rfl
set_option maxRecDepth 20000 in
theorem fl_X11_208 : Cond.fieldLink RX11 208 "SameAfter$Passes" "bad" "I" ∈ gG := gT2 127 rfl rfl
set_option maxRecDepth 20000 in
theorem ml_X7_28 : Cond.methodLink RX7 28 yX1_trace ∈ gG := gT5 164 rfl rfl
set_option maxRecDepth 20000 in
theorem fl_X7_32 : Cond.fieldLink RX7 32 "SameAfter$Registers" "present" "I" ∈ gG := gT2 168 rfl rfl
set_option maxRecDepth 20000 in
theorem fl_X7_36 : Cond.fieldLink RX7 36 "SameAfter$Row" "length" "I" ∈ gG := gT1 42 rfl rfl
set_option maxRecDepth 20000 in
theorem fl_X7_49 : Cond.fieldLink RX7 49 "SameAfter$Flow" "count" "I" ∈ gG := gT1 164 rfl rfl
set_option maxRecDepth 20000 in
theorem ml_X11_220 : Cond.methodLink RX11 220 yX7_study ∈ gG := gT5 160 rfl rfl
set_option maxRecDepth 20000 in
theorem im_yX7_study : Cond.instanceMethod yX7_study ∈ gG := gT5 161 rfl rfl
set_option maxRecDepth 20000 in
theorem se_yX7_study : Cond.selects RX7 yX7_study yX7_study ∈ gG := gT5 162 rfl rfl
set_option maxRecDepth 20000 in
theorem cd_X7_study : Cond.code yX7_study cX7_study 3 none ∈ gG := gT5 163 rfl rfl
set_option maxRecDepth 20000 in
theorem ml_X7_82 : Cond.methodLink RX7 82 yX7_comingsOf ∈ gG := gT5 207 rfl rfl
set_option maxRecDepth 20000 in
theorem im_yX7_comingsOf : Cond.instanceMethod yX7_comingsOf ∈ gG := gT5 209 rfl rfl
set_option maxRecDepth 20000 in
theorem se_yX7_comingsOf : Cond.selects RX7 yX7_comingsOf yX7_comingsOf ∈ gG := gP4 6 rfl
set_option maxRecDepth 20000 in
theorem cd_X7_comingsOf : Cond.code yX7_comingsOf cX7_comingsOf 4 (some .int) ∈ gG := gT5 210 rfl rfl
set_option maxRecDepth 20000 in
theorem ml_X11_229 : Cond.methodLink RX11 229 yX7_spills ∈ gG := gT5 203 rfl rfl
set_option maxRecDepth 20000 in
theorem im_yX7_spills : Cond.instanceMethod yX7_spills ∈ gG := gT5 204 rfl rfl
set_option maxRecDepth 20000 in
theorem se_yX7_spills : Cond.selects RX7 yX7_spills yX7_spills ∈ gG := gT5 205 rfl rfl
set_option maxRecDepth 20000 in
theorem cd_X7_spills : Cond.code yX7_spills cX7_spills 6 (some .int) ∈ gG := gT5 206 rfl rfl
set_option maxRecDepth 20000 in
theorem cd_X11_isVariable : Cond.code yX11_isVariable cX11_isVariable 1 (some .boolean) ∈ gG := gT5 174 rfl rfl
set_option maxRecDepth 20000 in
theorem st_yX11_isVariable : Cond.static yX11_isVariable ∈ gG := gT5 173 rfl rfl
set_option maxRecDepth 20000 in
theorem ml_X7_74 : Cond.methodLink RX7 74 yX7_deal ∈ gG := gT5 186 rfl rfl
set_option maxRecDepth 20000 in
theorem im_yX7_deal : Cond.instanceMethod yX7_deal ∈ gG := gT5 188 rfl rfl
set_option maxRecDepth 20000 in
theorem se_yX7_deal : Cond.selects RX7 yX7_deal yX7_deal ∈ gG := gP4 4 rfl
set_option maxRecDepth 20000 in
theorem cd_X7_deal : Cond.code yX7_deal cX7_deal 5 (some .boolean) ∈ gG := gT5 189 rfl rfl
set_option maxRecDepth 20000 in
theorem ml_X7_78 : Cond.methodLink RX7 78 yX7_fewest ∈ gG := gT5 202 rfl rfl
set_option maxRecDepth 20000 in
theorem im_yX7_fewest : Cond.instanceMethod yX7_fewest ∈ gG := gT5 183 rfl rfl
set_option maxRecDepth 20000 in
theorem se_yX7_fewest : Cond.selects RX7 yX7_fewest yX7_fewest ∈ gG := gT5 184 rfl rfl
set_option maxRecDepth 20000 in
theorem cd_X7_fewest : Cond.code yX7_fewest cX7_fewest 2 (some .int) ∈ gG := gT5 185 rfl rfl
set_option maxRecDepth 20000 in
theorem ml_X11_226 : Cond.methodLink RX11 226 yX7_registerOf ∈ gG := gT5 198 rfl rfl
set_option maxRecDepth 20000 in
theorem im_yX7_registerOf : Cond.instanceMethod yX7_registerOf ∈ gG := gT5 199 rfl rfl
set_option maxRecDepth 20000 in
theorem se_yX7_registerOf : Cond.selects RX7 yX7_registerOf yX7_registerOf ∈ gG := gT5 200 rfl rfl
set_option maxRecDepth 20000 in
theorem cd_X7_registerOf : Cond.code yX7_registerOf cX7_registerOf 2 (some .int) ∈ gG := gT5 201 rfl rfl
set_option maxRecDepth 20000 in
theorem ml_X11_223 : Cond.methodLink RX11 223 yX7_fewest ∈ gG := gT5 182 rfl rfl
set_option maxRecDepth 20000 in
theorem ml_X11_232 : Cond.methodLink RX11 232 yX11_isVariable ∈ gG := gT5 215 rfl rfl
set_option maxRecDepth 20000 in
theorem ml_X11_235 : Cond.methodLink RX11 235 yX7_clashing ∈ gG := gT5 216 rfl rfl
set_option maxRecDepth 20000 in
theorem im_yX7_clashing : Cond.instanceMethod yX7_clashing ∈ gG := gT5 195 rfl rfl
set_option maxRecDepth 20000 in
theorem se_yX7_clashing : Cond.selects RX7 yX7_clashing yX7_clashing ∈ gG := gT5 196 rfl rfl
set_option maxRecDepth 20000 in
theorem cd_X7_clashing : Cond.code yX7_clashing cX7_clashing 3 (some .boolean) ∈ gG := gT5 197 rfl rfl
set_option maxRecDepth 20000 in
theorem fl_X11_143 : Cond.fieldLink RX11 143 "SameAfter$Passes" "judgement" "LSameAfter$Judge;" ∈ gG := gT2 121 rfl rfl
set_option maxRecDepth 20000 in
theorem fl_X2_28 : Cond.fieldLink RX2 28 "SameAfter$Judge" "parted" "I" ∈ gG := gT2 102 rfl rfl
set_option maxRecDepth 20000 in
theorem fl_X2_31 : Cond.fieldLink RX2 31 "SameAfter$Judge" "tired" "Z" ∈ gG := gT2 104 rfl rfl
set_option maxRecDepth 20000 in
theorem fl_X2_35 : Cond.fieldLink RX2 35 "SameAfter$Machine" "flow" "LSameAfter$Flow;" ∈ gG := gT1 216 rfl rfl
set_option maxRecDepth 20000 in
theorem ml_X2_39 : Cond.methodLink RX2 39 yX1_trace ∈ gG := gT4 111 rfl rfl
set_option maxRecDepth 20000 in
theorem ml_X2_45 : Cond.methodLink RX2 45 yX1_aheadOf ∈ gG := gT4 112 rfl rfl
set_option maxRecDepth 20000 in
theorem ml_X2_49 : Cond.methodLink RX2 49 yX3_go ∈ gG := gT4 113 rfl rfl
set_option maxRecDepth 20000 in
theorem fl_X2_64 : Cond.fieldLink RX2 64 "SameAfter$Machine" "outputCount" "I" ∈ gG := gT1 220 rfl rfl
set_option maxRecDepth 20000 in
theorem ml_X2_70 : Cond.methodLink RX2 70 Lib.Math.min.name ∈ gG := gT4 122 rfl rfl
set_option maxRecDepth 20000 in
theorem ml_X2_56 : Cond.methodLink RX2 56 yX2_placeThatDiffers ∈ gG := gT4 118 rfl rfl
set_option maxRecDepth 20000 in
theorem im_yX2_placeThatDiffers : Cond.instanceMethod yX2_placeThatDiffers ∈ gG := gT4 120 rfl rfl
set_option maxRecDepth 20000 in
theorem se_yX2_placeThatDiffers : Cond.selects RX2 yX2_placeThatDiffers yX2_placeThatDiffers ∈ gG := gP2 15 rfl
set_option maxRecDepth 20000 in
theorem cd_X2_placeThatDiffers : Cond.code yX2_placeThatDiffers cX2_placeThatDiffers 3 (some .int) ∈ gG := gT4 121 rfl rfl
set_option maxRecDepth 20000 in
theorem ml_X2_60 : Cond.methodLink RX2 60 yX3_isTired ∈ gG := gT4 124 rfl rfl
set_option maxRecDepth 20000 in
theorem im_yX3_isTired : Cond.instanceMethod yX3_isTired ∈ gG := gT4 125 rfl rfl
set_option maxRecDepth 20000 in
theorem se_yX3_isTired : Cond.selects RX3 yX3_isTired yX3_isTired ∈ gG := gT4 126 rfl rfl
set_option maxRecDepth 20000 in
theorem cd_X3_isTired : Cond.code yX3_isTired cX3_isTired 1 (some .boolean) ∈ gG := gT4 127 rfl rfl
set_option maxRecDepth 20000 in
theorem fl_X2_67 : Cond.fieldLink RX2 67 "SameAfter$Machine" "ending" "I" ∈ gG := gT1 223 rfl rfl
set_option maxRecDepth 20000 in
theorem ml_X2_53 : Cond.methodLink RX2 53 yX2_note ∈ gG := gT4 114 rfl rfl
set_option maxRecDepth 20000 in
theorem im_yX2_note : Cond.instanceMethod yX2_note ∈ gG := gT4 116 rfl rfl
set_option maxRecDepth 20000 in
theorem se_yX2_note : Cond.selects RX2 yX2_note yX2_note ∈ gG := gP2 14 rfl
set_option maxRecDepth 20000 in
theorem cd_X2_note : Cond.code yX2_note cX2_note 6 none ∈ gG := gT4 117 rfl rfl
set_option maxRecDepth 20000 in
theorem ml_X11_147 : Cond.methodLink RX11 147 yX2_compare ∈ gG := gT4 107 rfl rfl
set_option maxRecDepth 20000 in
theorem im_yX2_compare : Cond.instanceMethod yX2_compare ∈ gG := gT4 108 rfl rfl
set_option maxRecDepth 20000 in
theorem se_yX2_compare : Cond.selects RX2 yX2_compare yX2_compare ∈ gG := gT4 109 rfl rfl
set_option maxRecDepth 20000 in
theorem cd_X2_compare : Cond.code yX2_compare cX2_compare 9 (some .boolean) ∈ gG := gT4 110 rfl rfl
set_option maxRecDepth 20000 in
theorem ml_X11_153 : Cond.methodLink RX11 153 yX2_verdict ∈ gG := gT4 128 rfl rfl
set_option maxRecDepth 20000 in
theorem im_yX2_verdict : Cond.instanceMethod yX2_verdict ∈ gG := gT4 129 rfl rfl
set_option maxRecDepth 20000 in
theorem se_yX2_verdict : Cond.selects RX2 yX2_verdict yX2_verdict ∈ gG := gT4 130 rfl rfl
set_option maxRecDepth 20000 in
theorem cd_X2_verdict : Cond.code yX2_verdict cX2_verdict 1 (some .int) ∈ gG := gT4 131 rfl rfl
set_option maxRecDepth 20000 in
theorem fl_X11_156 : Cond.fieldLink RX11 156 "SameAfter$Judge" "first" "I" ∈ gG := gT2 99 rfl rfl
set_option maxRecDepth 20000 in
theorem fl_X11_159 : Cond.fieldLink RX11 159 "SameAfter$Judge" "firstPlace" "I" ∈ gG := gT2 101 rfl rfl
set_option maxRecDepth 20000 in
theorem fl_X11_162 : Cond.fieldLink RX11 162 "SameAfter$Judge" "parted" "I" ∈ gG := gT2 103 rfl rfl
set_option maxRecDepth 20000 in
theorem ml_X11_165 : Cond.methodLink RX11 165 yX11_ruleAt ∈ gG := gT4 136 rfl rfl
set_option maxRecDepth 20000 in
theorem im_yX11_ruleAt : Cond.instanceMethod yX11_ruleAt ∈ gG := gT4 138 rfl rfl
set_option maxRecDepth 20000 in
theorem se_yX11_ruleAt : Cond.selects RX11 yX11_ruleAt yX11_ruleAt ∈ gG := gP3 0 rfl
set_option maxRecDepth 20000 in
theorem cd_X11_ruleAt : Cond.code yX11_ruleAt cX11_ruleAt 2 (some (.object "SameAfter$Rule")) ∈ gG := gT4 139 rfl rfl
set_option maxRecDepth 20000 in
theorem ml_X11_191 : Cond.methodLink RX11 191 yX4_addItem ∈ gG := gT5 1 rfl rfl
set_option maxRecDepth 20000 in
theorem im_yX4_addItem : Cond.instanceMethod yX4_addItem ∈ gG := gT5 2 rfl rfl
set_option maxRecDepth 20000 in
theorem se_yX4_addItem : Cond.selects RX4 yX4_addItem yX4_addItem ∈ gG := gT5 3 rfl rfl
set_option maxRecDepth 20000 in
theorem cd_X4_addItem : Cond.code yX4_addItem cX4_addItem 3 (some .int) ∈ gG := gT5 4 rfl rfl
set_option maxRecDepth 20000 in
theorem ml_X11_195 : Cond.methodLink RX11 195 yX4_dropItems ∈ gG := gT5 12 rfl rfl
set_option maxRecDepth 20000 in
theorem im_yX4_dropItems : Cond.instanceMethod yX4_dropItems ∈ gG := gT5 13 rfl rfl
set_option maxRecDepth 20000 in
theorem se_yX4_dropItems : Cond.selects RX4 yX4_dropItems yX4_dropItems ∈ gG := gT5 14 rfl rfl
set_option maxRecDepth 20000 in
theorem cd_X4_dropItems : Cond.code yX4_dropItems cX4_dropItems 2 (some .boolean) ∈ gG := gT5 15 rfl rfl
set_option maxRecDepth 20000 in
theorem ml_X11_198 : Cond.methodLink RX11 198 yX4_makeOf ∈ gG := gT5 20 rfl rfl
set_option maxRecDepth 20000 in
theorem fl_X11_202 : Cond.fieldLink RX11 202 "SameAfter$Passes" "made" "LSameAfter$Row;" ∈ gG := gT2 123 rfl rfl
set_option maxRecDepth 20000 in
theorem ml_X4_127 : Cond.methodLink RX4 127 yX8_statements ∈ gG := gT5 151 rfl rfl
set_option maxRecDepth 20000 in
theorem ml_X11_214 : Cond.methodLink RX11 214 yX4_cutDown ∈ gG := gT5 147 rfl rfl
set_option maxRecDepth 20000 in
theorem im_yX4_cutDown : Cond.instanceMethod yX4_cutDown ∈ gG := gT5 148 rfl rfl
set_option maxRecDepth 20000 in
theorem se_yX4_cutDown : Cond.selects RX4 yX4_cutDown yX4_cutDown ∈ gG := gT5 149 rfl rfl
set_option maxRecDepth 20000 in
theorem cd_X4_cutDown : Cond.code yX4_cutDown cX4_cutDown 7 (some .boolean) ∈ gG := gT5 150 rfl rfl
set_option maxRecDepth 20000 in
theorem ml_X12_1 : Cond.methodLink RX12 1 objectInit ∈ gG := gT5 222 rfl rfl
set_option maxRecDepth 20000 in
theorem fl_X12_7 : Cond.fieldLink RX12 7 "SameAfterModel" "slot" "[I" ∈ gG := gT5 223 rfl rfl
set_option maxRecDepth 20000 in
theorem fl_X12_13 : Cond.fieldLink RX12 13 "SameAfterModel" "slotLong" "[I" ∈ gG := gT5 224 rfl rfl
set_option maxRecDepth 20000 in
theorem fl_X12_16 : Cond.fieldLink RX12 16 "SameAfterModel" "row" "[I" ∈ gG := gT5 225 rfl rfl
set_option maxRecDepth 20000 in
theorem fl_X12_19 : Cond.fieldLink RX12 19 "SameAfterModel" "fresh" "[I" ∈ gG := gT5 226 rfl rfl
set_option maxRecDepth 20000 in
theorem fl_X12_22 : Cond.fieldLink RX12 22 "SameAfterModel" "tape" "[I" ∈ gG := gT5 229 rfl rfl
set_option maxRecDepth 20000 in
theorem fl_X12_25 : Cond.fieldLink RX12 25 "SameAfterModel" "faultPlace" "I" ∈ gG := gT6 3 rfl rfl
set_option maxRecDepth 20000 in
theorem fl_X12_29 : Cond.fieldLink RX12 29 "SameAfterModel" "rule" "[I" ∈ gG := gT6 7 rfl rfl
set_option maxRecDepth 20000 in
theorem fl_X12_32 : Cond.fieldLink RX12 32 "SameAfterModel" "ruleRight" "[I" ∈ gG := gT6 8 rfl rfl
set_option maxRecDepth 20000 in
theorem fl_X12_35 : Cond.fieldLink RX12 35 "SameAfterModel" "ruleLong" "[I" ∈ gG := gT6 9 rfl rfl
set_option maxRecDepth 20000 in
theorem fl_X12_38 : Cond.fieldLink RX12 38 "SameAfterModel" "letters" "[I" ∈ gG := gT6 10 rfl rfl
set_option maxRecDepth 20000 in
theorem fl_X12_41 : Cond.fieldLink RX12 41 "SameAfterModel" "holds" "[I" ∈ gG := gT6 11 rfl rfl
set_option maxRecDepth 20000 in
theorem fl_X12_44 : Cond.fieldLink RX12 44 "SameAfterModel" "outs" "[I" ∈ gG := gT6 12 rfl rfl
set_option maxRecDepth 20000 in
theorem fl_X12_47 : Cond.fieldLink RX12 47 "SameAfterModel" "keptEnd" "[I" ∈ gG := gT6 17 rfl rfl
set_option maxRecDepth 20000 in
theorem fl_X12_50 : Cond.fieldLink RX12 50 "SameAfterModel" "keptMany" "[I" ∈ gG := gT6 18 rfl rfl
set_option maxRecDepth 20000 in
theorem fl_X12_53 : Cond.fieldLink RX12 53 "SameAfterModel" "keptOut" "[I" ∈ gG := gT6 19 rfl rfl
set_option maxRecDepth 20000 in
theorem fl_X12_56 : Cond.fieldLink RX12 56 "SameAfterModel" "stands" "[I" ∈ gG := gT6 24 rfl rfl
set_option maxRecDepth 20000 in
theorem fl_X12_59 : Cond.fieldLink RX12 59 "SameAfterModel" "form" "[I" ∈ gG := gT6 25 rfl rfl
set_option maxRecDepth 20000 in
theorem fl_X12_62 : Cond.fieldLink RX12 62 "SameAfterModel" "product" "[I" ∈ gG := gT6 27 rfl rfl
set_option maxRecDepth 20000 in
theorem fl_X12_65 : Cond.fieldLink RX12 65 "SameAfterModel" "bound" "[I" ∈ gG := gT6 28 rfl rfl
set_option maxRecDepth 20000 in
theorem ac_boolean : Cond.arrayClass .boolean ∈ gG := gT6 152 rfl rfl
set_option maxRecDepth 20000 in
theorem fl_X12_68 : Cond.fieldLink RX12 68 "SameAfterModel" "isOut" "[Z" ∈ gG := gT6 30 rfl rfl
set_option maxRecDepth 20000 in
theorem fl_X12_72 : Cond.fieldLink RX12 72 "SameAfterModel" "items" "[I" ∈ gG := gT6 32 rfl rfl
set_option maxRecDepth 20000 in
theorem fl_X12_75 : Cond.fieldLink RX12 75 "SameAfterModel" "itemMany" "[I" ∈ gG := gT6 33 rfl rfl
set_option maxRecDepth 20000 in
theorem fl_X12_78 : Cond.fieldLink RX12 78 "SameAfterModel" "whole" "[I" ∈ gG := gT6 34 rfl rfl
set_option maxRecDepth 20000 in
theorem fl_X12_81 : Cond.fieldLink RX12 81 "SameAfterModel" "cutRow" "[I" ∈ gG := gT6 36 rfl rfl
set_option maxRecDepth 20000 in
theorem fl_X12_84 : Cond.fieldLink RX12 84 "SameAfterModel" "clashes" "[I" ∈ gG := gT6 37 rfl rfl
set_option maxRecDepth 20000 in
theorem fl_X12_87 : Cond.fieldLink RX12 87 "SameAfterModel" "deal" "[I" ∈ gG := gT6 38 rfl rfl
set_option maxRecDepth 20000 in
theorem fl_X12_124 : Cond.fieldLink RX12 124 "SameAfterModel" "taped" "I" ∈ gG := gT5 230 rfl rfl
set_option maxRecDepth 20000 in
theorem ml_X12_90 : Cond.methodLink RX12 90 yX12_isIn ∈ gG := gT6 161 rfl rfl
set_option maxRecDepth 20000 in
theorem st_yX12_isIn : Cond.static yX12_isIn ∈ gG := gT6 162 rfl rfl
set_option maxRecDepth 20000 in
theorem in_X12 : Cond.initialized RX12 ∈ gG := gT1 14 rfl rfl
set_option maxRecDepth 20000 in
theorem cd_X12_isIn : Cond.code yX12_isIn cX12_isIn 3 (some .boolean) ∈ gG := gT6 163 rfl rfl
set_option maxRecDepth 20000 in
theorem fl_X12_179 : Cond.fieldLink RX12 179 "SameAfterModel" "wrong" "I" ∈ gG := gT5 235 rfl rfl
set_option maxRecDepth 20000 in
theorem ml_X12_249 : Cond.methodLink RX12 249 yX12_isSlot ∈ gG := gT6 168 rfl rfl
set_option maxRecDepth 20000 in
theorem st_yX12_isSlot : Cond.static yX12_isSlot ∈ gG := gT6 169 rfl rfl
set_option maxRecDepth 20000 in
theorem cd_X12_isSlot : Cond.code yX12_isSlot cX12_isSlot 1 (some .boolean) ∈ gG := gT6 170 rfl rfl
set_option maxRecDepth 20000 in
theorem fl_X12_246 : Cond.fieldLink RX12 246 "SameAfterModel" "faultKind" "I" ∈ gG := gT5 237 rfl rfl
set_option maxRecDepth 20000 in
theorem ml_X12_252 : Cond.methodLink RX12 252 yX12_ends ∈ gG := gT6 171 rfl rfl
set_option maxRecDepth 20000 in
theorem im_yX12_ends : Cond.instanceMethod yX12_ends ∈ gG := gT6 173 rfl rfl
set_option maxRecDepth 20000 in
theorem se_yX12_ends : Cond.selects RX12 yX12_ends yX12_ends ∈ gG := gP4 7 rfl
set_option maxRecDepth 20000 in
theorem cd_X12_ends : Cond.code yX12_ends cX12_ends 1 none ∈ gG := gT6 174 rfl rfl
set_option maxRecDepth 20000 in
theorem fl_X12_143 : Cond.fieldLink RX12 143 "SameAfterModel" "isRule" "Z" ∈ gG := gT6 4 rfl rfl
set_option maxRecDepth 20000 in
theorem fl_X12_225 : Cond.fieldLink RX12 225 "SameAfterModel" "isRight" "Z" ∈ gG := gT6 5 rfl rfl
set_option maxRecDepth 20000 in
theorem fl_X12_200 : Cond.fieldLink RX12 200 "SameAfterModel" "partsMost" "I" ∈ gG := gT6 1 rfl rfl
set_option maxRecDepth 20000 in
theorem fl_X12_182 : Cond.fieldLink RX12 182 "SameAfterModel" "wrongAt" "I" ∈ gG := gT5 236 rfl rfl
set_option maxRecDepth 20000 in
theorem fl_X12_127 : Cond.fieldLink RX12 127 "SameAfterModel" "at" "I" ∈ gG := gT5 231 rfl rfl
set_option maxRecDepth 20000 in
theorem fl_X12_191 : Cond.fieldLink RX12 191 "SameAfterModel" "depth" "I" ∈ gG := gT5 238 rfl rfl
set_option maxRecDepth 20000 in
theorem fl_X12_197 : Cond.fieldLink RX12 197 "SameAfterModel" "countParts" "I" ∈ gG := gT5 239 rfl rfl
set_option maxRecDepth 20000 in
theorem fl_X12_237 : Cond.fieldLink RX12 237 "SameAfterModel" "countStatements" "I" ∈ gG := gT6 0 rfl rfl
set_option maxRecDepth 20000 in
theorem fl_X12_228 : Cond.fieldLink RX12 228 "SameAfterModel" "leftLetters" "I" ∈ gG := gT6 2 rfl rfl
set_option maxRecDepth 20000 in
theorem fl_X12_117 : Cond.fieldLink RX12 117 "SameAfterModel" "made" "I" ∈ gG := gT5 228 rfl rfl
set_option maxRecDepth 20000 in
theorem ml_X12_161 : Cond.methodLink RX12 161 yX12_see ∈ gG := gT6 183 rfl rfl
set_option maxRecDepth 20000 in
theorem im_yX12_see : Cond.instanceMethod yX12_see ∈ gG := gT6 185 rfl rfl
set_option maxRecDepth 20000 in
theorem se_yX12_see : Cond.selects RX12 yX12_see yX12_see ∈ gG := gP4 10 rfl
set_option maxRecDepth 20000 in
theorem cd_X12_see : Cond.code yX12_see cX12_see 2 (some .int) ∈ gG := gT6 186 rfl rfl
set_option maxRecDepth 20000 in
theorem fl_X12_130 : Cond.fieldLink RX12 130 "SameAfterModel" "tokenAt" "I" ∈ gG := gT5 233 rfl rfl
set_option maxRecDepth 20000 in
theorem fl_X12_164 : Cond.fieldLink RX12 164 "SameAfterModel" "token" "I" ∈ gG := gT5 232 rfl rfl
set_option maxRecDepth 20000 in
theorem ml_X12_188 : Cond.methodLink RX12 188 yX12_next0 ∈ gG := gT6 179 rfl rfl
set_option maxRecDepth 20000 in
theorem im_yX12_next0 : Cond.instanceMethod yX12_next0 ∈ gG := gT6 181 rfl rfl
set_option maxRecDepth 20000 in
theorem se_yX12_next0 : Cond.selects RX12 yX12_next0 yX12_next0 ∈ gG := gP4 9 rfl
set_option maxRecDepth 20000 in
theorem cd_X12_next0 : Cond.code yX12_next0 cX12_next0 3 none ∈ gG := gT6 182 rfl rfl
set_option maxRecDepth 20000 in
theorem ml_X12_255 : Cond.methodLink RX12 255 yX12_begins ∈ gG := gT6 175 rfl rfl
set_option maxRecDepth 20000 in
theorem im_yX12_begins : Cond.instanceMethod yX12_begins ∈ gG := gT6 177 rfl rfl
set_option maxRecDepth 20000 in
theorem se_yX12_begins : Cond.selects RX12 yX12_begins yX12_begins ∈ gG := gP4 8 rfl
set_option maxRecDepth 20000 in
theorem cd_X12_begins : Cond.code yX12_begins cX12_begins 3 none ∈ gG := gT6 178 rfl rfl
set_option maxRecDepth 20000 in
theorem fl_X12_98 : Cond.fieldLink RX12 98 "SameAfterModel" "many" "I" ∈ gG := gT5 227 rfl rfl
set_option maxRecDepth 20000 in
theorem ml_X12_259 : Cond.methodLink RX12 259 yX12_turns ∈ gG := gT7 24 rfl rfl
set_option maxRecDepth 20000 in
theorem im_yX12_turns : Cond.instanceMethod yX12_turns ∈ gG := gT7 26 rfl rfl
set_option maxRecDepth 20000 in
theorem se_yX12_turns : Cond.selects RX12 yX12_turns yX12_turns ∈ gG := gP5 11 rfl
set_option maxRecDepth 20000 in
theorem cd_X12_turns : Cond.code yX12_turns cX12_turns 2 none ∈ gG := gT7 27 rfl rfl
set_option maxRecDepth 20000 in
theorem ml_X12_262 : Cond.methodLink RX12 262 yX12_puts ∈ gG := gT7 28 rfl rfl
set_option maxRecDepth 20000 in
theorem im_yX12_puts : Cond.instanceMethod yX12_puts ∈ gG := gT7 30 rfl rfl
set_option maxRecDepth 20000 in
theorem se_yX12_puts : Cond.selects RX12 yX12_puts yX12_puts ∈ gG := gP5 12 rfl
set_option maxRecDepth 20000 in
theorem cd_X12_puts : Cond.code yX12_puts cX12_puts 3 none ∈ gG := gT7 31 rfl rfl
set_option maxRecDepth 20000 in
theorem ml_X12_265 : Cond.methodLink RX12 265 yX12_statements ∈ gG := gT7 32 rfl rfl
set_option maxRecDepth 20000 in
theorem im_yX12_statements : Cond.instanceMethod yX12_statements ∈ gG := gT7 34 rfl rfl
set_option maxRecDepth 20000 in
theorem se_yX12_statements : Cond.selects RX12 yX12_statements yX12_statements ∈ gG := gP5 13 rfl
set_option maxRecDepth 20000 in
theorem cd_X12_statements : Cond.code yX12_statements cX12_statements 3 (some .int) ∈ gG := gT7 35 rfl rfl
set_option maxRecDepth 20000 in
theorem fl_X12_268 : Cond.fieldLink RX12 268 "SameAfterModel" "rules" "I" ∈ gG := gT6 6 rfl rfl
set_option maxRecDepth 20000 in
theorem ml_X12_185 : Cond.methodLink RX12 185 yX12_bad ∈ gG := gT6 212 rfl rfl
set_option maxRecDepth 20000 in
theorem im_yX12_bad : Cond.instanceMethod yX12_bad ∈ gG := gT6 214 rfl rfl
set_option maxRecDepth 20000 in
theorem se_yX12_bad : Cond.selects RX12 yX12_bad yX12_bad ∈ gG := gP4 14 rfl
set_option maxRecDepth 20000 in
theorem cd_X12_bad : Cond.code yX12_bad cX12_bad 2 (some .boolean) ∈ gG := gT6 215 rfl rfl
set_option maxRecDepth 20000 in
theorem ml_X12_213 : Cond.methodLink RX12 213 yX12_unit ∈ gG := gT6 232 rfl rfl
set_option maxRecDepth 20000 in
theorem im_yX12_unit : Cond.instanceMethod yX12_unit ∈ gG := gT6 234 rfl rfl
set_option maxRecDepth 20000 in
theorem se_yX12_unit : Cond.selects RX12 yX12_unit yX12_unit ∈ gG := gP5 3 rfl
set_option maxRecDepth 20000 in
theorem cd_X12_unit : Cond.code yX12_unit cX12_unit 3 (some .boolean) ∈ gG := gT6 235 rfl rfl
set_option maxRecDepth 20000 in
theorem ml_X12_203 : Cond.methodLink RX12 203 yX12_product ∈ gG := gT6 228 rfl rfl
set_option maxRecDepth 20000 in
theorem im_yX12_product : Cond.instanceMethod yX12_product ∈ gG := gT6 230 rfl rfl
set_option maxRecDepth 20000 in
theorem se_yX12_product : Cond.selects RX12 yX12_product yX12_product ∈ gG := gP5 2 rfl
set_option maxRecDepth 20000 in
theorem cd_X12_product : Cond.code yX12_product cX12_product 2 (some .boolean) ∈ gG := gT6 231 rfl rfl
set_option maxRecDepth 20000 in
theorem ml_X12_219 : Cond.methodLink RX12 219 yX12_sumUp ∈ gG := gT6 224 rfl rfl
set_option maxRecDepth 20000 in
theorem im_yX12_sumUp : Cond.instanceMethod yX12_sumUp ∈ gG := gT6 226 rfl rfl
set_option maxRecDepth 20000 in
theorem se_yX12_sumUp : Cond.selects RX12 yX12_sumUp yX12_sumUp ∈ gG := gP5 1 rfl
set_option maxRecDepth 20000 in
theorem cd_X12_sumUp : Cond.code yX12_sumUp cX12_sumUp 3 (some .boolean) ∈ gG := gT6 227 rfl rfl
set_option maxRecDepth 20000 in
theorem ml_X12_271 : Cond.methodLink RX12 271 yX12_takes ∈ gG := gT7 55 rfl rfl
set_option maxRecDepth 20000 in
theorem im_yX12_takes : Cond.instanceMethod yX12_takes ∈ gG := gT7 57 rfl rfl
set_option maxRecDepth 20000 in
theorem se_yX12_takes : Cond.selects RX12 yX12_takes yX12_takes ∈ gG := gP5 14 rfl
set_option maxRecDepth 20000 in
theorem cd_X12_takes : Cond.code yX12_takes cX12_takes 3 none ∈ gG := gT7 58 rfl rfl
set_option maxRecDepth 20000 in
theorem ml_X12_107 : Cond.methodLink RX12 107 yX12_isLast ∈ gG := gT7 71 rfl rfl
set_option maxRecDepth 20000 in
theorem im_yX12_isLast : Cond.instanceMethod yX12_isLast ∈ gG := gT7 73 rfl rfl
set_option maxRecDepth 20000 in
theorem se_yX12_isLast : Cond.selects RX12 yX12_isLast yX12_isLast ∈ gG := gP6 2 rfl
set_option maxRecDepth 20000 in
theorem cd_X12_isLast : Cond.code yX12_isLast cX12_isLast 2 (some .boolean) ∈ gG := gT7 74 rfl rfl
set_option maxRecDepth 20000 in
theorem ml_X12_277 : Cond.methodLink RX12 277 yX12_liveFrom ∈ gG := gT7 67 rfl rfl
set_option maxRecDepth 20000 in
theorem im_yX12_liveFrom : Cond.instanceMethod yX12_liveFrom ∈ gG := gT7 69 rfl rfl
set_option maxRecDepth 20000 in
theorem se_yX12_liveFrom : Cond.selects RX12 yX12_liveFrom yX12_liveFrom ∈ gG := gP6 1 rfl
set_option maxRecDepth 20000 in
theorem cd_X12_liveFrom : Cond.code yX12_liveFrom cX12_liveFrom 3 (some .int) ∈ gG := gT7 70 rfl rfl
set_option maxRecDepth 20000 in
theorem ml_X12_274 : Cond.methodLink RX12 274 yX12_parts ∈ gG := gT7 59 rfl rfl
set_option maxRecDepth 20000 in
theorem im_yX12_parts : Cond.instanceMethod yX12_parts ∈ gG := gT7 61 rfl rfl
set_option maxRecDepth 20000 in
theorem se_yX12_parts : Cond.selects RX12 yX12_parts yX12_parts ∈ gG := gP5 15 rfl
set_option maxRecDepth 20000 in
theorem cd_X12_parts : Cond.code yX12_parts cX12_parts 3 (some .int) ∈ gG := gT7 62 rfl rfl
set_option maxRecDepth 20000 in
theorem fl_X12_291 : Cond.fieldLink RX12 291 "SameAfterModel" "steps" "I" ∈ gG := gT6 13 rfl rfl
set_option maxRecDepth 20000 in
theorem fl_X12_294 : Cond.fieldLink RX12 294 "SameAfterModel" "ending" "I" ∈ gG := gT6 14 rfl rfl
set_option maxRecDepth 20000 in
theorem fl_X12_312 : Cond.fieldLink RX12 312 "SameAfterModel" "outMany" "I" ∈ gG := gT6 15 rfl rfl
set_option maxRecDepth 20000 in
theorem ml_X12_306 : Cond.methodLink RX12 306 yX12_does ∈ gG := gT7 107 rfl rfl
set_option maxRecDepth 20000 in
theorem im_yX12_does : Cond.instanceMethod yX12_does ∈ gG := gT7 109 rfl rfl
set_option maxRecDepth 20000 in
theorem se_yX12_does : Cond.selects RX12 yX12_does yX12_does ∈ gG := gP6 10 rfl
set_option maxRecDepth 20000 in
theorem cd_X12_does : Cond.code yX12_does cX12_does 3 (some .boolean) ∈ gG := gT7 110 rfl rfl
set_option maxRecDepth 20000 in
theorem ml_X12_315 : Cond.methodLink RX12 315 yX12_runs ∈ gG := gT7 103 rfl rfl
set_option maxRecDepth 20000 in
theorem im_yX12_runs : Cond.instanceMethod yX12_runs ∈ gG := gT7 105 rfl rfl
set_option maxRecDepth 20000 in
theorem se_yX12_runs : Cond.selects RX12 yX12_runs yX12_runs ∈ gG := gP6 9 rfl
set_option maxRecDepth 20000 in
theorem cd_X12_runs : Cond.code yX12_runs cX12_runs 4 none ∈ gG := gT7 106 rfl rfl
set_option maxRecDepth 20000 in
theorem ml_X12_330 : Cond.methodLink RX12 330 yX12_keeps ∈ gG := gT7 134 rfl rfl
set_option maxRecDepth 20000 in
theorem im_yX12_keeps : Cond.instanceMethod yX12_keeps ∈ gG := gT7 136 rfl rfl
set_option maxRecDepth 20000 in
theorem se_yX12_keeps : Cond.selects RX12 yX12_keeps yX12_keeps ∈ gG := gP6 15 rfl
set_option maxRecDepth 20000 in
theorem cd_X12_keeps : Cond.code yX12_keeps cX12_keeps 3 none ∈ gG := gT7 137 rfl rfl
set_option maxRecDepth 20000 in
theorem fl_X12_318 : Cond.fieldLink RX12 318 "SameAfterModel" "firstParting" "I" ∈ gG := gT6 20 rfl rfl
set_option maxRecDepth 20000 in
theorem fl_X12_321 : Cond.fieldLink RX12 321 "SameAfterModel" "firstPlace" "I" ∈ gG := gT6 21 rfl rfl
set_option maxRecDepth 20000 in
theorem fl_X12_324 : Cond.fieldLink RX12 324 "SameAfterModel" "partings" "I" ∈ gG := gT6 22 rfl rfl
set_option maxRecDepth 20000 in
theorem fl_X12_327 : Cond.fieldLink RX12 327 "SameAfterModel" "anyTired" "Z" ∈ gG := gT6 23 rfl rfl
set_option maxRecDepth 20000 in
theorem ml_X12_333 : Cond.methodLink RX12 333 yX12_compares ∈ gG := gT7 138 rfl rfl
set_option maxRecDepth 20000 in
theorem im_yX12_compares : Cond.instanceMethod yX12_compares ∈ gG := gT7 140 rfl rfl
set_option maxRecDepth 20000 in
theorem se_yX12_compares : Cond.selects RX12 yX12_compares yX12_compares ∈ gG := gP7 0 rfl
set_option maxRecDepth 20000 in
theorem cd_X12_compares : Cond.code yX12_compares cX12_compares 5 none ∈ gG := gT7 141 rfl rfl
set_option maxRecDepth 20000 in
theorem ml_X12_423 : Cond.methodLink RX12 423 yX12_isPass ∈ gG := gT7 202 rfl rfl
set_option maxRecDepth 20000 in
theorem st_yX12_isPass : Cond.static yX12_isPass ∈ gG := gT7 203 rfl rfl
set_option maxRecDepth 20000 in
theorem cd_X12_isPass : Cond.code yX12_isPass cX12_isPass 1 (some .boolean) ∈ gG := gT7 204 rfl rfl
set_option maxRecDepth 20000 in
theorem ml_X12_439 : Cond.methodLink RX12 439 yX12_makes ∈ gG := gT7 213 rfl rfl
set_option maxRecDepth 20000 in
theorem im_yX12_makes : Cond.instanceMethod yX12_makes ∈ gG := gT7 215 rfl rfl
set_option maxRecDepth 20000 in
theorem se_yX12_makes : Cond.selects RX12 yX12_makes yX12_makes ∈ gG := gP7 12 rfl
set_option maxRecDepth 20000 in
theorem cd_X12_makes : Cond.code yX12_makes cX12_makes 4 (some .boolean) ∈ gG := gT7 216 rfl rfl
set_option maxRecDepth 20000 in
theorem ml_X12_463 : Cond.methodLink RX12 463 yX12_clashFrom ∈ gG := gT8 73 rfl rfl
set_option maxRecDepth 20000 in
theorem im_yX12_clashFrom : Cond.instanceMethod yX12_clashFrom ∈ gG := gT8 75 rfl rfl
set_option maxRecDepth 20000 in
theorem se_yX12_clashFrom : Cond.selects RX12 yX12_clashFrom yX12_clashFrom ∈ gG := gP9 2 rfl
set_option maxRecDepth 20000 in
theorem cd_X12_clashFrom : Cond.code yX12_clashFrom cX12_clashFrom 7 none ∈ gG := gT8 76 rfl rfl
set_option maxRecDepth 20000 in
theorem ml_X12_472 : Cond.methodLink RX12 472 yX12_clashIn ∈ gG := gT8 69 rfl rfl
set_option maxRecDepth 20000 in
theorem im_yX12_clashIn : Cond.instanceMethod yX12_clashIn ∈ gG := gT8 71 rfl rfl
set_option maxRecDepth 20000 in
theorem se_yX12_clashIn : Cond.selects RX12 yX12_clashIn yX12_clashIn ∈ gG := gP9 1 rfl
set_option maxRecDepth 20000 in
theorem cd_X12_clashIn : Cond.code yX12_clashIn cX12_clashIn 3 none ∈ gG := gT8 72 rfl rfl
set_option maxRecDepth 20000 in
theorem ml_X12_379 : Cond.methodLink RX12 379 yX12_reads ∈ gG := gT7 91 rfl rfl
set_option maxRecDepth 20000 in
theorem im_yX12_reads : Cond.instanceMethod yX12_reads ∈ gG := gT7 93 rfl rfl
set_option maxRecDepth 20000 in
theorem se_yX12_reads : Cond.selects RX12 yX12_reads yX12_reads ∈ gG := gP6 7 rfl
set_option maxRecDepth 20000 in
theorem cd_X12_reads : Cond.code yX12_reads cX12_reads 5 (some .int) ∈ gG := gT7 94 rfl rfl
set_option maxRecDepth 20000 in
theorem ml_X12_409 : Cond.methodLink RX12 409 yX12_sets ∈ gG := gT8 25 rfl rfl
set_option maxRecDepth 20000 in
theorem im_yX12_sets : Cond.instanceMethod yX12_sets ∈ gG := gT8 27 rfl rfl
set_option maxRecDepth 20000 in
theorem se_yX12_sets : Cond.selects RX12 yX12_sets yX12_sets ∈ gG := gP8 9 rfl
set_option maxRecDepth 20000 in
theorem cd_X12_sets : Cond.code yX12_sets cX12_sets 6 (some .boolean) ∈ gG := gT8 28 rfl rfl
set_option maxRecDepth 20000 in
theorem ml_X12_475 : Cond.methodLink RX12 475 yX12_inRow ∈ gG := gT8 85 rfl rfl
set_option maxRecDepth 20000 in
theorem im_yX12_inRow : Cond.instanceMethod yX12_inRow ∈ gG := gT8 87 rfl rfl
set_option maxRecDepth 20000 in
theorem se_yX12_inRow : Cond.selects RX12 yX12_inRow yX12_inRow ∈ gG := gP9 5 rfl
set_option maxRecDepth 20000 in
theorem cd_X12_inRow : Cond.code yX12_inRow cX12_inRow 3 (some .int) ∈ gG := gT8 88 rfl rfl
set_option maxRecDepth 20000 in
theorem ml_X12_466 : Cond.methodLink RX12 466 yX12_deals ∈ gG := gT8 97 rfl rfl
set_option maxRecDepth 20000 in
theorem im_yX12_deals : Cond.instanceMethod yX12_deals ∈ gG := gT8 99 rfl rfl
set_option maxRecDepth 20000 in
theorem se_yX12_deals : Cond.selects RX12 yX12_deals yX12_deals ∈ gG := gP9 8 rfl
set_option maxRecDepth 20000 in
theorem cd_X12_deals : Cond.code yX12_deals cX12_deals 9 (some .boolean) ∈ gG := gT8 100 rfl rfl
set_option maxRecDepth 20000 in
theorem ml_X12_481 : Cond.methodLink RX12 481 yX12_enough ∈ gG := gT8 101 rfl rfl
set_option maxRecDepth 20000 in
theorem im_yX12_enough : Cond.instanceMethod yX12_enough ∈ gG := gT8 103 rfl rfl
set_option maxRecDepth 20000 in
theorem se_yX12_enough : Cond.selects RX12 yX12_enough yX12_enough ∈ gG := gP9 9 rfl
set_option maxRecDepth 20000 in
theorem cd_X12_enough : Cond.code yX12_enough cX12_enough 3 (some .int) ∈ gG := gT8 104 rfl rfl
set_option maxRecDepth 20000 in
theorem ml_X12_478 : Cond.methodLink RX12 478 yX12_spills ∈ gG := gT8 89 rfl rfl
set_option maxRecDepth 20000 in
theorem im_yX12_spills : Cond.instanceMethod yX12_spills ∈ gG := gT8 91 rfl rfl
set_option maxRecDepth 20000 in
theorem se_yX12_spills : Cond.selects RX12 yX12_spills yX12_spills ∈ gG := gP9 6 rfl
set_option maxRecDepth 20000 in
theorem cd_X12_spills : Cond.code yX12_spills cX12_spills 5 (some .int) ∈ gG := gT8 92 rfl rfl
set_option maxRecDepth 20000 in
theorem cl_L_7 : Cond.classLink RL 7 RX11 ∈ gG := gT1 20 rfl rfl
set_option maxRecDepth 20000 in
theorem cd_X11_init : Cond.code yX11_init cX11_init 2 none ∈ gG := gT1 24 rfl rfl
set_option maxRecDepth 20000 in
theorem ml_L_9 : Cond.methodLink RL 9 yX11_init ∈ gG := gT1 22 rfl rfl
set_option maxRecDepth 20000 in
theorem im_yX11_init : Cond.instanceMethod yX11_init ∈ gG := gT1 23 rfl rfl
set_option maxRecDepth 20000 in
theorem cl_L_10 : Cond.classLink RL 10 RX12 ∈ gG := gT5 217 rfl rfl
set_option maxRecDepth 20000 in
theorem cd_X12_init : Cond.code yX12_init cX12_init 1 none ∈ gG := gT5 221 rfl rfl
set_option maxRecDepth 20000 in
theorem ml_L_12 : Cond.methodLink RL 12 yX12_init ∈ gG := gT5 219 rfl rfl
set_option maxRecDepth 20000 in
theorem im_yX12_init : Cond.instanceMethod yX12_init ∈ gG := gT5 220 rfl rfl
set_option maxRecDepth 20000 in
theorem ml_L_13 : Cond.methodLink RL 13 yX11_feed ∈ gG := gT2 205 rfl rfl
set_option maxRecDepth 20000 in
theorem im_yX11_feed : Cond.instanceMethod yX11_feed ∈ gG := gT2 206 rfl rfl
set_option maxRecDepth 20000 in
theorem se_yX11_feed : Cond.selects RX11 yX11_feed yX11_feed ∈ gG := gT2 207 rfl rfl
set_option maxRecDepth 20000 in
theorem cd_X11_feed : Cond.code yX11_feed cX11_feed 7 (some .int) ∈ gG := gT2 208 rfl rfl
set_option maxRecDepth 20000 in
theorem ml_L_17 : Cond.methodLink RL 17 yX12_feed ∈ gG := gT6 153 rfl rfl
set_option maxRecDepth 20000 in
theorem im_yX12_feed : Cond.instanceMethod yX12_feed ∈ gG := gT6 154 rfl rfl
set_option maxRecDepth 20000 in
theorem se_yX12_feed : Cond.selects RX12 yX12_feed yX12_feed ∈ gG := gT6 155 rfl rfl
set_option maxRecDepth 20000 in
theorem cd_X12_feed : Cond.code yX12_feed cX12_feed 8 (some .int) ∈ gG := gT6 156 rfl rfl
set_option maxRecDepth 20000 in
theorem ml_L_18 : Cond.methodLink RL 18 yX11_end ∈ gG := gT2 213 rfl rfl
set_option maxRecDepth 20000 in
theorem im_yX11_end : Cond.instanceMethod yX11_end ∈ gG := gT2 214 rfl rfl
set_option maxRecDepth 20000 in
theorem se_yX11_end : Cond.selects RX11 yX11_end yX11_end ∈ gG := gT2 215 rfl rfl
set_option maxRecDepth 20000 in
theorem cd_X11_end : Cond.code yX11_end cX11_end 2 (some .boolean) ∈ gG := gT2 216 rfl rfl
set_option maxRecDepth 20000 in
theorem ml_L_22 : Cond.methodLink RL 22 yX12_end ∈ gG := gT6 157 rfl rfl
set_option maxRecDepth 20000 in
theorem im_yX12_end : Cond.instanceMethod yX12_end ∈ gG := gT6 158 rfl rfl
set_option maxRecDepth 20000 in
theorem se_yX12_end : Cond.selects RX12 yX12_end yX12_end ∈ gG := gT6 159 rfl rfl
set_option maxRecDepth 20000 in
theorem cd_X12_end : Cond.code yX12_end cX12_end 2 (some .boolean) ∈ gG := gT6 160 rfl rfl
set_option maxRecDepth 20000 in
theorem ml_L_23 : Cond.methodLink RL 23 yX11_program ∈ gG := gT2 221 rfl rfl
set_option maxRecDepth 20000 in
theorem im_yX11_program : Cond.instanceMethod yX11_program ∈ gG := gT2 222 rfl rfl
set_option maxRecDepth 20000 in
theorem se_yX11_program : Cond.selects RX11 yX11_program yX11_program ∈ gG := gT2 223 rfl rfl
set_option maxRecDepth 20000 in
theorem cd_X11_program : Cond.code yX11_program cX11_program 3 (some .int) ∈ gG := gT2 224 rfl rfl
set_option maxRecDepth 20000 in
theorem ml_L_27 : Cond.methodLink RL 27 yX12_program ∈ gG := gT6 164 rfl rfl
set_option maxRecDepth 20000 in
theorem im_yX12_program : Cond.instanceMethod yX12_program ∈ gG := gT6 165 rfl rfl
set_option maxRecDepth 20000 in
theorem se_yX12_program : Cond.selects RX12 yX12_program yX12_program ∈ gG := gT6 166 rfl rfl
set_option maxRecDepth 20000 in
theorem cd_X12_program : Cond.code yX12_program cX12_program 3 (some .int) ∈ gG := gT6 167 rfl rfl
set_option maxRecDepth 20000 in
theorem ml_L_28 : Cond.methodLink RL 28 yX11_rule ∈ gG := gT3 218 rfl rfl
set_option maxRecDepth 20000 in
theorem im_yX11_rule : Cond.instanceMethod yX11_rule ∈ gG := gT3 219 rfl rfl
set_option maxRecDepth 20000 in
theorem se_yX11_rule : Cond.selects RX11 yX11_rule yX11_rule ∈ gG := gT3 220 rfl rfl
set_option maxRecDepth 20000 in
theorem cd_X11_rule : Cond.code yX11_rule cX11_rule 2 (some .int) ∈ gG := gT3 221 rfl rfl
set_option maxRecDepth 20000 in
theorem ml_L_32 : Cond.methodLink RL 32 yX12_rule ∈ gG := gT7 39 rfl rfl
set_option maxRecDepth 20000 in
theorem im_yX12_rule : Cond.instanceMethod yX12_rule ∈ gG := gT7 40 rfl rfl
set_option maxRecDepth 20000 in
theorem se_yX12_rule : Cond.selects RX12 yX12_rule yX12_rule ∈ gG := gT7 41 rfl rfl
set_option maxRecDepth 20000 in
theorem cd_X12_rule : Cond.code yX12_rule cX12_rule 4 (some .int) ∈ gG := gT7 42 rfl rfl
set_option maxRecDepth 20000 in
theorem ml_L_33 : Cond.methodLink RL 33 yX11_fault ∈ gG := gT3 234 rfl rfl
set_option maxRecDepth 20000 in
theorem im_yX11_fault : Cond.instanceMethod yX11_fault ∈ gG := gT3 235 rfl rfl
set_option maxRecDepth 20000 in
theorem se_yX11_fault : Cond.selects RX11 yX11_fault yX11_fault ∈ gG := gT3 236 rfl rfl
set_option maxRecDepth 20000 in
theorem cd_X11_fault : Cond.code yX11_fault cX11_fault 2 (some .int) ∈ gG := gT3 237 rfl rfl
set_option maxRecDepth 20000 in
theorem ml_L_36 : Cond.methodLink RL 36 yX12_fault ∈ gG := gT7 43 rfl rfl
set_option maxRecDepth 20000 in
theorem im_yX12_fault : Cond.instanceMethod yX12_fault ∈ gG := gT7 44 rfl rfl
set_option maxRecDepth 20000 in
theorem se_yX12_fault : Cond.selects RX12 yX12_fault yX12_fault ∈ gG := gT7 45 rfl rfl
set_option maxRecDepth 20000 in
theorem cd_X12_fault : Cond.code yX12_fault cX12_fault 2 (some .int) ∈ gG := gT7 46 rfl rfl
set_option maxRecDepth 20000 in
theorem ml_L_37 : Cond.methodLink RL 37 yX11_at ∈ gG := gT3 238 rfl rfl
set_option maxRecDepth 20000 in
theorem im_yX11_at : Cond.instanceMethod yX11_at ∈ gG := gT3 239 rfl rfl
set_option maxRecDepth 20000 in
theorem se_yX11_at : Cond.selects RX11 yX11_at yX11_at ∈ gG := gT4 0 rfl rfl
set_option maxRecDepth 20000 in
theorem cd_X11_at : Cond.code yX11_at cX11_at 4 (some .int) ∈ gG := gT4 1 rfl rfl
set_option maxRecDepth 20000 in
theorem ml_L_41 : Cond.methodLink RL 41 yX12_at ∈ gG := gT7 47 rfl rfl
set_option maxRecDepth 20000 in
theorem im_yX12_at : Cond.instanceMethod yX12_at ∈ gG := gT7 48 rfl rfl
set_option maxRecDepth 20000 in
theorem se_yX12_at : Cond.selects RX12 yX12_at yX12_at ∈ gG := gT7 49 rfl rfl
set_option maxRecDepth 20000 in
theorem cd_X12_at : Cond.code yX12_at cX12_at 3 (some .int) ∈ gG := gT7 50 rfl rfl
set_option maxRecDepth 20000 in
theorem ml_L_42 : Cond.methodLink RL 42 yX11_size ∈ gG := gT4 3 rfl rfl
set_option maxRecDepth 20000 in
theorem im_yX11_size : Cond.instanceMethod yX11_size ∈ gG := gT4 4 rfl rfl
set_option maxRecDepth 20000 in
theorem se_yX11_size : Cond.selects RX11 yX11_size yX11_size ∈ gG := gT4 5 rfl rfl
set_option maxRecDepth 20000 in
theorem cd_X11_size : Cond.code yX11_size cX11_size 4 (some .int) ∈ gG := gT4 6 rfl rfl
set_option maxRecDepth 20000 in
theorem ml_L_45 : Cond.methodLink RL 45 yX12_size ∈ gG := gT7 51 rfl rfl
set_option maxRecDepth 20000 in
theorem im_yX12_size : Cond.instanceMethod yX12_size ∈ gG := gT7 52 rfl rfl
set_option maxRecDepth 20000 in
theorem se_yX12_size : Cond.selects RX12 yX12_size yX12_size ∈ gG := gT7 53 rfl rfl
set_option maxRecDepth 20000 in
theorem cd_X12_size : Cond.code yX12_size cX12_size 3 (some .int) ∈ gG := gT7 54 rfl rfl
set_option maxRecDepth 20000 in
theorem ml_L_46 : Cond.methodLink RL 46 yX11_run ∈ gG := gT4 62 rfl rfl
set_option maxRecDepth 20000 in
theorem im_yX11_run : Cond.instanceMethod yX11_run ∈ gG := gT4 63 rfl rfl
set_option maxRecDepth 20000 in
theorem se_yX11_run : Cond.selects RX11 yX11_run yX11_run ∈ gG := gT4 64 rfl rfl
set_option maxRecDepth 20000 in
theorem cd_X11_run : Cond.code yX11_run cX11_run 6 (some .int) ∈ gG := gT4 65 rfl rfl
set_option maxRecDepth 20000 in
theorem ml_L_50 : Cond.methodLink RL 50 yX12_run ∈ gG := gT7 99 rfl rfl
set_option maxRecDepth 20000 in
theorem im_yX12_run : Cond.instanceMethod yX12_run ∈ gG := gT7 100 rfl rfl
set_option maxRecDepth 20000 in
theorem se_yX12_run : Cond.selects RX12 yX12_run yX12_run ∈ gG := gT7 101 rfl rfl
set_option maxRecDepth 20000 in
theorem cd_X12_run : Cond.code yX12_run cX12_run 5 (some .int) ∈ gG := gT7 102 rfl rfl
set_option maxRecDepth 20000 in
theorem ml_L_51 : Cond.methodLink RL 51 yX11_judge ∈ gG := gT4 103 rfl rfl
set_option maxRecDepth 20000 in
theorem im_yX11_judge : Cond.instanceMethod yX11_judge ∈ gG := gT4 104 rfl rfl
set_option maxRecDepth 20000 in
theorem se_yX11_judge : Cond.selects RX11 yX11_judge yX11_judge ∈ gG := gT4 105 rfl rfl
set_option maxRecDepth 20000 in
theorem cd_X11_judge : Cond.code yX11_judge cX11_judge 7 (some .int) ∈ gG := gT4 106 rfl rfl
set_option maxRecDepth 20000 in
theorem ml_L_55 : Cond.methodLink RL 55 yX12_judge ∈ gG := gT7 130 rfl rfl
set_option maxRecDepth 20000 in
theorem im_yX12_judge : Cond.instanceMethod yX12_judge ∈ gG := gT7 131 rfl rfl
set_option maxRecDepth 20000 in
theorem se_yX12_judge : Cond.selects RX12 yX12_judge yX12_judge ∈ gG := gT7 132 rfl rfl
set_option maxRecDepth 20000 in
theorem cd_X12_judge : Cond.code yX12_judge cX12_judge 4 (some .int) ∈ gG := gT7 133 rfl rfl
set_option maxRecDepth 20000 in
theorem ml_L_56 : Cond.methodLink RL 56 yX11_ruleOf ∈ gG := gT4 132 rfl rfl
set_option maxRecDepth 20000 in
theorem im_yX11_ruleOf : Cond.instanceMethod yX11_ruleOf ∈ gG := gT4 133 rfl rfl
set_option maxRecDepth 20000 in
theorem se_yX11_ruleOf : Cond.selects RX11 yX11_ruleOf yX11_ruleOf ∈ gG := gT4 134 rfl rfl
set_option maxRecDepth 20000 in
theorem cd_X11_ruleOf : Cond.code yX11_ruleOf cX11_ruleOf 4 (some .int) ∈ gG := gT4 135 rfl rfl
set_option maxRecDepth 20000 in
theorem ml_L_59 : Cond.methodLink RL 59 yX12_ruleOf ∈ gG := gT7 142 rfl rfl
set_option maxRecDepth 20000 in
theorem im_yX12_ruleOf : Cond.instanceMethod yX12_ruleOf ∈ gG := gT7 143 rfl rfl
set_option maxRecDepth 20000 in
theorem se_yX12_ruleOf : Cond.selects RX12 yX12_ruleOf yX12_ruleOf ∈ gG := gT7 144 rfl rfl
set_option maxRecDepth 20000 in
theorem cd_X12_ruleOf : Cond.code yX12_ruleOf cX12_ruleOf 8 (some .int) ∈ gG := gT7 145 rfl rfl
set_option maxRecDepth 20000 in
theorem ml_L_60 : Cond.methodLink RL 60 yX11_places ∈ gG := gT4 193 rfl rfl
set_option maxRecDepth 20000 in
theorem im_yX11_places : Cond.instanceMethod yX11_places ∈ gG := gT4 194 rfl rfl
set_option maxRecDepth 20000 in
theorem se_yX11_places : Cond.selects RX11 yX11_places yX11_places ∈ gG := gT4 195 rfl rfl
set_option maxRecDepth 20000 in
theorem cd_X11_places : Cond.code yX11_places cX11_places 5 (some .int) ∈ gG := gT4 196 rfl rfl
set_option maxRecDepth 20000 in
theorem ml_L_63 : Cond.methodLink RL 63 yX12_places ∈ gG := gT7 166 rfl rfl
set_option maxRecDepth 20000 in
theorem im_yX12_places : Cond.instanceMethod yX12_places ∈ gG := gT7 167 rfl rfl
set_option maxRecDepth 20000 in
theorem se_yX12_places : Cond.selects RX12 yX12_places yX12_places ∈ gG := gT7 168 rfl rfl
set_option maxRecDepth 20000 in
theorem cd_X12_places : Cond.code yX12_places cX12_places 5 (some .int) ∈ gG := gT7 169 rfl rfl
set_option maxRecDepth 20000 in
theorem ml_L_64 : Cond.methodLink RL 64 yX11_apply ∈ gG := gT4 218 rfl rfl
set_option maxRecDepth 20000 in
theorem im_yX11_apply : Cond.instanceMethod yX11_apply ∈ gG := gT4 219 rfl rfl
set_option maxRecDepth 20000 in
theorem se_yX11_apply : Cond.selects RX11 yX11_apply yX11_apply ∈ gG := gT4 220 rfl rfl
set_option maxRecDepth 20000 in
theorem cd_X11_apply : Cond.code yX11_apply cX11_apply 9 (some .boolean) ∈ gG := gT4 221 rfl rfl
set_option maxRecDepth 20000 in
theorem ml_L_68 : Cond.methodLink RL 68 yX12_apply ∈ gG := gT7 182 rfl rfl
set_option maxRecDepth 20000 in
theorem im_yX12_apply : Cond.instanceMethod yX12_apply ∈ gG := gT7 183 rfl rfl
set_option maxRecDepth 20000 in
theorem se_yX12_apply : Cond.selects RX12 yX12_apply yX12_apply ∈ gG := gT7 184 rfl rfl
set_option maxRecDepth 20000 in
theorem cd_X12_apply : Cond.code yX12_apply cX12_apply 6 (some .boolean) ∈ gG := gT7 185 rfl rfl
set_option maxRecDepth 20000 in
theorem ml_L_69 : Cond.methodLink RL 69 yX11_item ∈ gG := gT4 237 rfl rfl
set_option maxRecDepth 20000 in
theorem im_yX11_item : Cond.instanceMethod yX11_item ∈ gG := gT4 238 rfl rfl
set_option maxRecDepth 20000 in
theorem se_yX11_item : Cond.selects RX11 yX11_item yX11_item ∈ gG := gT4 239 rfl rfl
set_option maxRecDepth 20000 in
theorem cd_X11_item : Cond.code yX11_item cX11_item 5 (some .int) ∈ gG := gT5 0 rfl rfl
set_option maxRecDepth 20000 in
theorem ml_L_72 : Cond.methodLink RL 72 yX12_item ∈ gG := gT7 198 rfl rfl
set_option maxRecDepth 20000 in
theorem im_yX12_item : Cond.instanceMethod yX12_item ∈ gG := gT7 199 rfl rfl
set_option maxRecDepth 20000 in
theorem se_yX12_item : Cond.selects RX12 yX12_item yX12_item ∈ gG := gT7 200 rfl rfl
set_option maxRecDepth 20000 in
theorem cd_X12_item : Cond.code yX12_item cX12_item 3 (some .int) ∈ gG := gT7 201 rfl rfl
set_option maxRecDepth 20000 in
theorem ml_L_73 : Cond.methodLink RL 73 yX11_clear ∈ gG := gT5 8 rfl rfl
set_option maxRecDepth 20000 in
theorem im_yX11_clear : Cond.instanceMethod yX11_clear ∈ gG := gT5 9 rfl rfl
set_option maxRecDepth 20000 in
theorem se_yX11_clear : Cond.selects RX11 yX11_clear yX11_clear ∈ gG := gT5 10 rfl rfl
set_option maxRecDepth 20000 in
theorem cd_X11_clear : Cond.code yX11_clear cX11_clear 2 (some .boolean) ∈ gG := gT5 11 rfl rfl
set_option maxRecDepth 20000 in
theorem ml_L_76 : Cond.methodLink RL 76 yX12_clear ∈ gG := gT7 205 rfl rfl
set_option maxRecDepth 20000 in
theorem im_yX12_clear : Cond.instanceMethod yX12_clear ∈ gG := gT7 206 rfl rfl
set_option maxRecDepth 20000 in
theorem se_yX12_clear : Cond.selects RX12 yX12_clear yX12_clear ∈ gG := gT7 207 rfl rfl
set_option maxRecDepth 20000 in
theorem cd_X12_clear : Cond.code yX12_clear cX12_clear 2 (some .boolean) ∈ gG := gT7 208 rfl rfl
set_option maxRecDepth 20000 in
theorem ml_L_77 : Cond.methodLink RL 77 yX11_make ∈ gG := gT5 16 rfl rfl
set_option maxRecDepth 20000 in
theorem im_yX11_make : Cond.instanceMethod yX11_make ∈ gG := gT5 17 rfl rfl
set_option maxRecDepth 20000 in
theorem se_yX11_make : Cond.selects RX11 yX11_make yX11_make ∈ gG := gT5 18 rfl rfl
set_option maxRecDepth 20000 in
theorem cd_X11_make : Cond.code yX11_make cX11_make 6 (some .int) ∈ gG := gT5 19 rfl rfl
set_option maxRecDepth 20000 in
theorem ml_L_80 : Cond.methodLink RL 80 yX12_make ∈ gG := gT7 209 rfl rfl
set_option maxRecDepth 20000 in
theorem im_yX12_make : Cond.instanceMethod yX12_make ∈ gG := gT7 210 rfl rfl
set_option maxRecDepth 20000 in
theorem se_yX12_make : Cond.selects RX12 yX12_make yX12_make ∈ gG := gT7 211 rfl rfl
set_option maxRecDepth 20000 in
theorem cd_X12_make : Cond.code yX12_make cX12_make 4 (some .int) ∈ gG := gT7 212 rfl rfl
set_option maxRecDepth 20000 in
theorem ml_L_81 : Cond.methodLink RL 81 yX11_blame ∈ gG := gT5 125 rfl rfl
set_option maxRecDepth 20000 in
theorem im_yX11_blame : Cond.instanceMethod yX11_blame ∈ gG := gT5 126 rfl rfl
set_option maxRecDepth 20000 in
theorem se_yX11_blame : Cond.selects RX11 yX11_blame yX11_blame ∈ gG := gT5 127 rfl rfl
set_option maxRecDepth 20000 in
theorem cd_X11_blame : Cond.code yX11_blame cX11_blame 4 (some .int) ∈ gG := gT5 128 rfl rfl
set_option maxRecDepth 20000 in
theorem ml_L_84 : Cond.methodLink RL 84 yX12_blame ∈ gG := gT8 41 rfl rfl
set_option maxRecDepth 20000 in
theorem im_yX12_blame : Cond.instanceMethod yX12_blame ∈ gG := gT8 42 rfl rfl
set_option maxRecDepth 20000 in
theorem se_yX12_blame : Cond.selects RX12 yX12_blame yX12_blame ∈ gG := gT8 43 rfl rfl
set_option maxRecDepth 20000 in
theorem cd_X12_blame : Cond.code yX12_blame cX12_blame 4 (some .int) ∈ gG := gT8 44 rfl rfl
set_option maxRecDepth 20000 in
theorem ml_L_85 : Cond.methodLink RL 85 yX11_cut ∈ gG := gT5 143 rfl rfl
set_option maxRecDepth 20000 in
theorem im_yX11_cut : Cond.instanceMethod yX11_cut ∈ gG := gT5 144 rfl rfl
set_option maxRecDepth 20000 in
theorem se_yX11_cut : Cond.selects RX11 yX11_cut yX11_cut ∈ gG := gT5 145 rfl rfl
set_option maxRecDepth 20000 in
theorem cd_X11_cut : Cond.code yX11_cut cX11_cut 6 (some .int) ∈ gG := gT5 146 rfl rfl
set_option maxRecDepth 20000 in
theorem ml_L_88 : Cond.methodLink RL 88 yX12_cut ∈ gG := gT8 45 rfl rfl
set_option maxRecDepth 20000 in
theorem im_yX12_cut : Cond.instanceMethod yX12_cut ∈ gG := gT8 46 rfl rfl
set_option maxRecDepth 20000 in
theorem se_yX12_cut : Cond.selects RX12 yX12_cut yX12_cut ∈ gG := gT8 47 rfl rfl
set_option maxRecDepth 20000 in
theorem cd_X12_cut : Cond.code yX12_cut cX12_cut 5 (some .int) ∈ gG := gT8 48 rfl rfl
set_option maxRecDepth 20000 in
theorem ml_L_89 : Cond.methodLink RL 89 yX11_registers ∈ gG := gT5 156 rfl rfl
set_option maxRecDepth 20000 in
theorem im_yX11_registers : Cond.instanceMethod yX11_registers ∈ gG := gT5 157 rfl rfl
set_option maxRecDepth 20000 in
theorem se_yX11_registers : Cond.selects RX11 yX11_registers yX11_registers ∈ gG := gT5 158 rfl rfl
set_option maxRecDepth 20000 in
theorem cd_X11_registers : Cond.code yX11_registers cX11_registers 4 (some .int) ∈ gG := gT5 159 rfl rfl
set_option maxRecDepth 20000 in
theorem ml_L_92 : Cond.methodLink RL 92 yX12_registers ∈ gG := gT8 65 rfl rfl
set_option maxRecDepth 20000 in
theorem im_yX12_registers : Cond.instanceMethod yX12_registers ∈ gG := gT8 66 rfl rfl
set_option maxRecDepth 20000 in
theorem se_yX12_registers : Cond.selects RX12 yX12_registers yX12_registers ∈ gG := gT8 67 rfl rfl
set_option maxRecDepth 20000 in
theorem cd_X12_registers : Cond.code yX12_registers cX12_registers 5 (some .int) ∈ gG := gT8 68 rfl rfl
set_option maxRecDepth 20000 in
theorem ml_L_93 : Cond.methodLink RL 93 yX11_clash ∈ gG := gT5 211 rfl rfl
set_option maxRecDepth 20000 in
theorem im_yX11_clash : Cond.instanceMethod yX11_clash ∈ gG := gT5 212 rfl rfl
set_option maxRecDepth 20000 in
theorem se_yX11_clash : Cond.selects RX11 yX11_clash yX11_clash ∈ gG := gT5 213 rfl rfl
set_option maxRecDepth 20000 in
theorem cd_X11_clash : Cond.code yX11_clash cX11_clash 5 (some .int) ∈ gG := gT5 214 rfl rfl
set_option maxRecDepth 20000 in
theorem ml_L_96 : Cond.methodLink RL 96 yX12_clash ∈ gG := gT8 105 rfl rfl
set_option maxRecDepth 20000 in
theorem im_yX12_clash : Cond.instanceMethod yX12_clash ∈ gG := gT8 106 rfl rfl
set_option maxRecDepth 20000 in
theorem se_yX12_clash : Cond.selects RX12 yX12_clash yX12_clash ∈ gG := gT8 107 rfl rfl
set_option maxRecDepth 20000 in
theorem cd_X12_clash : Cond.code yX12_clash cX12_clash 4 (some .int) ∈ gG := gT8 108 rfl rfl
set_option maxRecDepth 20000 in
theorem inX0 : ∀ w ∈ wsX00, w ∈ gG := List.forall_mem_cons.mpr ⟨gT2 82 rfl rfl, List.forall_mem_cons.mpr ⟨gT2 84 rfl rfl, fun _ h => absurd h List.not_mem_nil⟩⟩
theorem KX0 : clsOK 0 RX0 TX0 2 tyX0 := ⟨rfl, inX0, tyX0_ok, nmX0⟩
set_option maxRecDepth 20000 in
theorem inX1 : ∀ w ∈ wsX10, w ∈ gG := List.forall_mem_cons.mpr ⟨gT1 186 rfl rfl, List.forall_mem_cons.mpr ⟨gT1 188 rfl rfl, List.forall_mem_cons.mpr ⟨gT1 190 rfl rfl, List.forall_mem_cons.mpr ⟨gT1 192 rfl rfl, List.forall_mem_cons.mpr ⟨gT1 194 rfl rfl, List.forall_mem_cons.mpr ⟨gT1 196 rfl rfl, List.forall_mem_cons.mpr ⟨gT1 198 rfl rfl, List.forall_mem_cons.mpr ⟨gT1 200 rfl rfl, List.forall_mem_cons.mpr ⟨gT1 202 rfl rfl, List.forall_mem_cons.mpr ⟨gT1 204 rfl rfl, List.forall_mem_cons.mpr ⟨gT1 206 rfl rfl, List.forall_mem_cons.mpr ⟨gT1 208 rfl rfl, List.forall_mem_cons.mpr ⟨gT1 210 rfl rfl, List.forall_mem_cons.mpr ⟨gT1 212 rfl rfl, fun _ h => absurd h List.not_mem_nil⟩⟩⟩⟩⟩⟩⟩⟩⟩⟩⟩⟩⟩⟩
theorem KX1 : clsOK 1 RX1 TX1 14 tyX1 := ⟨rfl, inX1, tyX1_ok, nmX1⟩
set_option maxRecDepth 20000 in
theorem inX2 : ∀ w ∈ wsX20, w ∈ gG := List.forall_mem_cons.mpr ⟨gT2 107 rfl rfl, List.forall_mem_cons.mpr ⟨gT2 109 rfl rfl, List.forall_mem_cons.mpr ⟨gT2 111 rfl rfl, List.forall_mem_cons.mpr ⟨gT2 113 rfl rfl, List.forall_mem_cons.mpr ⟨gT2 115 rfl rfl, List.forall_mem_cons.mpr ⟨gT2 117 rfl rfl, fun _ h => absurd h List.not_mem_nil⟩⟩⟩⟩⟩⟩
theorem KX2 : clsOK 2 RX2 TX2 6 tyX2 := ⟨rfl, inX2, tyX2_ok, nmX2⟩
set_option maxRecDepth 20000 in
theorem inX3 : ∀ w ∈ wsX30, w ∈ gG := List.forall_mem_cons.mpr ⟨gT1 226 rfl rfl, List.forall_mem_cons.mpr ⟨gT1 228 rfl rfl, List.forall_mem_cons.mpr ⟨gT1 230 rfl rfl, List.forall_mem_cons.mpr ⟨gT1 232 rfl rfl, List.forall_mem_cons.mpr ⟨gT1 234 rfl rfl, List.forall_mem_cons.mpr ⟨gT1 236 rfl rfl, List.forall_mem_cons.mpr ⟨gT1 238 rfl rfl, fun _ h => absurd h List.not_mem_nil⟩⟩⟩⟩⟩⟩⟩
theorem KX3 : clsOK 3 RX3 TX3 7 tyX3 := ⟨rfl, inX3, tyX3_ok, nmX3⟩
set_option maxRecDepth 20000 in
theorem inX4 : ∀ w ∈ wsX40, w ∈ gG := List.forall_mem_cons.mpr ⟨gT2 135 rfl rfl, List.forall_mem_cons.mpr ⟨gT2 137 rfl rfl, List.forall_mem_cons.mpr ⟨gT2 139 rfl rfl, List.forall_mem_cons.mpr ⟨gT2 141 rfl rfl, List.forall_mem_cons.mpr ⟨gT2 143 rfl rfl, List.forall_mem_cons.mpr ⟨gT2 145 rfl rfl, List.forall_mem_cons.mpr ⟨gT2 147 rfl rfl, List.forall_mem_cons.mpr ⟨gT2 149 rfl rfl, List.forall_mem_cons.mpr ⟨gT2 151 rfl rfl, List.forall_mem_cons.mpr ⟨gT2 153 rfl rfl, fun _ h => absurd h List.not_mem_nil⟩⟩⟩⟩⟩⟩⟩⟩⟩⟩
theorem KX4 : clsOK 4 RX4 TX4 10 tyX4 := ⟨rfl, inX4, tyX4_ok, nmX4⟩
set_option maxRecDepth 20000 in
theorem inX5 : ∀ w ∈ wsX50, w ∈ gG := List.forall_mem_cons.mpr ⟨gT2 18 rfl rfl, List.forall_mem_cons.mpr ⟨gT2 20 rfl rfl, List.forall_mem_cons.mpr ⟨gT2 22 rfl rfl, List.forall_mem_cons.mpr ⟨gT2 24 rfl rfl, List.forall_mem_cons.mpr ⟨gT2 26 rfl rfl, List.forall_mem_cons.mpr ⟨gT2 28 rfl rfl, List.forall_mem_cons.mpr ⟨gT2 30 rfl rfl, fun _ h => absurd h List.not_mem_nil⟩⟩⟩⟩⟩⟩⟩
theorem KX5 : clsOK 5 RX5 TX5 7 tyX5 := ⟨rfl, inX5, tyX5_ok, nmX5⟩
set_option maxRecDepth 20000 in
theorem inX6 : ∀ w ∈ wsX60, w ∈ gG := List.forall_mem_cons.mpr ⟨gT1 111 rfl rfl, List.forall_mem_cons.mpr ⟨gT1 113 rfl rfl, List.forall_mem_cons.mpr ⟨gT1 115 rfl rfl, List.forall_mem_cons.mpr ⟨gT1 117 rfl rfl, List.forall_mem_cons.mpr ⟨gT1 119 rfl rfl, List.forall_mem_cons.mpr ⟨gT1 121 rfl rfl, List.forall_mem_cons.mpr ⟨gT1 123 rfl rfl, List.forall_mem_cons.mpr ⟨gT1 125 rfl rfl, List.forall_mem_cons.mpr ⟨gT1 127 rfl rfl, List.forall_mem_cons.mpr ⟨gT1 129 rfl rfl, List.forall_mem_cons.mpr ⟨gT1 131 rfl rfl, List.forall_mem_cons.mpr ⟨gT1 133 rfl rfl, List.forall_mem_cons.mpr ⟨gT1 135 rfl rfl, List.forall_mem_cons.mpr ⟨gT1 137 rfl rfl, List.forall_mem_cons.mpr ⟨gT1 139 rfl rfl, List.forall_mem_cons.mpr ⟨gT1 141 rfl rfl, List.forall_mem_cons.mpr ⟨gT1 143 rfl rfl, fun _ h => absurd h List.not_mem_nil⟩⟩⟩⟩⟩⟩⟩⟩⟩⟩⟩⟩⟩⟩⟩⟩⟩
theorem KX6 : clsOK 6 RX6 TX6 17 tyX6 := ⟨rfl, inX6, tyX6_ok, nmX6⟩
set_option maxRecDepth 20000 in
theorem inX7 : ∀ w ∈ wsX70, w ∈ gG := List.forall_mem_cons.mpr ⟨gT2 169 rfl rfl, List.forall_mem_cons.mpr ⟨gT2 171 rfl rfl, List.forall_mem_cons.mpr ⟨gT2 173 rfl rfl, List.forall_mem_cons.mpr ⟨gT2 175 rfl rfl, List.forall_mem_cons.mpr ⟨gT2 177 rfl rfl, fun _ h => absurd h List.not_mem_nil⟩⟩⟩⟩⟩
theorem KX7 : clsOK 7 RX7 TX7 5 tyX7 := ⟨rfl, inX7, tyX7_ok, nmX7⟩
set_option maxRecDepth 20000 in
theorem inX8 : ∀ w ∈ wsX80, w ∈ gG := List.forall_mem_cons.mpr ⟨gT1 48 rfl rfl, List.forall_mem_cons.mpr ⟨gT1 50 rfl rfl, fun _ h => absurd h List.not_mem_nil⟩⟩
theorem KX8 : clsOK 8 RX8 TX8 2 tyX8 := ⟨rfl, inX8, tyX8_ok, nmX8⟩
set_option maxRecDepth 20000 in
theorem inX9 : ∀ w ∈ wsX90, w ∈ gG := List.forall_mem_cons.mpr ⟨gT2 57 rfl rfl, List.forall_mem_cons.mpr ⟨gT2 59 rfl rfl, List.forall_mem_cons.mpr ⟨gT2 61 rfl rfl, List.forall_mem_cons.mpr ⟨gT2 63 rfl rfl, List.forall_mem_cons.mpr ⟨gT2 65 rfl rfl, fun _ h => absurd h List.not_mem_nil⟩⟩⟩⟩⟩
theorem KX9 : clsOK 9 RX9 TX9 5 tyX9 := ⟨rfl, inX9, tyX9_ok, nmX9⟩
set_option maxRecDepth 20000 in
theorem inX10 : ∀ w ∈ wsX100, w ∈ gG := List.forall_mem_cons.mpr ⟨gT1 76 rfl rfl, List.forall_mem_cons.mpr ⟨gT1 78 rfl rfl, List.forall_mem_cons.mpr ⟨gT1 80 rfl rfl, List.forall_mem_cons.mpr ⟨gT1 82 rfl rfl, List.forall_mem_cons.mpr ⟨gT1 84 rfl rfl, List.forall_mem_cons.mpr ⟨gT1 86 rfl rfl, fun _ h => absurd h List.not_mem_nil⟩⟩⟩⟩⟩⟩
theorem KX10 : clsOK 10 RX10 TX10 6 tyX10 := ⟨rfl, inX10, tyX10_ok, nmX10⟩
set_option maxRecDepth 20000 in
theorem inX11 : ∀ w ∈ wsX110, w ∈ gG := List.forall_mem_cons.mpr ⟨gT2 188 rfl rfl, List.forall_mem_cons.mpr ⟨gT2 190 rfl rfl, List.forall_mem_cons.mpr ⟨gT2 192 rfl rfl, List.forall_mem_cons.mpr ⟨gT2 194 rfl rfl, List.forall_mem_cons.mpr ⟨gT2 196 rfl rfl, List.forall_mem_cons.mpr ⟨gT2 198 rfl rfl, List.forall_mem_cons.mpr ⟨gT2 200 rfl rfl, List.forall_mem_cons.mpr ⟨gT2 202 rfl rfl, fun _ h => absurd h List.not_mem_nil⟩⟩⟩⟩⟩⟩⟩⟩
theorem KX11 : clsOK 11 RX11 TX11 8 tyX11 := ⟨rfl, inX11, tyX11_ok, nmX11⟩
set_option maxRecDepth 20000 in
theorem inX12 : ∀ w ∈ wsX120, w ∈ gG := List.forall_mem_cons.mpr ⟨gT6 39 rfl rfl, List.forall_mem_cons.mpr ⟨gT6 41 rfl rfl, List.forall_mem_cons.mpr ⟨gT6 43 rfl rfl, List.forall_mem_cons.mpr ⟨gT6 45 rfl rfl, List.forall_mem_cons.mpr ⟨gT6 47 rfl rfl, List.forall_mem_cons.mpr ⟨gT6 49 rfl rfl, List.forall_mem_cons.mpr ⟨gT6 51 rfl rfl, List.forall_mem_cons.mpr ⟨gT6 53 rfl rfl, List.forall_mem_cons.mpr ⟨gT6 55 rfl rfl, List.forall_mem_cons.mpr ⟨gT6 57 rfl rfl, List.forall_mem_cons.mpr ⟨gT6 59 rfl rfl, List.forall_mem_cons.mpr ⟨gT6 61 rfl rfl, List.forall_mem_cons.mpr ⟨gT6 63 rfl rfl, List.forall_mem_cons.mpr ⟨gT6 65 rfl rfl, List.forall_mem_cons.mpr ⟨gT6 67 rfl rfl, List.forall_mem_cons.mpr ⟨gT6 69 rfl rfl, List.forall_mem_cons.mpr ⟨gT6 71 rfl rfl, List.forall_mem_cons.mpr ⟨gT6 73 rfl rfl, List.forall_mem_cons.mpr ⟨gT6 75 rfl rfl, List.forall_mem_cons.mpr ⟨gT6 77 rfl rfl, List.forall_mem_cons.mpr ⟨gT6 79 rfl rfl, List.forall_mem_cons.mpr ⟨gT6 81 rfl rfl, List.forall_mem_cons.mpr ⟨gT6 83 rfl rfl, List.forall_mem_cons.mpr ⟨gT6 85 rfl rfl, List.forall_mem_cons.mpr ⟨gT6 87 rfl rfl, List.forall_mem_cons.mpr ⟨gT6 89 rfl rfl, List.forall_mem_cons.mpr ⟨gT6 91 rfl rfl, List.forall_mem_cons.mpr ⟨gT6 93 rfl rfl, List.forall_mem_cons.mpr ⟨gT6 95 rfl rfl, List.forall_mem_cons.mpr ⟨gT6 97 rfl rfl, List.forall_mem_cons.mpr ⟨gT6 99 rfl rfl, List.forall_mem_cons.mpr ⟨gT6 101 rfl rfl, List.forall_mem_cons.mpr ⟨gT6 103 rfl rfl, List.forall_mem_cons.mpr ⟨gT6 105 rfl rfl, List.forall_mem_cons.mpr ⟨gT6 107 rfl rfl, List.forall_mem_cons.mpr ⟨gT6 109 rfl rfl, List.forall_mem_cons.mpr ⟨gT6 111 rfl rfl, List.forall_mem_cons.mpr ⟨gT6 113 rfl rfl, List.forall_mem_cons.mpr ⟨gT6 115 rfl rfl, List.forall_mem_cons.mpr ⟨gT6 117 rfl rfl, List.forall_mem_cons.mpr ⟨gT6 119 rfl rfl, List.forall_mem_cons.mpr ⟨gT6 121 rfl rfl, List.forall_mem_cons.mpr ⟨gT6 123 rfl rfl, List.forall_mem_cons.mpr ⟨gT6 125 rfl rfl, List.forall_mem_cons.mpr ⟨gT6 127 rfl rfl, List.forall_mem_cons.mpr ⟨gT6 129 rfl rfl, List.forall_mem_cons.mpr ⟨gT6 131 rfl rfl, List.forall_mem_cons.mpr ⟨gT6 133 rfl rfl, List.forall_mem_cons.mpr ⟨gT6 135 rfl rfl, List.forall_mem_cons.mpr ⟨gT6 137 rfl rfl, List.forall_mem_cons.mpr ⟨gT6 139 rfl rfl, List.forall_mem_cons.mpr ⟨gT6 141 rfl rfl, List.forall_mem_cons.mpr ⟨gT6 143 rfl rfl, List.forall_mem_cons.mpr ⟨gT6 145 rfl rfl, List.forall_mem_cons.mpr ⟨gT6 147 rfl rfl, List.forall_mem_cons.mpr ⟨gT6 149 rfl rfl, fun _ h => absurd h List.not_mem_nil⟩⟩⟩⟩⟩⟩⟩⟩⟩⟩⟩⟩⟩⟩⟩⟩⟩⟩⟩⟩⟩⟩⟩⟩⟩⟩⟩⟩⟩⟩⟩⟩⟩⟩⟩⟩⟩⟩⟩⟩⟩⟩⟩⟩⟩⟩⟩⟩⟩⟩⟩⟩⟩⟩⟩⟩
theorem KX12 : clsOK 12 RX12 TX12 56 tyX12 := ⟨rfl, inX12, tyX12_ok, nmX12⟩
