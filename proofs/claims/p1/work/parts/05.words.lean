set_option maxRecDepth 20000 in
theorem ml_X11_1 : Cond.methodLink RX11 1 objectInit ∈ gG := gT1 25 rfl rfl
set_option maxRecDepth 20000 in
theorem im_objectInit : Cond.instanceMethod objectInit ∈ gG := gT1 26 rfl rfl
set_option maxRecDepth 20000 in
theorem cd_obj : Cond.code objectInit ⟨#[0xb1]⟩ 1 none ∈ gG := gT1 27 rfl rfl
set_option maxRecDepth 20000 in
theorem cl_X11_9 : Cond.classLink RX11 9 RX8 ∈ gG := gT1 28 rfl rfl
set_option maxRecDepth 20000 in
theorem fl_X11_11 : Cond.fieldLink RX11 11 "SameAfter" "slots" "[LSameAfter$Row;" ∈ gG := gT2 180 rfl rfl
set_option maxRecDepth 20000 in
theorem is_X8 : Cond.instantiable RX8 2 ∈ gG := gT1 30 rfl rfl
set_option maxRecDepth 20000 in
theorem in_X8 : Cond.initialized RX8 ∈ gG := gT1 2 rfl rfl
set_option maxRecDepth 20000 in
theorem ml_X8_3 : Cond.methodLink RX8 3 objectInit ∈ gG := gT1 34 rfl rfl
set_option maxRecDepth 20000 in
theorem ml_X8_9 : Cond.methodLink RX8 9 Lib.Math.max.name ∈ gG := gT1 35 rfl rfl
set_option maxRecDepth 20000 in
theorem st_Lib_Math_max_name : Cond.static Lib.Math.max.name ∈ gG := gT1 36 rfl rfl
set_option maxRecDepth 20000 in
theorem in_J9 : Cond.initialized RJ9 ∈ gG := gT1 3 rfl rfl
set_option maxRecDepth 20000 in
theorem cd_max : Cond.code Lib.Math.max.name Lib.Math.max.code 2 (some .int) ∈ gG := gT1 37 rfl rfl
set_option maxRecDepth 20000 in
theorem ac_int : Cond.arrayClass .int ∈ gG := gT1 53 rfl rfl
set_option maxRecDepth 20000 in
theorem fl_X8_15 : Cond.fieldLink RX8 15 "SameAfter$Row" "cells" "[I" ∈ gG := gT1 38 rfl rfl
set_option maxRecDepth 20000 in
theorem fl_X8_21 : Cond.fieldLink RX8 21 "SameAfter$Row" "length" "I" ∈ gG := gT1 39 rfl rfl
set_option maxRecDepth 20000 in
theorem cd_X8_init : Cond.code yX8_init cX8_init 2 none ∈ gG := gT1 33 rfl rfl
set_option maxRecDepth 20000 in
theorem ml_X11_15 : Cond.methodLink RX11 15 yX8_init ∈ gG := gT1 31 rfl rfl
set_option maxRecDepth 20000 in
theorem im_yX8_init : Cond.instanceMethod yX8_init ∈ gG := gT1 32 rfl rfl
set_option maxRecDepth 20000 in
theorem fl_X11_18 : Cond.fieldLink RX11 18 "SameAfter" "ruleCount" "I" ∈ gG := gT2 181 rfl rfl
set_option maxRecDepth 20000 in
theorem fl_X11_22 : Cond.fieldLink RX11 22 "SameAfter" "work" "LSameAfter$Row;" ∈ gG := gT2 182 rfl rfl
set_option maxRecDepth 20000 in
theorem cl_X11_26 : Cond.classLink RX11 26 RX6 ∈ gG := gT1 54 rfl rfl
set_option maxRecDepth 20000 in
theorem is_X6 : Cond.instantiable RX6 17 ∈ gG := gT1 55 rfl rfl
set_option maxRecDepth 20000 in
theorem in_X6 : Cond.initialized RX6 ∈ gG := gT1 4 rfl rfl
set_option maxRecDepth 20000 in
theorem ml_X6_3 : Cond.methodLink RX6 3 objectInit ∈ gG := gT1 59 rfl rfl
set_option maxRecDepth 20000 in
theorem cl_X6_9 : Cond.classLink RX6 9 RX10 ∈ gG := gT1 60 rfl rfl
set_option maxRecDepth 20000 in
theorem is_X10 : Cond.instantiable RX10 6 ∈ gG := gT1 61 rfl rfl
set_option maxRecDepth 20000 in
theorem in_X10 : Cond.initialized RX10 ∈ gG := gT1 5 rfl rfl
set_option maxRecDepth 20000 in
theorem ml_X10_3 : Cond.methodLink RX10 3 objectInit ∈ gG := gT1 65 rfl rfl
set_option maxRecDepth 20000 in
theorem fl_X10_11 : Cond.fieldLink RX10 11 "SameAfter$Tape" "bytes" "[I" ∈ gG := gT1 66 rfl rfl
set_option maxRecDepth 20000 in
theorem fl_X10_15 : Cond.fieldLink RX10 15 "SameAfter$Tape" "length" "I" ∈ gG := gT1 67 rfl rfl
set_option maxRecDepth 20000 in
theorem cd_X10_init : Cond.code yX10_init cX10_init 1 none ∈ gG := gT1 64 rfl rfl
set_option maxRecDepth 20000 in
theorem ml_X6_11 : Cond.methodLink RX6 11 yX10_init ∈ gG := gT1 62 rfl rfl
set_option maxRecDepth 20000 in
theorem im_yX10_init : Cond.instanceMethod yX10_init ∈ gG := gT1 63 rfl rfl
set_option maxRecDepth 20000 in
theorem fl_X6_12 : Cond.fieldLink RX6 12 "SameAfter$Reader" "tape" "LSameAfter$Tape;" ∈ gG := gT1 91 rfl rfl
set_option maxRecDepth 20000 in
theorem cl_X6_18 : Cond.classLink RX6 18 RX8 ∈ gG := gT1 89 rfl rfl
set_option maxRecDepth 20000 in
theorem ml_X6_20 : Cond.methodLink RX6 20 yX8_init ∈ gG := gT1 90 rfl rfl
set_option maxRecDepth 20000 in
theorem fl_X6_23 : Cond.fieldLink RX6 23 "SameAfter$Reader" "row" "LSameAfter$Row;" ∈ gG := gT1 97 rfl rfl
set_option maxRecDepth 20000 in
theorem fl_X6_27 : Cond.fieldLink RX6 27 "SameAfter$Reader" "openKinds" "[I" ∈ gG := gT1 108 rfl rfl
set_option maxRecDepth 20000 in
theorem fl_X6_31 : Cond.fieldLink RX6 31 "SameAfter$Reader" "openSums" "[I" ∈ gG := gT1 109 rfl rfl
set_option maxRecDepth 20000 in
theorem fl_X6_34 : Cond.fieldLink RX6 34 "SameAfter$Reader" "openProducts" "[I" ∈ gG := gT1 110 rfl rfl
set_option maxRecDepth 20000 in
theorem fl_X6_37 : Cond.fieldLink RX6 37 "SameAfter$Reader" "fault" "I" ∈ gG := gT1 93 rfl rfl
set_option maxRecDepth 20000 in
theorem fl_X6_41 : Cond.fieldLink RX6 41 "SameAfter$Reader" "faultPlace" "I" ∈ gG := gT1 95 rfl rfl
set_option maxRecDepth 20000 in
theorem cd_X6_init : Cond.code yX6_init cX6_init 1 none ∈ gG := gT1 58 rfl rfl
set_option maxRecDepth 20000 in
theorem ml_X11_28 : Cond.methodLink RX11 28 yX6_init ∈ gG := gT1 56 rfl rfl
set_option maxRecDepth 20000 in
theorem im_yX6_init : Cond.instanceMethod yX6_init ∈ gG := gT1 57 rfl rfl
set_option maxRecDepth 20000 in
theorem fl_X11_29 : Cond.fieldLink RX11 29 "SameAfter" "reader" "LSameAfter$Reader;" ∈ gG := gT2 183 rfl rfl
set_option maxRecDepth 20000 in
theorem cl_X11_33 : Cond.classLink RX11 33 RX3 ∈ gG := gT1 146 rfl rfl
set_option maxRecDepth 20000 in
theorem is_X3 : Cond.instantiable RX3 7 ∈ gG := gT1 147 rfl rfl
set_option maxRecDepth 20000 in
theorem in_X3 : Cond.initialized RX3 ∈ gG := gT1 6 rfl rfl
set_option maxRecDepth 20000 in
theorem ml_X3_3 : Cond.methodLink RX3 3 objectInit ∈ gG := gT1 151 rfl rfl
set_option maxRecDepth 20000 in
theorem cl_X3_9 : Cond.classLink RX3 9 RX1 ∈ gG := gT1 152 rfl rfl
set_option maxRecDepth 20000 in
theorem is_X1 : Cond.instantiable RX1 14 ∈ gG := gT1 153 rfl rfl
set_option maxRecDepth 20000 in
theorem in_X1 : Cond.initialized RX1 ∈ gG := gT1 7 rfl rfl
set_option maxRecDepth 20000 in
theorem ml_X1_3 : Cond.methodLink RX1 3 objectInit ∈ gG := gT1 157 rfl rfl
set_option maxRecDepth 20000 in
theorem cl_X1_9 : Cond.classLink RX1 9 RX8 ∈ gG := gT1 158 rfl rfl
set_option maxRecDepth 20000 in
theorem ml_X1_11 : Cond.methodLink RX1 11 yX8_init ∈ gG := gT1 159 rfl rfl
set_option maxRecDepth 20000 in
theorem fl_X1_14 : Cond.fieldLink RX1 14 "SameAfter$Flow" "row" "LSameAfter$Row;" ∈ gG := gT1 160 rfl rfl
set_option maxRecDepth 20000 in
theorem fl_X1_20 : Cond.fieldLink RX1 20 "SameAfter$Flow" "place" "[I" ∈ gG := gT1 166 rfl rfl
set_option maxRecDepth 20000 in
theorem fl_X1_24 : Cond.fieldLink RX1 24 "SameAfter$Flow" "kinds" "[I" ∈ gG := gT1 169 rfl rfl
set_option maxRecDepth 20000 in
theorem fl_X1_27 : Cond.fieldLink RX1 27 "SameAfter$Flow" "from" "[I" ∈ gG := gT1 171 rfl rfl
set_option maxRecDepth 20000 in
theorem fl_X1_30 : Cond.fieldLink RX1 30 "SameAfter$Flow" "to" "[I" ∈ gG := gT1 173 rfl rfl
set_option maxRecDepth 20000 in
theorem fl_X1_33 : Cond.fieldLink RX1 33 "SameAfter$Flow" "yes" "[I" ∈ gG := gT1 176 rfl rfl
set_option maxRecDepth 20000 in
theorem fl_X1_36 : Cond.fieldLink RX1 36 "SameAfter$Flow" "no" "[I" ∈ gG := gT1 178 rfl rfl
set_option maxRecDepth 20000 in
theorem fl_X1_39 : Cond.fieldLink RX1 39 "SameAfter$Flow" "reads" "[I" ∈ gG := gT1 180 rfl rfl
set_option maxRecDepth 20000 in
theorem fl_X1_42 : Cond.fieldLink RX1 42 "SameAfter$Flow" "sets" "[I" ∈ gG := gT1 181 rfl rfl
set_option maxRecDepth 20000 in
theorem fl_X1_45 : Cond.fieldLink RX1 45 "SameAfter$Flow" "ahead" "[I" ∈ gG := gT1 182 rfl rfl
set_option maxRecDepth 20000 in
theorem fl_X1_48 : Cond.fieldLink RX1 48 "SameAfter$Flow" "behindAll" "[I" ∈ gG := gT1 183 rfl rfl
set_option maxRecDepth 20000 in
theorem fl_X1_51 : Cond.fieldLink RX1 51 "SameAfter$Flow" "open" "[I" ∈ gG := gT1 184 rfl rfl
set_option maxRecDepth 20000 in
theorem fl_X1_54 : Cond.fieldLink RX1 54 "SameAfter$Flow" "owner" "[I" ∈ gG := gT1 185 rfl rfl
set_option maxRecDepth 20000 in
theorem fl_X1_57 : Cond.fieldLink RX1 57 "SameAfter$Flow" "count" "I" ∈ gG := gT1 162 rfl rfl
set_option maxRecDepth 20000 in
theorem cd_X1_init : Cond.code yX1_init cX1_init 1 none ∈ gG := gT1 156 rfl rfl
set_option maxRecDepth 20000 in
theorem ml_X3_11 : Cond.methodLink RX3 11 yX1_init ∈ gG := gT1 154 rfl rfl
set_option maxRecDepth 20000 in
theorem im_yX1_init : Cond.instanceMethod yX1_init ∈ gG := gT1 155 rfl rfl
set_option maxRecDepth 20000 in
theorem fl_X3_12 : Cond.fieldLink RX3 12 "SameAfter$Machine" "flow" "LSameAfter$Flow;" ∈ gG := gT1 215 rfl rfl
set_option maxRecDepth 20000 in
theorem fl_X3_18 : Cond.fieldLink RX3 18 "SameAfter$Machine" "outputs" "[I" ∈ gG := gT1 218 rfl rfl
set_option maxRecDepth 20000 in
theorem fl_X3_22 : Cond.fieldLink RX3 22 "SameAfter$Machine" "words" "[I" ∈ gG := gT1 224 rfl rfl
set_option maxRecDepth 20000 in
theorem fl_X3_25 : Cond.fieldLink RX3 25 "SameAfter$Machine" "stack" "[I" ∈ gG := gT1 225 rfl rfl
set_option maxRecDepth 20000 in
theorem cd_X3_init : Cond.code yX3_init cX3_init 1 none ∈ gG := gT1 150 rfl rfl
set_option maxRecDepth 20000 in
theorem ml_X11_35 : Cond.methodLink RX11 35 yX3_init ∈ gG := gT1 148 rfl rfl
set_option maxRecDepth 20000 in
theorem im_yX3_init : Cond.instanceMethod yX3_init ∈ gG := gT1 149 rfl rfl
set_option maxRecDepth 20000 in
theorem fl_X11_36 : Cond.fieldLink RX11 36 "SameAfter" "machine" "LSameAfter$Machine;" ∈ gG := gT2 184 rfl rfl
set_option maxRecDepth 20000 in
theorem cl_X11_40 : Cond.classLink RX11 40 RX5 ∈ gG := gT2 1 rfl rfl
set_option maxRecDepth 20000 in
theorem is_X5 : Cond.instantiable RX5 7 ∈ gG := gT2 2 rfl rfl
set_option maxRecDepth 20000 in
theorem in_X5 : Cond.initialized RX5 ∈ gG := gT1 8 rfl rfl
set_option maxRecDepth 20000 in
theorem ml_X5_3 : Cond.methodLink RX5 3 objectInit ∈ gG := gT2 6 rfl rfl
set_option maxRecDepth 20000 in
theorem fl_X5_9 : Cond.fieldLink RX5 9 "SameAfter$Proof" "words" "[I" ∈ gG := gT2 13 rfl rfl
set_option maxRecDepth 20000 in
theorem fl_X5_15 : Cond.fieldLink RX5 15 "SameAfter$Proof" "stack" "[I" ∈ gG := gT2 14 rfl rfl
set_option maxRecDepth 20000 in
theorem cl_X5_18 : Cond.classLink RX5 18 "[[I" ∈ gG := gT2 7 rfl rfl
set_option maxRecDepth 20000 in
theorem fl_X5_20 : Cond.fieldLink RX5 20 "SameAfter$Proof" "forms" "[[I" ∈ gG := gT2 15 rfl rfl
set_option maxRecDepth 20000 in
theorem fl_X5_23 : Cond.fieldLink RX5 23 "SameAfter$Proof" "leftForm" "[I" ∈ gG := gT2 16 rfl rfl
set_option maxRecDepth 20000 in
theorem fl_X5_26 : Cond.fieldLink RX5 26 "SameAfter$Proof" "product" "[I" ∈ gG := gT2 17 rfl rfl
set_option maxRecDepth 20000 in
theorem fl_X5_29 : Cond.fieldLink RX5 29 "SameAfter$Proof" "first" "I" ∈ gG := gT2 9 rfl rfl
set_option maxRecDepth 20000 in
theorem cd_X5_init : Cond.code yX5_init cX5_init 1 none ∈ gG := gT2 5 rfl rfl
set_option maxRecDepth 20000 in
theorem ml_X11_42 : Cond.methodLink RX11 42 yX5_init ∈ gG := gT2 3 rfl rfl
set_option maxRecDepth 20000 in
theorem im_yX5_init : Cond.instanceMethod yX5_init ∈ gG := gT2 4 rfl rfl
set_option maxRecDepth 20000 in
theorem fl_X11_43 : Cond.fieldLink RX11 43 "SameAfter" "proof" "LSameAfter$Proof;" ∈ gG := gT2 185 rfl rfl
set_option maxRecDepth 20000 in
theorem cl_X11_47 : Cond.classLink RX11 47 RX4 ∈ gG := gT2 33 rfl rfl
set_option maxRecDepth 20000 in
theorem is_X4 : Cond.instantiable RX4 10 ∈ gG := gT2 34 rfl rfl
set_option maxRecDepth 20000 in
theorem in_X4 : Cond.initialized RX4 ∈ gG := gT1 9 rfl rfl
set_option maxRecDepth 20000 in
theorem ml_X4_3 : Cond.methodLink RX4 3 objectInit ∈ gG := gT2 38 rfl rfl
set_option maxRecDepth 20000 in
theorem cl_X4_9 : Cond.classLink RX4 9 RX9 ∈ gG := gT2 39 rfl rfl
set_option maxRecDepth 20000 in
theorem fl_X4_11 : Cond.fieldLink RX4 11 "SameAfter$Passes" "rules" "[LSameAfter$Rule;" ∈ gG := gT2 130 rfl rfl
set_option maxRecDepth 20000 in
theorem is_X9 : Cond.instantiable RX9 5 ∈ gG := gT2 41 rfl rfl
set_option maxRecDepth 20000 in
theorem in_X9 : Cond.initialized RX9 ∈ gG := gT1 10 rfl rfl
set_option maxRecDepth 20000 in
theorem ml_X9_3 : Cond.methodLink RX9 3 objectInit ∈ gG := gT2 45 rfl rfl
set_option maxRecDepth 20000 in
theorem cl_X9_9 : Cond.classLink RX9 9 RX8 ∈ gG := gT2 46 rfl rfl
set_option maxRecDepth 20000 in
theorem ml_X9_11 : Cond.methodLink RX9 11 yX8_init ∈ gG := gT2 47 rfl rfl
set_option maxRecDepth 20000 in
theorem fl_X9_14 : Cond.fieldLink RX9 14 "SameAfter$Rule" "left" "LSameAfter$Row;" ∈ gG := gT2 48 rfl rfl
set_option maxRecDepth 20000 in
theorem fl_X9_20 : Cond.fieldLink RX9 20 "SameAfter$Rule" "right" "LSameAfter$Row;" ∈ gG := gT2 51 rfl rfl
set_option maxRecDepth 20000 in
theorem fl_X9_23 : Cond.fieldLink RX9 23 "SameAfter$Rule" "starts" "[I" ∈ gG := gT2 55 rfl rfl
set_option maxRecDepth 20000 in
theorem fl_X9_27 : Cond.fieldLink RX9 27 "SameAfter$Rule" "ends" "[I" ∈ gG := gT2 56 rfl rfl
set_option maxRecDepth 20000 in
theorem fl_X9_30 : Cond.fieldLink RX9 30 "SameAfter$Rule" "letters" "I" ∈ gG := gT2 54 rfl rfl
set_option maxRecDepth 20000 in
theorem cd_X9_init : Cond.code yX9_init cX9_init 1 none ∈ gG := gT2 44 rfl rfl
set_option maxRecDepth 20000 in
theorem ml_X4_17 : Cond.methodLink RX4 17 yX9_init ∈ gG := gT2 42 rfl rfl
set_option maxRecDepth 20000 in
theorem im_yX9_init : Cond.instanceMethod yX9_init ∈ gG := gT2 43 rfl rfl
set_option maxRecDepth 20000 in
theorem cl_X4_18 : Cond.classLink RX4 18 "[[I" ∈ gG := gT2 68 rfl rfl
set_option maxRecDepth 20000 in
theorem fl_X4_20 : Cond.fieldLink RX4 20 "SameAfter$Passes" "items" "[[I" ∈ gG := gT2 131 rfl rfl
set_option maxRecDepth 20000 in
theorem fl_X4_23 : Cond.fieldLink RX4 23 "SameAfter$Passes" "counts" "[I" ∈ gG := gT2 132 rfl rfl
set_option maxRecDepth 20000 in
theorem cl_X4_27 : Cond.classLink RX4 27 RX0 ∈ gG := gT2 69 rfl rfl
set_option maxRecDepth 20000 in
theorem is_X0 : Cond.instantiable RX0 2 ∈ gG := gT2 70 rfl rfl
set_option maxRecDepth 20000 in
theorem in_X0 : Cond.initialized RX0 ∈ gG := gT1 11 rfl rfl
set_option maxRecDepth 20000 in
theorem ml_X0_3 : Cond.methodLink RX0 3 objectInit ∈ gG := gT2 74 rfl rfl
set_option maxRecDepth 20000 in
theorem cl_X0_9 : Cond.classLink RX0 9 RX8 ∈ gG := gT2 75 rfl rfl
set_option maxRecDepth 20000 in
theorem ml_X0_11 : Cond.methodLink RX0 11 yX8_init ∈ gG := gT2 76 rfl rfl
set_option maxRecDepth 20000 in
theorem fl_X0_14 : Cond.fieldLink RX0 14 "SameAfter$Acts" "spare" "LSameAfter$Row;" ∈ gG := gT2 79 rfl rfl
set_option maxRecDepth 20000 in
theorem cl_X0_20 : Cond.classLink RX0 20 RX1 ∈ gG := gT2 77 rfl rfl
set_option maxRecDepth 20000 in
theorem ml_X0_22 : Cond.methodLink RX0 22 yX1_init ∈ gG := gT2 78 rfl rfl
set_option maxRecDepth 20000 in
theorem fl_X0_23 : Cond.fieldLink RX0 23 "SameAfter$Acts" "flow" "LSameAfter$Flow;" ∈ gG := gT2 81 rfl rfl
set_option maxRecDepth 20000 in
theorem cd_X0_init : Cond.code yX0_init cX0_init 1 none ∈ gG := gT2 73 rfl rfl
set_option maxRecDepth 20000 in
theorem ml_X4_29 : Cond.methodLink RX4 29 yX0_init ∈ gG := gT2 71 rfl rfl
set_option maxRecDepth 20000 in
theorem im_yX0_init : Cond.instanceMethod yX0_init ∈ gG := gT2 72 rfl rfl
set_option maxRecDepth 20000 in
theorem fl_X4_30 : Cond.fieldLink RX4 30 "SameAfter$Passes" "acts" "LSameAfter$Acts;" ∈ gG := gT2 133 rfl rfl
set_option maxRecDepth 20000 in
theorem cl_X4_34 : Cond.classLink RX4 34 RX8 ∈ gG := gT2 87 rfl rfl
set_option maxRecDepth 20000 in
theorem ml_X4_36 : Cond.methodLink RX4 36 yX8_init ∈ gG := gT2 88 rfl rfl
set_option maxRecDepth 20000 in
theorem fl_X4_39 : Cond.fieldLink RX4 39 "SameAfter$Passes" "made" "LSameAfter$Row;" ∈ gG := gT2 122 rfl rfl
set_option maxRecDepth 20000 in
theorem fl_X4_43 : Cond.fieldLink RX4 43 "SameAfter$Passes" "kept" "LSameAfter$Row;" ∈ gG := gT2 124 rfl rfl
set_option maxRecDepth 20000 in
theorem fl_X4_46 : Cond.fieldLink RX4 46 "SameAfter$Passes" "trial" "LSameAfter$Row;" ∈ gG := gT2 134 rfl rfl
set_option maxRecDepth 20000 in
theorem cl_X4_49 : Cond.classLink RX4 49 RX2 ∈ gG := gT2 89 rfl rfl
set_option maxRecDepth 20000 in
theorem is_X2 : Cond.instantiable RX2 6 ∈ gG := gT2 90 rfl rfl
set_option maxRecDepth 20000 in
theorem in_X2 : Cond.initialized RX2 ∈ gG := gT1 12 rfl rfl
set_option maxRecDepth 20000 in
theorem ml_X2_3 : Cond.methodLink RX2 3 objectInit ∈ gG := gT2 94 rfl rfl
set_option maxRecDepth 20000 in
theorem cl_X2_9 : Cond.classLink RX2 9 RX3 ∈ gG := gT2 95 rfl rfl
set_option maxRecDepth 20000 in
theorem ml_X2_11 : Cond.methodLink RX2 11 yX3_init ∈ gG := gT2 96 rfl rfl
set_option maxRecDepth 20000 in
theorem fl_X2_12 : Cond.fieldLink RX2 12 "SameAfter$Judge" "one" "LSameAfter$Machine;" ∈ gG := gT2 105 rfl rfl
set_option maxRecDepth 20000 in
theorem fl_X2_18 : Cond.fieldLink RX2 18 "SameAfter$Judge" "other" "LSameAfter$Machine;" ∈ gG := gT2 106 rfl rfl
set_option maxRecDepth 20000 in
theorem fl_X2_21 : Cond.fieldLink RX2 21 "SameAfter$Judge" "first" "I" ∈ gG := gT2 97 rfl rfl
set_option maxRecDepth 20000 in
theorem fl_X2_25 : Cond.fieldLink RX2 25 "SameAfter$Judge" "firstPlace" "I" ∈ gG := gT2 100 rfl rfl
set_option maxRecDepth 20000 in
theorem cd_X2_init : Cond.code yX2_init cX2_init 1 none ∈ gG := gT2 93 rfl rfl
set_option maxRecDepth 20000 in
theorem ml_X4_51 : Cond.methodLink RX4 51 yX2_init ∈ gG := gT2 91 rfl rfl
set_option maxRecDepth 20000 in
theorem im_yX2_init : Cond.instanceMethod yX2_init ∈ gG := gT2 92 rfl rfl
set_option maxRecDepth 20000 in
theorem fl_X4_52 : Cond.fieldLink RX4 52 "SameAfter$Passes" "judgement" "LSameAfter$Judge;" ∈ gG := gT2 120 rfl rfl
set_option maxRecDepth 20000 in
theorem fl_X4_56 : Cond.fieldLink RX4 56 "SameAfter$Passes" "bad" "I" ∈ gG := gT2 126 rfl rfl
set_option maxRecDepth 20000 in
theorem fl_X4_60 : Cond.fieldLink RX4 60 "SameAfter$Passes" "badInputs" "I" ∈ gG := gT2 128 rfl rfl
set_option maxRecDepth 20000 in
theorem cd_X4_init : Cond.code yX4_init cX4_init 2 none ∈ gG := gT2 37 rfl rfl
set_option maxRecDepth 20000 in
theorem ml_X11_49 : Cond.methodLink RX11 49 yX4_init ∈ gG := gT2 35 rfl rfl
set_option maxRecDepth 20000 in
theorem im_yX4_init : Cond.instanceMethod yX4_init ∈ gG := gT2 36 rfl rfl
set_option maxRecDepth 20000 in
theorem fl_X11_50 : Cond.fieldLink RX11 50 "SameAfter" "passes" "LSameAfter$Passes;" ∈ gG := gT2 186 rfl rfl
set_option maxRecDepth 20000 in
theorem cl_X11_54 : Cond.classLink RX11 54 RX7 ∈ gG := gT2 156 rfl rfl
set_option maxRecDepth 20000 in
theorem is_X7 : Cond.instantiable RX7 5 ∈ gG := gT2 157 rfl rfl
set_option maxRecDepth 20000 in
theorem in_X7 : Cond.initialized RX7 ∈ gG := gT1 13 rfl rfl
set_option maxRecDepth 20000 in
theorem ml_X7_3 : Cond.methodLink RX7 3 objectInit ∈ gG := gT2 161 rfl rfl
set_option maxRecDepth 20000 in
theorem cl_X7_9 : Cond.classLink RX7 9 RX1 ∈ gG := gT2 162 rfl rfl
set_option maxRecDepth 20000 in
theorem ml_X7_11 : Cond.methodLink RX7 11 yX1_init ∈ gG := gT2 163 rfl rfl
set_option maxRecDepth 20000 in
theorem fl_X7_12 : Cond.fieldLink RX7 12 "SameAfter$Registers" "flow" "LSameAfter$Flow;" ∈ gG := gT2 164 rfl rfl
set_option maxRecDepth 20000 in
theorem fl_X7_18 : Cond.fieldLink RX7 18 "SameAfter$Registers" "clashes" "[I" ∈ gG := gT2 165 rfl rfl
set_option maxRecDepth 20000 in
theorem fl_X7_22 : Cond.fieldLink RX7 22 "SameAfter$Registers" "comings" "[I" ∈ gG := gT2 166 rfl rfl
set_option maxRecDepth 20000 in
theorem fl_X7_25 : Cond.fieldLink RX7 25 "SameAfter$Registers" "given" "[I" ∈ gG := gT2 167 rfl rfl
set_option maxRecDepth 20000 in
theorem cd_X7_init : Cond.code yX7_init cX7_init 1 none ∈ gG := gT2 160 rfl rfl
set_option maxRecDepth 20000 in
theorem ml_X11_56 : Cond.methodLink RX11 56 yX7_init ∈ gG := gT2 158 rfl rfl
set_option maxRecDepth 20000 in
theorem im_yX7_init : Cond.instanceMethod yX7_init ∈ gG := gT2 159 rfl rfl
set_option maxRecDepth 20000 in
theorem fl_X11_57 : Cond.fieldLink RX11 57 "SameAfter" "dealing" "LSameAfter$Registers;" ∈ gG := gT2 187 rfl rfl
set_option maxRecDepth 20000 in
theorem inX0 : ∀ w ∈ wsX00, w ∈ gG := List.forall_mem_cons.mpr ⟨gT2 82 rfl rfl, List.forall_mem_cons.mpr ⟨gT2 84 rfl rfl, fun _ h => absurd h List.not_mem_nil⟩⟩
theorem KX0 : clsOK 0 RX0 TX0 2 tyX0 := ⟨rfl, inX0, tyX0_ok, nmX0⟩
set_option maxRecDepth 20000 in
theorem inX1 : ∀ w ∈ wsX10, w ∈ gG := List.forall_mem_cons.mpr ⟨gT1 186 rfl rfl, List.forall_mem_cons.mpr ⟨gT1 188 rfl rfl, List.forall_mem_cons.mpr ⟨gT1 190 rfl rfl, List.forall_mem_cons.mpr ⟨gT1 192 rfl rfl, List.forall_mem_cons.mpr ⟨gT1 194 rfl rfl, List.forall_mem_cons.mpr ⟨gT1 196 rfl rfl, List.forall_mem_cons.mpr ⟨gT1 198 rfl rfl, List.forall_mem_cons.mpr ⟨gT1 200 rfl rfl, List.forall_mem_cons.mpr ⟨gT1 202 rfl rfl, List.forall_mem_cons.mpr ⟨gT1 204 rfl rfl, List.forall_mem_cons.mpr ⟨gT1 206 rfl rfl, List.forall_mem_cons.mpr ⟨gT1 208 rfl rfl, List.forall_mem_cons.mpr ⟨gT1 210 rfl rfl, List.forall_mem_cons.mpr ⟨gT1 212 rfl rfl, fun _ h => absurd h List.not_mem_nil⟩⟩⟩⟩⟩⟩⟩⟩⟩⟩⟩⟩⟩⟩
theorem KX1 : clsOK 1 RX1 TX1 14 tyX1 := ⟨rfl, inX1, tyX1_ok, nmX1⟩
set_option maxRecDepth 20000 in
theorem inX2 : ∀ w ∈ wsX20, w ∈ gG := List.forall_mem_cons.mpr ⟨gT2 107 rfl rfl, List.forall_mem_cons.mpr ⟨gT2 109 rfl rfl, List.forall_mem_cons.mpr ⟨gT2 111 rfl rfl, List.forall_mem_cons.mpr ⟨gT2 113 rfl rfl, List.forall_mem_cons.mpr ⟨gT2 115 rfl rfl, List.forall_mem_cons.mpr ⟨gT2 117 rfl rfl, fun _ h => absurd h List.not_mem_nil⟩⟩⟩⟩⟩⟩
theorem KX2 : clsOK 2 RX2 TX2 6 tyX2 := ⟨rfl, inX2, tyX2_ok, nmX2⟩
set_option maxRecDepth 20000 in
theorem inX3 : ∀ w ∈ wsX30, w ∈ gG := List.forall_mem_cons.mpr ⟨gT1 226 rfl rfl, List.forall_mem_cons.mpr ⟨gT1 228 rfl rfl, List.forall_mem_cons.mpr ⟨gT1 230 rfl rfl, List.forall_mem_cons.mpr ⟨gT1 232 rfl rfl, List.forall_mem_cons.mpr ⟨gT1 234 rfl rfl, List.forall_mem_cons.mpr ⟨gT1 236 rfl rfl, List.forall_mem_cons.mpr ⟨gT1 238 rfl rfl, fun _ h => absurd h List.not_mem_nil⟩⟩⟩⟩⟩⟩⟩
theorem KX3 : clsOK 3 RX3 TX3 7 tyX3 := ⟨rfl, inX3, tyX3_ok, nmX3⟩
set_option maxRecDepth 20000 in
theorem inX4 : ∀ w ∈ wsX40, w ∈ gG := List.forall_mem_cons.mpr ⟨gT2 135 rfl rfl, List.forall_mem_cons.mpr ⟨gT2 137 rfl rfl, List.forall_mem_cons.mpr ⟨gT2 139 rfl rfl, List.forall_mem_cons.mpr ⟨gT2 141 rfl rfl, List.forall_mem_cons.mpr ⟨gT2 143 rfl rfl, List.forall_mem_cons.mpr ⟨gT2 145 rfl rfl, List.forall_mem_cons.mpr ⟨gT2 147 rfl rfl, List.forall_mem_cons.mpr ⟨gT2 149 rfl rfl, List.forall_mem_cons.mpr ⟨gT2 151 rfl rfl, List.forall_mem_cons.mpr ⟨gT2 153 rfl rfl, fun _ h => absurd h List.not_mem_nil⟩⟩⟩⟩⟩⟩⟩⟩⟩⟩
theorem KX4 : clsOK 4 RX4 TX4 10 tyX4 := ⟨rfl, inX4, tyX4_ok, nmX4⟩
set_option maxRecDepth 20000 in
theorem inX5 : ∀ w ∈ wsX50, w ∈ gG := List.forall_mem_cons.mpr ⟨gT2 18 rfl rfl, List.forall_mem_cons.mpr ⟨gT2 20 rfl rfl, List.forall_mem_cons.mpr ⟨gT2 22 rfl rfl, List.forall_mem_cons.mpr ⟨gT2 24 rfl rfl, List.forall_mem_cons.mpr ⟨gT2 26 rfl rfl, List.forall_mem_cons.mpr ⟨gT2 28 rfl rfl, List.forall_mem_cons.mpr ⟨gT2 30 rfl rfl, fun _ h => absurd h List.not_mem_nil⟩⟩⟩⟩⟩⟩⟩
theorem KX5 : clsOK 5 RX5 TX5 7 tyX5 := ⟨rfl, inX5, tyX5_ok, nmX5⟩
set_option maxRecDepth 20000 in
theorem inX6 : ∀ w ∈ wsX60, w ∈ gG := List.forall_mem_cons.mpr ⟨gT1 111 rfl rfl, List.forall_mem_cons.mpr ⟨gT1 113 rfl rfl, List.forall_mem_cons.mpr ⟨gT1 115 rfl rfl, List.forall_mem_cons.mpr ⟨gT1 117 rfl rfl, List.forall_mem_cons.mpr ⟨gT1 119 rfl rfl, List.forall_mem_cons.mpr ⟨gT1 121 rfl rfl, List.forall_mem_cons.mpr ⟨gT1 123 rfl rfl, List.forall_mem_cons.mpr ⟨gT1 125 rfl rfl, List.forall_mem_cons.mpr ⟨gT1 127 rfl rfl, List.forall_mem_cons.mpr ⟨gT1 129 rfl rfl, List.forall_mem_cons.mpr ⟨gT1 131 rfl rfl, List.forall_mem_cons.mpr ⟨gT1 133 rfl rfl, List.forall_mem_cons.mpr ⟨gT1 135 rfl rfl, List.forall_mem_cons.mpr ⟨gT1 137 rfl rfl, List.forall_mem_cons.mpr ⟨gT1 139 rfl rfl, List.forall_mem_cons.mpr ⟨gT1 141 rfl rfl, List.forall_mem_cons.mpr ⟨gT1 143 rfl rfl, fun _ h => absurd h List.not_mem_nil⟩⟩⟩⟩⟩⟩⟩⟩⟩⟩⟩⟩⟩⟩⟩⟩⟩
theorem KX6 : clsOK 6 RX6 TX6 17 tyX6 := ⟨rfl, inX6, tyX6_ok, nmX6⟩
set_option maxRecDepth 20000 in
theorem inX7 : ∀ w ∈ wsX70, w ∈ gG := List.forall_mem_cons.mpr ⟨gT2 169 rfl rfl, List.forall_mem_cons.mpr ⟨gT2 171 rfl rfl, List.forall_mem_cons.mpr ⟨gT2 173 rfl rfl, List.forall_mem_cons.mpr ⟨gT2 175 rfl rfl, List.forall_mem_cons.mpr ⟨gT2 177 rfl rfl, fun _ h => absurd h List.not_mem_nil⟩⟩⟩⟩⟩
theorem KX7 : clsOK 7 RX7 TX7 5 tyX7 := ⟨rfl, inX7, tyX7_ok, nmX7⟩
set_option maxRecDepth 20000 in
theorem inX8 : ∀ w ∈ wsX80, w ∈ gG := List.forall_mem_cons.mpr ⟨gT1 48 rfl rfl, List.forall_mem_cons.mpr ⟨gT1 50 rfl rfl, fun _ h => absurd h List.not_mem_nil⟩⟩
theorem KX8 : clsOK 8 RX8 TX8 2 tyX8 := ⟨rfl, inX8, tyX8_ok, nmX8⟩
set_option maxRecDepth 20000 in
theorem inX9 : ∀ w ∈ wsX90, w ∈ gG := List.forall_mem_cons.mpr ⟨gT2 57 rfl rfl, List.forall_mem_cons.mpr ⟨gT2 59 rfl rfl, List.forall_mem_cons.mpr ⟨gT2 61 rfl rfl, List.forall_mem_cons.mpr ⟨gT2 63 rfl rfl, List.forall_mem_cons.mpr ⟨gT2 65 rfl rfl, fun _ h => absurd h List.not_mem_nil⟩⟩⟩⟩⟩
theorem KX9 : clsOK 9 RX9 TX9 5 tyX9 := ⟨rfl, inX9, tyX9_ok, nmX9⟩
set_option maxRecDepth 20000 in
theorem inX10 : ∀ w ∈ wsX100, w ∈ gG := List.forall_mem_cons.mpr ⟨gT1 76 rfl rfl, List.forall_mem_cons.mpr ⟨gT1 78 rfl rfl, List.forall_mem_cons.mpr ⟨gT1 80 rfl rfl, List.forall_mem_cons.mpr ⟨gT1 82 rfl rfl, List.forall_mem_cons.mpr ⟨gT1 84 rfl rfl, List.forall_mem_cons.mpr ⟨gT1 86 rfl rfl, fun _ h => absurd h List.not_mem_nil⟩⟩⟩⟩⟩⟩
theorem KX10 : clsOK 10 RX10 TX10 6 tyX10 := ⟨rfl, inX10, tyX10_ok, nmX10⟩
set_option maxRecDepth 20000 in
theorem inX11 : ∀ w ∈ wsX110, w ∈ gG := List.forall_mem_cons.mpr ⟨gT2 188 rfl rfl, List.forall_mem_cons.mpr ⟨gT2 190 rfl rfl, List.forall_mem_cons.mpr ⟨gT2 192 rfl rfl, List.forall_mem_cons.mpr ⟨gT2 194 rfl rfl, List.forall_mem_cons.mpr ⟨gT2 196 rfl rfl, List.forall_mem_cons.mpr ⟨gT2 198 rfl rfl, List.forall_mem_cons.mpr ⟨gT2 200 rfl rfl, List.forall_mem_cons.mpr ⟨gT2 202 rfl rfl, fun _ h => absurd h List.not_mem_nil⟩⟩⟩⟩⟩⟩⟩⟩
theorem KX11 : clsOK 11 RX11 TX11 8 tyX11 := ⟨rfl, inX11, tyX11_ok, nmX11⟩
set_option maxRecDepth 20000 in
theorem inX12 : ∀ w ∈ wsX120, w ∈ gG := List.forall_mem_cons.mpr ⟨gT6 39 rfl rfl, List.forall_mem_cons.mpr ⟨gT6 41 rfl rfl, List.forall_mem_cons.mpr ⟨gT6 43 rfl rfl, List.forall_mem_cons.mpr ⟨gT6 45 rfl rfl, List.forall_mem_cons.mpr ⟨gT6 47 rfl rfl, List.forall_mem_cons.mpr ⟨gT6 49 rfl rfl, List.forall_mem_cons.mpr ⟨gT6 51 rfl rfl, List.forall_mem_cons.mpr ⟨gT6 53 rfl rfl, List.forall_mem_cons.mpr ⟨gT6 55 rfl rfl, List.forall_mem_cons.mpr ⟨gT6 57 rfl rfl, List.forall_mem_cons.mpr ⟨gT6 59 rfl rfl, List.forall_mem_cons.mpr ⟨gT6 61 rfl rfl, List.forall_mem_cons.mpr ⟨gT6 63 rfl rfl, List.forall_mem_cons.mpr ⟨gT6 65 rfl rfl, List.forall_mem_cons.mpr ⟨gT6 67 rfl rfl, List.forall_mem_cons.mpr ⟨gT6 69 rfl rfl, List.forall_mem_cons.mpr ⟨gT6 71 rfl rfl, List.forall_mem_cons.mpr ⟨gT6 73 rfl rfl, List.forall_mem_cons.mpr ⟨gT6 75 rfl rfl, List.forall_mem_cons.mpr ⟨gT6 77 rfl rfl, List.forall_mem_cons.mpr ⟨gT6 79 rfl rfl, List.forall_mem_cons.mpr ⟨gT6 81 rfl rfl, List.forall_mem_cons.mpr ⟨gT6 83 rfl rfl, List.forall_mem_cons.mpr ⟨gT6 85 rfl rfl, List.forall_mem_cons.mpr ⟨gT6 87 rfl rfl, List.forall_mem_cons.mpr ⟨gT6 89 rfl rfl, List.forall_mem_cons.mpr ⟨gT6 91 rfl rfl, List.forall_mem_cons.mpr ⟨gT6 93 rfl rfl, List.forall_mem_cons.mpr ⟨gT6 95 rfl rfl, List.forall_mem_cons.mpr ⟨gT6 97 rfl rfl, List.forall_mem_cons.mpr ⟨gT6 99 rfl rfl, List.forall_mem_cons.mpr ⟨gT6 101 rfl rfl, List.forall_mem_cons.mpr ⟨gT6 103 rfl rfl, List.forall_mem_cons.mpr ⟨gT6 105 rfl rfl, List.forall_mem_cons.mpr ⟨gT6 107 rfl rfl, List.forall_mem_cons.mpr ⟨gT6 109 rfl rfl, List.forall_mem_cons.mpr ⟨gT6 111 rfl rfl, List.forall_mem_cons.mpr ⟨gT6 113 rfl rfl, List.forall_mem_cons.mpr ⟨gT6 115 rfl rfl, List.forall_mem_cons.mpr ⟨gT6 117 rfl rfl, List.forall_mem_cons.mpr ⟨gT6 119 rfl rfl, List.forall_mem_cons.mpr ⟨gT6 121 rfl rfl, List.forall_mem_cons.mpr ⟨gT6 123 rfl rfl, List.forall_mem_cons.mpr ⟨gT6 125 rfl rfl, List.forall_mem_cons.mpr ⟨gT6 127 rfl rfl, List.forall_mem_cons.mpr ⟨gT6 129 rfl rfl, List.forall_mem_cons.mpr ⟨gT6 131 rfl rfl, List.forall_mem_cons.mpr ⟨gT6 133 rfl rfl, List.forall_mem_cons.mpr ⟨gT6 135 rfl rfl, List.forall_mem_cons.mpr ⟨gT6 137 rfl rfl, List.forall_mem_cons.mpr ⟨gT6 139 rfl rfl, List.forall_mem_cons.mpr ⟨gT6 141 rfl rfl, List.forall_mem_cons.mpr ⟨gT6 143 rfl rfl, List.forall_mem_cons.mpr ⟨gT6 145 rfl rfl, List.forall_mem_cons.mpr ⟨gT6 147 rfl rfl, List.forall_mem_cons.mpr ⟨gT6 149 rfl rfl, fun _ h => absurd h List.not_mem_nil⟩⟩⟩⟩⟩⟩⟩⟩⟩⟩⟩⟩⟩⟩⟩⟩⟩⟩⟩⟩⟩⟩⟩⟩⟩⟩⟩⟩⟩⟩⟩⟩⟩⟩⟩⟩⟩⟩⟩⟩⟩⟩⟩⟩⟩⟩⟩⟩⟩⟩⟩⟩⟩⟩⟩⟩
theorem KX12 : clsOK 12 RX12 TX12 56 tyX12 := ⟨rfl, inX12, tyX12_ok, nmX12⟩
