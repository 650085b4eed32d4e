set_option maxRecDepth 20000 in
theorem ml_X11_1 : Cond.methodLink RX11 1 objectInit ∈ gG := gT1 25 rfl rfl
set_option maxRecDepth 20000 in
theorem im_objectInit : Cond.instanceMethod objectInit ∈ gG := gT1 26 rfl rfl
set_option maxRecDepth 20000 in
theorem cd_obj : Cond.code objectInit ⟨#[0xb1]⟩ 1 none ∈ gG := gT1 27 rfl rfl
set_option maxRecDepth 20000 in
theorem cl_X11_9 : Cond.classLink RX11 9 RX8 ∈ gG := gT1 28 rfl rfl
set_option maxRecDepth 20000 in
theorem is_X8 : Cond.instantiable RX8 2 ∈ gG := gT1 30 rfl rfl
set_option maxRecDepth 20000 in
theorem ml_X8_3 : Cond.methodLink RX8 3 objectInit ∈ gG := gT1 34 rfl rfl
set_option maxRecDepth 20000 in
theorem ac_int : Cond.arrayClass .int ∈ gG := gT1 53 rfl rfl
set_option maxRecDepth 20000 in
theorem cd_X8_init : Cond.code yX8_init cX8_init 2 none ∈ gG := gT1 33 rfl rfl
set_option maxRecDepth 20000 in
theorem ml_X11_15 : Cond.methodLink RX11 15 yX8_init ∈ gG := gT1 31 rfl rfl
set_option maxRecDepth 20000 in
theorem im_yX8_init : Cond.instanceMethod yX8_init ∈ gG := gT1 32 rfl rfl
set_option maxRecDepth 20000 in
theorem cl_X11_26 : Cond.classLink RX11 26 RX6 ∈ gG := gT1 54 rfl rfl
set_option maxRecDepth 20000 in
theorem is_X6 : Cond.instantiable RX6 17 ∈ gG := gT1 55 rfl rfl
set_option maxRecDepth 20000 in
theorem ml_X6_3 : Cond.methodLink RX6 3 objectInit ∈ gG := gT1 59 rfl rfl
set_option maxRecDepth 20000 in
theorem cl_X6_9 : Cond.classLink RX6 9 RX10 ∈ gG := gT1 60 rfl rfl
set_option maxRecDepth 20000 in
theorem is_X10 : Cond.instantiable RX10 6 ∈ gG := gT1 61 rfl rfl
set_option maxRecDepth 20000 in
theorem ml_X10_3 : Cond.methodLink RX10 3 objectInit ∈ gG := gT1 65 rfl rfl
set_option maxRecDepth 20000 in
theorem cd_X10_init : Cond.code yX10_init cX10_init 1 none ∈ gG := gT1 64 rfl rfl
set_option maxRecDepth 20000 in
theorem ml_X6_11 : Cond.methodLink RX6 11 yX10_init ∈ gG := gT1 62 rfl rfl
set_option maxRecDepth 20000 in
theorem im_yX10_init : Cond.instanceMethod yX10_init ∈ gG := gT1 63 rfl rfl
set_option maxRecDepth 20000 in
theorem cl_X6_18 : Cond.classLink RX6 18 RX8 ∈ gG := gT1 89 rfl rfl
set_option maxRecDepth 20000 in
theorem ml_X6_20 : Cond.methodLink RX6 20 yX8_init ∈ gG := gT1 90 rfl rfl
set_option maxRecDepth 20000 in
theorem cd_X6_init : Cond.code yX6_init cX6_init 1 none ∈ gG := gT1 58 rfl rfl
set_option maxRecDepth 20000 in
theorem ml_X11_28 : Cond.methodLink RX11 28 yX6_init ∈ gG := gT1 56 rfl rfl
set_option maxRecDepth 20000 in
theorem im_yX6_init : Cond.instanceMethod yX6_init ∈ gG := gT1 57 rfl rfl
set_option maxRecDepth 20000 in
theorem cl_X11_33 : Cond.classLink RX11 33 RX3 ∈ gG := gT1 146 rfl rfl
set_option maxRecDepth 20000 in
theorem is_X3 : Cond.instantiable RX3 7 ∈ gG := gT1 147 rfl rfl
set_option maxRecDepth 20000 in
theorem ml_X3_3 : Cond.methodLink RX3 3 objectInit ∈ gG := gT1 151 rfl rfl
set_option maxRecDepth 20000 in
theorem cl_X3_9 : Cond.classLink RX3 9 RX1 ∈ gG := gT1 152 rfl rfl
set_option maxRecDepth 20000 in
theorem is_X1 : Cond.instantiable RX1 14 ∈ gG := gT1 153 rfl rfl
set_option maxRecDepth 20000 in
theorem ml_X1_3 : Cond.methodLink RX1 3 objectInit ∈ gG := gT1 157 rfl rfl
set_option maxRecDepth 20000 in
theorem cl_X1_9 : Cond.classLink RX1 9 RX8 ∈ gG := gT1 158 rfl rfl
set_option maxRecDepth 20000 in
theorem ml_X1_11 : Cond.methodLink RX1 11 yX8_init ∈ gG := gT1 159 rfl rfl
set_option maxRecDepth 20000 in
theorem cd_X1_init : Cond.code yX1_init cX1_init 1 none ∈ gG := gT1 156 rfl rfl
set_option maxRecDepth 20000 in
theorem ml_X3_11 : Cond.methodLink RX3 11 yX1_init ∈ gG := gT1 154 rfl rfl
set_option maxRecDepth 20000 in
theorem im_yX1_init : Cond.instanceMethod yX1_init ∈ gG := gT1 155 rfl rfl
set_option maxRecDepth 20000 in
theorem cd_X3_init : Cond.code yX3_init cX3_init 1 none ∈ gG := gT1 150 rfl rfl
set_option maxRecDepth 20000 in
theorem ml_X11_35 : Cond.methodLink RX11 35 yX3_init ∈ gG := gT1 148 rfl rfl
set_option maxRecDepth 20000 in
theorem im_yX3_init : Cond.instanceMethod yX3_init ∈ gG := gT1 149 rfl rfl
set_option maxRecDepth 20000 in
theorem cl_X11_40 : Cond.classLink RX11 40 RX5 ∈ gG := gT2 1 rfl rfl
set_option maxRecDepth 20000 in
theorem is_X5 : Cond.instantiable RX5 7 ∈ gG := gT2 2 rfl rfl
set_option maxRecDepth 20000 in
theorem ml_X5_3 : Cond.methodLink RX5 3 objectInit ∈ gG := gT2 6 rfl rfl
set_option maxRecDepth 20000 in
theorem cl_X5_18 : Cond.classLink RX5 18 "[[I" ∈ gG := gT2 7 rfl rfl
set_option maxRecDepth 20000 in
theorem cd_X5_init : Cond.code yX5_init cX5_init 1 none ∈ gG := gT2 5 rfl rfl
set_option maxRecDepth 20000 in
theorem ml_X11_42 : Cond.methodLink RX11 42 yX5_init ∈ gG := gT2 3 rfl rfl
set_option maxRecDepth 20000 in
theorem im_yX5_init : Cond.instanceMethod yX5_init ∈ gG := gT2 4 rfl rfl
set_option maxRecDepth 20000 in
theorem cl_X11_47 : Cond.classLink RX11 47 RX4 ∈ gG := gT2 33 rfl rfl
set_option maxRecDepth 20000 in
theorem is_X4 : Cond.instantiable RX4 10 ∈ gG := gT2 34 rfl rfl
set_option maxRecDepth 20000 in
theorem ml_X4_3 : Cond.methodLink RX4 3 objectInit ∈ gG := gT2 38 rfl rfl
set_option maxRecDepth 20000 in
theorem cl_X4_9 : Cond.classLink RX4 9 RX9 ∈ gG := gT2 39 rfl rfl
set_option maxRecDepth 20000 in
theorem is_X9 : Cond.instantiable RX9 5 ∈ gG := gT2 41 rfl rfl
set_option maxRecDepth 20000 in
theorem ml_X9_3 : Cond.methodLink RX9 3 objectInit ∈ gG := gT2 45 rfl rfl
set_option maxRecDepth 20000 in
theorem cl_X9_9 : Cond.classLink RX9 9 RX8 ∈ gG := gT2 46 rfl rfl
set_option maxRecDepth 20000 in
theorem ml_X9_11 : Cond.methodLink RX9 11 yX8_init ∈ gG := gT2 47 rfl rfl
set_option maxRecDepth 20000 in
theorem cd_X9_init : Cond.code yX9_init cX9_init 1 none ∈ gG := gT2 44 rfl rfl
set_option maxRecDepth 20000 in
theorem ml_X4_17 : Cond.methodLink RX4 17 yX9_init ∈ gG := gT2 42 rfl rfl
set_option maxRecDepth 20000 in
theorem im_yX9_init : Cond.instanceMethod yX9_init ∈ gG := gT2 43 rfl rfl
set_option maxRecDepth 20000 in
theorem cl_X4_18 : Cond.classLink RX4 18 "[[I" ∈ gG := gT2 68 rfl rfl
set_option maxRecDepth 20000 in
theorem cl_X4_27 : Cond.classLink RX4 27 RX0 ∈ gG := gT2 69 rfl rfl
set_option maxRecDepth 20000 in
theorem is_X0 : Cond.instantiable RX0 2 ∈ gG := gT2 70 rfl rfl
set_option maxRecDepth 20000 in
theorem ml_X0_3 : Cond.methodLink RX0 3 objectInit ∈ gG := gT2 74 rfl rfl
set_option maxRecDepth 20000 in
theorem cl_X0_9 : Cond.classLink RX0 9 RX8 ∈ gG := gT2 75 rfl rfl
set_option maxRecDepth 20000 in
theorem ml_X0_11 : Cond.methodLink RX0 11 yX8_init ∈ gG := gT2 76 rfl rfl
set_option maxRecDepth 20000 in
theorem cl_X0_20 : Cond.classLink RX0 20 RX1 ∈ gG := gT2 77 rfl rfl
set_option maxRecDepth 20000 in
theorem ml_X0_22 : Cond.methodLink RX0 22 yX1_init ∈ gG := gT2 78 rfl rfl
set_option maxRecDepth 20000 in
theorem cd_X0_init : Cond.code yX0_init cX0_init 1 none ∈ gG := gT2 73 rfl rfl
set_option maxRecDepth 20000 in
theorem ml_X4_29 : Cond.methodLink RX4 29 yX0_init ∈ gG := gT2 71 rfl rfl
set_option maxRecDepth 20000 in
theorem im_yX0_init : Cond.instanceMethod yX0_init ∈ gG := gT2 72 rfl rfl
set_option maxRecDepth 20000 in
theorem cl_X4_34 : Cond.classLink RX4 34 RX8 ∈ gG := gT2 87 rfl rfl
set_option maxRecDepth 20000 in
theorem ml_X4_36 : Cond.methodLink RX4 36 yX8_init ∈ gG := gT2 88 rfl rfl
set_option maxRecDepth 20000 in
theorem cl_X4_49 : Cond.classLink RX4 49 RX2 ∈ gG := gT2 89 rfl rfl
set_option maxRecDepth 20000 in
theorem is_X2 : Cond.instantiable RX2 6 ∈ gG := gT2 90 rfl rfl
set_option maxRecDepth 20000 in
theorem ml_X2_3 : Cond.methodLink RX2 3 objectInit ∈ gG := gT2 94 rfl rfl
set_option maxRecDepth 20000 in
theorem cl_X2_9 : Cond.classLink RX2 9 RX3 ∈ gG := gT2 95 rfl rfl
set_option maxRecDepth 20000 in
theorem ml_X2_11 : Cond.methodLink RX2 11 yX3_init ∈ gG := gT2 96 rfl rfl
set_option maxRecDepth 20000 in
theorem cd_X2_init : Cond.code yX2_init cX2_init 1 none ∈ gG := gT2 93 rfl rfl
set_option maxRecDepth 20000 in
theorem ml_X4_51 : Cond.methodLink RX4 51 yX2_init ∈ gG := gT2 91 rfl rfl
set_option maxRecDepth 20000 in
theorem im_yX2_init : Cond.instanceMethod yX2_init ∈ gG := gT2 92 rfl rfl
set_option maxRecDepth 20000 in
theorem cd_X4_init : Cond.code yX4_init cX4_init 2 none ∈ gG := gT2 37 rfl rfl
set_option maxRecDepth 20000 in
theorem ml_X11_49 : Cond.methodLink RX11 49 yX4_init ∈ gG := gT2 35 rfl rfl
set_option maxRecDepth 20000 in
theorem im_yX4_init : Cond.instanceMethod yX4_init ∈ gG := gT2 36 rfl rfl
set_option maxRecDepth 20000 in
theorem cl_X11_54 : Cond.classLink RX11 54 RX7 ∈ gG := gT2 156 rfl rfl
set_option maxRecDepth 20000 in
theorem is_X7 : Cond.instantiable RX7 5 ∈ gG := gT2 157 rfl rfl
set_option maxRecDepth 20000 in
theorem ml_X7_3 : Cond.methodLink RX7 3 objectInit ∈ gG := gT2 161 rfl rfl
set_option maxRecDepth 20000 in
theorem cl_X7_9 : Cond.classLink RX7 9 RX1 ∈ gG := gT2 162 rfl rfl
set_option maxRecDepth 20000 in
theorem ml_X7_11 : Cond.methodLink RX7 11 yX1_init ∈ gG := gT2 163 rfl rfl
set_option maxRecDepth 20000 in
theorem cd_X7_init : Cond.code yX7_init cX7_init 1 none ∈ gG := gT2 160 rfl rfl
set_option maxRecDepth 20000 in
theorem ml_X11_56 : Cond.methodLink RX11 56 yX7_init ∈ gG := gT2 158 rfl rfl
set_option maxRecDepth 20000 in
theorem im_yX7_init : Cond.instanceMethod yX7_init ∈ gG := gT2 159 rfl rfl
set_option maxRecDepth 20000 in
theorem cs_X11_15 : csI RX11 15 yX8_init cX8_init 2 1 := ⟨gI cd_X8_init, in_X8, ml_X11_15, im_yX8_init, rfl, by decide +kernel⟩
set_option maxRecDepth 20000 in
theorem cs_X6_11 : csI RX6 11 yX10_init cX10_init 1 0 := ⟨gI cd_X10_init, in_X10, ml_X6_11, im_yX10_init, rfl, by decide +kernel⟩
set_option maxRecDepth 20000 in
theorem cs_X6_20 : csI RX6 20 yX8_init cX8_init 2 1 := ⟨gI cd_X8_init, in_X8, ml_X6_20, im_yX8_init, rfl, by decide +kernel⟩
set_option maxRecDepth 20000 in
theorem cs_X11_28 : csI RX11 28 yX6_init cX6_init 1 0 := ⟨gI cd_X6_init, in_X6, ml_X11_28, im_yX6_init, rfl, by decide +kernel⟩
set_option maxRecDepth 20000 in
theorem cs_X1_11 : csI RX1 11 yX8_init cX8_init 2 1 := ⟨gI cd_X8_init, in_X8, ml_X1_11, im_yX8_init, rfl, by decide +kernel⟩
set_option maxRecDepth 20000 in
theorem cs_X3_11 : csI RX3 11 yX1_init cX1_init 1 0 := ⟨gI cd_X1_init, in_X1, ml_X3_11, im_yX1_init, rfl, by decide +kernel⟩
set_option maxRecDepth 20000 in
theorem cs_X11_35 : csI RX11 35 yX3_init cX3_init 1 0 := ⟨gI cd_X3_init, in_X3, ml_X11_35, im_yX3_init, rfl, by decide +kernel⟩
set_option maxRecDepth 20000 in
theorem cs_X11_42 : csI RX11 42 yX5_init cX5_init 1 0 := ⟨gI cd_X5_init, in_X5, ml_X11_42, im_yX5_init, rfl, by decide +kernel⟩
set_option maxRecDepth 20000 in
theorem cs_X9_11 : csI RX9 11 yX8_init cX8_init 2 1 := ⟨gI cd_X8_init, in_X8, ml_X9_11, im_yX8_init, rfl, by decide +kernel⟩
set_option maxRecDepth 20000 in
theorem cs_X4_17 : csI RX4 17 yX9_init cX9_init 1 0 := ⟨gI cd_X9_init, in_X9, ml_X4_17, im_yX9_init, rfl, by decide +kernel⟩
set_option maxRecDepth 20000 in
theorem cs_X0_11 : csI RX0 11 yX8_init cX8_init 2 1 := ⟨gI cd_X8_init, in_X8, ml_X0_11, im_yX8_init, rfl, by decide +kernel⟩
set_option maxRecDepth 20000 in
theorem cs_X0_22 : csI RX0 22 yX1_init cX1_init 1 0 := ⟨gI cd_X1_init, in_X1, ml_X0_22, im_yX1_init, rfl, by decide +kernel⟩
set_option maxRecDepth 20000 in
theorem cs_X4_29 : csI RX4 29 yX0_init cX0_init 1 0 := ⟨gI cd_X0_init, in_X0, ml_X4_29, im_yX0_init, rfl, by decide +kernel⟩
set_option maxRecDepth 20000 in
theorem cs_X4_36 : csI RX4 36 yX8_init cX8_init 2 1 := ⟨gI cd_X8_init, in_X8, ml_X4_36, im_yX8_init, rfl, by decide +kernel⟩
set_option maxRecDepth 20000 in
theorem cs_X2_11 : csI RX2 11 yX3_init cX3_init 1 0 := ⟨gI cd_X3_init, in_X3, ml_X2_11, im_yX3_init, rfl, by decide +kernel⟩
set_option maxRecDepth 20000 in
theorem cs_X4_51 : csI RX4 51 yX2_init cX2_init 1 0 := ⟨gI cd_X2_init, in_X2, ml_X4_51, im_yX2_init, rfl, by decide +kernel⟩
set_option maxRecDepth 20000 in
theorem cs_X11_49 : csI RX11 49 yX4_init cX4_init 2 0 := ⟨gI cd_X4_init, in_X4, ml_X11_49, im_yX4_init, rfl, by decide +kernel⟩
set_option maxRecDepth 20000 in
theorem cs_X7_11 : csI RX7 11 yX1_init cX1_init 1 0 := ⟨gI cd_X1_init, in_X1, ml_X7_11, im_yX1_init, rfl, by decide +kernel⟩
set_option maxRecDepth 20000 in
theorem cs_X11_56 : csI RX11 56 yX7_init cX7_init 1 0 := ⟨gI cd_X7_init, in_X7, ml_X11_56, im_yX7_init, rfl, by decide +kernel⟩
theorem dX0_init_0 : decode cX0_init 0 = .ok (.aload_n 0, 1) := by decide +kernel
theorem dX0_init_1 : decode cX0_init 1 = .ok (.invokespecial 3, 3) := by decide +kernel
theorem dX0_init_4 : decode cX0_init 4 = .ok (.aload_n 0, 1) := by decide +kernel
theorem dX0_init_5 : decode cX0_init 5 = .ok (.new 9, 3) := by decide +kernel
theorem dX0_init_8 : decode cX0_init 8 = .ok (.dup, 1) := by decide +kernel
theorem dX0_init_9 : decode cX0_init 9 = .ok (.sipush 1000, 3) := by decide +kernel
theorem dX0_init_12 : decode cX0_init 12 = .ok (.invokespecial 11, 3) := by decide +kernel
theorem dX0_init_15 : decode cX0_init 15 = .ok (.putfield 14, 3) := by decide +kernel
theorem dX0_init_18 : decode cX0_init 18 = .ok (.aload_n 0, 1) := by decide +kernel
theorem dX0_init_19 : decode cX0_init 19 = .ok (.new 20, 3) := by decide +kernel
theorem dX0_init_22 : decode cX0_init 22 = .ok (.dup, 1) := by decide +kernel
theorem dX0_init_23 : decode cX0_init 23 = .ok (.invokespecial 22, 3) := by decide +kernel
theorem dX0_init_26 : decode cX0_init 26 = .ok (.putfield 23, 3) := by decide +kernel
theorem dX0_init_29 : decode cX0_init 29 = .ok (.return_, 1) := by decide +kernel
theorem dX10_init_0 : decode cX10_init 0 = .ok (.aload_n 0, 1) := by decide +kernel
theorem dX10_init_1 : decode cX10_init 1 = .ok (.invokespecial 3, 3) := by decide +kernel
theorem dX10_init_4 : decode cX10_init 4 = .ok (.aload_n 0, 1) := by decide +kernel
theorem dX10_init_5 : decode cX10_init 5 = .ok (.sipush 800, 3) := by decide +kernel
theorem dX10_init_8 : decode cX10_init 8 = .ok (.newarray .int, 2) := by decide +kernel
theorem dX10_init_10 : decode cX10_init 10 = .ok (.putfield 11, 3) := by decide +kernel
theorem dX10_init_13 : decode cX10_init 13 = .ok (.aload_n 0, 1) := by decide +kernel
theorem dX10_init_14 : decode cX10_init 14 = .ok (.iconst 0, 1) := by decide +kernel
theorem dX10_init_15 : decode cX10_init 15 = .ok (.putfield 15, 3) := by decide +kernel
theorem dX10_init_18 : decode cX10_init 18 = .ok (.return_, 1) := by decide +kernel
theorem dX11_init_0 : decode cX11_init 0 = .ok (.aload_n 0, 1) := by decide +kernel
theorem dX11_init_1 : decode cX11_init 1 = .ok (.invokespecial 1, 3) := by decide +kernel
theorem dX11_init_4 : decode cX11_init 4 = .ok (.aload_n 0, 1) := by decide +kernel
theorem dX11_init_5 : decode cX11_init 5 = .ok (.bipush 6, 2) := by decide +kernel
theorem dX11_init_7 : decode cX11_init 7 = .ok (.anewarray 9, 3) := by decide +kernel
theorem dX11_init_10 : decode cX11_init 10 = .ok (.putfield 11, 3) := by decide +kernel
theorem dX11_init_13 : decode cX11_init 13 = .ok (.iconst 0, 1) := by decide +kernel
theorem dX11_init_14 : decode cX11_init 14 = .ok (.istore_n 1, 1) := by decide +kernel
theorem dX11_init_15 : decode cX11_init 15 = .ok (.iload_n 1, 1) := by decide +kernel
theorem dX11_init_16 : decode cX11_init 16 = .ok (.bipush 6, 2) := by decide +kernel
theorem dX11_init_18 : decode cX11_init 18 = .ok (.if_icmp .ge 25, 3) := by decide +kernel
theorem dX11_init_21 : decode cX11_init 21 = .ok (.aload_n 0, 1) := by decide +kernel
theorem dX11_init_22 : decode cX11_init 22 = .ok (.getfield 11, 3) := by decide +kernel
theorem dX11_init_25 : decode cX11_init 25 = .ok (.iload_n 1, 1) := by decide +kernel
theorem dX11_init_26 : decode cX11_init 26 = .ok (.new 9, 3) := by decide +kernel
theorem dX11_init_29 : decode cX11_init 29 = .ok (.dup, 1) := by decide +kernel
theorem dX11_init_30 : decode cX11_init 30 = .ok (.sipush 480, 3) := by decide +kernel
theorem dX11_init_33 : decode cX11_init 33 = .ok (.invokespecial 15, 3) := by decide +kernel
theorem dX11_init_36 : decode cX11_init 36 = .ok (.aastore, 1) := by decide +kernel
theorem dX11_init_37 : decode cX11_init 37 = .ok (.iinc 1 1, 3) := by decide +kernel
theorem dX11_init_40 : decode cX11_init 40 = .ok (.goto (-25), 3) := by decide +kernel
theorem dX11_init_43 : decode cX11_init 43 = .ok (.aload_n 0, 1) := by decide +kernel
theorem dX11_init_44 : decode cX11_init 44 = .ok (.iconst 0, 1) := by decide +kernel
theorem dX11_init_45 : decode cX11_init 45 = .ok (.putfield 18, 3) := by decide +kernel
theorem dX11_init_48 : decode cX11_init 48 = .ok (.aload_n 0, 1) := by decide +kernel
theorem dX11_init_49 : decode cX11_init 49 = .ok (.new 9, 3) := by decide +kernel
theorem dX11_init_52 : decode cX11_init 52 = .ok (.dup, 1) := by decide +kernel
theorem dX11_init_53 : decode cX11_init 53 = .ok (.sipush 1000, 3) := by decide +kernel
theorem dX11_init_56 : decode cX11_init 56 = .ok (.invokespecial 15, 3) := by decide +kernel
theorem dX11_init_59 : decode cX11_init 59 = .ok (.putfield 22, 3) := by decide +kernel
theorem dX11_init_62 : decode cX11_init 62 = .ok (.aload_n 0, 1) := by decide +kernel
theorem dX11_init_63 : decode cX11_init 63 = .ok (.new 26, 3) := by decide +kernel
theorem dX11_init_66 : decode cX11_init 66 = .ok (.dup, 1) := by decide +kernel
theorem dX11_init_67 : decode cX11_init 67 = .ok (.invokespecial 28, 3) := by decide +kernel
theorem dX11_init_70 : decode cX11_init 70 = .ok (.putfield 29, 3) := by decide +kernel
theorem dX11_init_73 : decode cX11_init 73 = .ok (.aload_n 0, 1) := by decide +kernel
theorem dX11_init_74 : decode cX11_init 74 = .ok (.new 33, 3) := by decide +kernel
theorem dX11_init_77 : decode cX11_init 77 = .ok (.dup, 1) := by decide +kernel
theorem dX11_init_78 : decode cX11_init 78 = .ok (.invokespecial 35, 3) := by decide +kernel
theorem dX11_init_81 : decode cX11_init 81 = .ok (.putfield 36, 3) := by decide +kernel
theorem dX11_init_84 : decode cX11_init 84 = .ok (.aload_n 0, 1) := by decide +kernel
theorem dX11_init_85 : decode cX11_init 85 = .ok (.new 40, 3) := by decide +kernel
theorem dX11_init_88 : decode cX11_init 88 = .ok (.dup, 1) := by decide +kernel
theorem dX11_init_89 : decode cX11_init 89 = .ok (.invokespecial 42, 3) := by decide +kernel
theorem dX11_init_92 : decode cX11_init 92 = .ok (.putfield 43, 3) := by decide +kernel
theorem dX11_init_95 : decode cX11_init 95 = .ok (.aload_n 0, 1) := by decide +kernel
theorem dX11_init_96 : decode cX11_init 96 = .ok (.new 47, 3) := by decide +kernel
theorem dX11_init_99 : decode cX11_init 99 = .ok (.dup, 1) := by decide +kernel
theorem dX11_init_100 : decode cX11_init 100 = .ok (.invokespecial 49, 3) := by decide +kernel
theorem dX11_init_103 : decode cX11_init 103 = .ok (.putfield 50, 3) := by decide +kernel
theorem dX11_init_106 : decode cX11_init 106 = .ok (.aload_n 0, 1) := by decide +kernel
theorem dX11_init_107 : decode cX11_init 107 = .ok (.new 54, 3) := by decide +kernel
theorem dX11_init_110 : decode cX11_init 110 = .ok (.dup, 1) := by decide +kernel
theorem dX11_init_111 : decode cX11_init 111 = .ok (.invokespecial 56, 3) := by decide +kernel
theorem dX11_init_114 : decode cX11_init 114 = .ok (.putfield 57, 3) := by decide +kernel
theorem dX11_init_117 : decode cX11_init 117 = .ok (.return_, 1) := by decide +kernel
theorem dX1_init_0 : decode cX1_init 0 = .ok (.aload_n 0, 1) := by decide +kernel
theorem dX1_init_1 : decode cX1_init 1 = .ok (.invokespecial 3, 3) := by decide +kernel
theorem dX1_init_4 : decode cX1_init 4 = .ok (.aload_n 0, 1) := by decide +kernel
theorem dX1_init_5 : decode cX1_init 5 = .ok (.new 9, 3) := by decide +kernel
theorem dX1_init_8 : decode cX1_init 8 = .ok (.dup, 1) := by decide +kernel
theorem dX1_init_9 : decode cX1_init 9 = .ok (.iconst 1, 1) := by decide +kernel
theorem dX1_init_10 : decode cX1_init 10 = .ok (.invokespecial 11, 3) := by decide +kernel
theorem dX1_init_13 : decode cX1_init 13 = .ok (.putfield 14, 3) := by decide +kernel
theorem dX1_init_16 : decode cX1_init 16 = .ok (.aload_n 0, 1) := by decide +kernel
theorem dX1_init_17 : decode cX1_init 17 = .ok (.bipush 40, 2) := by decide +kernel
theorem dX1_init_19 : decode cX1_init 19 = .ok (.newarray .int, 2) := by decide +kernel
theorem dX1_init_21 : decode cX1_init 21 = .ok (.putfield 20, 3) := by decide +kernel
theorem dX1_init_24 : decode cX1_init 24 = .ok (.aload_n 0, 1) := by decide +kernel
theorem dX1_init_25 : decode cX1_init 25 = .ok (.bipush 40, 2) := by decide +kernel
theorem dX1_init_27 : decode cX1_init 27 = .ok (.newarray .int, 2) := by decide +kernel
theorem dX1_init_29 : decode cX1_init 29 = .ok (.putfield 24, 3) := by decide +kernel
theorem dX1_init_32 : decode cX1_init 32 = .ok (.aload_n 0, 1) := by decide +kernel
theorem dX1_init_33 : decode cX1_init 33 = .ok (.bipush 40, 2) := by decide +kernel
theorem dX1_init_35 : decode cX1_init 35 = .ok (.newarray .int, 2) := by decide +kernel
theorem dX1_init_37 : decode cX1_init 37 = .ok (.putfield 27, 3) := by decide +kernel
theorem dX1_init_40 : decode cX1_init 40 = .ok (.aload_n 0, 1) := by decide +kernel
theorem dX1_init_41 : decode cX1_init 41 = .ok (.bipush 40, 2) := by decide +kernel
theorem dX1_init_43 : decode cX1_init 43 = .ok (.newarray .int, 2) := by decide +kernel
theorem dX1_init_45 : decode cX1_init 45 = .ok (.putfield 30, 3) := by decide +kernel
theorem dX1_init_48 : decode cX1_init 48 = .ok (.aload_n 0, 1) := by decide +kernel
theorem dX1_init_49 : decode cX1_init 49 = .ok (.bipush 40, 2) := by decide +kernel
theorem dX1_init_51 : decode cX1_init 51 = .ok (.newarray .int, 2) := by decide +kernel
theorem dX1_init_53 : decode cX1_init 53 = .ok (.putfield 33, 3) := by decide +kernel
theorem dX1_init_56 : decode cX1_init 56 = .ok (.aload_n 0, 1) := by decide +kernel
theorem dX1_init_57 : decode cX1_init 57 = .ok (.bipush 40, 2) := by decide +kernel
theorem dX1_init_59 : decode cX1_init 59 = .ok (.newarray .int, 2) := by decide +kernel
theorem dX1_init_61 : decode cX1_init 61 = .ok (.putfield 36, 3) := by decide +kernel
theorem dX1_init_64 : decode cX1_init 64 = .ok (.aload_n 0, 1) := by decide +kernel
theorem dX1_init_65 : decode cX1_init 65 = .ok (.bipush 40, 2) := by decide +kernel
theorem dX1_init_67 : decode cX1_init 67 = .ok (.newarray .int, 2) := by decide +kernel
theorem dX1_init_69 : decode cX1_init 69 = .ok (.putfield 39, 3) := by decide +kernel
theorem dX1_init_72 : decode cX1_init 72 = .ok (.aload_n 0, 1) := by decide +kernel
theorem dX1_init_73 : decode cX1_init 73 = .ok (.bipush 40, 2) := by decide +kernel
theorem dX1_init_75 : decode cX1_init 75 = .ok (.newarray .int, 2) := by decide +kernel
theorem dX1_init_77 : decode cX1_init 77 = .ok (.putfield 42, 3) := by decide +kernel
theorem dX1_init_80 : decode cX1_init 80 = .ok (.aload_n 0, 1) := by decide +kernel
theorem dX1_init_81 : decode cX1_init 81 = .ok (.bipush 40, 2) := by decide +kernel
theorem dX1_init_83 : decode cX1_init 83 = .ok (.newarray .int, 2) := by decide +kernel
theorem dX1_init_85 : decode cX1_init 85 = .ok (.putfield 45, 3) := by decide +kernel
theorem dX1_init_88 : decode cX1_init 88 = .ok (.aload_n 0, 1) := by decide +kernel
theorem dX1_init_89 : decode cX1_init 89 = .ok (.bipush 40, 2) := by decide +kernel
theorem dX1_init_91 : decode cX1_init 91 = .ok (.newarray .int, 2) := by decide +kernel
theorem dX1_init_93 : decode cX1_init 93 = .ok (.putfield 48, 3) := by decide +kernel
theorem dX1_init_96 : decode cX1_init 96 = .ok (.aload_n 0, 1) := by decide +kernel
theorem dX1_init_97 : decode cX1_init 97 = .ok (.bipush 40, 2) := by decide +kernel
theorem dX1_init_99 : decode cX1_init 99 = .ok (.newarray .int, 2) := by decide +kernel
theorem dX1_init_101 : decode cX1_init 101 = .ok (.putfield 51, 3) := by decide +kernel
theorem dX1_init_104 : decode cX1_init 104 = .ok (.aload_n 0, 1) := by decide +kernel
theorem dX1_init_105 : decode cX1_init 105 = .ok (.sipush 480, 3) := by decide +kernel
theorem dX1_init_108 : decode cX1_init 108 = .ok (.newarray .int, 2) := by decide +kernel
theorem dX1_init_110 : decode cX1_init 110 = .ok (.putfield 54, 3) := by decide +kernel
theorem dX1_init_113 : decode cX1_init 113 = .ok (.aload_n 0, 1) := by decide +kernel
theorem dX1_init_114 : decode cX1_init 114 = .ok (.iconst 0, 1) := by decide +kernel
theorem dX1_init_115 : decode cX1_init 115 = .ok (.putfield 57, 3) := by decide +kernel
theorem dX1_init_118 : decode cX1_init 118 = .ok (.return_, 1) := by decide +kernel
theorem dX2_init_0 : decode cX2_init 0 = .ok (.aload_n 0, 1) := by decide +kernel
theorem dX2_init_1 : decode cX2_init 1 = .ok (.invokespecial 3, 3) := by decide +kernel
theorem dX2_init_4 : decode cX2_init 4 = .ok (.aload_n 0, 1) := by decide +kernel
theorem dX2_init_5 : decode cX2_init 5 = .ok (.new 9, 3) := by decide +kernel
theorem dX2_init_8 : decode cX2_init 8 = .ok (.dup, 1) := by decide +kernel
theorem dX2_init_9 : decode cX2_init 9 = .ok (.invokespecial 11, 3) := by decide +kernel
theorem dX2_init_12 : decode cX2_init 12 = .ok (.putfield 12, 3) := by decide +kernel
theorem dX2_init_15 : decode cX2_init 15 = .ok (.aload_n 0, 1) := by decide +kernel
theorem dX2_init_16 : decode cX2_init 16 = .ok (.new 9, 3) := by decide +kernel
theorem dX2_init_19 : decode cX2_init 19 = .ok (.dup, 1) := by decide +kernel
theorem dX2_init_20 : decode cX2_init 20 = .ok (.invokespecial 11, 3) := by decide +kernel
theorem dX2_init_23 : decode cX2_init 23 = .ok (.putfield 18, 3) := by decide +kernel
theorem dX2_init_26 : decode cX2_init 26 = .ok (.aload_n 0, 1) := by decide +kernel
theorem dX2_init_27 : decode cX2_init 27 = .ok (.iconst (-1), 1) := by decide +kernel
theorem dX2_init_28 : decode cX2_init 28 = .ok (.putfield 21, 3) := by decide +kernel
theorem dX2_init_31 : decode cX2_init 31 = .ok (.aload_n 0, 1) := by decide +kernel
theorem dX2_init_32 : decode cX2_init 32 = .ok (.iconst (-1), 1) := by decide +kernel
theorem dX2_init_33 : decode cX2_init 33 = .ok (.putfield 25, 3) := by decide +kernel
theorem dX2_init_36 : decode cX2_init 36 = .ok (.return_, 1) := by decide +kernel
theorem dX3_init_0 : decode cX3_init 0 = .ok (.aload_n 0, 1) := by decide +kernel
theorem dX3_init_1 : decode cX3_init 1 = .ok (.invokespecial 3, 3) := by decide +kernel
theorem dX3_init_4 : decode cX3_init 4 = .ok (.aload_n 0, 1) := by decide +kernel
theorem dX3_init_5 : decode cX3_init 5 = .ok (.new 9, 3) := by decide +kernel
theorem dX3_init_8 : decode cX3_init 8 = .ok (.dup, 1) := by decide +kernel
theorem dX3_init_9 : decode cX3_init 9 = .ok (.invokespecial 11, 3) := by decide +kernel
theorem dX3_init_12 : decode cX3_init 12 = .ok (.putfield 12, 3) := by decide +kernel
theorem dX3_init_15 : decode cX3_init 15 = .ok (.aload_n 0, 1) := by decide +kernel
theorem dX3_init_16 : decode cX3_init 16 = .ok (.bipush 100, 2) := by decide +kernel
theorem dX3_init_18 : decode cX3_init 18 = .ok (.newarray .int, 2) := by decide +kernel
theorem dX3_init_20 : decode cX3_init 20 = .ok (.putfield 18, 3) := by decide +kernel
theorem dX3_init_23 : decode cX3_init 23 = .ok (.aload_n 0, 1) := by decide +kernel
theorem dX3_init_24 : decode cX3_init 24 = .ok (.bipush 6, 2) := by decide +kernel
theorem dX3_init_26 : decode cX3_init 26 = .ok (.newarray .int, 2) := by decide +kernel
theorem dX3_init_28 : decode cX3_init 28 = .ok (.putfield 22, 3) := by decide +kernel
theorem dX3_init_31 : decode cX3_init 31 = .ok (.aload_n 0, 1) := by decide +kernel
theorem dX3_init_32 : decode cX3_init 32 = .ok (.sipush 300, 3) := by decide +kernel
theorem dX3_init_35 : decode cX3_init 35 = .ok (.newarray .int, 2) := by decide +kernel
theorem dX3_init_37 : decode cX3_init 37 = .ok (.putfield 25, 3) := by decide +kernel
theorem dX3_init_40 : decode cX3_init 40 = .ok (.return_, 1) := by decide +kernel
theorem dX4_init_0 : decode cX4_init 0 = .ok (.aload_n 0, 1) := by decide +kernel
theorem dX4_init_1 : decode cX4_init 1 = .ok (.invokespecial 3, 3) := by decide +kernel
theorem dX4_init_4 : decode cX4_init 4 = .ok (.aload_n 0, 1) := by decide +kernel
theorem dX4_init_5 : decode cX4_init 5 = .ok (.bipush 12, 2) := by decide +kernel
theorem dX4_init_7 : decode cX4_init 7 = .ok (.anewarray 9, 3) := by decide +kernel
theorem dX4_init_10 : decode cX4_init 10 = .ok (.putfield 11, 3) := by decide +kernel
theorem dX4_init_13 : decode cX4_init 13 = .ok (.iconst 0, 1) := by decide +kernel
theorem dX4_init_14 : decode cX4_init 14 = .ok (.istore_n 1, 1) := by decide +kernel
theorem dX4_init_15 : decode cX4_init 15 = .ok (.iload_n 1, 1) := by decide +kernel
theorem dX4_init_16 : decode cX4_init 16 = .ok (.bipush 12, 2) := by decide +kernel
theorem dX4_init_18 : decode cX4_init 18 = .ok (.if_icmp .ge 22, 3) := by decide +kernel
theorem dX4_init_21 : decode cX4_init 21 = .ok (.aload_n 0, 1) := by decide +kernel
theorem dX4_init_22 : decode cX4_init 22 = .ok (.getfield 11, 3) := by decide +kernel
theorem dX4_init_25 : decode cX4_init 25 = .ok (.iload_n 1, 1) := by decide +kernel
theorem dX4_init_26 : decode cX4_init 26 = .ok (.new 9, 3) := by decide +kernel
theorem dX4_init_29 : decode cX4_init 29 = .ok (.dup, 1) := by decide +kernel
theorem dX4_init_30 : decode cX4_init 30 = .ok (.invokespecial 17, 3) := by decide +kernel
theorem dX4_init_33 : decode cX4_init 33 = .ok (.aastore, 1) := by decide +kernel
theorem dX4_init_34 : decode cX4_init 34 = .ok (.iinc 1 1, 3) := by decide +kernel
theorem dX4_init_37 : decode cX4_init 37 = .ok (.goto (-22), 3) := by decide +kernel
theorem dX4_init_40 : decode cX4_init 40 = .ok (.aload_n 0, 1) := by decide +kernel
theorem dX4_init_41 : decode cX4_init 41 = .ok (.bipush 6, 2) := by decide +kernel
theorem dX4_init_43 : decode cX4_init 43 = .ok (.bipush 8, 2) := by decide +kernel
theorem dX4_init_45 : decode cX4_init 45 = .ok (.multianewarray 18 2, 4) := by decide +kernel
theorem dX4_init_49 : decode cX4_init 49 = .ok (.putfield 20, 3) := by decide +kernel
theorem dX4_init_52 : decode cX4_init 52 = .ok (.aload_n 0, 1) := by decide +kernel
theorem dX4_init_53 : decode cX4_init 53 = .ok (.bipush 6, 2) := by decide +kernel
theorem dX4_init_55 : decode cX4_init 55 = .ok (.newarray .int, 2) := by decide +kernel
theorem dX4_init_57 : decode cX4_init 57 = .ok (.putfield 23, 3) := by decide +kernel
theorem dX4_init_60 : decode cX4_init 60 = .ok (.aload_n 0, 1) := by decide +kernel
theorem dX4_init_61 : decode cX4_init 61 = .ok (.new 27, 3) := by decide +kernel
theorem dX4_init_64 : decode cX4_init 64 = .ok (.dup, 1) := by decide +kernel
theorem dX4_init_65 : decode cX4_init 65 = .ok (.invokespecial 29, 3) := by decide +kernel
theorem dX4_init_68 : decode cX4_init 68 = .ok (.putfield 30, 3) := by decide +kernel
theorem dX4_init_71 : decode cX4_init 71 = .ok (.aload_n 0, 1) := by decide +kernel
theorem dX4_init_72 : decode cX4_init 72 = .ok (.new 34, 3) := by decide +kernel
theorem dX4_init_75 : decode cX4_init 75 = .ok (.dup, 1) := by decide +kernel
theorem dX4_init_76 : decode cX4_init 76 = .ok (.sipush 1000, 3) := by decide +kernel
theorem dX4_init_79 : decode cX4_init 79 = .ok (.invokespecial 36, 3) := by decide +kernel
theorem dX4_init_82 : decode cX4_init 82 = .ok (.putfield 39, 3) := by decide +kernel
theorem dX4_init_85 : decode cX4_init 85 = .ok (.aload_n 0, 1) := by decide +kernel
theorem dX4_init_86 : decode cX4_init 86 = .ok (.new 34, 3) := by decide +kernel
theorem dX4_init_89 : decode cX4_init 89 = .ok (.dup, 1) := by decide +kernel
theorem dX4_init_90 : decode cX4_init 90 = .ok (.sipush 480, 3) := by decide +kernel
theorem dX4_init_93 : decode cX4_init 93 = .ok (.invokespecial 36, 3) := by decide +kernel
theorem dX4_init_96 : decode cX4_init 96 = .ok (.putfield 43, 3) := by decide +kernel
theorem dX4_init_99 : decode cX4_init 99 = .ok (.aload_n 0, 1) := by decide +kernel
theorem dX4_init_100 : decode cX4_init 100 = .ok (.new 34, 3) := by decide +kernel
theorem dX4_init_103 : decode cX4_init 103 = .ok (.dup, 1) := by decide +kernel
theorem dX4_init_104 : decode cX4_init 104 = .ok (.sipush 480, 3) := by decide +kernel
theorem dX4_init_107 : decode cX4_init 107 = .ok (.invokespecial 36, 3) := by decide +kernel
theorem dX4_init_110 : decode cX4_init 110 = .ok (.putfield 46, 3) := by decide +kernel
theorem dX4_init_113 : decode cX4_init 113 = .ok (.aload_n 0, 1) := by decide +kernel
theorem dX4_init_114 : decode cX4_init 114 = .ok (.new 49, 3) := by decide +kernel
theorem dX4_init_117 : decode cX4_init 117 = .ok (.dup, 1) := by decide +kernel
theorem dX4_init_118 : decode cX4_init 118 = .ok (.invokespecial 51, 3) := by decide +kernel
theorem dX4_init_121 : decode cX4_init 121 = .ok (.putfield 52, 3) := by decide +kernel
theorem dX4_init_124 : decode cX4_init 124 = .ok (.aload_n 0, 1) := by decide +kernel
theorem dX4_init_125 : decode cX4_init 125 = .ok (.iconst (-1), 1) := by decide +kernel
theorem dX4_init_126 : decode cX4_init 126 = .ok (.putfield 56, 3) := by decide +kernel
theorem dX4_init_129 : decode cX4_init 129 = .ok (.aload_n 0, 1) := by decide +kernel
theorem dX4_init_130 : decode cX4_init 130 = .ok (.iconst (-1), 1) := by decide +kernel
theorem dX4_init_131 : decode cX4_init 131 = .ok (.putfield 60, 3) := by decide +kernel
theorem dX4_init_134 : decode cX4_init 134 = .ok (.return_, 1) := by decide +kernel
theorem dX5_init_0 : decode cX5_init 0 = .ok (.aload_n 0, 1) := by decide +kernel
theorem dX5_init_1 : decode cX5_init 1 = .ok (.invokespecial 3, 3) := by decide +kernel
theorem dX5_init_4 : decode cX5_init 4 = .ok (.aload_n 0, 1) := by decide +kernel
theorem dX5_init_5 : decode cX5_init 5 = .ok (.iconst 3, 1) := by decide +kernel
theorem dX5_init_6 : decode cX5_init 6 = .ok (.newarray .int, 2) := by decide +kernel
theorem dX5_init_8 : decode cX5_init 8 = .ok (.putfield 9, 3) := by decide +kernel
theorem dX5_init_11 : decode cX5_init 11 = .ok (.aload_n 0, 1) := by decide +kernel
theorem dX5_init_12 : decode cX5_init 12 = .ok (.bipush 40, 2) := by decide +kernel
theorem dX5_init_14 : decode cX5_init 14 = .ok (.newarray .int, 2) := by decide +kernel
theorem dX5_init_16 : decode cX5_init 16 = .ok (.putfield 15, 3) := by decide +kernel
theorem dX5_init_19 : decode cX5_init 19 = .ok (.aload_n 0, 1) := by decide +kernel
theorem dX5_init_20 : decode cX5_init 20 = .ok (.bipush 20, 2) := by decide +kernel
theorem dX5_init_22 : decode cX5_init 22 = .ok (.sipush 512, 3) := by decide +kernel
theorem dX5_init_25 : decode cX5_init 25 = .ok (.multianewarray 18 2, 4) := by decide +kernel
theorem dX5_init_29 : decode cX5_init 29 = .ok (.putfield 20, 3) := by decide +kernel
theorem dX5_init_32 : decode cX5_init 32 = .ok (.aload_n 0, 1) := by decide +kernel
theorem dX5_init_33 : decode cX5_init 33 = .ok (.sipush 512, 3) := by decide +kernel
theorem dX5_init_36 : decode cX5_init 36 = .ok (.newarray .int, 2) := by decide +kernel
theorem dX5_init_38 : decode cX5_init 38 = .ok (.putfield 23, 3) := by decide +kernel
theorem dX5_init_41 : decode cX5_init 41 = .ok (.aload_n 0, 1) := by decide +kernel
theorem dX5_init_42 : decode cX5_init 42 = .ok (.sipush 512, 3) := by decide +kernel
theorem dX5_init_45 : decode cX5_init 45 = .ok (.newarray .int, 2) := by decide +kernel
theorem dX5_init_47 : decode cX5_init 47 = .ok (.putfield 26, 3) := by decide +kernel
theorem dX5_init_50 : decode cX5_init 50 = .ok (.aload_n 0, 1) := by decide +kernel
theorem dX5_init_51 : decode cX5_init 51 = .ok (.iconst (-1), 1) := by decide +kernel
theorem dX5_init_52 : decode cX5_init 52 = .ok (.putfield 29, 3) := by decide +kernel
theorem dX5_init_55 : decode cX5_init 55 = .ok (.return_, 1) := by decide +kernel
theorem dX6_init_0 : decode cX6_init 0 = .ok (.aload_n 0, 1) := by decide +kernel
theorem dX6_init_1 : decode cX6_init 1 = .ok (.invokespecial 3, 3) := by decide +kernel
theorem dX6_init_4 : decode cX6_init 4 = .ok (.aload_n 0, 1) := by decide +kernel
theorem dX6_init_5 : decode cX6_init 5 = .ok (.new 9, 3) := by decide +kernel
theorem dX6_init_8 : decode cX6_init 8 = .ok (.dup, 1) := by decide +kernel
theorem dX6_init_9 : decode cX6_init 9 = .ok (.invokespecial 11, 3) := by decide +kernel
theorem dX6_init_12 : decode cX6_init 12 = .ok (.putfield 12, 3) := by decide +kernel
theorem dX6_init_15 : decode cX6_init 15 = .ok (.aload_n 0, 1) := by decide +kernel
theorem dX6_init_16 : decode cX6_init 16 = .ok (.new 18, 3) := by decide +kernel
theorem dX6_init_19 : decode cX6_init 19 = .ok (.dup, 1) := by decide +kernel
theorem dX6_init_20 : decode cX6_init 20 = .ok (.iconst 1, 1) := by decide +kernel
theorem dX6_init_21 : decode cX6_init 21 = .ok (.invokespecial 20, 3) := by decide +kernel
theorem dX6_init_24 : decode cX6_init 24 = .ok (.putfield 23, 3) := by decide +kernel
theorem dX6_init_27 : decode cX6_init 27 = .ok (.aload_n 0, 1) := by decide +kernel
theorem dX6_init_28 : decode cX6_init 28 = .ok (.bipush 8, 2) := by decide +kernel
theorem dX6_init_30 : decode cX6_init 30 = .ok (.newarray .int, 2) := by decide +kernel
theorem dX6_init_32 : decode cX6_init 32 = .ok (.putfield 27, 3) := by decide +kernel
theorem dX6_init_35 : decode cX6_init 35 = .ok (.aload_n 0, 1) := by decide +kernel
theorem dX6_init_36 : decode cX6_init 36 = .ok (.bipush 8, 2) := by decide +kernel
theorem dX6_init_38 : decode cX6_init 38 = .ok (.newarray .int, 2) := by decide +kernel
theorem dX6_init_40 : decode cX6_init 40 = .ok (.putfield 31, 3) := by decide +kernel
theorem dX6_init_43 : decode cX6_init 43 = .ok (.aload_n 0, 1) := by decide +kernel
theorem dX6_init_44 : decode cX6_init 44 = .ok (.bipush 8, 2) := by decide +kernel
theorem dX6_init_46 : decode cX6_init 46 = .ok (.newarray .int, 2) := by decide +kernel
theorem dX6_init_48 : decode cX6_init 48 = .ok (.putfield 34, 3) := by decide +kernel
theorem dX6_init_51 : decode cX6_init 51 = .ok (.aload_n 0, 1) := by decide +kernel
theorem dX6_init_52 : decode cX6_init 52 = .ok (.iconst 0, 1) := by decide +kernel
theorem dX6_init_53 : decode cX6_init 53 = .ok (.putfield 37, 3) := by decide +kernel
theorem dX6_init_56 : decode cX6_init 56 = .ok (.aload_n 0, 1) := by decide +kernel
theorem dX6_init_57 : decode cX6_init 57 = .ok (.iconst (-1), 1) := by decide +kernel
theorem dX6_init_58 : decode cX6_init 58 = .ok (.putfield 41, 3) := by decide +kernel
theorem dX6_init_61 : decode cX6_init 61 = .ok (.return_, 1) := by decide +kernel
theorem dX7_init_0 : decode cX7_init 0 = .ok (.aload_n 0, 1) := by decide +kernel
theorem dX7_init_1 : decode cX7_init 1 = .ok (.invokespecial 3, 3) := by decide +kernel
theorem dX7_init_4 : decode cX7_init 4 = .ok (.aload_n 0, 1) := by decide +kernel
theorem dX7_init_5 : decode cX7_init 5 = .ok (.new 9, 3) := by decide +kernel
theorem dX7_init_8 : decode cX7_init 8 = .ok (.dup, 1) := by decide +kernel
theorem dX7_init_9 : decode cX7_init 9 = .ok (.invokespecial 11, 3) := by decide +kernel
theorem dX7_init_12 : decode cX7_init 12 = .ok (.putfield 12, 3) := by decide +kernel
theorem dX7_init_15 : decode cX7_init 15 = .ok (.aload_n 0, 1) := by decide +kernel
theorem dX7_init_16 : decode cX7_init 16 = .ok (.bipush 6, 2) := by decide +kernel
theorem dX7_init_18 : decode cX7_init 18 = .ok (.newarray .int, 2) := by decide +kernel
theorem dX7_init_20 : decode cX7_init 20 = .ok (.putfield 18, 3) := by decide +kernel
theorem dX7_init_23 : decode cX7_init 23 = .ok (.aload_n 0, 1) := by decide +kernel
theorem dX7_init_24 : decode cX7_init 24 = .ok (.bipush 6, 2) := by decide +kernel
theorem dX7_init_26 : decode cX7_init 26 = .ok (.newarray .int, 2) := by decide +kernel
theorem dX7_init_28 : decode cX7_init 28 = .ok (.putfield 22, 3) := by decide +kernel
theorem dX7_init_31 : decode cX7_init 31 = .ok (.aload_n 0, 1) := by decide +kernel
theorem dX7_init_32 : decode cX7_init 32 = .ok (.bipush 6, 2) := by decide +kernel
theorem dX7_init_34 : decode cX7_init 34 = .ok (.newarray .int, 2) := by decide +kernel
theorem dX7_init_36 : decode cX7_init 36 = .ok (.putfield 25, 3) := by decide +kernel
theorem dX7_init_39 : decode cX7_init 39 = .ok (.return_, 1) := by decide +kernel
theorem dX8_init_0 : decode cX8_init 0 = .ok (.aload_n 0, 1) := by decide +kernel
theorem dX8_init_1 : decode cX8_init 1 = .ok (.invokespecial 3, 3) := by decide +kernel
theorem dX8_init_4 : decode cX8_init 4 = .ok (.aload_n 0, 1) := by decide +kernel
theorem dX8_init_5 : decode cX8_init 5 = .ok (.iload_n 1, 1) := by decide +kernel
theorem dX8_init_6 : decode cX8_init 6 = .ok (.iconst 1, 1) := by decide +kernel
theorem dX8_init_7 : decode cX8_init 7 = .ok (.invokestatic 9, 3) := by decide +kernel
theorem dX8_init_10 : decode cX8_init 10 = .ok (.newarray .int, 2) := by decide +kernel
theorem dX8_init_12 : decode cX8_init 12 = .ok (.putfield 15, 3) := by decide +kernel
theorem dX8_init_15 : decode cX8_init 15 = .ok (.aload_n 0, 1) := by decide +kernel
theorem dX8_init_16 : decode cX8_init 16 = .ok (.iconst 0, 1) := by decide +kernel
theorem dX8_init_17 : decode cX8_init 17 = .ok (.putfield 21, 3) := by decide +kernel
theorem dX8_init_20 : decode cX8_init 20 = .ok (.return_, 1) := by decide +kernel
theorem dX9_init_0 : decode cX9_init 0 = .ok (.aload_n 0, 1) := by decide +kernel
theorem dX9_init_1 : decode cX9_init 1 = .ok (.invokespecial 3, 3) := by decide +kernel
theorem dX9_init_4 : decode cX9_init 4 = .ok (.aload_n 0, 1) := by decide +kernel
theorem dX9_init_5 : decode cX9_init 5 = .ok (.new 9, 3) := by decide +kernel
theorem dX9_init_8 : decode cX9_init 8 = .ok (.dup, 1) := by decide +kernel
theorem dX9_init_9 : decode cX9_init 9 = .ok (.bipush 40, 2) := by decide +kernel
theorem dX9_init_11 : decode cX9_init 11 = .ok (.invokespecial 11, 3) := by decide +kernel
theorem dX9_init_14 : decode cX9_init 14 = .ok (.putfield 14, 3) := by decide +kernel
theorem dX9_init_17 : decode cX9_init 17 = .ok (.aload_n 0, 1) := by decide +kernel
theorem dX9_init_18 : decode cX9_init 18 = .ok (.new 9, 3) := by decide +kernel
theorem dX9_init_21 : decode cX9_init 21 = .ok (.dup, 1) := by decide +kernel
theorem dX9_init_22 : decode cX9_init 22 = .ok (.bipush 40, 2) := by decide +kernel
theorem dX9_init_24 : decode cX9_init 24 = .ok (.invokespecial 11, 3) := by decide +kernel
theorem dX9_init_27 : decode cX9_init 27 = .ok (.putfield 20, 3) := by decide +kernel
theorem dX9_init_30 : decode cX9_init 30 = .ok (.aload_n 0, 1) := by decide +kernel
theorem dX9_init_31 : decode cX9_init 31 = .ok (.iconst 3, 1) := by decide +kernel
theorem dX9_init_32 : decode cX9_init 32 = .ok (.newarray .int, 2) := by decide +kernel
theorem dX9_init_34 : decode cX9_init 34 = .ok (.putfield 23, 3) := by decide +kernel
theorem dX9_init_37 : decode cX9_init 37 = .ok (.aload_n 0, 1) := by decide +kernel
theorem dX9_init_38 : decode cX9_init 38 = .ok (.iconst 3, 1) := by decide +kernel
theorem dX9_init_39 : decode cX9_init 39 = .ok (.newarray .int, 2) := by decide +kernel
theorem dX9_init_41 : decode cX9_init 41 = .ok (.putfield 27, 3) := by decide +kernel
theorem dX9_init_44 : decode cX9_init 44 = .ok (.aload_n 0, 1) := by decide +kernel
theorem dX9_init_45 : decode cX9_init 45 = .ok (.iconst 0, 1) := by decide +kernel
theorem dX9_init_46 : decode cX9_init 46 = .ok (.putfield 30, 3) := by decide +kernel
theorem dX9_init_49 : decode cX9_init 49 = .ok (.return_, 1) := by decide +kernel
