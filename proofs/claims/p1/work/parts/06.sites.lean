set_option maxRecDepth 20000 in
theorem cs_X11_15 : csI RX11 15 yX8_init cX8_init 2 1 := ⟨gI cd_X8_init, in_X8, ml_X11_15, im_yX8_init, rfl, by decide +kernel⟩
set_option maxRecDepth 20000 in
theorem cs_X6_11 : csI RX6 11 yX10_init cX10_init 1 0 := ⟨gI cd_X10_init, in_X10, ml_X6_11, im_yX10_init, rfl, by decide +kernel⟩
set_option maxRecDepth 20000 in
theorem cs_X6_20 : csI RX6 20 yX8_init cX8_init 2 1 := ⟨gI cd_X8_init, in_X8, ml_X6_20, im_yX8_init, rfl, by decide +kernel⟩
set_option maxRecDepth 20000 in
theorem cs_X11_28 : csI RX11 28 yX6_init cX6_init 1 0 := ⟨gI cd_X6_init, in_X6, ml_X11_28, im_yX6_init, rfl, by decide +kernel⟩
set_option maxRecDepth 20000 in
theorem cs_X1_11 : csI RX1 11 yX8_init cX8_init 2 1 := ⟨gI cd_X8_init, in_X8, ml_X1_11, im_yX8_init, rfl, by decide +kernel⟩
set_option maxRecDepth 20000 in
theorem cs_X3_11 : csI RX3 11 yX1_init cX1_init 1 0 := ⟨gI cd_X1_init, in_X1, ml_X3_11, im_yX1_init, rfl, by decide +kernel⟩
set_option maxRecDepth 20000 in
theorem cs_X11_35 : csI RX11 35 yX3_init cX3_init 1 0 := ⟨gI cd_X3_init, in_X3, ml_X11_35, im_yX3_init, rfl, by decide +kernel⟩
set_option maxRecDepth 20000 in
theorem cs_X11_42 : csI RX11 42 yX5_init cX5_init 1 0 := ⟨gI cd_X5_init, in_X5, ml_X11_42, im_yX5_init, rfl, by decide +kernel⟩
set_option maxRecDepth 20000 in
theorem cs_X9_11 : csI RX9 11 yX8_init cX8_init 2 1 := ⟨gI cd_X8_init, in_X8, ml_X9_11, im_yX8_init, rfl, by decide +kernel⟩
set_option maxRecDepth 20000 in
theorem cs_X4_17 : csI RX4 17 yX9_init cX9_init 1 0 := ⟨gI cd_X9_init, in_X9, ml_X4_17, im_yX9_init, rfl, by decide +kernel⟩
set_option maxRecDepth 20000 in
theorem cs_X0_11 : csI RX0 11 yX8_init cX8_init 2 1 := ⟨gI cd_X8_init, in_X8, ml_X0_11, im_yX8_init, rfl, by decide +kernel⟩
set_option maxRecDepth 20000 in
theorem cs_X0_22 : csI RX0 22 yX1_init cX1_init 1 0 := ⟨gI cd_X1_init, in_X1, ml_X0_22, im_yX1_init, rfl, by decide +kernel⟩
set_option maxRecDepth 20000 in
theorem cs_X4_29 : csI RX4 29 yX0_init cX0_init 1 0 := ⟨gI cd_X0_init, in_X0, ml_X4_29, im_yX0_init, rfl, by decide +kernel⟩
set_option maxRecDepth 20000 in
theorem cs_X4_36 : csI RX4 36 yX8_init cX8_init 2 1 := ⟨gI cd_X8_init, in_X8, ml_X4_36, im_yX8_init, rfl, by decide +kernel⟩
set_option maxRecDepth 20000 in
theorem cs_X2_11 : csI RX2 11 yX3_init cX3_init 1 0 := ⟨gI cd_X3_init, in_X3, ml_X2_11, im_yX3_init, rfl, by decide +kernel⟩
set_option maxRecDepth 20000 in
theorem cs_X4_51 : csI RX4 51 yX2_init cX2_init 1 0 := ⟨gI cd_X2_init, in_X2, ml_X4_51, im_yX2_init, rfl, by decide +kernel⟩
set_option maxRecDepth 20000 in
theorem cs_X11_49 : csI RX11 49 yX4_init cX4_init 2 0 := ⟨gI cd_X4_init, in_X4, ml_X11_49, im_yX4_init, rfl, by decide +kernel⟩
set_option maxRecDepth 20000 in
theorem cs_X7_11 : csI RX7 11 yX1_init cX1_init 1 0 := ⟨gI cd_X1_init, in_X1, ml_X7_11, im_yX1_init, rfl, by decide +kernel⟩
set_option maxRecDepth 20000 in
theorem cs_X11_56 : csI RX11 56 yX7_init cX7_init 1 0 := ⟨gI cd_X7_init, in_X7, ml_X11_56, im_yX7_init, rfl, by decide +kernel⟩
