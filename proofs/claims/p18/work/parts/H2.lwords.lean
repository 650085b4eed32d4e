set_option maxRecDepth 20000 in
theorem ml_X12_1 : Cond.methodLink RX12 1 objectInit ∈ gG := gT5 222 rfl rfl
set_option maxRecDepth 20000 in
theorem ac_boolean : Cond.arrayClass .boolean ∈ gG := gT6 152 rfl rfl
set_option maxRecDepth 20000 in
theorem is_X11 : Cond.instantiable RX11 8 ∈ gG := gT1 21 rfl rfl
set_option maxRecDepth 20000 in
theorem is_X12 : Cond.instantiable RX12 56 ∈ gG := gT5 218 rfl rfl
set_option maxRecDepth 20000 in
theorem ml_L_13 : Cond.methodLink RL 13 yX11_feed ∈ gG := gT2 205 rfl rfl
set_option maxRecDepth 20000 in
theorem im_yX11_feed : Cond.instanceMethod yX11_feed ∈ gG := gT2 206 rfl rfl
set_option maxRecDepth 20000 in
theorem se_yX11_feed : Cond.selects RX11 yX11_feed yX11_feed ∈ gG := gT2 207 rfl rfl
set_option maxRecDepth 20000 in
theorem cd_X11_feed : Cond.code yX11_feed cX11_feed 7 (some .int) ∈ gG := gT2 208 rfl rfl
set_option maxRecDepth 20000 in
theorem ml_L_17 : Cond.methodLink RL 17 yX12_feed ∈ gG := gT6 153 rfl rfl
set_option maxRecDepth 20000 in
theorem im_yX12_feed : Cond.instanceMethod yX12_feed ∈ gG := gT6 154 rfl rfl
set_option maxRecDepth 20000 in
theorem se_yX12_feed : Cond.selects RX12 yX12_feed yX12_feed ∈ gG := gT6 155 rfl rfl
set_option maxRecDepth 20000 in
theorem cd_X12_feed : Cond.code yX12_feed cX12_feed 8 (some .int) ∈ gG := gT6 156 rfl rfl
set_option maxRecDepth 20000 in
theorem ml_L_18 : Cond.methodLink RL 18 yX11_end ∈ gG := gT2 213 rfl rfl
set_option maxRecDepth 20000 in
theorem im_yX11_end : Cond.instanceMethod yX11_end ∈ gG := gT2 214 rfl rfl
set_option maxRecDepth 20000 in
theorem se_yX11_end : Cond.selects RX11 yX11_end yX11_end ∈ gG := gT2 215 rfl rfl
set_option maxRecDepth 20000 in
theorem cd_X11_end : Cond.code yX11_end cX11_end 2 (some .boolean) ∈ gG := gT2 216 rfl rfl
set_option maxRecDepth 20000 in
theorem ml_L_22 : Cond.methodLink RL 22 yX12_end ∈ gG := gT6 157 rfl rfl
set_option maxRecDepth 20000 in
theorem im_yX12_end : Cond.instanceMethod yX12_end ∈ gG := gT6 158 rfl rfl
set_option maxRecDepth 20000 in
theorem se_yX12_end : Cond.selects RX12 yX12_end yX12_end ∈ gG := gT6 159 rfl rfl
set_option maxRecDepth 20000 in
theorem cd_X12_end : Cond.code yX12_end cX12_end 2 (some .boolean) ∈ gG := gT6 160 rfl rfl
set_option maxRecDepth 20000 in
theorem ml_L_23 : Cond.methodLink RL 23 yX11_program ∈ gG := gT2 221 rfl rfl
set_option maxRecDepth 20000 in
theorem im_yX11_program : Cond.instanceMethod yX11_program ∈ gG := gT2 222 rfl rfl
set_option maxRecDepth 20000 in
theorem se_yX11_program : Cond.selects RX11 yX11_program yX11_program ∈ gG := gT2 223 rfl rfl
set_option maxRecDepth 20000 in
theorem cd_X11_program : Cond.code yX11_program cX11_program 3 (some .int) ∈ gG := gT2 224 rfl rfl
set_option maxRecDepth 20000 in
theorem ml_L_27 : Cond.methodLink RL 27 yX12_program ∈ gG := gT6 164 rfl rfl
set_option maxRecDepth 20000 in
theorem im_yX12_program : Cond.instanceMethod yX12_program ∈ gG := gT6 165 rfl rfl
set_option maxRecDepth 20000 in
theorem se_yX12_program : Cond.selects RX12 yX12_program yX12_program ∈ gG := gT6 166 rfl rfl
set_option maxRecDepth 20000 in
theorem cd_X12_program : Cond.code yX12_program cX12_program 3 (some .int) ∈ gG := gT6 167 rfl rfl
set_option maxRecDepth 20000 in
theorem ml_L_28 : Cond.methodLink RL 28 yX11_rule ∈ gG := gT3 218 rfl rfl
set_option maxRecDepth 20000 in
theorem im_yX11_rule : Cond.instanceMethod yX11_rule ∈ gG := gT3 219 rfl rfl
set_option maxRecDepth 20000 in
theorem se_yX11_rule : Cond.selects RX11 yX11_rule yX11_rule ∈ gG := gT3 220 rfl rfl
set_option maxRecDepth 20000 in
theorem cd_X11_rule : Cond.code yX11_rule cX11_rule 2 (some .int) ∈ gG := gT3 221 rfl rfl
set_option maxRecDepth 20000 in
theorem ml_L_32 : Cond.methodLink RL 32 yX12_rule ∈ gG := gT7 39 rfl rfl
set_option maxRecDepth 20000 in
theorem im_yX12_rule : Cond.instanceMethod yX12_rule ∈ gG := gT7 40 rfl rfl
set_option maxRecDepth 20000 in
theorem se_yX12_rule : Cond.selects RX12 yX12_rule yX12_rule ∈ gG := gT7 41 rfl rfl
set_option maxRecDepth 20000 in
theorem cd_X12_rule : Cond.code yX12_rule cX12_rule 4 (some .int) ∈ gG := gT7 42 rfl rfl
set_option maxRecDepth 20000 in
theorem ml_L_33 : Cond.methodLink RL 33 yX11_fault ∈ gG := gT3 234 rfl rfl
set_option maxRecDepth 20000 in
theorem im_yX11_fault : Cond.instanceMethod yX11_fault ∈ gG := gT3 235 rfl rfl
set_option maxRecDepth 20000 in
theorem se_yX11_fault : Cond.selects RX11 yX11_fault yX11_fault ∈ gG := gT3 236 rfl rfl
set_option maxRecDepth 20000 in
theorem cd_X11_fault : Cond.code yX11_fault cX11_fault 2 (some .int) ∈ gG := gT3 237 rfl rfl
set_option maxRecDepth 20000 in
theorem ml_L_36 : Cond.methodLink RL 36 yX12_fault ∈ gG := gT7 43 rfl rfl
set_option maxRecDepth 20000 in
theorem im_yX12_fault : Cond.instanceMethod yX12_fault ∈ gG := gT7 44 rfl rfl
set_option maxRecDepth 20000 in
theorem se_yX12_fault : Cond.selects RX12 yX12_fault yX12_fault ∈ gG := gT7 45 rfl rfl
set_option maxRecDepth 20000 in
theorem cd_X12_fault : Cond.code yX12_fault cX12_fault 2 (some .int) ∈ gG := gT7 46 rfl rfl
set_option maxRecDepth 20000 in
theorem ml_L_37 : Cond.methodLink RL 37 yX11_at ∈ gG := gT3 238 rfl rfl
set_option maxRecDepth 20000 in
theorem im_yX11_at : Cond.instanceMethod yX11_at ∈ gG := gT3 239 rfl rfl
set_option maxRecDepth 20000 in
theorem se_yX11_at : Cond.selects RX11 yX11_at yX11_at ∈ gG := gT4 0 rfl rfl
set_option maxRecDepth 20000 in
theorem cd_X11_at : Cond.code yX11_at cX11_at 4 (some .int) ∈ gG := gT4 1 rfl rfl
set_option maxRecDepth 20000 in
theorem ml_L_41 : Cond.methodLink RL 41 yX12_at ∈ gG := gT7 47 rfl rfl
set_option maxRecDepth 20000 in
theorem im_yX12_at : Cond.instanceMethod yX12_at ∈ gG := gT7 48 rfl rfl
set_option maxRecDepth 20000 in
theorem se_yX12_at : Cond.selects RX12 yX12_at yX12_at ∈ gG := gT7 49 rfl rfl
set_option maxRecDepth 20000 in
theorem cd_X12_at : Cond.code yX12_at cX12_at 3 (some .int) ∈ gG := gT7 50 rfl rfl
set_option maxRecDepth 20000 in
theorem ml_L_42 : Cond.methodLink RL 42 yX11_size ∈ gG := gT4 3 rfl rfl
set_option maxRecDepth 20000 in
theorem im_yX11_size : Cond.instanceMethod yX11_size ∈ gG := gT4 4 rfl rfl
set_option maxRecDepth 20000 in
theorem se_yX11_size : Cond.selects RX11 yX11_size yX11_size ∈ gG := gT4 5 rfl rfl
set_option maxRecDepth 20000 in
theorem cd_X11_size : Cond.code yX11_size cX11_size 4 (some .int) ∈ gG := gT4 6 rfl rfl
set_option maxRecDepth 20000 in
theorem ml_L_45 : Cond.methodLink RL 45 yX12_size ∈ gG := gT7 51 rfl rfl
set_option maxRecDepth 20000 in
theorem im_yX12_size : Cond.instanceMethod yX12_size ∈ gG := gT7 52 rfl rfl
set_option maxRecDepth 20000 in
theorem se_yX12_size : Cond.selects RX12 yX12_size yX12_size ∈ gG := gT7 53 rfl rfl
set_option maxRecDepth 20000 in
theorem cd_X12_size : Cond.code yX12_size cX12_size 3 (some .int) ∈ gG := gT7 54 rfl rfl
set_option maxRecDepth 20000 in
theorem ml_L_46 : Cond.methodLink RL 46 yX11_run ∈ gG := gT4 62 rfl rfl
set_option maxRecDepth 20000 in
theorem im_yX11_run : Cond.instanceMethod yX11_run ∈ gG := gT4 63 rfl rfl
set_option maxRecDepth 20000 in
theorem se_yX11_run : Cond.selects RX11 yX11_run yX11_run ∈ gG := gT4 64 rfl rfl
set_option maxRecDepth 20000 in
theorem cd_X11_run : Cond.code yX11_run cX11_run 6 (some .int) ∈ gG := gT4 65 rfl rfl
set_option maxRecDepth 20000 in
theorem ml_L_50 : Cond.methodLink RL 50 yX12_run ∈ gG := gT7 99 rfl rfl
set_option maxRecDepth 20000 in
theorem im_yX12_run : Cond.instanceMethod yX12_run ∈ gG := gT7 100 rfl rfl
set_option maxRecDepth 20000 in
theorem se_yX12_run : Cond.selects RX12 yX12_run yX12_run ∈ gG := gT7 101 rfl rfl
set_option maxRecDepth 20000 in
theorem cd_X12_run : Cond.code yX12_run cX12_run 5 (some .int) ∈ gG := gT7 102 rfl rfl
set_option maxRecDepth 20000 in
theorem ml_L_51 : Cond.methodLink RL 51 yX11_judge ∈ gG := gT4 103 rfl rfl
set_option maxRecDepth 20000 in
theorem im_yX11_judge : Cond.instanceMethod yX11_judge ∈ gG := gT4 104 rfl rfl
set_option maxRecDepth 20000 in
theorem se_yX11_judge : Cond.selects RX11 yX11_judge yX11_judge ∈ gG := gT4 105 rfl rfl
set_option maxRecDepth 20000 in
theorem cd_X11_judge : Cond.code yX11_judge cX11_judge 7 (some .int) ∈ gG := gT4 106 rfl rfl
set_option maxRecDepth 20000 in
theorem ml_L_55 : Cond.methodLink RL 55 yX12_judge ∈ gG := gT7 130 rfl rfl
set_option maxRecDepth 20000 in
theorem im_yX12_judge : Cond.instanceMethod yX12_judge ∈ gG := gT7 131 rfl rfl
set_option maxRecDepth 20000 in
theorem se_yX12_judge : Cond.selects RX12 yX12_judge yX12_judge ∈ gG := gT7 132 rfl rfl
set_option maxRecDepth 20000 in
theorem cd_X12_judge : Cond.code yX12_judge cX12_judge 4 (some .int) ∈ gG := gT7 133 rfl rfl
set_option maxRecDepth 20000 in
theorem ml_L_56 : Cond.methodLink RL 56 yX11_ruleOf ∈ gG := gT4 132 rfl rfl
set_option maxRecDepth 20000 in
theorem im_yX11_ruleOf : Cond.instanceMethod yX11_ruleOf ∈ gG := gT4 133 rfl rfl
set_option maxRecDepth 20000 in
theorem se_yX11_ruleOf : Cond.selects RX11 yX11_ruleOf yX11_ruleOf ∈ gG := gT4 134 rfl rfl
set_option maxRecDepth 20000 in
theorem cd_X11_ruleOf : Cond.code yX11_ruleOf cX11_ruleOf 4 (some .int) ∈ gG := gT4 135 rfl rfl
set_option maxRecDepth 20000 in
theorem ml_L_59 : Cond.methodLink RL 59 yX12_ruleOf ∈ gG := gT7 142 rfl rfl
set_option maxRecDepth 20000 in
theorem im_yX12_ruleOf : Cond.instanceMethod yX12_ruleOf ∈ gG := gT7 143 rfl rfl
set_option maxRecDepth 20000 in
theorem se_yX12_ruleOf : Cond.selects RX12 yX12_ruleOf yX12_ruleOf ∈ gG := gT7 144 rfl rfl
set_option maxRecDepth 20000 in
theorem cd_X12_ruleOf : Cond.code yX12_ruleOf cX12_ruleOf 8 (some .int) ∈ gG := gT7 145 rfl rfl
set_option maxRecDepth 20000 in
theorem ml_L_60 : Cond.methodLink RL 60 yX11_places ∈ gG := gT4 193 rfl rfl
set_option maxRecDepth 20000 in
theorem im_yX11_places : Cond.instanceMethod yX11_places ∈ gG := gT4 194 rfl rfl
set_option maxRecDepth 20000 in
theorem se_yX11_places : Cond.selects RX11 yX11_places yX11_places ∈ gG := gT4 195 rfl rfl
set_option maxRecDepth 20000 in
theorem cd_X11_places : Cond.code yX11_places cX11_places 5 (some .int) ∈ gG := gT4 196 rfl rfl
set_option maxRecDepth 20000 in
theorem ml_L_63 : Cond.methodLink RL 63 yX12_places ∈ gG := gT7 166 rfl rfl
set_option maxRecDepth 20000 in
theorem im_yX12_places : Cond.instanceMethod yX12_places ∈ gG := gT7 167 rfl rfl
set_option maxRecDepth 20000 in
theorem se_yX12_places : Cond.selects RX12 yX12_places yX12_places ∈ gG := gT7 168 rfl rfl
set_option maxRecDepth 20000 in
theorem cd_X12_places : Cond.code yX12_places cX12_places 5 (some .int) ∈ gG := gT7 169 rfl rfl
set_option maxRecDepth 20000 in
theorem ml_L_64 : Cond.methodLink RL 64 yX11_apply ∈ gG := gT4 218 rfl rfl
set_option maxRecDepth 20000 in
theorem im_yX11_apply : Cond.instanceMethod yX11_apply ∈ gG := gT4 219 rfl rfl
set_option maxRecDepth 20000 in
theorem se_yX11_apply : Cond.selects RX11 yX11_apply yX11_apply ∈ gG := gT4 220 rfl rfl
set_option maxRecDepth 20000 in
theorem cd_X11_apply : Cond.code yX11_apply cX11_apply 9 (some .boolean) ∈ gG := gT4 221 rfl rfl
set_option maxRecDepth 20000 in
theorem ml_L_68 : Cond.methodLink RL 68 yX12_apply ∈ gG := gT7 182 rfl rfl
set_option maxRecDepth 20000 in
theorem im_yX12_apply : Cond.instanceMethod yX12_apply ∈ gG := gT7 183 rfl rfl
set_option maxRecDepth 20000 in
theorem se_yX12_apply : Cond.selects RX12 yX12_apply yX12_apply ∈ gG := gT7 184 rfl rfl
set_option maxRecDepth 20000 in
theorem cd_X12_apply : Cond.code yX12_apply cX12_apply 6 (some .boolean) ∈ gG := gT7 185 rfl rfl
set_option maxRecDepth 20000 in
theorem ml_L_69 : Cond.methodLink RL 69 yX11_item ∈ gG := gT4 237 rfl rfl
set_option maxRecDepth 20000 in
theorem im_yX11_item : Cond.instanceMethod yX11_item ∈ gG := gT4 238 rfl rfl
set_option maxRecDepth 20000 in
theorem se_yX11_item : Cond.selects RX11 yX11_item yX11_item ∈ gG := gT4 239 rfl rfl
set_option maxRecDepth 20000 in
theorem cd_X11_item : Cond.code yX11_item cX11_item 5 (some .int) ∈ gG := gT5 0 rfl rfl
set_option maxRecDepth 20000 in
theorem ml_L_72 : Cond.methodLink RL 72 yX12_item ∈ gG := gT7 198 rfl rfl
set_option maxRecDepth 20000 in
theorem im_yX12_item : Cond.instanceMethod yX12_item ∈ gG := gT7 199 rfl rfl
set_option maxRecDepth 20000 in
theorem se_yX12_item : Cond.selects RX12 yX12_item yX12_item ∈ gG := gT7 200 rfl rfl
set_option maxRecDepth 20000 in
theorem cd_X12_item : Cond.code yX12_item cX12_item 3 (some .int) ∈ gG := gT7 201 rfl rfl
set_option maxRecDepth 20000 in
theorem ml_L_73 : Cond.methodLink RL 73 yX11_clear ∈ gG := gT5 8 rfl rfl
set_option maxRecDepth 20000 in
theorem im_yX11_clear : Cond.instanceMethod yX11_clear ∈ gG := gT5 9 rfl rfl
set_option maxRecDepth 20000 in
theorem se_yX11_clear : Cond.selects RX11 yX11_clear yX11_clear ∈ gG := gT5 10 rfl rfl
set_option maxRecDepth 20000 in
theorem cd_X11_clear : Cond.code yX11_clear cX11_clear 2 (some .boolean) ∈ gG := gT5 11 rfl rfl
set_option maxRecDepth 20000 in
theorem ml_L_76 : Cond.methodLink RL 76 yX12_clear ∈ gG := gT7 205 rfl rfl
set_option maxRecDepth 20000 in
theorem im_yX12_clear : Cond.instanceMethod yX12_clear ∈ gG := gT7 206 rfl rfl
set_option maxRecDepth 20000 in
theorem se_yX12_clear : Cond.selects RX12 yX12_clear yX12_clear ∈ gG := gT7 207 rfl rfl
set_option maxRecDepth 20000 in
theorem cd_X12_clear : Cond.code yX12_clear cX12_clear 2 (some .boolean) ∈ gG := gT7 208 rfl rfl
set_option maxRecDepth 20000 in
theorem ml_L_77 : Cond.methodLink RL 77 yX11_make ∈ gG := gT5 16 rfl rfl
set_option maxRecDepth 20000 in
theorem im_yX11_make : Cond.instanceMethod yX11_make ∈ gG := gT5 17 rfl rfl
set_option maxRecDepth 20000 in
theorem se_yX11_make : Cond.selects RX11 yX11_make yX11_make ∈ gG := gT5 18 rfl rfl
set_option maxRecDepth 20000 in
theorem cd_X11_make : Cond.code yX11_make cX11_make 6 (some .int) ∈ gG := gT5 19 rfl rfl
set_option maxRecDepth 20000 in
theorem ml_L_80 : Cond.methodLink RL 80 yX12_make ∈ gG := gT7 209 rfl rfl
set_option maxRecDepth 20000 in
theorem im_yX12_make : Cond.instanceMethod yX12_make ∈ gG := gT7 210 rfl rfl
set_option maxRecDepth 20000 in
theorem se_yX12_make : Cond.selects RX12 yX12_make yX12_make ∈ gG := gT7 211 rfl rfl
set_option maxRecDepth 20000 in
theorem cd_X12_make : Cond.code yX12_make cX12_make 4 (some .int) ∈ gG := gT7 212 rfl rfl
set_option maxRecDepth 20000 in
theorem ml_L_81 : Cond.methodLink RL 81 yX11_blame ∈ gG := gT5 125 rfl rfl
set_option maxRecDepth 20000 in
theorem im_yX11_blame : Cond.instanceMethod yX11_blame ∈ gG := gT5 126 rfl rfl
set_option maxRecDepth 20000 in
theorem se_yX11_blame : Cond.selects RX11 yX11_blame yX11_blame ∈ gG := gT5 127 rfl rfl
set_option maxRecDepth 20000 in
theorem cd_X11_blame : Cond.code yX11_blame cX11_blame 4 (some .int) ∈ gG := gT5 128 rfl rfl
set_option maxRecDepth 20000 in
theorem ml_L_84 : Cond.methodLink RL 84 yX12_blame ∈ gG := gT8 41 rfl rfl
set_option maxRecDepth 20000 in
theorem im_yX12_blame : Cond.instanceMethod yX12_blame ∈ gG := gT8 42 rfl rfl
set_option maxRecDepth 20000 in
theorem se_yX12_blame : Cond.selects RX12 yX12_blame yX12_blame ∈ gG := gT8 43 rfl rfl
set_option maxRecDepth 20000 in
theorem cd_X12_blame : Cond.code yX12_blame cX12_blame 4 (some .int) ∈ gG := gT8 44 rfl rfl
set_option maxRecDepth 20000 in
theorem ml_L_85 : Cond.methodLink RL 85 yX11_cut ∈ gG := gT5 143 rfl rfl
set_option maxRecDepth 20000 in
theorem im_yX11_cut : Cond.instanceMethod yX11_cut ∈ gG := gT5 144 rfl rfl
set_option maxRecDepth 20000 in
theorem se_yX11_cut : Cond.selects RX11 yX11_cut yX11_cut ∈ gG := gT5 145 rfl rfl
set_option maxRecDepth 20000 in
theorem cd_X11_cut : Cond.code yX11_cut cX11_cut 6 (some .int) ∈ gG := gT5 146 rfl rfl
set_option maxRecDepth 20000 in
theorem ml_L_88 : Cond.methodLink RL 88 yX12_cut ∈ gG := gT8 45 rfl rfl
set_option maxRecDepth 20000 in
theorem im_yX12_cut : Cond.instanceMethod yX12_cut ∈ gG := gT8 46 rfl rfl
set_option maxRecDepth 20000 in
theorem se_yX12_cut : Cond.selects RX12 yX12_cut yX12_cut ∈ gG := gT8 47 rfl rfl
set_option maxRecDepth 20000 in
theorem cd_X12_cut : Cond.code yX12_cut cX12_cut 5 (some .int) ∈ gG := gT8 48 rfl rfl
set_option maxRecDepth 20000 in
theorem ml_L_89 : Cond.methodLink RL 89 yX11_registers ∈ gG := gT5 156 rfl rfl
set_option maxRecDepth 20000 in
theorem im_yX11_registers : Cond.instanceMethod yX11_registers ∈ gG := gT5 157 rfl rfl
set_option maxRecDepth 20000 in
theorem se_yX11_registers : Cond.selects RX11 yX11_registers yX11_registers ∈ gG := gT5 158 rfl rfl
set_option maxRecDepth 20000 in
theorem cd_X11_registers : Cond.code yX11_registers cX11_registers 4 (some .int) ∈ gG := gT5 159 rfl rfl
set_option maxRecDepth 20000 in
theorem ml_L_92 : Cond.methodLink RL 92 yX12_registers ∈ gG := gT8 65 rfl rfl
set_option maxRecDepth 20000 in
theorem im_yX12_registers : Cond.instanceMethod yX12_registers ∈ gG := gT8 66 rfl rfl
set_option maxRecDepth 20000 in
theorem se_yX12_registers : Cond.selects RX12 yX12_registers yX12_registers ∈ gG := gT8 67 rfl rfl
set_option maxRecDepth 20000 in
theorem cd_X12_registers : Cond.code yX12_registers cX12_registers 5 (some .int) ∈ gG := gT8 68 rfl rfl
set_option maxRecDepth 20000 in
theorem ml_L_93 : Cond.methodLink RL 93 yX11_clash ∈ gG := gT5 211 rfl rfl
set_option maxRecDepth 20000 in
theorem im_yX11_clash : Cond.instanceMethod yX11_clash ∈ gG := gT5 212 rfl rfl
set_option maxRecDepth 20000 in
theorem se_yX11_clash : Cond.selects RX11 yX11_clash yX11_clash ∈ gG := gT5 213 rfl rfl
set_option maxRecDepth 20000 in
theorem cd_X11_clash : Cond.code yX11_clash cX11_clash 5 (some .int) ∈ gG := gT5 214 rfl rfl
set_option maxRecDepth 20000 in
theorem ml_L_96 : Cond.methodLink RL 96 yX12_clash ∈ gG := gT8 105 rfl rfl
set_option maxRecDepth 20000 in
theorem im_yX12_clash : Cond.instanceMethod yX12_clash ∈ gG := gT8 106 rfl rfl
set_option maxRecDepth 20000 in
theorem se_yX12_clash : Cond.selects RX12 yX12_clash yX12_clash ∈ gG := gT8 107 rfl rfl
set_option maxRecDepth 20000 in
theorem cd_X12_clash : Cond.code yX12_clash cX12_clash 4 (some .int) ∈ gG := gT8 108 rfl rfl
set_option maxRecDepth 20000 in
theorem cl_L_7 : Cond.classLink RL 7 RX11 ∈ gG := gT1 20 rfl rfl
set_option maxRecDepth 20000 in
theorem cd_X11_init : Cond.code yX11_init cX11_init 2 none ∈ gG := gT1 24 rfl rfl
set_option maxRecDepth 20000 in
theorem ml_L_9 : Cond.methodLink RL 9 yX11_init ∈ gG := gT1 22 rfl rfl
set_option maxRecDepth 20000 in
theorem im_yX11_init : Cond.instanceMethod yX11_init ∈ gG := gT1 23 rfl rfl
set_option maxRecDepth 20000 in
theorem cl_L_10 : Cond.classLink RL 10 RX12 ∈ gG := gT5 217 rfl rfl
set_option maxRecDepth 20000 in
theorem cd_X12_init : Cond.code yX12_init cX12_init 1 none ∈ gG := gT5 221 rfl rfl
set_option maxRecDepth 20000 in
theorem ml_L_12 : Cond.methodLink RL 12 yX12_init ∈ gG := gT5 219 rfl rfl
set_option maxRecDepth 20000 in
theorem im_yX12_init : Cond.instanceMethod yX12_init ∈ gG := gT5 220 rfl rfl
set_option maxRecDepth 20000 in
theorem cs_L_13 : csV RL 13 RX11 yX11_feed cX11_feed 7 (some .int) 5 := ⟨gV ml_L_13 im_yX11_feed se_yX11_feed in_X11 cd_X11_feed, by decide +kernel⟩
set_option maxRecDepth 20000 in
theorem cs_L_17 : csV RL 17 RX12 yX12_feed cX12_feed 8 (some .int) 5 := ⟨gV ml_L_17 im_yX12_feed se_yX12_feed in_X12 cd_X12_feed, by decide +kernel⟩
set_option maxRecDepth 20000 in
theorem cs_L_18 : csV RL 18 RX11 yX11_end cX11_end 2 (some .boolean) 1 := ⟨gV ml_L_18 im_yX11_end se_yX11_end in_X11 cd_X11_end, by decide +kernel⟩
set_option maxRecDepth 20000 in
theorem cs_L_22 : csV RL 22 RX12 yX12_end cX12_end 2 (some .boolean) 1 := ⟨gV ml_L_22 im_yX12_end se_yX12_end in_X12 cd_X12_end, by decide +kernel⟩
set_option maxRecDepth 20000 in
theorem cs_L_23 : csV RL 23 RX11 yX11_program cX11_program 3 (some .int) 1 := ⟨gV ml_L_23 im_yX11_program se_yX11_program in_X11 cd_X11_program, by decide +kernel⟩
set_option maxRecDepth 20000 in
theorem cs_L_27 : csV RL 27 RX12 yX12_program cX12_program 3 (some .int) 1 := ⟨gV ml_L_27 im_yX12_program se_yX12_program in_X12 cd_X12_program, by decide +kernel⟩
set_option maxRecDepth 20000 in
theorem cs_L_28 : csV RL 28 RX11 yX11_rule cX11_rule 2 (some .int) 0 := ⟨gV ml_L_28 im_yX11_rule se_yX11_rule in_X11 cd_X11_rule, by decide +kernel⟩
set_option maxRecDepth 20000 in
theorem cs_L_32 : csV RL 32 RX12 yX12_rule cX12_rule 4 (some .int) 0 := ⟨gV ml_L_32 im_yX12_rule se_yX12_rule in_X12 cd_X12_rule, by decide +kernel⟩
set_option maxRecDepth 20000 in
theorem cs_L_33 : csV RL 33 RX11 yX11_fault cX11_fault 2 (some .int) 1 := ⟨gV ml_L_33 im_yX11_fault se_yX11_fault in_X11 cd_X11_fault, by decide +kernel⟩
set_option maxRecDepth 20000 in
theorem cs_L_36 : csV RL 36 RX12 yX12_fault cX12_fault 2 (some .int) 1 := ⟨gV ml_L_36 im_yX12_fault se_yX12_fault in_X12 cd_X12_fault, by decide +kernel⟩
set_option maxRecDepth 20000 in
theorem cs_L_37 : csV RL 37 RX11 yX11_at cX11_at 4 (some .int) 2 := ⟨gV ml_L_37 im_yX11_at se_yX11_at in_X11 cd_X11_at, by decide +kernel⟩
set_option maxRecDepth 20000 in
theorem cs_L_41 : csV RL 41 RX12 yX12_at cX12_at 3 (some .int) 2 := ⟨gV ml_L_41 im_yX12_at se_yX12_at in_X12 cd_X12_at, by decide +kernel⟩
set_option maxRecDepth 20000 in
theorem cs_L_42 : csV RL 42 RX11 yX11_size cX11_size 4 (some .int) 2 := ⟨gV ml_L_42 im_yX11_size se_yX11_size in_X11 cd_X11_size, by decide +kernel⟩
set_option maxRecDepth 20000 in
theorem cs_L_45 : csV RL 45 RX12 yX12_size cX12_size 3 (some .int) 2 := ⟨gV ml_L_45 im_yX12_size se_yX12_size in_X12 cd_X12_size, by decide +kernel⟩
set_option maxRecDepth 20000 in
theorem cs_L_46 : csV RL 46 RX11 yX11_run cX11_run 6 (some .int) 4 := ⟨gV ml_L_46 im_yX11_run se_yX11_run in_X11 cd_X11_run, by decide +kernel⟩
set_option maxRecDepth 20000 in
theorem cs_L_50 : csV RL 50 RX12 yX12_run cX12_run 5 (some .int) 4 := ⟨gV ml_L_50 im_yX12_run se_yX12_run in_X12 cd_X12_run, by decide +kernel⟩
set_option maxRecDepth 20000 in
theorem cs_L_51 : csV RL 51 RX11 yX11_judge cX11_judge 7 (some .int) 3 := ⟨gV ml_L_51 im_yX11_judge se_yX11_judge in_X11 cd_X11_judge, by decide +kernel⟩
set_option maxRecDepth 20000 in
theorem cs_L_55 : csV RL 55 RX12 yX12_judge cX12_judge 4 (some .int) 3 := ⟨gV ml_L_55 im_yX12_judge se_yX12_judge in_X12 cd_X12_judge, by decide +kernel⟩
set_option maxRecDepth 20000 in
theorem cs_L_56 : csV RL 56 RX11 yX11_ruleOf cX11_ruleOf 4 (some .int) 2 := ⟨gV ml_L_56 im_yX11_ruleOf se_yX11_ruleOf in_X11 cd_X11_ruleOf, by decide +kernel⟩
set_option maxRecDepth 20000 in
theorem cs_L_59 : csV RL 59 RX12 yX12_ruleOf cX12_ruleOf 8 (some .int) 2 := ⟨gV ml_L_59 im_yX12_ruleOf se_yX12_ruleOf in_X12 cd_X12_ruleOf, by decide +kernel⟩
set_option maxRecDepth 20000 in
theorem cs_L_60 : csV RL 60 RX11 yX11_places cX11_places 5 (some .int) 2 := ⟨gV ml_L_60 im_yX11_places se_yX11_places in_X11 cd_X11_places, by decide +kernel⟩
set_option maxRecDepth 20000 in
theorem cs_L_63 : csV RL 63 RX12 yX12_places cX12_places 5 (some .int) 2 := ⟨gV ml_L_63 im_yX12_places se_yX12_places in_X12 cd_X12_places, by decide +kernel⟩
set_option maxRecDepth 20000 in
theorem cs_L_64 : csV RL 64 RX11 yX11_apply cX11_apply 9 (some .boolean) 4 := ⟨gV ml_L_64 im_yX11_apply se_yX11_apply in_X11 cd_X11_apply, by decide +kernel⟩
set_option maxRecDepth 20000 in
theorem cs_L_68 : csV RL 68 RX12 yX12_apply cX12_apply 6 (some .boolean) 4 := ⟨gV ml_L_68 im_yX12_apply se_yX12_apply in_X12 cd_X12_apply, by decide +kernel⟩
set_option maxRecDepth 20000 in
theorem cs_L_69 : csV RL 69 RX11 yX11_item cX11_item 5 (some .int) 2 := ⟨gV ml_L_69 im_yX11_item se_yX11_item in_X11 cd_X11_item, by decide +kernel⟩
set_option maxRecDepth 20000 in
theorem cs_L_72 : csV RL 72 RX12 yX12_item cX12_item 3 (some .int) 2 := ⟨gV ml_L_72 im_yX12_item se_yX12_item in_X12 cd_X12_item, by decide +kernel⟩
set_option maxRecDepth 20000 in
theorem cs_L_73 : csV RL 73 RX11 yX11_clear cX11_clear 2 (some .boolean) 1 := ⟨gV ml_L_73 im_yX11_clear se_yX11_clear in_X11 cd_X11_clear, by decide +kernel⟩
set_option maxRecDepth 20000 in
theorem cs_L_76 : csV RL 76 RX12 yX12_clear cX12_clear 2 (some .boolean) 1 := ⟨gV ml_L_76 im_yX12_clear se_yX12_clear in_X12 cd_X12_clear, by decide +kernel⟩
set_option maxRecDepth 20000 in
theorem cs_L_77 : csV RL 77 RX11 yX11_make cX11_make 6 (some .int) 3 := ⟨gV ml_L_77 im_yX11_make se_yX11_make in_X11 cd_X11_make, by decide +kernel⟩
set_option maxRecDepth 20000 in
theorem cs_L_80 : csV RL 80 RX12 yX12_make cX12_make 4 (some .int) 3 := ⟨gV ml_L_80 im_yX12_make se_yX12_make in_X12 cd_X12_make, by decide +kernel⟩
set_option maxRecDepth 20000 in
theorem cs_L_81 : csV RL 81 RX11 yX11_blame cX11_blame 4 (some .int) 2 := ⟨gV ml_L_81 im_yX11_blame se_yX11_blame in_X11 cd_X11_blame, by decide +kernel⟩
set_option maxRecDepth 20000 in
theorem cs_L_84 : csV RL 84 RX12 yX12_blame cX12_blame 4 (some .int) 2 := ⟨gV ml_L_84 im_yX12_blame se_yX12_blame in_X12 cd_X12_blame, by decide +kernel⟩
set_option maxRecDepth 20000 in
theorem cs_L_85 : csV RL 85 RX11 yX11_cut cX11_cut 6 (some .int) 3 := ⟨gV ml_L_85 im_yX11_cut se_yX11_cut in_X11 cd_X11_cut, by decide +kernel⟩
set_option maxRecDepth 20000 in
theorem cs_L_88 : csV RL 88 RX12 yX12_cut cX12_cut 5 (some .int) 3 := ⟨gV ml_L_88 im_yX12_cut se_yX12_cut in_X12 cd_X12_cut, by decide +kernel⟩
set_option maxRecDepth 20000 in
theorem cs_L_89 : csV RL 89 RX11 yX11_registers cX11_registers 4 (some .int) 2 := ⟨gV ml_L_89 im_yX11_registers se_yX11_registers in_X11 cd_X11_registers, by decide +kernel⟩
set_option maxRecDepth 20000 in
theorem cs_L_92 : csV RL 92 RX12 yX12_registers cX12_registers 5 (some .int) 2 := ⟨gV ml_L_92 im_yX12_registers se_yX12_registers in_X12 cd_X12_registers, by decide +kernel⟩
set_option maxRecDepth 20000 in
theorem cs_L_93 : csV RL 93 RX11 yX11_clash cX11_clash 5 (some .int) 3 := ⟨gV ml_L_93 im_yX11_clash se_yX11_clash in_X11 cd_X11_clash, by decide +kernel⟩
set_option maxRecDepth 20000 in
theorem cs_L_96 : csV RL 96 RX12 yX12_clash cX12_clash 4 (some .int) 3 := ⟨gV ml_L_96 im_yX12_clash se_yX12_clash in_X12 cd_X12_clash, by decide +kernel⟩
set_option maxRecDepth 20000 in
theorem cs_L_9 : csI RL 9 yX11_init cX11_init 2 0 := ⟨gI cd_X11_init, in_X11, ml_L_9, im_yX11_init, rfl, by decide +kernel⟩
set_option maxRecDepth 20000 in
theorem cs_L_12 : csI RL 12 yX12_init cX12_init 1 0 := ⟨gI cd_X12_init, in_X12, ml_L_12, im_yX12_init, rfl, by decide +kernel⟩
theorem dL_law_0 : decode cL_law 0 = .ok (.new 7, 3) := by decide +kernel
theorem dL_law_3 : decode cL_law 3 = .ok (.dup, 1) := by decide +kernel
theorem dL_law_4 : decode cL_law 4 = .ok (.invokespecial 9, 3) := by decide +kernel
theorem dL_law_7 : decode cL_law 7 = .ok (.astore_n 1, 1) := by decide +kernel
theorem dL_law_8 : decode cL_law 8 = .ok (.new 10, 3) := by decide +kernel
theorem dL_law_11 : decode cL_law 11 = .ok (.dup, 1) := by decide +kernel
theorem dL_law_12 : decode cL_law 12 = .ok (.invokespecial 12, 3) := by decide +kernel
theorem dL_law_15 : decode cL_law 15 = .ok (.astore_n 2, 1) := by decide +kernel
theorem dL_law_16 : decode cL_law 16 = .ok (.iconst 0, 1) := by decide +kernel
theorem dL_law_17 : decode cL_law 17 = .ok (.istore_n 3, 1) := by decide +kernel
theorem dL_law_18 : decode cL_law 18 = .ok (.iload_n 3, 1) := by decide +kernel
theorem dL_law_19 : decode cL_law 19 = .ok (.aload_n 0, 1) := by decide +kernel
theorem dL_law_20 : decode cL_law 20 = .ok (.arraylength, 1) := by decide +kernel
theorem dL_law_21 : decode cL_law 21 = .ok (.bipush 6, 2) := by decide +kernel
theorem dL_law_23 : decode cL_law 23 = .ok (.isub, 1) := by decide +kernel
theorem dL_law_24 : decode cL_law 24 = .ok (.if_icmp .gt 783, 3) := by decide +kernel
theorem dL_law_27 : decode cL_law 27 = .ok (.aload_n 0, 1) := by decide +kernel
theorem dL_law_28 : decode cL_law 28 = .ok (.iload_n 3, 1) := by decide +kernel
theorem dL_law_29 : decode cL_law 29 = .ok (.iaload, 1) := by decide +kernel
theorem dL_law_30 : decode cL_law 30 = .ok (.bipush 31, 2) := by decide +kernel
theorem dL_law_32 : decode cL_law 32 = .ok (.iand, 1) := by decide +kernel
theorem dL_law_33 : decode cL_law 33 = .ok (.tableswitch 768 0 18 #[91, 154, 177, 200, 213, 236, 269, 302, 355, 398, 431, 464, 517, 550, 573, 616, 649, 692, 725], 91) := by decide +kernel
theorem dL_law_124 : decode cL_law 124 = .ok (.aload_n 1, 1) := by decide +kernel
theorem dL_law_125 : decode cL_law 125 = .ok (.aload_n 0, 1) := by decide +kernel
theorem dL_law_126 : decode cL_law 126 = .ok (.iload_n 3, 1) := by decide +kernel
theorem dL_law_127 : decode cL_law 127 = .ok (.iconst 1, 1) := by decide +kernel
theorem dL_law_128 : decode cL_law 128 = .ok (.iadd, 1) := by decide +kernel
theorem dL_law_129 : decode cL_law 129 = .ok (.iaload, 1) := by decide +kernel
theorem dL_law_130 : decode cL_law 130 = .ok (.aload_n 0, 1) := by decide +kernel
theorem dL_law_131 : decode cL_law 131 = .ok (.iload_n 3, 1) := by decide +kernel
theorem dL_law_132 : decode cL_law 132 = .ok (.iconst 2, 1) := by decide +kernel
theorem dL_law_133 : decode cL_law 133 = .ok (.iadd, 1) := by decide +kernel
theorem dL_law_134 : decode cL_law 134 = .ok (.iaload, 1) := by decide +kernel
theorem dL_law_135 : decode cL_law 135 = .ok (.aload_n 0, 1) := by decide +kernel
theorem dL_law_136 : decode cL_law 136 = .ok (.iload_n 3, 1) := by decide +kernel
theorem dL_law_137 : decode cL_law 137 = .ok (.iconst 3, 1) := by decide +kernel
theorem dL_law_138 : decode cL_law 138 = .ok (.iadd, 1) := by decide +kernel
theorem dL_law_139 : decode cL_law 139 = .ok (.iaload, 1) := by decide +kernel
theorem dL_law_140 : decode cL_law 140 = .ok (.aload_n 0, 1) := by decide +kernel
theorem dL_law_141 : decode cL_law 141 = .ok (.iload_n 3, 1) := by decide +kernel
theorem dL_law_142 : decode cL_law 142 = .ok (.iconst 4, 1) := by decide +kernel
theorem dL_law_143 : decode cL_law 143 = .ok (.iadd, 1) := by decide +kernel
theorem dL_law_144 : decode cL_law 144 = .ok (.iaload, 1) := by decide +kernel
theorem dL_law_145 : decode cL_law 145 = .ok (.aload_n 0, 1) := by decide +kernel
theorem dL_law_146 : decode cL_law 146 = .ok (.iload_n 3, 1) := by decide +kernel
theorem dL_law_147 : decode cL_law 147 = .ok (.iconst 5, 1) := by decide +kernel
theorem dL_law_148 : decode cL_law 148 = .ok (.iadd, 1) := by decide +kernel
theorem dL_law_149 : decode cL_law 149 = .ok (.iaload, 1) := by decide +kernel
theorem dL_law_150 : decode cL_law 150 = .ok (.invokevirtual 13, 3) := by decide +kernel
theorem dL_law_153 : decode cL_law 153 = .ok (.pop, 1) := by decide +kernel
theorem dL_law_154 : decode cL_law 154 = .ok (.aload_n 2, 1) := by decide +kernel
theorem dL_law_155 : decode cL_law 155 = .ok (.aload_n 0, 1) := by decide +kernel
theorem dL_law_156 : decode cL_law 156 = .ok (.iload_n 3, 1) := by decide +kernel
theorem dL_law_157 : decode cL_law 157 = .ok (.iconst 1, 1) := by decide +kernel
theorem dL_law_158 : decode cL_law 158 = .ok (.iadd, 1) := by decide +kernel
theorem dL_law_159 : decode cL_law 159 = .ok (.iaload, 1) := by decide +kernel
theorem dL_law_160 : decode cL_law 160 = .ok (.aload_n 0, 1) := by decide +kernel
theorem dL_law_161 : decode cL_law 161 = .ok (.iload_n 3, 1) := by decide +kernel
theorem dL_law_162 : decode cL_law 162 = .ok (.iconst 2, 1) := by decide +kernel
theorem dL_law_163 : decode cL_law 163 = .ok (.iadd, 1) := by decide +kernel
theorem dL_law_164 : decode cL_law 164 = .ok (.iaload, 1) := by decide +kernel
theorem dL_law_165 : decode cL_law 165 = .ok (.aload_n 0, 1) := by decide +kernel
theorem dL_law_166 : decode cL_law 166 = .ok (.iload_n 3, 1) := by decide +kernel
theorem dL_law_167 : decode cL_law 167 = .ok (.iconst 3, 1) := by decide +kernel
theorem dL_law_168 : decode cL_law 168 = .ok (.iadd, 1) := by decide +kernel
theorem dL_law_169 : decode cL_law 169 = .ok (.iaload, 1) := by decide +kernel
theorem dL_law_170 : decode cL_law 170 = .ok (.aload_n 0, 1) := by decide +kernel
theorem dL_law_171 : decode cL_law 171 = .ok (.iload_n 3, 1) := by decide +kernel
theorem dL_law_172 : decode cL_law 172 = .ok (.iconst 4, 1) := by decide +kernel
theorem dL_law_173 : decode cL_law 173 = .ok (.iadd, 1) := by decide +kernel
theorem dL_law_174 : decode cL_law 174 = .ok (.iaload, 1) := by decide +kernel
theorem dL_law_175 : decode cL_law 175 = .ok (.aload_n 0, 1) := by decide +kernel
theorem dL_law_176 : decode cL_law 176 = .ok (.iload_n 3, 1) := by decide +kernel
theorem dL_law_177 : decode cL_law 177 = .ok (.iconst 5, 1) := by decide +kernel
theorem dL_law_178 : decode cL_law 178 = .ok (.iadd, 1) := by decide +kernel
theorem dL_law_179 : decode cL_law 179 = .ok (.iaload, 1) := by decide +kernel
theorem dL_law_180 : decode cL_law 180 = .ok (.invokevirtual 17, 3) := by decide +kernel
theorem dL_law_183 : decode cL_law 183 = .ok (.pop, 1) := by decide +kernel
theorem dL_law_184 : decode cL_law 184 = .ok (.goto 617, 3) := by decide +kernel
theorem dL_law_187 : decode cL_law 187 = .ok (.aload_n 1, 1) := by decide +kernel
theorem dL_law_188 : decode cL_law 188 = .ok (.aload_n 0, 1) := by decide +kernel
theorem dL_law_189 : decode cL_law 189 = .ok (.iload_n 3, 1) := by decide +kernel
theorem dL_law_190 : decode cL_law 190 = .ok (.iconst 1, 1) := by decide +kernel
theorem dL_law_191 : decode cL_law 191 = .ok (.iadd, 1) := by decide +kernel
theorem dL_law_192 : decode cL_law 192 = .ok (.iaload, 1) := by decide +kernel
theorem dL_law_193 : decode cL_law 193 = .ok (.invokevirtual 18, 3) := by decide +kernel
theorem dL_law_196 : decode cL_law 196 = .ok (.pop, 1) := by decide +kernel
theorem dL_law_197 : decode cL_law 197 = .ok (.aload_n 2, 1) := by decide +kernel
theorem dL_law_198 : decode cL_law 198 = .ok (.aload_n 0, 1) := by decide +kernel
theorem dL_law_199 : decode cL_law 199 = .ok (.iload_n 3, 1) := by decide +kernel
theorem dL_law_200 : decode cL_law 200 = .ok (.iconst 1, 1) := by decide +kernel
theorem dL_law_201 : decode cL_law 201 = .ok (.iadd, 1) := by decide +kernel
theorem dL_law_202 : decode cL_law 202 = .ok (.iaload, 1) := by decide +kernel
theorem dL_law_203 : decode cL_law 203 = .ok (.invokevirtual 22, 3) := by decide +kernel
theorem dL_law_206 : decode cL_law 206 = .ok (.pop, 1) := by decide +kernel
theorem dL_law_207 : decode cL_law 207 = .ok (.goto 594, 3) := by decide +kernel
theorem dL_law_210 : decode cL_law 210 = .ok (.aload_n 1, 1) := by decide +kernel
theorem dL_law_211 : decode cL_law 211 = .ok (.aload_n 0, 1) := by decide +kernel
theorem dL_law_212 : decode cL_law 212 = .ok (.iload_n 3, 1) := by decide +kernel
theorem dL_law_213 : decode cL_law 213 = .ok (.iconst 1, 1) := by decide +kernel
theorem dL_law_214 : decode cL_law 214 = .ok (.iadd, 1) := by decide +kernel
theorem dL_law_215 : decode cL_law 215 = .ok (.iaload, 1) := by decide +kernel
theorem dL_law_216 : decode cL_law 216 = .ok (.invokevirtual 23, 3) := by decide +kernel
theorem dL_law_219 : decode cL_law 219 = .ok (.pop, 1) := by decide +kernel
theorem dL_law_220 : decode cL_law 220 = .ok (.aload_n 2, 1) := by decide +kernel
theorem dL_law_221 : decode cL_law 221 = .ok (.aload_n 0, 1) := by decide +kernel
theorem dL_law_222 : decode cL_law 222 = .ok (.iload_n 3, 1) := by decide +kernel
theorem dL_law_223 : decode cL_law 223 = .ok (.iconst 1, 1) := by decide +kernel
theorem dL_law_224 : decode cL_law 224 = .ok (.iadd, 1) := by decide +kernel
theorem dL_law_225 : decode cL_law 225 = .ok (.iaload, 1) := by decide +kernel
theorem dL_law_226 : decode cL_law 226 = .ok (.invokevirtual 27, 3) := by decide +kernel
theorem dL_law_229 : decode cL_law 229 = .ok (.pop, 1) := by decide +kernel
theorem dL_law_230 : decode cL_law 230 = .ok (.goto 571, 3) := by decide +kernel
theorem dL_law_233 : decode cL_law 233 = .ok (.aload_n 1, 1) := by decide +kernel
theorem dL_law_234 : decode cL_law 234 = .ok (.invokevirtual 28, 3) := by decide +kernel
theorem dL_law_237 : decode cL_law 237 = .ok (.pop, 1) := by decide +kernel
theorem dL_law_238 : decode cL_law 238 = .ok (.aload_n 2, 1) := by decide +kernel
theorem dL_law_239 : decode cL_law 239 = .ok (.invokevirtual 32, 3) := by decide +kernel
theorem dL_law_242 : decode cL_law 242 = .ok (.pop, 1) := by decide +kernel
theorem dL_law_243 : decode cL_law 243 = .ok (.goto 558, 3) := by decide +kernel
theorem dL_law_246 : decode cL_law 246 = .ok (.aload_n 1, 1) := by decide +kernel
theorem dL_law_247 : decode cL_law 247 = .ok (.aload_n 0, 1) := by decide +kernel
theorem dL_law_248 : decode cL_law 248 = .ok (.iload_n 3, 1) := by decide +kernel
theorem dL_law_249 : decode cL_law 249 = .ok (.iconst 1, 1) := by decide +kernel
theorem dL_law_250 : decode cL_law 250 = .ok (.iadd, 1) := by decide +kernel
theorem dL_law_251 : decode cL_law 251 = .ok (.iaload, 1) := by decide +kernel
theorem dL_law_252 : decode cL_law 252 = .ok (.invokevirtual 33, 3) := by decide +kernel
theorem dL_law_255 : decode cL_law 255 = .ok (.pop, 1) := by decide +kernel
theorem dL_law_256 : decode cL_law 256 = .ok (.aload_n 2, 1) := by decide +kernel
theorem dL_law_257 : decode cL_law 257 = .ok (.aload_n 0, 1) := by decide +kernel
theorem dL_law_258 : decode cL_law 258 = .ok (.iload_n 3, 1) := by decide +kernel
theorem dL_law_259 : decode cL_law 259 = .ok (.iconst 1, 1) := by decide +kernel
theorem dL_law_260 : decode cL_law 260 = .ok (.iadd, 1) := by decide +kernel
theorem dL_law_261 : decode cL_law 261 = .ok (.iaload, 1) := by decide +kernel
theorem dL_law_262 : decode cL_law 262 = .ok (.invokevirtual 36, 3) := by decide +kernel
theorem dL_law_265 : decode cL_law 265 = .ok (.pop, 1) := by decide +kernel
theorem dL_law_266 : decode cL_law 266 = .ok (.goto 535, 3) := by decide +kernel
theorem dL_law_269 : decode cL_law 269 = .ok (.aload_n 1, 1) := by decide +kernel
theorem dL_law_270 : decode cL_law 270 = .ok (.aload_n 0, 1) := by decide +kernel
theorem dL_law_271 : decode cL_law 271 = .ok (.iload_n 3, 1) := by decide +kernel
theorem dL_law_272 : decode cL_law 272 = .ok (.iconst 1, 1) := by decide +kernel
theorem dL_law_273 : decode cL_law 273 = .ok (.iadd, 1) := by decide +kernel
theorem dL_law_274 : decode cL_law 274 = .ok (.iaload, 1) := by decide +kernel
theorem dL_law_275 : decode cL_law 275 = .ok (.aload_n 0, 1) := by decide +kernel
theorem dL_law_276 : decode cL_law 276 = .ok (.iload_n 3, 1) := by decide +kernel
theorem dL_law_277 : decode cL_law 277 = .ok (.iconst 2, 1) := by decide +kernel
theorem dL_law_278 : decode cL_law 278 = .ok (.iadd, 1) := by decide +kernel
theorem dL_law_279 : decode cL_law 279 = .ok (.iaload, 1) := by decide +kernel
theorem dL_law_280 : decode cL_law 280 = .ok (.invokevirtual 37, 3) := by decide +kernel
theorem dL_law_283 : decode cL_law 283 = .ok (.pop, 1) := by decide +kernel
theorem dL_law_284 : decode cL_law 284 = .ok (.aload_n 2, 1) := by decide +kernel
theorem dL_law_285 : decode cL_law 285 = .ok (.aload_n 0, 1) := by decide +kernel
theorem dL_law_286 : decode cL_law 286 = .ok (.iload_n 3, 1) := by decide +kernel
theorem dL_law_287 : decode cL_law 287 = .ok (.iconst 1, 1) := by decide +kernel
theorem dL_law_288 : decode cL_law 288 = .ok (.iadd, 1) := by decide +kernel
theorem dL_law_289 : decode cL_law 289 = .ok (.iaload, 1) := by decide +kernel
theorem dL_law_290 : decode cL_law 290 = .ok (.aload_n 0, 1) := by decide +kernel
theorem dL_law_291 : decode cL_law 291 = .ok (.iload_n 3, 1) := by decide +kernel
theorem dL_law_292 : decode cL_law 292 = .ok (.iconst 2, 1) := by decide +kernel
theorem dL_law_293 : decode cL_law 293 = .ok (.iadd, 1) := by decide +kernel
theorem dL_law_294 : decode cL_law 294 = .ok (.iaload, 1) := by decide +kernel
theorem dL_law_295 : decode cL_law 295 = .ok (.invokevirtual 41, 3) := by decide +kernel
theorem dL_law_298 : decode cL_law 298 = .ok (.pop, 1) := by decide +kernel
theorem dL_law_299 : decode cL_law 299 = .ok (.goto 502, 3) := by decide +kernel
theorem dL_law_302 : decode cL_law 302 = .ok (.aload_n 1, 1) := by decide +kernel
theorem dL_law_303 : decode cL_law 303 = .ok (.aload_n 0, 1) := by decide +kernel
theorem dL_law_304 : decode cL_law 304 = .ok (.iload_n 3, 1) := by decide +kernel
theorem dL_law_305 : decode cL_law 305 = .ok (.iconst 1, 1) := by decide +kernel
theorem dL_law_306 : decode cL_law 306 = .ok (.iadd, 1) := by decide +kernel
theorem dL_law_307 : decode cL_law 307 = .ok (.iaload, 1) := by decide +kernel
theorem dL_law_308 : decode cL_law 308 = .ok (.aload_n 0, 1) := by decide +kernel
theorem dL_law_309 : decode cL_law 309 = .ok (.iload_n 3, 1) := by decide +kernel
theorem dL_law_310 : decode cL_law 310 = .ok (.iconst 2, 1) := by decide +kernel
theorem dL_law_311 : decode cL_law 311 = .ok (.iadd, 1) := by decide +kernel
theorem dL_law_312 : decode cL_law 312 = .ok (.iaload, 1) := by decide +kernel
theorem dL_law_313 : decode cL_law 313 = .ok (.invokevirtual 42, 3) := by decide +kernel
theorem dL_law_316 : decode cL_law 316 = .ok (.pop, 1) := by decide +kernel
theorem dL_law_317 : decode cL_law 317 = .ok (.aload_n 2, 1) := by decide +kernel
theorem dL_law_318 : decode cL_law 318 = .ok (.aload_n 0, 1) := by decide +kernel
theorem dL_law_319 : decode cL_law 319 = .ok (.iload_n 3, 1) := by decide +kernel
theorem dL_law_320 : decode cL_law 320 = .ok (.iconst 1, 1) := by decide +kernel
theorem dL_law_321 : decode cL_law 321 = .ok (.iadd, 1) := by decide +kernel
theorem dL_law_322 : decode cL_law 322 = .ok (.iaload, 1) := by decide +kernel
theorem dL_law_323 : decode cL_law 323 = .ok (.aload_n 0, 1) := by decide +kernel
theorem dL_law_324 : decode cL_law 324 = .ok (.iload_n 3, 1) := by decide +kernel
theorem dL_law_325 : decode cL_law 325 = .ok (.iconst 2, 1) := by decide +kernel
theorem dL_law_326 : decode cL_law 326 = .ok (.iadd, 1) := by decide +kernel
theorem dL_law_327 : decode cL_law 327 = .ok (.iaload, 1) := by decide +kernel
theorem dL_law_328 : decode cL_law 328 = .ok (.invokevirtual 45, 3) := by decide +kernel
theorem dL_law_331 : decode cL_law 331 = .ok (.pop, 1) := by decide +kernel
theorem dL_law_332 : decode cL_law 332 = .ok (.goto 469, 3) := by decide +kernel
theorem dL_law_335 : decode cL_law 335 = .ok (.aload_n 1, 1) := by decide +kernel
theorem dL_law_336 : decode cL_law 336 = .ok (.aload_n 0, 1) := by decide +kernel
theorem dL_law_337 : decode cL_law 337 = .ok (.iload_n 3, 1) := by decide +kernel
theorem dL_law_338 : decode cL_law 338 = .ok (.iconst 1, 1) := by decide +kernel
theorem dL_law_339 : decode cL_law 339 = .ok (.iadd, 1) := by decide +kernel
theorem dL_law_340 : decode cL_law 340 = .ok (.iaload, 1) := by decide +kernel
theorem dL_law_341 : decode cL_law 341 = .ok (.aload_n 0, 1) := by decide +kernel
theorem dL_law_342 : decode cL_law 342 = .ok (.iload_n 3, 1) := by decide +kernel
theorem dL_law_343 : decode cL_law 343 = .ok (.iconst 2, 1) := by decide +kernel
theorem dL_law_344 : decode cL_law 344 = .ok (.iadd, 1) := by decide +kernel
theorem dL_law_345 : decode cL_law 345 = .ok (.iaload, 1) := by decide +kernel
theorem dL_law_346 : decode cL_law 346 = .ok (.aload_n 0, 1) := by decide +kernel
theorem dL_law_347 : decode cL_law 347 = .ok (.iload_n 3, 1) := by decide +kernel
theorem dL_law_348 : decode cL_law 348 = .ok (.iconst 3, 1) := by decide +kernel
theorem dL_law_349 : decode cL_law 349 = .ok (.iadd, 1) := by decide +kernel
theorem dL_law_350 : decode cL_law 350 = .ok (.iaload, 1) := by decide +kernel
theorem dL_law_351 : decode cL_law 351 = .ok (.aload_n 0, 1) := by decide +kernel
theorem dL_law_352 : decode cL_law 352 = .ok (.iload_n 3, 1) := by decide +kernel
theorem dL_law_353 : decode cL_law 353 = .ok (.iconst 4, 1) := by decide +kernel
theorem dL_law_354 : decode cL_law 354 = .ok (.iadd, 1) := by decide +kernel
theorem dL_law_355 : decode cL_law 355 = .ok (.iaload, 1) := by decide +kernel
theorem dL_law_356 : decode cL_law 356 = .ok (.invokevirtual 46, 3) := by decide +kernel
theorem dL_law_359 : decode cL_law 359 = .ok (.pop, 1) := by decide +kernel
theorem dL_law_360 : decode cL_law 360 = .ok (.aload_n 2, 1) := by decide +kernel
theorem dL_law_361 : decode cL_law 361 = .ok (.aload_n 0, 1) := by decide +kernel
theorem dL_law_362 : decode cL_law 362 = .ok (.iload_n 3, 1) := by decide +kernel
theorem dL_law_363 : decode cL_law 363 = .ok (.iconst 1, 1) := by decide +kernel
theorem dL_law_364 : decode cL_law 364 = .ok (.iadd, 1) := by decide +kernel
theorem dL_law_365 : decode cL_law 365 = .ok (.iaload, 1) := by decide +kernel
theorem dL_law_366 : decode cL_law 366 = .ok (.aload_n 0, 1) := by decide +kernel
theorem dL_law_367 : decode cL_law 367 = .ok (.iload_n 3, 1) := by decide +kernel
theorem dL_law_368 : decode cL_law 368 = .ok (.iconst 2, 1) := by decide +kernel
theorem dL_law_369 : decode cL_law 369 = .ok (.iadd, 1) := by decide +kernel
theorem dL_law_370 : decode cL_law 370 = .ok (.iaload, 1) := by decide +kernel
theorem dL_law_371 : decode cL_law 371 = .ok (.aload_n 0, 1) := by decide +kernel
theorem dL_law_372 : decode cL_law 372 = .ok (.iload_n 3, 1) := by decide +kernel
theorem dL_law_373 : decode cL_law 373 = .ok (.iconst 3, 1) := by decide +kernel
theorem dL_law_374 : decode cL_law 374 = .ok (.iadd, 1) := by decide +kernel
theorem dL_law_375 : decode cL_law 375 = .ok (.iaload, 1) := by decide +kernel
theorem dL_law_376 : decode cL_law 376 = .ok (.aload_n 0, 1) := by decide +kernel
theorem dL_law_377 : decode cL_law 377 = .ok (.iload_n 3, 1) := by decide +kernel
theorem dL_law_378 : decode cL_law 378 = .ok (.iconst 4, 1) := by decide +kernel
theorem dL_law_379 : decode cL_law 379 = .ok (.iadd, 1) := by decide +kernel
theorem dL_law_380 : decode cL_law 380 = .ok (.iaload, 1) := by decide +kernel
theorem dL_law_381 : decode cL_law 381 = .ok (.invokevirtual 50, 3) := by decide +kernel
theorem dL_law_384 : decode cL_law 384 = .ok (.pop, 1) := by decide +kernel
theorem dL_law_385 : decode cL_law 385 = .ok (.goto 416, 3) := by decide +kernel
theorem dL_law_388 : decode cL_law 388 = .ok (.aload_n 1, 1) := by decide +kernel
theorem dL_law_389 : decode cL_law 389 = .ok (.aload_n 0, 1) := by decide +kernel
theorem dL_law_390 : decode cL_law 390 = .ok (.iload_n 3, 1) := by decide +kernel
theorem dL_law_391 : decode cL_law 391 = .ok (.iconst 1, 1) := by decide +kernel
theorem dL_law_392 : decode cL_law 392 = .ok (.iadd, 1) := by decide +kernel
theorem dL_law_393 : decode cL_law 393 = .ok (.iaload, 1) := by decide +kernel
theorem dL_law_394 : decode cL_law 394 = .ok (.aload_n 0, 1) := by decide +kernel
theorem dL_law_395 : decode cL_law 395 = .ok (.iload_n 3, 1) := by decide +kernel
theorem dL_law_396 : decode cL_law 396 = .ok (.iconst 2, 1) := by decide +kernel
theorem dL_law_397 : decode cL_law 397 = .ok (.iadd, 1) := by decide +kernel
theorem dL_law_398 : decode cL_law 398 = .ok (.iaload, 1) := by decide +kernel
theorem dL_law_399 : decode cL_law 399 = .ok (.aload_n 0, 1) := by decide +kernel
theorem dL_law_400 : decode cL_law 400 = .ok (.iload_n 3, 1) := by decide +kernel
theorem dL_law_401 : decode cL_law 401 = .ok (.iconst 3, 1) := by decide +kernel
theorem dL_law_402 : decode cL_law 402 = .ok (.iadd, 1) := by decide +kernel
theorem dL_law_403 : decode cL_law 403 = .ok (.iaload, 1) := by decide +kernel
theorem dL_law_404 : decode cL_law 404 = .ok (.invokevirtual 51, 3) := by decide +kernel
theorem dL_law_407 : decode cL_law 407 = .ok (.pop, 1) := by decide +kernel
theorem dL_law_408 : decode cL_law 408 = .ok (.aload_n 2, 1) := by decide +kernel
theorem dL_law_409 : decode cL_law 409 = .ok (.aload_n 0, 1) := by decide +kernel
theorem dL_law_410 : decode cL_law 410 = .ok (.iload_n 3, 1) := by decide +kernel
theorem dL_law_411 : decode cL_law 411 = .ok (.iconst 1, 1) := by decide +kernel
theorem dL_law_412 : decode cL_law 412 = .ok (.iadd, 1) := by decide +kernel
theorem dL_law_413 : decode cL_law 413 = .ok (.iaload, 1) := by decide +kernel
theorem dL_law_414 : decode cL_law 414 = .ok (.aload_n 0, 1) := by decide +kernel
theorem dL_law_415 : decode cL_law 415 = .ok (.iload_n 3, 1) := by decide +kernel
theorem dL_law_416 : decode cL_law 416 = .ok (.iconst 2, 1) := by decide +kernel
theorem dL_law_417 : decode cL_law 417 = .ok (.iadd, 1) := by decide +kernel
theorem dL_law_418 : decode cL_law 418 = .ok (.iaload, 1) := by decide +kernel
theorem dL_law_419 : decode cL_law 419 = .ok (.aload_n 0, 1) := by decide +kernel
theorem dL_law_420 : decode cL_law 420 = .ok (.iload_n 3, 1) := by decide +kernel
theorem dL_law_421 : decode cL_law 421 = .ok (.iconst 3, 1) := by decide +kernel
theorem dL_law_422 : decode cL_law 422 = .ok (.iadd, 1) := by decide +kernel
theorem dL_law_423 : decode cL_law 423 = .ok (.iaload, 1) := by decide +kernel
theorem dL_law_424 : decode cL_law 424 = .ok (.invokevirtual 55, 3) := by decide +kernel
theorem dL_law_427 : decode cL_law 427 = .ok (.pop, 1) := by decide +kernel
theorem dL_law_428 : decode cL_law 428 = .ok (.goto 373, 3) := by decide +kernel
theorem dL_law_431 : decode cL_law 431 = .ok (.aload_n 1, 1) := by decide +kernel
theorem dL_law_432 : decode cL_law 432 = .ok (.aload_n 0, 1) := by decide +kernel
theorem dL_law_433 : decode cL_law 433 = .ok (.iload_n 3, 1) := by decide +kernel
theorem dL_law_434 : decode cL_law 434 = .ok (.iconst 1, 1) := by decide +kernel
theorem dL_law_435 : decode cL_law 435 = .ok (.iadd, 1) := by decide +kernel
theorem dL_law_436 : decode cL_law 436 = .ok (.iaload, 1) := by decide +kernel
theorem dL_law_437 : decode cL_law 437 = .ok (.aload_n 0, 1) := by decide +kernel
theorem dL_law_438 : decode cL_law 438 = .ok (.iload_n 3, 1) := by decide +kernel
theorem dL_law_439 : decode cL_law 439 = .ok (.iconst 2, 1) := by decide +kernel
theorem dL_law_440 : decode cL_law 440 = .ok (.iadd, 1) := by decide +kernel
theorem dL_law_441 : decode cL_law 441 = .ok (.iaload, 1) := by decide +kernel
theorem dL_law_442 : decode cL_law 442 = .ok (.invokevirtual 56, 3) := by decide +kernel
theorem dL_law_445 : decode cL_law 445 = .ok (.pop, 1) := by decide +kernel
theorem dL_law_446 : decode cL_law 446 = .ok (.aload_n 2, 1) := by decide +kernel
theorem dL_law_447 : decode cL_law 447 = .ok (.aload_n 0, 1) := by decide +kernel
theorem dL_law_448 : decode cL_law 448 = .ok (.iload_n 3, 1) := by decide +kernel
theorem dL_law_449 : decode cL_law 449 = .ok (.iconst 1, 1) := by decide +kernel
theorem dL_law_450 : decode cL_law 450 = .ok (.iadd, 1) := by decide +kernel
theorem dL_law_451 : decode cL_law 451 = .ok (.iaload, 1) := by decide +kernel
theorem dL_law_452 : decode cL_law 452 = .ok (.aload_n 0, 1) := by decide +kernel
theorem dL_law_453 : decode cL_law 453 = .ok (.iload_n 3, 1) := by decide +kernel
theorem dL_law_454 : decode cL_law 454 = .ok (.iconst 2, 1) := by decide +kernel
theorem dL_law_455 : decode cL_law 455 = .ok (.iadd, 1) := by decide +kernel
theorem dL_law_456 : decode cL_law 456 = .ok (.iaload, 1) := by decide +kernel
theorem dL_law_457 : decode cL_law 457 = .ok (.invokevirtual 59, 3) := by decide +kernel
theorem dL_law_460 : decode cL_law 460 = .ok (.pop, 1) := by decide +kernel
theorem dL_law_461 : decode cL_law 461 = .ok (.goto 340, 3) := by decide +kernel
theorem dL_law_464 : decode cL_law 464 = .ok (.aload_n 1, 1) := by decide +kernel
theorem dL_law_465 : decode cL_law 465 = .ok (.aload_n 0, 1) := by decide +kernel
theorem dL_law_466 : decode cL_law 466 = .ok (.iload_n 3, 1) := by decide +kernel
theorem dL_law_467 : decode cL_law 467 = .ok (.iconst 1, 1) := by decide +kernel
theorem dL_law_468 : decode cL_law 468 = .ok (.iadd, 1) := by decide +kernel
theorem dL_law_469 : decode cL_law 469 = .ok (.iaload, 1) := by decide +kernel
theorem dL_law_470 : decode cL_law 470 = .ok (.aload_n 0, 1) := by decide +kernel
theorem dL_law_471 : decode cL_law 471 = .ok (.iload_n 3, 1) := by decide +kernel
theorem dL_law_472 : decode cL_law 472 = .ok (.iconst 2, 1) := by decide +kernel
theorem dL_law_473 : decode cL_law 473 = .ok (.iadd, 1) := by decide +kernel
theorem dL_law_474 : decode cL_law 474 = .ok (.iaload, 1) := by decide +kernel
theorem dL_law_475 : decode cL_law 475 = .ok (.invokevirtual 60, 3) := by decide +kernel
theorem dL_law_478 : decode cL_law 478 = .ok (.pop, 1) := by decide +kernel
theorem dL_law_479 : decode cL_law 479 = .ok (.aload_n 2, 1) := by decide +kernel
theorem dL_law_480 : decode cL_law 480 = .ok (.aload_n 0, 1) := by decide +kernel
theorem dL_law_481 : decode cL_law 481 = .ok (.iload_n 3, 1) := by decide +kernel
theorem dL_law_482 : decode cL_law 482 = .ok (.iconst 1, 1) := by decide +kernel
theorem dL_law_483 : decode cL_law 483 = .ok (.iadd, 1) := by decide +kernel
theorem dL_law_484 : decode cL_law 484 = .ok (.iaload, 1) := by decide +kernel
theorem dL_law_485 : decode cL_law 485 = .ok (.aload_n 0, 1) := by decide +kernel
theorem dL_law_486 : decode cL_law 486 = .ok (.iload_n 3, 1) := by decide +kernel
theorem dL_law_487 : decode cL_law 487 = .ok (.iconst 2, 1) := by decide +kernel
theorem dL_law_488 : decode cL_law 488 = .ok (.iadd, 1) := by decide +kernel
theorem dL_law_489 : decode cL_law 489 = .ok (.iaload, 1) := by decide +kernel
theorem dL_law_490 : decode cL_law 490 = .ok (.invokevirtual 63, 3) := by decide +kernel
theorem dL_law_493 : decode cL_law 493 = .ok (.pop, 1) := by decide +kernel
theorem dL_law_494 : decode cL_law 494 = .ok (.goto 307, 3) := by decide +kernel
theorem dL_law_497 : decode cL_law 497 = .ok (.aload_n 1, 1) := by decide +kernel
theorem dL_law_498 : decode cL_law 498 = .ok (.aload_n 0, 1) := by decide +kernel
theorem dL_law_499 : decode cL_law 499 = .ok (.iload_n 3, 1) := by decide +kernel
theorem dL_law_500 : decode cL_law 500 = .ok (.iconst 1, 1) := by decide +kernel
theorem dL_law_501 : decode cL_law 501 = .ok (.iadd, 1) := by decide +kernel
theorem dL_law_502 : decode cL_law 502 = .ok (.iaload, 1) := by decide +kernel
theorem dL_law_503 : decode cL_law 503 = .ok (.aload_n 0, 1) := by decide +kernel
theorem dL_law_504 : decode cL_law 504 = .ok (.iload_n 3, 1) := by decide +kernel
theorem dL_law_505 : decode cL_law 505 = .ok (.iconst 2, 1) := by decide +kernel
theorem dL_law_506 : decode cL_law 506 = .ok (.iadd, 1) := by decide +kernel
theorem dL_law_507 : decode cL_law 507 = .ok (.iaload, 1) := by decide +kernel
theorem dL_law_508 : decode cL_law 508 = .ok (.aload_n 0, 1) := by decide +kernel
theorem dL_law_509 : decode cL_law 509 = .ok (.iload_n 3, 1) := by decide +kernel
theorem dL_law_510 : decode cL_law 510 = .ok (.iconst 3, 1) := by decide +kernel
theorem dL_law_511 : decode cL_law 511 = .ok (.iadd, 1) := by decide +kernel
theorem dL_law_512 : decode cL_law 512 = .ok (.iaload, 1) := by decide +kernel
theorem dL_law_513 : decode cL_law 513 = .ok (.aload_n 0, 1) := by decide +kernel
theorem dL_law_514 : decode cL_law 514 = .ok (.iload_n 3, 1) := by decide +kernel
theorem dL_law_515 : decode cL_law 515 = .ok (.iconst 4, 1) := by decide +kernel
theorem dL_law_516 : decode cL_law 516 = .ok (.iadd, 1) := by decide +kernel
theorem dL_law_517 : decode cL_law 517 = .ok (.iaload, 1) := by decide +kernel
theorem dL_law_518 : decode cL_law 518 = .ok (.invokevirtual 64, 3) := by decide +kernel
theorem dL_law_521 : decode cL_law 521 = .ok (.pop, 1) := by decide +kernel
theorem dL_law_522 : decode cL_law 522 = .ok (.aload_n 2, 1) := by decide +kernel
theorem dL_law_523 : decode cL_law 523 = .ok (.aload_n 0, 1) := by decide +kernel
theorem dL_law_524 : decode cL_law 524 = .ok (.iload_n 3, 1) := by decide +kernel
theorem dL_law_525 : decode cL_law 525 = .ok (.iconst 1, 1) := by decide +kernel
theorem dL_law_526 : decode cL_law 526 = .ok (.iadd, 1) := by decide +kernel
theorem dL_law_527 : decode cL_law 527 = .ok (.iaload, 1) := by decide +kernel
theorem dL_law_528 : decode cL_law 528 = .ok (.aload_n 0, 1) := by decide +kernel
theorem dL_law_529 : decode cL_law 529 = .ok (.iload_n 3, 1) := by decide +kernel
theorem dL_law_530 : decode cL_law 530 = .ok (.iconst 2, 1) := by decide +kernel
theorem dL_law_531 : decode cL_law 531 = .ok (.iadd, 1) := by decide +kernel
theorem dL_law_532 : decode cL_law 532 = .ok (.iaload, 1) := by decide +kernel
theorem dL_law_533 : decode cL_law 533 = .ok (.aload_n 0, 1) := by decide +kernel
theorem dL_law_534 : decode cL_law 534 = .ok (.iload_n 3, 1) := by decide +kernel
theorem dL_law_535 : decode cL_law 535 = .ok (.iconst 3, 1) := by decide +kernel
theorem dL_law_536 : decode cL_law 536 = .ok (.iadd, 1) := by decide +kernel
theorem dL_law_537 : decode cL_law 537 = .ok (.iaload, 1) := by decide +kernel
theorem dL_law_538 : decode cL_law 538 = .ok (.aload_n 0, 1) := by decide +kernel
theorem dL_law_539 : decode cL_law 539 = .ok (.iload_n 3, 1) := by decide +kernel
theorem dL_law_540 : decode cL_law 540 = .ok (.iconst 4, 1) := by decide +kernel
theorem dL_law_541 : decode cL_law 541 = .ok (.iadd, 1) := by decide +kernel
theorem dL_law_542 : decode cL_law 542 = .ok (.iaload, 1) := by decide +kernel
theorem dL_law_543 : decode cL_law 543 = .ok (.invokevirtual 68, 3) := by decide +kernel
theorem dL_law_546 : decode cL_law 546 = .ok (.pop, 1) := by decide +kernel
theorem dL_law_547 : decode cL_law 547 = .ok (.goto 254, 3) := by decide +kernel
theorem dL_law_550 : decode cL_law 550 = .ok (.aload_n 1, 1) := by decide +kernel
theorem dL_law_551 : decode cL_law 551 = .ok (.aload_n 0, 1) := by decide +kernel
theorem dL_law_552 : decode cL_law 552 = .ok (.iload_n 3, 1) := by decide +kernel
theorem dL_law_553 : decode cL_law 553 = .ok (.iconst 1, 1) := by decide +kernel
theorem dL_law_554 : decode cL_law 554 = .ok (.iadd, 1) := by decide +kernel
theorem dL_law_555 : decode cL_law 555 = .ok (.iaload, 1) := by decide +kernel
theorem dL_law_556 : decode cL_law 556 = .ok (.aload_n 0, 1) := by decide +kernel
theorem dL_law_557 : decode cL_law 557 = .ok (.iload_n 3, 1) := by decide +kernel
theorem dL_law_558 : decode cL_law 558 = .ok (.iconst 2, 1) := by decide +kernel
theorem dL_law_559 : decode cL_law 559 = .ok (.iadd, 1) := by decide +kernel
theorem dL_law_560 : decode cL_law 560 = .ok (.iaload, 1) := by decide +kernel
theorem dL_law_561 : decode cL_law 561 = .ok (.invokevirtual 69, 3) := by decide +kernel
theorem dL_law_564 : decode cL_law 564 = .ok (.pop, 1) := by decide +kernel
theorem dL_law_565 : decode cL_law 565 = .ok (.aload_n 2, 1) := by decide +kernel
theorem dL_law_566 : decode cL_law 566 = .ok (.aload_n 0, 1) := by decide +kernel
theorem dL_law_567 : decode cL_law 567 = .ok (.iload_n 3, 1) := by decide +kernel
theorem dL_law_568 : decode cL_law 568 = .ok (.iconst 1, 1) := by decide +kernel
theorem dL_law_569 : decode cL_law 569 = .ok (.iadd, 1) := by decide +kernel
theorem dL_law_570 : decode cL_law 570 = .ok (.iaload, 1) := by decide +kernel
theorem dL_law_571 : decode cL_law 571 = .ok (.aload_n 0, 1) := by decide +kernel
theorem dL_law_572 : decode cL_law 572 = .ok (.iload_n 3, 1) := by decide +kernel
theorem dL_law_573 : decode cL_law 573 = .ok (.iconst 2, 1) := by decide +kernel
theorem dL_law_574 : decode cL_law 574 = .ok (.iadd, 1) := by decide +kernel
theorem dL_law_575 : decode cL_law 575 = .ok (.iaload, 1) := by decide +kernel
theorem dL_law_576 : decode cL_law 576 = .ok (.invokevirtual 72, 3) := by decide +kernel
theorem dL_law_579 : decode cL_law 579 = .ok (.pop, 1) := by decide +kernel
theorem dL_law_580 : decode cL_law 580 = .ok (.goto 221, 3) := by decide +kernel
theorem dL_law_583 : decode cL_law 583 = .ok (.aload_n 1, 1) := by decide +kernel
theorem dL_law_584 : decode cL_law 584 = .ok (.aload_n 0, 1) := by decide +kernel
theorem dL_law_585 : decode cL_law 585 = .ok (.iload_n 3, 1) := by decide +kernel
theorem dL_law_586 : decode cL_law 586 = .ok (.iconst 1, 1) := by decide +kernel
theorem dL_law_587 : decode cL_law 587 = .ok (.iadd, 1) := by decide +kernel
theorem dL_law_588 : decode cL_law 588 = .ok (.iaload, 1) := by decide +kernel
theorem dL_law_589 : decode cL_law 589 = .ok (.invokevirtual 73, 3) := by decide +kernel
theorem dL_law_592 : decode cL_law 592 = .ok (.pop, 1) := by decide +kernel
theorem dL_law_593 : decode cL_law 593 = .ok (.aload_n 2, 1) := by decide +kernel
theorem dL_law_594 : decode cL_law 594 = .ok (.aload_n 0, 1) := by decide +kernel
theorem dL_law_595 : decode cL_law 595 = .ok (.iload_n 3, 1) := by decide +kernel
theorem dL_law_596 : decode cL_law 596 = .ok (.iconst 1, 1) := by decide +kernel
theorem dL_law_597 : decode cL_law 597 = .ok (.iadd, 1) := by decide +kernel
theorem dL_law_598 : decode cL_law 598 = .ok (.iaload, 1) := by decide +kernel
theorem dL_law_599 : decode cL_law 599 = .ok (.invokevirtual 76, 3) := by decide +kernel
theorem dL_law_602 : decode cL_law 602 = .ok (.pop, 1) := by decide +kernel
theorem dL_law_603 : decode cL_law 603 = .ok (.goto 198, 3) := by decide +kernel
theorem dL_law_606 : decode cL_law 606 = .ok (.aload_n 1, 1) := by decide +kernel
theorem dL_law_607 : decode cL_law 607 = .ok (.aload_n 0, 1) := by decide +kernel
theorem dL_law_608 : decode cL_law 608 = .ok (.iload_n 3, 1) := by decide +kernel
theorem dL_law_609 : decode cL_law 609 = .ok (.iconst 1, 1) := by decide +kernel
theorem dL_law_610 : decode cL_law 610 = .ok (.iadd, 1) := by decide +kernel
theorem dL_law_611 : decode cL_law 611 = .ok (.iaload, 1) := by decide +kernel
theorem dL_law_612 : decode cL_law 612 = .ok (.aload_n 0, 1) := by decide +kernel
theorem dL_law_613 : decode cL_law 613 = .ok (.iload_n 3, 1) := by decide +kernel
theorem dL_law_614 : decode cL_law 614 = .ok (.iconst 2, 1) := by decide +kernel
theorem dL_law_615 : decode cL_law 615 = .ok (.iadd, 1) := by decide +kernel
theorem dL_law_616 : decode cL_law 616 = .ok (.iaload, 1) := by decide +kernel
theorem dL_law_617 : decode cL_law 617 = .ok (.aload_n 0, 1) := by decide +kernel
theorem dL_law_618 : decode cL_law 618 = .ok (.iload_n 3, 1) := by decide +kernel
theorem dL_law_619 : decode cL_law 619 = .ok (.iconst 3, 1) := by decide +kernel
theorem dL_law_620 : decode cL_law 620 = .ok (.iadd, 1) := by decide +kernel
theorem dL_law_621 : decode cL_law 621 = .ok (.iaload, 1) := by decide +kernel
theorem dL_law_622 : decode cL_law 622 = .ok (.invokevirtual 77, 3) := by decide +kernel
theorem dL_law_625 : decode cL_law 625 = .ok (.pop, 1) := by decide +kernel
theorem dL_law_626 : decode cL_law 626 = .ok (.aload_n 2, 1) := by decide +kernel
theorem dL_law_627 : decode cL_law 627 = .ok (.aload_n 0, 1) := by decide +kernel
theorem dL_law_628 : decode cL_law 628 = .ok (.iload_n 3, 1) := by decide +kernel
theorem dL_law_629 : decode cL_law 629 = .ok (.iconst 1, 1) := by decide +kernel
theorem dL_law_630 : decode cL_law 630 = .ok (.iadd, 1) := by decide +kernel
theorem dL_law_631 : decode cL_law 631 = .ok (.iaload, 1) := by decide +kernel
theorem dL_law_632 : decode cL_law 632 = .ok (.aload_n 0, 1) := by decide +kernel
theorem dL_law_633 : decode cL_law 633 = .ok (.iload_n 3, 1) := by decide +kernel
theorem dL_law_634 : decode cL_law 634 = .ok (.iconst 2, 1) := by decide +kernel
theorem dL_law_635 : decode cL_law 635 = .ok (.iadd, 1) := by decide +kernel
theorem dL_law_636 : decode cL_law 636 = .ok (.iaload, 1) := by decide +kernel
theorem dL_law_637 : decode cL_law 637 = .ok (.aload_n 0, 1) := by decide +kernel
theorem dL_law_638 : decode cL_law 638 = .ok (.iload_n 3, 1) := by decide +kernel
theorem dL_law_639 : decode cL_law 639 = .ok (.iconst 3, 1) := by decide +kernel
theorem dL_law_640 : decode cL_law 640 = .ok (.iadd, 1) := by decide +kernel
theorem dL_law_641 : decode cL_law 641 = .ok (.iaload, 1) := by decide +kernel
theorem dL_law_642 : decode cL_law 642 = .ok (.invokevirtual 80, 3) := by decide +kernel
theorem dL_law_645 : decode cL_law 645 = .ok (.pop, 1) := by decide +kernel
theorem dL_law_646 : decode cL_law 646 = .ok (.goto 155, 3) := by decide +kernel
theorem dL_law_649 : decode cL_law 649 = .ok (.aload_n 1, 1) := by decide +kernel
theorem dL_law_650 : decode cL_law 650 = .ok (.aload_n 0, 1) := by decide +kernel
theorem dL_law_651 : decode cL_law 651 = .ok (.iload_n 3, 1) := by decide +kernel
theorem dL_law_652 : decode cL_law 652 = .ok (.iconst 1, 1) := by decide +kernel
theorem dL_law_653 : decode cL_law 653 = .ok (.iadd, 1) := by decide +kernel
theorem dL_law_654 : decode cL_law 654 = .ok (.iaload, 1) := by decide +kernel
theorem dL_law_655 : decode cL_law 655 = .ok (.aload_n 0, 1) := by decide +kernel
theorem dL_law_656 : decode cL_law 656 = .ok (.iload_n 3, 1) := by decide +kernel
theorem dL_law_657 : decode cL_law 657 = .ok (.iconst 2, 1) := by decide +kernel
theorem dL_law_658 : decode cL_law 658 = .ok (.iadd, 1) := by decide +kernel
theorem dL_law_659 : decode cL_law 659 = .ok (.iaload, 1) := by decide +kernel
theorem dL_law_660 : decode cL_law 660 = .ok (.invokevirtual 81, 3) := by decide +kernel
theorem dL_law_663 : decode cL_law 663 = .ok (.pop, 1) := by decide +kernel
theorem dL_law_664 : decode cL_law 664 = .ok (.aload_n 2, 1) := by decide +kernel
theorem dL_law_665 : decode cL_law 665 = .ok (.aload_n 0, 1) := by decide +kernel
theorem dL_law_666 : decode cL_law 666 = .ok (.iload_n 3, 1) := by decide +kernel
theorem dL_law_667 : decode cL_law 667 = .ok (.iconst 1, 1) := by decide +kernel
theorem dL_law_668 : decode cL_law 668 = .ok (.iadd, 1) := by decide +kernel
theorem dL_law_669 : decode cL_law 669 = .ok (.iaload, 1) := by decide +kernel
theorem dL_law_670 : decode cL_law 670 = .ok (.aload_n 0, 1) := by decide +kernel
theorem dL_law_671 : decode cL_law 671 = .ok (.iload_n 3, 1) := by decide +kernel
theorem dL_law_672 : decode cL_law 672 = .ok (.iconst 2, 1) := by decide +kernel
theorem dL_law_673 : decode cL_law 673 = .ok (.iadd, 1) := by decide +kernel
theorem dL_law_674 : decode cL_law 674 = .ok (.iaload, 1) := by decide +kernel
theorem dL_law_675 : decode cL_law 675 = .ok (.invokevirtual 84, 3) := by decide +kernel
theorem dL_law_678 : decode cL_law 678 = .ok (.pop, 1) := by decide +kernel
theorem dL_law_679 : decode cL_law 679 = .ok (.goto 122, 3) := by decide +kernel
theorem dL_law_682 : decode cL_law 682 = .ok (.aload_n 1, 1) := by decide +kernel
theorem dL_law_683 : decode cL_law 683 = .ok (.aload_n 0, 1) := by decide +kernel
theorem dL_law_684 : decode cL_law 684 = .ok (.iload_n 3, 1) := by decide +kernel
theorem dL_law_685 : decode cL_law 685 = .ok (.iconst 1, 1) := by decide +kernel
theorem dL_law_686 : decode cL_law 686 = .ok (.iadd, 1) := by decide +kernel
theorem dL_law_687 : decode cL_law 687 = .ok (.iaload, 1) := by decide +kernel
theorem dL_law_688 : decode cL_law 688 = .ok (.aload_n 0, 1) := by decide +kernel
theorem dL_law_689 : decode cL_law 689 = .ok (.iload_n 3, 1) := by decide +kernel
theorem dL_law_690 : decode cL_law 690 = .ok (.iconst 2, 1) := by decide +kernel
theorem dL_law_691 : decode cL_law 691 = .ok (.iadd, 1) := by decide +kernel
theorem dL_law_692 : decode cL_law 692 = .ok (.iaload, 1) := by decide +kernel
theorem dL_law_693 : decode cL_law 693 = .ok (.aload_n 0, 1) := by decide +kernel
theorem dL_law_694 : decode cL_law 694 = .ok (.iload_n 3, 1) := by decide +kernel
theorem dL_law_695 : decode cL_law 695 = .ok (.iconst 3, 1) := by decide +kernel
theorem dL_law_696 : decode cL_law 696 = .ok (.iadd, 1) := by decide +kernel
theorem dL_law_697 : decode cL_law 697 = .ok (.iaload, 1) := by decide +kernel
theorem dL_law_698 : decode cL_law 698 = .ok (.invokevirtual 85, 3) := by decide +kernel
theorem dL_law_701 : decode cL_law 701 = .ok (.aload_n 2, 1) := by decide +kernel
theorem dL_law_702 : decode cL_law 702 = .ok (.aload_n 0, 1) := by decide +kernel
theorem dL_law_703 : decode cL_law 703 = .ok (.iload_n 3, 1) := by decide +kernel
theorem dL_law_704 : decode cL_law 704 = .ok (.iconst 1, 1) := by decide +kernel
theorem dL_law_705 : decode cL_law 705 = .ok (.iadd, 1) := by decide +kernel
theorem dL_law_706 : decode cL_law 706 = .ok (.iaload, 1) := by decide +kernel
theorem dL_law_707 : decode cL_law 707 = .ok (.aload_n 0, 1) := by decide +kernel
theorem dL_law_708 : decode cL_law 708 = .ok (.iload_n 3, 1) := by decide +kernel
theorem dL_law_709 : decode cL_law 709 = .ok (.iconst 2, 1) := by decide +kernel
theorem dL_law_710 : decode cL_law 710 = .ok (.iadd, 1) := by decide +kernel
theorem dL_law_711 : decode cL_law 711 = .ok (.iaload, 1) := by decide +kernel
theorem dL_law_712 : decode cL_law 712 = .ok (.aload_n 0, 1) := by decide +kernel
theorem dL_law_713 : decode cL_law 713 = .ok (.iload_n 3, 1) := by decide +kernel
theorem dL_law_714 : decode cL_law 714 = .ok (.iconst 3, 1) := by decide +kernel
theorem dL_law_715 : decode cL_law 715 = .ok (.iadd, 1) := by decide +kernel
theorem dL_law_716 : decode cL_law 716 = .ok (.iaload, 1) := by decide +kernel
theorem dL_law_717 : decode cL_law 717 = .ok (.invokevirtual 88, 3) := by decide +kernel
theorem dL_law_720 : decode cL_law 720 = .ok (.if_icmp .eq 81, 3) := by decide +kernel
theorem dL_law_725 : decode cL_law 725 = .ok (.aload_n 1, 1) := by decide +kernel
theorem dL_law_726 : decode cL_law 726 = .ok (.aload_n 0, 1) := by decide +kernel
theorem dL_law_727 : decode cL_law 727 = .ok (.iload_n 3, 1) := by decide +kernel
theorem dL_law_728 : decode cL_law 728 = .ok (.iconst 1, 1) := by decide +kernel
theorem dL_law_729 : decode cL_law 729 = .ok (.iadd, 1) := by decide +kernel
theorem dL_law_730 : decode cL_law 730 = .ok (.iaload, 1) := by decide +kernel
theorem dL_law_731 : decode cL_law 731 = .ok (.aload_n 0, 1) := by decide +kernel
theorem dL_law_732 : decode cL_law 732 = .ok (.iload_n 3, 1) := by decide +kernel
theorem dL_law_733 : decode cL_law 733 = .ok (.iconst 2, 1) := by decide +kernel
theorem dL_law_734 : decode cL_law 734 = .ok (.iadd, 1) := by decide +kernel
theorem dL_law_735 : decode cL_law 735 = .ok (.iaload, 1) := by decide +kernel
theorem dL_law_736 : decode cL_law 736 = .ok (.invokevirtual 89, 3) := by decide +kernel
theorem dL_law_739 : decode cL_law 739 = .ok (.pop, 1) := by decide +kernel
theorem dL_law_740 : decode cL_law 740 = .ok (.aload_n 2, 1) := by decide +kernel
theorem dL_law_741 : decode cL_law 741 = .ok (.aload_n 0, 1) := by decide +kernel
theorem dL_law_742 : decode cL_law 742 = .ok (.iload_n 3, 1) := by decide +kernel
theorem dL_law_743 : decode cL_law 743 = .ok (.iconst 1, 1) := by decide +kernel
theorem dL_law_744 : decode cL_law 744 = .ok (.iadd, 1) := by decide +kernel
theorem dL_law_745 : decode cL_law 745 = .ok (.iaload, 1) := by decide +kernel
theorem dL_law_746 : decode cL_law 746 = .ok (.aload_n 0, 1) := by decide +kernel
theorem dL_law_747 : decode cL_law 747 = .ok (.iload_n 3, 1) := by decide +kernel
theorem dL_law_748 : decode cL_law 748 = .ok (.iconst 2, 1) := by decide +kernel
theorem dL_law_749 : decode cL_law 749 = .ok (.iadd, 1) := by decide +kernel
theorem dL_law_750 : decode cL_law 750 = .ok (.iaload, 1) := by decide +kernel
theorem dL_law_751 : decode cL_law 751 = .ok (.invokevirtual 92, 3) := by decide +kernel
theorem dL_law_754 : decode cL_law 754 = .ok (.pop, 1) := by decide +kernel
theorem dL_law_755 : decode cL_law 755 = .ok (.goto 46, 3) := by decide +kernel
theorem dL_law_758 : decode cL_law 758 = .ok (.aload_n 1, 1) := by decide +kernel
theorem dL_law_759 : decode cL_law 759 = .ok (.aload_n 0, 1) := by decide +kernel
theorem dL_law_760 : decode cL_law 760 = .ok (.iload_n 3, 1) := by decide +kernel
theorem dL_law_761 : decode cL_law 761 = .ok (.iconst 1, 1) := by decide +kernel
theorem dL_law_762 : decode cL_law 762 = .ok (.iadd, 1) := by decide +kernel
theorem dL_law_763 : decode cL_law 763 = .ok (.iaload, 1) := by decide +kernel
theorem dL_law_764 : decode cL_law 764 = .ok (.aload_n 0, 1) := by decide +kernel
theorem dL_law_765 : decode cL_law 765 = .ok (.iload_n 3, 1) := by decide +kernel
theorem dL_law_766 : decode cL_law 766 = .ok (.iconst 2, 1) := by decide +kernel
theorem dL_law_767 : decode cL_law 767 = .ok (.iadd, 1) := by decide +kernel
theorem dL_law_768 : decode cL_law 768 = .ok (.iaload, 1) := by decide +kernel
theorem dL_law_769 : decode cL_law 769 = .ok (.aload_n 0, 1) := by decide +kernel
theorem dL_law_770 : decode cL_law 770 = .ok (.iload_n 3, 1) := by decide +kernel
theorem dL_law_771 : decode cL_law 771 = .ok (.iconst 3, 1) := by decide +kernel
theorem dL_law_772 : decode cL_law 772 = .ok (.iadd, 1) := by decide +kernel
theorem dL_law_773 : decode cL_law 773 = .ok (.iaload, 1) := by decide +kernel
theorem dL_law_774 : decode cL_law 774 = .ok (.invokevirtual 93, 3) := by decide +kernel
theorem dL_law_777 : decode cL_law 777 = .ok (.pop, 1) := by decide +kernel
theorem dL_law_778 : decode cL_law 778 = .ok (.aload_n 2, 1) := by decide +kernel
theorem dL_law_779 : decode cL_law 779 = .ok (.aload_n 0, 1) := by decide +kernel
theorem dL_law_780 : decode cL_law 780 = .ok (.iload_n 3, 1) := by decide +kernel
theorem dL_law_781 : decode cL_law 781 = .ok (.iconst 1, 1) := by decide +kernel
theorem dL_law_782 : decode cL_law 782 = .ok (.iadd, 1) := by decide +kernel
theorem dL_law_783 : decode cL_law 783 = .ok (.iaload, 1) := by decide +kernel
theorem dL_law_784 : decode cL_law 784 = .ok (.aload_n 0, 1) := by decide +kernel
theorem dL_law_785 : decode cL_law 785 = .ok (.iload_n 3, 1) := by decide +kernel
theorem dL_law_786 : decode cL_law 786 = .ok (.iconst 2, 1) := by decide +kernel
theorem dL_law_787 : decode cL_law 787 = .ok (.iadd, 1) := by decide +kernel
theorem dL_law_788 : decode cL_law 788 = .ok (.iaload, 1) := by decide +kernel
theorem dL_law_789 : decode cL_law 789 = .ok (.aload_n 0, 1) := by decide +kernel
theorem dL_law_790 : decode cL_law 790 = .ok (.iload_n 3, 1) := by decide +kernel
theorem dL_law_791 : decode cL_law 791 = .ok (.iconst 3, 1) := by decide +kernel
theorem dL_law_792 : decode cL_law 792 = .ok (.iadd, 1) := by decide +kernel
theorem dL_law_793 : decode cL_law 793 = .ok (.iaload, 1) := by decide +kernel
theorem dL_law_794 : decode cL_law 794 = .ok (.invokevirtual 96, 3) := by decide +kernel
theorem dL_law_797 : decode cL_law 797 = .ok (.pop, 1) := by decide +kernel
theorem dL_law_798 : decode cL_law 798 = .ok (.goto 3, 3) := by decide +kernel
theorem dL_law_801 : decode cL_law 801 = .ok (.iinc 3 6, 3) := by decide +kernel
theorem dL_law_804 : decode cL_law 804 = .ok (.goto (-786), 3) := by decide +kernel
theorem dL_law_807 : decode cL_law 807 = .ok (.iconst 1, 1) := by decide +kernel
theorem dL_law_808 : decode cL_law 808 = .ok (.ireturn, 1) := by decide +kernel
theorem dX12_init_0 : decode cX12_init 0 = .ok (.aload_n 0, 1) := by decide +kernel
theorem dX12_init_1 : decode cX12_init 1 = .ok (.invokespecial 1, 3) := by decide +kernel
theorem dX12_init_4 : decode cX12_init 4 = .ok (.aload_n 0, 1) := by decide +kernel
theorem dX12_init_5 : decode cX12_init 5 = .ok (.sipush 3120, 3) := by decide +kernel
theorem dX12_init_8 : decode cX12_init 8 = .ok (.newarray .int, 2) := by decide +kernel
theorem dX12_init_10 : decode cX12_init 10 = .ok (.putfield 7, 3) := by decide +kernel
theorem dX12_init_13 : decode cX12_init 13 = .ok (.aload_n 0, 1) := by decide +kernel
theorem dX12_init_14 : decode cX12_init 14 = .ok (.bipush 6, 2) := by decide +kernel
theorem dX12_init_16 : decode cX12_init 16 = .ok (.newarray .int, 2) := by decide +kernel
theorem dX12_init_18 : decode cX12_init 18 = .ok (.putfield 13, 3) := by decide +kernel
theorem dX12_init_21 : decode cX12_init 21 = .ok (.aload_n 0, 1) := by decide +kernel
theorem dX12_init_22 : decode cX12_init 22 = .ok (.sipush 2400, 3) := by decide +kernel
theorem dX12_init_25 : decode cX12_init 25 = .ok (.newarray .int, 2) := by decide +kernel
theorem dX12_init_27 : decode cX12_init 27 = .ok (.putfield 16, 3) := by decide +kernel
theorem dX12_init_30 : decode cX12_init 30 = .ok (.aload_n 0, 1) := by decide +kernel
theorem dX12_init_31 : decode cX12_init 31 = .ok (.sipush 2400, 3) := by decide +kernel
theorem dX12_init_34 : decode cX12_init 34 = .ok (.newarray .int, 2) := by decide +kernel
theorem dX12_init_36 : decode cX12_init 36 = .ok (.putfield 19, 3) := by decide +kernel
theorem dX12_init_39 : decode cX12_init 39 = .ok (.aload_n 0, 1) := by decide +kernel
theorem dX12_init_40 : decode cX12_init 40 = .ok (.sipush 800, 3) := by decide +kernel
theorem dX12_init_43 : decode cX12_init 43 = .ok (.newarray .int, 2) := by decide +kernel
theorem dX12_init_45 : decode cX12_init 45 = .ok (.putfield 22, 3) := by decide +kernel
theorem dX12_init_48 : decode cX12_init 48 = .ok (.aload_n 0, 1) := by decide +kernel
theorem dX12_init_49 : decode cX12_init 49 = .ok (.iconst (-1), 1) := by decide +kernel
theorem dX12_init_50 : decode cX12_init 50 = .ok (.putfield 25, 3) := by decide +kernel
theorem dX12_init_53 : decode cX12_init 53 = .ok (.aload_n 0, 1) := by decide +kernel
theorem dX12_init_54 : decode cX12_init 54 = .ok (.sipush 512, 3) := by decide +kernel
theorem dX12_init_57 : decode cX12_init 57 = .ok (.newarray .int, 2) := by decide +kernel
theorem dX12_init_59 : decode cX12_init 59 = .ok (.putfield 29, 3) := by decide +kernel
theorem dX12_init_62 : decode cX12_init 62 = .ok (.aload_n 0, 1) := by decide +kernel
theorem dX12_init_63 : decode cX12_init 63 = .ok (.bipush 12, 2) := by decide +kernel
theorem dX12_init_65 : decode cX12_init 65 = .ok (.newarray .int, 2) := by decide +kernel
theorem dX12_init_67 : decode cX12_init 67 = .ok (.putfield 32, 3) := by decide +kernel
theorem dX12_init_70 : decode cX12_init 70 = .ok (.aload_n 0, 1) := by decide +kernel
theorem dX12_init_71 : decode cX12_init 71 = .ok (.bipush 12, 2) := by decide +kernel
theorem dX12_init_73 : decode cX12_init 73 = .ok (.newarray .int, 2) := by decide +kernel
theorem dX12_init_75 : decode cX12_init 75 = .ok (.putfield 35, 3) := by decide +kernel
theorem dX12_init_78 : decode cX12_init 78 = .ok (.aload_n 0, 1) := by decide +kernel
theorem dX12_init_79 : decode cX12_init 79 = .ok (.bipush 12, 2) := by decide +kernel
theorem dX12_init_81 : decode cX12_init 81 = .ok (.newarray .int, 2) := by decide +kernel
theorem dX12_init_83 : decode cX12_init 83 = .ok (.putfield 38, 3) := by decide +kernel
theorem dX12_init_86 : decode cX12_init 86 = .ok (.aload_n 0, 1) := by decide +kernel
theorem dX12_init_87 : decode cX12_init 87 = .ok (.bipush 6, 2) := by decide +kernel
theorem dX12_init_89 : decode cX12_init 89 = .ok (.newarray .int, 2) := by decide +kernel
theorem dX12_init_91 : decode cX12_init 91 = .ok (.putfield 41, 3) := by decide +kernel
theorem dX12_init_94 : decode cX12_init 94 = .ok (.aload_n 0, 1) := by decide +kernel
theorem dX12_init_95 : decode cX12_init 95 = .ok (.bipush 101, 2) := by decide +kernel
theorem dX12_init_97 : decode cX12_init 97 = .ok (.newarray .int, 2) := by decide +kernel
theorem dX12_init_99 : decode cX12_init 99 = .ok (.putfield 44, 3) := by decide +kernel
theorem dX12_init_102 : decode cX12_init 102 = .ok (.aload_n 0, 1) := by decide +kernel
theorem dX12_init_103 : decode cX12_init 103 = .ok (.sipush 256, 3) := by decide +kernel
theorem dX12_init_106 : decode cX12_init 106 = .ok (.newarray .int, 2) := by decide +kernel
theorem dX12_init_108 : decode cX12_init 108 = .ok (.putfield 47, 3) := by decide +kernel
theorem dX12_init_111 : decode cX12_init 111 = .ok (.aload_n 0, 1) := by decide +kernel
theorem dX12_init_112 : decode cX12_init 112 = .ok (.sipush 256, 3) := by decide +kernel
theorem dX12_init_115 : decode cX12_init 115 = .ok (.newarray .int, 2) := by decide +kernel
theorem dX12_init_117 : decode cX12_init 117 = .ok (.putfield 50, 3) := by decide +kernel
theorem dX12_init_120 : decode cX12_init 120 = .ok (.aload_n 0, 1) := by decide +kernel
theorem dX12_init_121 : decode cX12_init 121 = .ok (.sipush 25856, 3) := by decide +kernel
theorem dX12_init_124 : decode cX12_init 124 = .ok (.newarray .int, 2) := by decide +kernel
theorem dX12_init_126 : decode cX12_init 126 = .ok (.putfield 53, 3) := by decide +kernel
theorem dX12_init_129 : decode cX12_init 129 = .ok (.aload_n 0, 1) := by decide +kernel
theorem dX12_init_130 : decode cX12_init 130 = .ok (.iconst 3, 1) := by decide +kernel
theorem dX12_init_131 : decode cX12_init 131 = .ok (.newarray .int, 2) := by decide +kernel
theorem dX12_init_133 : decode cX12_init 133 = .ok (.putfield 56, 3) := by decide +kernel
theorem dX12_init_136 : decode cX12_init 136 = .ok (.aload_n 0, 1) := by decide +kernel
theorem dX12_init_137 : decode cX12_init 137 = .ok (.sipush 21504, 3) := by decide +kernel
theorem dX12_init_140 : decode cX12_init 140 = .ok (.newarray .int, 2) := by decide +kernel
theorem dX12_init_142 : decode cX12_init 142 = .ok (.putfield 59, 3) := by decide +kernel
theorem dX12_init_145 : decode cX12_init 145 = .ok (.aload_n 0, 1) := by decide +kernel
theorem dX12_init_146 : decode cX12_init 146 = .ok (.sipush 512, 3) := by decide +kernel
theorem dX12_init_149 : decode cX12_init 149 = .ok (.newarray .int, 2) := by decide +kernel
theorem dX12_init_151 : decode cX12_init 151 = .ok (.putfield 62, 3) := by decide +kernel
theorem dX12_init_154 : decode cX12_init 154 = .ok (.aload_n 0, 1) := by decide +kernel
theorem dX12_init_155 : decode cX12_init 155 = .ok (.iconst 3, 1) := by decide +kernel
theorem dX12_init_156 : decode cX12_init 156 = .ok (.newarray .int, 2) := by decide +kernel
theorem dX12_init_158 : decode cX12_init 158 = .ok (.putfield 65, 3) := by decide +kernel
theorem dX12_init_161 : decode cX12_init 161 = .ok (.aload_n 0, 1) := by decide +kernel
theorem dX12_init_162 : decode cX12_init 162 = .ok (.sipush 2400, 3) := by decide +kernel
theorem dX12_init_165 : decode cX12_init 165 = .ok (.newarray .boolean, 2) := by decide +kernel
theorem dX12_init_167 : decode cX12_init 167 = .ok (.putfield 68, 3) := by decide +kernel
theorem dX12_init_170 : decode cX12_init 170 = .ok (.aload_n 0, 1) := by decide +kernel
theorem dX12_init_171 : decode cX12_init 171 = .ok (.bipush 48, 2) := by decide +kernel
theorem dX12_init_173 : decode cX12_init 173 = .ok (.newarray .int, 2) := by decide +kernel
theorem dX12_init_175 : decode cX12_init 175 = .ok (.putfield 72, 3) := by decide +kernel
theorem dX12_init_178 : decode cX12_init 178 = .ok (.aload_n 0, 1) := by decide +kernel
theorem dX12_init_179 : decode cX12_init 179 = .ok (.bipush 6, 2) := by decide +kernel
theorem dX12_init_181 : decode cX12_init 181 = .ok (.newarray .int, 2) := by decide +kernel
theorem dX12_init_183 : decode cX12_init 183 = .ok (.putfield 75, 3) := by decide +kernel
theorem dX12_init_186 : decode cX12_init 186 = .ok (.aload_n 0, 1) := by decide +kernel
theorem dX12_init_187 : decode cX12_init 187 = .ok (.sipush 2400, 3) := by decide +kernel
theorem dX12_init_190 : decode cX12_init 190 = .ok (.newarray .int, 2) := by decide +kernel
theorem dX12_init_192 : decode cX12_init 192 = .ok (.putfield 78, 3) := by decide +kernel
theorem dX12_init_195 : decode cX12_init 195 = .ok (.aload_n 0, 1) := by decide +kernel
theorem dX12_init_196 : decode cX12_init 196 = .ok (.sipush 2400, 3) := by decide +kernel
theorem dX12_init_199 : decode cX12_init 199 = .ok (.newarray .int, 2) := by decide +kernel
theorem dX12_init_201 : decode cX12_init 201 = .ok (.putfield 81, 3) := by decide +kernel
theorem dX12_init_204 : decode cX12_init 204 = .ok (.aload_n 0, 1) := by decide +kernel
theorem dX12_init_205 : decode cX12_init 205 = .ok (.bipush 6, 2) := by decide +kernel
theorem dX12_init_207 : decode cX12_init 207 = .ok (.newarray .int, 2) := by decide +kernel
theorem dX12_init_209 : decode cX12_init 209 = .ok (.putfield 84, 3) := by decide +kernel
theorem dX12_init_212 : decode cX12_init 212 = .ok (.aload_n 0, 1) := by decide +kernel
theorem dX12_init_213 : decode cX12_init 213 = .ok (.bipush 6, 2) := by decide +kernel
theorem dX12_init_215 : decode cX12_init 215 = .ok (.newarray .int, 2) := by decide +kernel
theorem dX12_init_217 : decode cX12_init 217 = .ok (.putfield 87, 3) := by decide +kernel
theorem dX12_init_220 : decode cX12_init 220 = .ok (.return_, 1) := by decide +kernel
