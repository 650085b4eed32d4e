theorem dX12_init_25 : decode cX12_init 25 = .ok (.newarray .int, 2) := by decide +kernel
theorem dX12_init_27 : decode cX12_init 27 = .ok (.putfield 16, 3) := by decide +kernel
theorem dX12_init_30 : decode cX12_init 30 = .ok (.aload_n 0, 1) := by decide +kernel
theorem dX12_init_31 : decode cX12_init 31 = .ok (.sipush 2400, 3) := by decide +kernel
theorem dX12_init_34 : decode cX12_init 34 = .ok (.newarray .int, 2) := by decide +kernel
theorem dX12_init_36 : decode cX12_init 36 = .ok (.putfield 19, 3) := by decide +kernel
theorem dX12_init_39 : decode cX12_init 39 = .ok (.aload_n 0, 1) := by decide +kernel
theorem dX12_init_40 : decode cX12_init 40 = .ok (.sipush 800, 3) := by decide +kernel
theorem dX12_init_43 : decode cX12_init 43 = .ok (.newarray .int, 2) := by decide +kernel
theorem dX12_init_45 : decode cX12_init 45 = .ok (.putfield 22, 3) := by decide +kernel
theorem dX12_init_48 : decode cX12_init 48 = .ok (.aload_n 0, 1) := by decide +kernel
theorem dX12_init_49 : decode cX12_init 49 = .ok (.iconst (-1), 1) := by decide +kernel
theorem dX12_init_50 : decode cX12_init 50 = .ok (.putfield 25, 3) := by decide +kernel
theorem dX12_init_53 : decode cX12_init 53 = .ok (.aload_n 0, 1) := by decide +kernel
theorem dX12_init_54 : decode cX12_init 54 = .ok (.sipush 512, 3) := by decide +kernel
theorem dX12_init_57 : decode cX12_init 57 = .ok (.newarray .int, 2) := by decide +kernel
theorem dX12_init_59 : decode cX12_init 59 = .ok (.putfield 29, 3) := by decide +kernel
theorem dX12_init_62 : decode cX12_init 62 = .ok (.aload_n 0, 1) := by decide +kernel
theorem dX12_init_63 : decode cX12_init 63 = .ok (.bipush 12, 2) := by decide +kernel
theorem dX12_init_65 : decode cX12_init 65 = .ok (.newarray .int, 2) := by decide +kernel
theorem dX12_init_67 : decode cX12_init 67 = .ok (.putfield 32, 3) := by decide +kernel
theorem dX12_init_70 : decode cX12_init 70 = .ok (.aload_n 0, 1) := by decide +kernel
theorem dX12_init_71 : decode cX12_init 71 = .ok (.bipush 12, 2) := by decide +kernel
theorem dX12_init_73 : decode cX12_init 73 = .ok (.newarray .int, 2) := by decide +kernel
theorem dX12_init_75 : decode cX12_init 75 = .ok (.putfield 35, 3) := by decide +kernel
theorem dX12_init_78 : decode cX12_init 78 = .ok (.aload_n 0, 1) := by decide +kernel
theorem dX12_init_79 : decode cX12_init 79 = .ok (.bipush 12, 2) := by decide +kernel
theorem dX12_init_81 : decode cX12_init 81 = .ok (.newarray .int, 2) := by decide +kernel
theorem dX12_init_83 : decode cX12_init 83 = .ok (.putfield 38, 3) := by decide +kernel
theorem dX12_init_86 : decode cX12_init 86 = .ok (.aload_n 0, 1) := by decide +kernel
theorem dX12_init_87 : decode cX12_init 87 = .ok (.bipush 6, 2) := by decide +kernel
theorem dX12_init_89 : decode cX12_init 89 = .ok (.newarray .int, 2) := by decide +kernel
theorem dX12_init_91 : decode cX12_init 91 = .ok (.putfield 41, 3) := by decide +kernel
theorem dX12_init_94 : decode cX12_init 94 = .ok (.aload_n 0, 1) := by decide +kernel
theorem dX12_init_95 : decode cX12_init 95 = .ok (.bipush 101, 2) := by decide +kernel
theorem dX12_init_97 : decode cX12_init 97 = .ok (.newarray .int, 2) := by decide +kernel
theorem dX12_init_99 : decode cX12_init 99 = .ok (.putfield 44, 3) := by decide +kernel
theorem dX12_init_102 : decode cX12_init 102 = .ok (.aload_n 0, 1) := by decide +kernel
theorem dX12_init_103 : decode cX12_init 103 = .ok (.sipush 256, 3) := by decide +kernel
theorem dX12_init_106 : decode cX12_init 106 = .ok (.newarray .int, 2) := by decide +kernel
theorem dX12_init_108 : decode cX12_init 108 = .ok (.putfield 47, 3) := by decide +kernel
theorem dX12_init_111 : decode cX12_init 111 = .ok (.aload_n 0, 1) := by decide +kernel
theorem dX12_init_112 : decode cX12_init 112 = .ok (.sipush 256, 3) := by decide +kernel
theorem dX12_init_115 : decode cX12_init 115 = .ok (.newarray .int, 2) := by decide +kernel
theorem dX12_init_117 : decode cX12_init 117 = .ok (.putfield 50, 3) := by decide +kernel
theorem dX12_init_120 : decode cX12_init 120 = .ok (.aload_n 0, 1) := by decide +kernel
theorem dX12_init_121 : decode cX12_init 121 = .ok (.sipush 25856, 3) := by decide +kernel
theorem dX12_init_124 : decode cX12_init 124 = .ok (.newarray .int, 2) := by decide +kernel
theorem dX12_init_126 : decode cX12_init 126 = .ok (.putfield 53, 3) := by decide +kernel
theorem dX12_init_129 : decode cX12_init 129 = .ok (.aload_n 0, 1) := by decide +kernel
theorem dX12_init_130 : decode cX12_init 130 = .ok (.iconst 3, 1) := by decide +kernel
theorem dX12_init_131 : decode cX12_init 131 = .ok (.newarray .int, 2) := by decide +kernel
theorem dX12_init_133 : decode cX12_init 133 = .ok (.putfield 56, 3) := by decide +kernel
theorem dX12_init_136 : decode cX12_init 136 = .ok (.aload_n 0, 1) := by decide +kernel
theorem dX12_init_137 : decode cX12_init 137 = .ok (.sipush 21504, 3) := by decide +kernel
theorem dX12_init_140 : decode cX12_init 140 = .ok (.newarray .int, 2) := by decide +kernel
theorem dX12_init_142 : decode cX12_init 142 = .ok (.putfield 59, 3) := by decide +kernel
theorem dX12_init_145 : decode cX12_init 145 = .ok (.aload_n 0, 1) := by decide +kernel
theorem dX12_init_146 : decode cX12_init 146 = .ok (.sipush 512, 3) := by decide +kernel
theorem dX12_init_149 : decode cX12_init 149 = .ok (.newarray .int, 2) := by decide +kernel
theorem dX12_init_151 : decode cX12_init 151 = .ok (.putfield 62, 3) := by decide +kernel
theorem dX12_init_154 : decode cX12_init 154 = .ok (.aload_n 0, 1) := by decide +kernel
theorem dX12_init_155 : decode cX12_init 155 = .ok (.iconst 3, 1) := by decide +kernel
theorem dX12_init_156 : decode cX12_init 156 = .ok (.newarray .int, 2) := by decide +kernel
theorem dX12_init_158 : decode cX12_init 158 = .ok (.putfield 65, 3) := by decide +kernel
theorem dX12_init_161 : decode cX12_init 161 = .ok (.aload_n 0, 1) := by decide +kernel
theorem dX12_init_162 : decode cX12_init 162 = .ok (.sipush 2400, 3) := by decide +kernel
theorem dX12_init_165 : decode cX12_init 165 = .ok (.newarray .boolean, 2) := by decide +kernel
theorem dX12_init_167 : decode cX12_init 167 = .ok (.putfield 68, 3) := by decide +kernel
theorem dX12_init_170 : decode cX12_init 170 = .ok (.aload_n 0, 1) := by decide +kernel
theorem dX12_init_171 : decode cX12_init 171 = .ok (.bipush 48, 2) := by decide +kernel
theorem dX12_init_173 : decode cX12_init 173 = .ok (.newarray .int, 2) := by decide +kernel
theorem dX12_init_175 : decode cX12_init 175 = .ok (.putfield 72, 3) := by decide +kernel
theorem dX12_init_178 : decode cX12_init 178 = .ok (.aload_n 0, 1) := by decide +kernel
theorem dX12_init_179 : decode cX12_init 179 = .ok (.bipush 6, 2) := by decide +kernel
theorem dX12_init_181 : decode cX12_init 181 = .ok (.newarray .int, 2) := by decide +kernel
theorem dX12_init_183 : decode cX12_init 183 = .ok (.putfield 75, 3) := by decide +kernel
theorem dX12_init_186 : decode cX12_init 186 = .ok (.aload_n 0, 1) := by decide +kernel
theorem dX12_init_187 : decode cX12_init 187 = .ok (.sipush 2400, 3) := by decide +kernel
theorem dX12_init_190 : decode cX12_init 190 = .ok (.newarray .int, 2) := by decide +kernel
theorem dX12_init_192 : decode cX12_init 192 = .ok (.putfield 78, 3) := by decide +kernel
theorem dX12_init_195 : decode cX12_init 195 = .ok (.aload_n 0, 1) := by decide +kernel
theorem dX12_init_196 : decode cX12_init 196 = .ok (.sipush 2400, 3) := by decide +kernel
theorem dX12_init_199 : decode cX12_init 199 = .ok (.newarray .int, 2) := by decide +kernel
theorem dX12_init_201 : decode cX12_init 201 = .ok (.putfield 81, 3) := by decide +kernel
theorem dX12_init_204 : decode cX12_init 204 = .ok (.aload_n 0, 1) := by decide +kernel
theorem dX12_init_205 : decode cX12_init 205 = .ok (.bipush 6, 2) := by decide +kernel
theorem dX12_init_207 : decode cX12_init 207 = .ok (.newarray .int, 2) := by decide +kernel
theorem dX12_init_209 : decode cX12_init 209 = .ok (.putfield 84, 3) := by decide +kernel
theorem dX12_init_212 : decode cX12_init 212 = .ok (.aload_n 0, 1) := by decide +kernel
theorem dX12_init_213 : decode cX12_init 213 = .ok (.bipush 6, 2) := by decide +kernel
theorem dX12_init_215 : decode cX12_init 215 = .ok (.newarray .int, 2) := by decide +kernel
theorem dX12_init_217 : decode cX12_init 217 = .ok (.putfield 87, 3) := by decide +kernel
theorem dX12_init_220 : decode cX12_init 220 = .ok (.return_, 1) := by decide +kernel
theorem dX12_isIn_0 : decode cX12_isIn 0 = .ok (.iload_n 0, 1) := by decide +kernel
theorem dX12_isIn_1 : decode cX12_isIn 1 = .ok (.iload_n 1, 1) := by decide +kernel
theorem dX12_isIn_2 : decode cX12_isIn 2 = .ok (.if_icmp .lt 12, 3) := by decide +kernel
theorem dX12_isIn_5 : decode cX12_isIn 5 = .ok (.iload_n 0, 1) := by decide +kernel
theorem dX12_isIn_6 : decode cX12_isIn 6 = .ok (.iload_n 2, 1) := by decide +kernel
theorem dX12_isIn_7 : decode cX12_isIn 7 = .ok (.if_icmp .gt 7, 3) := by decide +kernel
theorem dX12_isIn_10 : decode cX12_isIn 10 = .ok (.iconst 1, 1) := by decide +kernel
theorem dX12_isIn_11 : decode cX12_isIn 11 = .ok (.goto 4, 3) := by decide +kernel
theorem dX12_isIn_14 : decode cX12_isIn 14 = .ok (.iconst 0, 1) := by decide +kernel
theorem dX12_isIn_15 : decode cX12_isIn 15 = .ok (.ireturn, 1) := by decide +kernel
theorem dX12_isLast_0 : decode cX12_isLast 0 = .ok (.iload_n 1, 1) := by decide +kernel
theorem dX12_isLast_1 : decode cX12_isLast 1 = .ok (.aload_n 0, 1) := by decide +kernel
theorem dX12_isLast_2 : decode cX12_isLast 2 = .ok (.getfield 98, 3) := by decide +kernel
theorem dX12_isLast_5 : decode cX12_isLast 5 = .ok (.if_icmp .eq 25, 3) := by decide +kernel
theorem dX12_isLast_30 : decode cX12_isLast 30 = .ok (.iconst 1, 1) := by decide +kernel
theorem dX12_isLast_31 : decode cX12_isLast 31 = .ok (.goto 4, 3) := by decide +kernel
theorem dX12_isLast_35 : decode cX12_isLast 35 = .ok (.ireturn, 1) := by decide +kernel
theorem dX12_isPass_0 : decode cX12_isPass 0 = .ok (.iload_n 0, 1) := by decide +kernel
theorem dX12_isPass_1 : decode cX12_isPass 1 = .ok (.iconst 0, 1) := by decide +kernel
theorem dX12_isPass_2 : decode cX12_isPass 2 = .ok (.iconst 5, 1) := by decide +kernel
theorem dX12_isPass_3 : decode cX12_isPass 3 = .ok (.invokestatic 90, 3) := by decide +kernel
theorem dX12_isPass_6 : decode cX12_isPass 6 = .ok (.ireturn, 1) := by decide +kernel
theorem dX12_isSlot_0 : decode cX12_isSlot 0 = .ok (.iload_n 0, 1) := by decide +kernel
theorem dX12_isSlot_1 : decode cX12_isSlot 1 = .ok (.iconst 0, 1) := by decide +kernel
theorem dX12_isSlot_2 : decode cX12_isSlot 2 = .ok (.iconst 5, 1) := by decide +kernel
theorem dX12_isSlot_3 : decode cX12_isSlot 3 = .ok (.invokestatic 90, 3) := by decide +kernel
theorem dX12_isSlot_6 : decode cX12_isSlot 6 = .ok (.ireturn, 1) := by decide +kernel
theorem dX12_item_0 : decode cX12_item 0 = .ok (.iload_n 1, 1) := by decide +kernel
theorem dX12_item_1 : decode cX12_item 1 = .ok (.invokestatic 423, 3) := by decide +kernel
theorem dX12_item_4 : decode cX12_item 4 = .ok (.ifCond .eq 39, 3) := by decide +kernel
theorem dX12_item_7 : decode cX12_item 7 = .ok (.iload_n 2, 1) := by decide +kernel
theorem dX12_item_8 : decode cX12_item 8 = .ok (.iconst 0, 1) := by decide +kernel
theorem dX12_item_9 : decode cX12_item 9 = .ok (.aload_n 0, 1) := by decide +kernel
theorem dX12_item_10 : decode cX12_item 10 = .ok (.getfield 268, 3) := by decide +kernel
theorem dX12_item_13 : decode cX12_item 13 = .ok (.iconst 1, 1) := by decide +kernel
theorem dX12_item_14 : decode cX12_item 14 = .ok (.isub, 1) := by decide +kernel
theorem dX12_item_15 : decode cX12_item 15 = .ok (.invokestatic 90, 3) := by decide +kernel
theorem dX12_item_18 : decode cX12_item 18 = .ok (.ifCond .ne 14, 3) := by decide +kernel
theorem dX12_item_21 : decode cX12_item 21 = .ok (.iload_n 2, 1) := by decide +kernel
theorem dX12_item_22 : decode cX12_item 22 = .ok (.bipush 20, 2) := by decide +kernel
theorem dX12_item_24 : decode cX12_item 24 = .ok (.bipush 24, 2) := by decide +kernel
theorem dX12_item_26 : decode cX12_item 26 = .ok (.invokestatic 90, 3) := by decide +kernel
theorem dX12_item_29 : decode cX12_item 29 = .ok (.ifCond .eq 14, 3) := by decide +kernel
theorem dX12_item_32 : decode cX12_item 32 = .ok (.aload_n 0, 1) := by decide +kernel
theorem dX12_item_33 : decode cX12_item 33 = .ok (.getfield 75, 3) := by decide +kernel
theorem dX12_item_36 : decode cX12_item 36 = .ok (.iload_n 1, 1) := by decide +kernel
theorem dX12_item_37 : decode cX12_item 37 = .ok (.iaload, 1) := by decide +kernel
theorem dX12_item_38 : decode cX12_item 38 = .ok (.bipush 8, 2) := by decide +kernel
theorem dX12_item_40 : decode cX12_item 40 = .ok (.if_icmp .ne 5, 3) := by decide +kernel
theorem dX12_item_43 : decode cX12_item 43 = .ok (.iconst (-1), 1) := by decide +kernel
theorem dX12_item_44 : decode cX12_item 44 = .ok (.ireturn, 1) := by decide +kernel
theorem dX12_item_45 : decode cX12_item 45 = .ok (.aload_n 0, 1) := by decide +kernel
theorem dX12_item_46 : decode cX12_item 46 = .ok (.getfield 72, 3) := by decide +kernel
theorem dX12_item_49 : decode cX12_item 49 = .ok (.bipush 8, 2) := by decide +kernel
theorem dX12_item_51 : decode cX12_item 51 = .ok (.iload_n 1, 1) := by decide +kernel
theorem dX12_item_52 : decode cX12_item 52 = .ok (.imul, 1) := by decide +kernel
theorem dX12_item_53 : decode cX12_item 53 = .ok (.aload_n 0, 1) := by decide +kernel
theorem dX12_item_54 : decode cX12_item 54 = .ok (.getfield 75, 3) := by decide +kernel
theorem dX12_item_57 : decode cX12_item 57 = .ok (.iload_n 1, 1) := by decide +kernel
theorem dX12_item_58 : decode cX12_item 58 = .ok (.iaload, 1) := by decide +kernel
theorem dX12_item_59 : decode cX12_item 59 = .ok (.iadd, 1) := by decide +kernel
theorem dX12_item_60 : decode cX12_item 60 = .ok (.iload_n 2, 1) := by decide +kernel
theorem dX12_item_61 : decode cX12_item 61 = .ok (.iastore, 1) := by decide +kernel
theorem dX12_item_62 : decode cX12_item 62 = .ok (.aload_n 0, 1) := by decide +kernel
theorem dX12_item_63 : decode cX12_item 63 = .ok (.getfield 75, 3) := by decide +kernel
theorem dX12_item_66 : decode cX12_item 66 = .ok (.iload_n 1, 1) := by decide +kernel
theorem dX12_item_67 : decode cX12_item 67 = .ok (.dup2, 1) := by decide +kernel
theorem dX12_item_68 : decode cX12_item 68 = .ok (.iaload, 1) := by decide +kernel
theorem dX12_item_69 : decode cX12_item 69 = .ok (.iconst 1, 1) := by decide +kernel
theorem dX12_item_70 : decode cX12_item 70 = .ok (.iadd, 1) := by decide +kernel
theorem dX12_item_71 : decode cX12_item 71 = .ok (.iastore, 1) := by decide +kernel
theorem dX12_item_72 : decode cX12_item 72 = .ok (.aload_n 0, 1) := by decide +kernel
theorem dX12_item_73 : decode cX12_item 73 = .ok (.getfield 75, 3) := by decide +kernel
theorem dX12_item_76 : decode cX12_item 76 = .ok (.iload_n 1, 1) := by decide +kernel
theorem dX12_item_77 : decode cX12_item 77 = .ok (.iaload, 1) := by decide +kernel
theorem dX12_item_78 : decode cX12_item 78 = .ok (.ireturn, 1) := by decide +kernel
theorem dX12_judge_0 : decode cX12_judge 0 = .ok (.iload_n 1, 1) := by decide +kernel
theorem dX12_judge_1 : decode cX12_judge 1 = .ok (.invokestatic 249, 3) := by decide +kernel
theorem dX12_judge_4 : decode cX12_judge 4 = .ok (.ifCond .eq 19, 3) := by decide +kernel
theorem dX12_judge_7 : decode cX12_judge 7 = .ok (.iload_n 2, 1) := by decide +kernel
theorem dX12_judge_8 : decode cX12_judge 8 = .ok (.invokestatic 249, 3) := by decide +kernel
theorem dX12_judge_11 : decode cX12_judge 11 = .ok (.ifCond .eq 12, 3) := by decide +kernel
theorem dX12_judge_14 : decode cX12_judge 14 = .ok (.iload_n 3, 1) := by decide +kernel
theorem dX12_judge_15 : decode cX12_judge 15 = .ok (.iconst 0, 1) := by decide +kernel
theorem dX12_judge_16 : decode cX12_judge 16 = .ok (.iconst 3, 1) := by decide +kernel
theorem dX12_judge_17 : decode cX12_judge 17 = .ok (.invokestatic 90, 3) := by decide +kernel
theorem dX12_judge_20 : decode cX12_judge 20 = .ok (.ifCond .ne 5, 3) := by decide +kernel
theorem dX12_judge_23 : decode cX12_judge 23 = .ok (.iconst (-1), 1) := by decide +kernel
theorem dX12_judge_24 : decode cX12_judge 24 = .ok (.ireturn, 1) := by decide +kernel
theorem dX12_judge_25 : decode cX12_judge 25 = .ok (.aload_n 0, 1) := by decide +kernel
theorem dX12_judge_26 : decode cX12_judge 26 = .ok (.iload_n 1, 1) := by decide +kernel
theorem dX12_judge_27 : decode cX12_judge 27 = .ok (.invokevirtual 271, 3) := by decide +kernel
theorem dX12_judge_30 : decode cX12_judge 30 = .ok (.aload_n 0, 1) := by decide +kernel
theorem dX12_judge_31 : decode cX12_judge 31 = .ok (.invokevirtual 330, 3) := by decide +kernel
theorem dX12_judge_34 : decode cX12_judge 34 = .ok (.aload_n 0, 1) := by decide +kernel
theorem dX12_judge_35 : decode cX12_judge 35 = .ok (.iload_n 2, 1) := by decide +kernel
theorem dX12_judge_36 : decode cX12_judge 36 = .ok (.invokevirtual 271, 3) := by decide +kernel
theorem dX12_judge_39 : decode cX12_judge 39 = .ok (.aload_n 0, 1) := by decide +kernel
theorem dX12_judge_40 : decode cX12_judge 40 = .ok (.invokevirtual 333, 3) := by decide +kernel
theorem dX12_judge_43 : decode cX12_judge 43 = .ok (.iload_n 3, 1) := by decide +kernel
theorem dX12_judge_44 : decode cX12_judge 44 = .ok (.tableswitch 63 0 2 #[28, 53, 58], 28) := by decide +kernel
theorem dX12_judge_72 : decode cX12_judge 72 = .ok (.aload_n 0, 1) := by decide +kernel
theorem dX12_judge_73 : decode cX12_judge 73 = .ok (.getfield 318, 3) := by decide +kernel
theorem dX12_judge_76 : decode cX12_judge 76 = .ok (.iconst (-1), 1) := by decide +kernel
theorem dX12_judge_77 : decode cX12_judge 77 = .ok (.if_icmp .eq 7, 3) := by decide +kernel
theorem dX12_judge_84 : decode cX12_judge 84 = .ok (.aload_n 0, 1) := by decide +kernel
theorem dX12_judge_85 : decode cX12_judge 85 = .ok (.getfield 327, 3) := by decide +kernel
theorem dX12_judge_88 : decode cX12_judge 88 = .ok (.ifCond .eq 7, 3) := by decide +kernel
theorem dX12_judge_95 : decode cX12_judge 95 = .ok (.iconst 0, 1) := by decide +kernel
theorem dX12_judge_96 : decode cX12_judge 96 = .ok (.ireturn, 1) := by decide +kernel
theorem dX12_judge_97 : decode cX12_judge 97 = .ok (.aload_n 0, 1) := by decide +kernel
theorem dX12_judge_98 : decode cX12_judge 98 = .ok (.getfield 318, 3) := by decide +kernel
theorem dX12_judge_101 : decode cX12_judge 101 = .ok (.ireturn, 1) := by decide +kernel
theorem dX12_judge_102 : decode cX12_judge 102 = .ok (.aload_n 0, 1) := by decide +kernel
theorem dX12_judge_103 : decode cX12_judge 103 = .ok (.getfield 321, 3) := by decide +kernel
theorem dX12_judge_106 : decode cX12_judge 106 = .ok (.ireturn, 1) := by decide +kernel
theorem dX12_judge_107 : decode cX12_judge 107 = .ok (.aload_n 0, 1) := by decide +kernel
theorem dX12_judge_108 : decode cX12_judge 108 = .ok (.getfield 324, 3) := by decide +kernel
theorem dX12_judge_111 : decode cX12_judge 111 = .ok (.ireturn, 1) := by decide +kernel
theorem dX12_keeps_0 : decode cX12_keeps 0 = .ok (.iconst 0, 1) := by decide +kernel
theorem dX12_keeps_1 : decode cX12_keeps 1 = .ok (.istore_n 1, 1) := by decide +kernel
theorem dX12_keeps_2 : decode cX12_keeps 2 = .ok (.iload_n 1, 1) := by decide +kernel
theorem dX12_keeps_3 : decode cX12_keeps 3 = .ok (.sipush 256, 3) := by decide +kernel
theorem dX12_keeps_6 : decode cX12_keeps 6 = .ok (.if_icmp .ge 74, 3) := by decide +kernel
theorem dX12_keeps_9 : decode cX12_keeps 9 = .ok (.aload_n 0, 1) := by decide +kernel
theorem dX12_keeps_10 : decode cX12_keeps 10 = .ok (.iload_n 1, 1) := by decide +kernel
theorem dX12_keeps_11 : decode cX12_keeps 11 = .ok (.bipush 16, 2) := by decide +kernel
theorem dX12_keeps_13 : decode cX12_keeps 13 = .ok (.idiv, 1) := by decide +kernel
theorem dX12_keeps_14 : decode cX12_keeps 14 = .ok (.iload_n 1, 1) := by decide +kernel
theorem dX12_keeps_15 : decode cX12_keeps 15 = .ok (.bipush 16, 2) := by decide +kernel
theorem dX12_keeps_17 : decode cX12_keeps 17 = .ok (.irem, 1) := by decide +kernel
theorem dX12_keeps_18 : decode cX12_keeps 18 = .ok (.invokevirtual 315, 3) := by decide +kernel
theorem dX12_keeps_21 : decode cX12_keeps 21 = .ok (.aload_n 0, 1) := by decide +kernel
theorem dX12_keeps_22 : decode cX12_keeps 22 = .ok (.getfield 47, 3) := by decide +kernel
theorem dX12_keeps_25 : decode cX12_keeps 25 = .ok (.iload_n 1, 1) := by decide +kernel
theorem dX12_keeps_26 : decode cX12_keeps 26 = .ok (.aload_n 0, 1) := by decide +kernel
theorem dX12_keeps_27 : decode cX12_keeps 27 = .ok (.getfield 294, 3) := by decide +kernel
theorem dX12_keeps_30 : decode cX12_keeps 30 = .ok (.iastore, 1) := by decide +kernel
theorem dX12_keeps_31 : decode cX12_keeps 31 = .ok (.aload_n 0, 1) := by decide +kernel
theorem dX12_keeps_32 : decode cX12_keeps 32 = .ok (.getfield 50, 3) := by decide +kernel
theorem dX12_keeps_35 : decode cX12_keeps 35 = .ok (.iload_n 1, 1) := by decide +kernel
theorem dX12_keeps_36 : decode cX12_keeps 36 = .ok (.aload_n 0, 1) := by decide +kernel
theorem dX12_keeps_37 : decode cX12_keeps 37 = .ok (.getfield 312, 3) := by decide +kernel
theorem dX12_keeps_40 : decode cX12_keeps 40 = .ok (.iastore, 1) := by decide +kernel
theorem dX12_keeps_41 : decode cX12_keeps 41 = .ok (.iconst 0, 1) := by decide +kernel
theorem dX12_keeps_42 : decode cX12_keeps 42 = .ok (.istore_n 2, 1) := by decide +kernel
theorem dX12_keeps_43 : decode cX12_keeps 43 = .ok (.iload_n 2, 1) := by decide +kernel
theorem dX12_keeps_44 : decode cX12_keeps 44 = .ok (.aload_n 0, 1) := by decide +kernel
theorem dX12_keeps_45 : decode cX12_keeps 45 = .ok (.getfield 312, 3) := by decide +kernel
theorem dX12_keeps_48 : decode cX12_keeps 48 = .ok (.if_icmp .ge 26, 3) := by decide +kernel
theorem dX12_keeps_74 : decode cX12_keeps 74 = .ok (.iinc 1 1, 3) := by decide +kernel
theorem dX12_keeps_77 : decode cX12_keeps 77 = .ok (.goto (-75), 3) := by decide +kernel
theorem dX12_keeps_80 : decode cX12_keeps 80 = .ok (.return_, 1) := by decide +kernel
theorem dX12_liveFrom_0 : decode cX12_liveFrom 0 = .ok (.aload_n 0, 1) := by decide +kernel
theorem dX12_liveFrom_1 : decode cX12_liveFrom 1 = .ok (.iload_n 1, 1) := by decide +kernel
theorem dX12_liveFrom_2 : decode cX12_liveFrom 2 = .ok (.invokevirtual 107, 3) := by decide +kernel
theorem dX12_liveFrom_5 : decode cX12_liveFrom 5 = .ok (.ifCond .eq 7, 3) := by decide +kernel
theorem dX12_liveFrom_8 : decode cX12_liveFrom 8 = .ok (.iload_n 2, 1) := by decide +kernel
theorem dX12_liveFrom_9 : decode cX12_liveFrom 9 = .ok (.goto 18, 3) := by decide +kernel
theorem dX12_liveFrom_27 : decode cX12_liveFrom 27 = .ok (.ireturn, 1) := by decide +kernel
theorem dX12_make_0 : decode cX12_make 0 = .ok (.iload_n 1, 1) := by decide +kernel
theorem dX12_make_1 : decode cX12_make 1 = .ok (.invokestatic 423, 3) := by decide +kernel
theorem dX12_make_4 : decode cX12_make 4 = .ok (.ifCond .eq 17, 3) := by decide +kernel
theorem dX12_make_7 : decode cX12_make 7 = .ok (.iload_n 2, 1) := by decide +kernel
theorem dX12_make_8 : decode cX12_make 8 = .ok (.invokestatic 249, 3) := by decide +kernel
theorem dX12_make_11 : decode cX12_make 11 = .ok (.ifCond .eq 10, 3) := by decide +kernel
theorem dX12_make_14 : decode cX12_make 14 = .ok (.iload_n 3, 1) := by decide +kernel
theorem dX12_make_15 : decode cX12_make 15 = .ok (.invokestatic 249, 3) := by decide +kernel
theorem dX12_make_18 : decode cX12_make 18 = .ok (.ifCond .ne 5, 3) := by decide +kernel
theorem dX12_make_21 : decode cX12_make 21 = .ok (.iconst (-1), 1) := by decide +kernel
theorem dX12_make_22 : decode cX12_make 22 = .ok (.ireturn, 1) := by decide +kernel
theorem dX12_make_23 : decode cX12_make 23 = .ok (.aload_n 0, 1) := by decide +kernel
theorem dX12_make_24 : decode cX12_make 24 = .ok (.iload_n 2, 1) := by decide +kernel
theorem dX12_make_25 : decode cX12_make 25 = .ok (.invokevirtual 271, 3) := by decide +kernel
theorem dX12_make_28 : decode cX12_make 28 = .ok (.aload_n 0, 1) := by decide +kernel
theorem dX12_make_29 : decode cX12_make 29 = .ok (.iload_n 1, 1) := by decide +kernel
theorem dX12_make_30 : decode cX12_make 30 = .ok (.invokevirtual 439, 3) := by decide +kernel
theorem dX12_make_33 : decode cX12_make 33 = .ok (.ifCond .ne 5, 3) := by decide +kernel
theorem dX12_make_38 : decode cX12_make 38 = .ok (.aload_n 0, 1) := by decide +kernel
theorem dX12_make_39 : decode cX12_make 39 = .ok (.iload_n 3, 1) := by decide +kernel
theorem dX12_make_40 : decode cX12_make 40 = .ok (.invokevirtual 262, 3) := by decide +kernel
theorem dX12_make_43 : decode cX12_make 43 = .ok (.aload_n 0, 1) := by decide +kernel
theorem dX12_make_44 : decode cX12_make 44 = .ok (.invokevirtual 265, 3) := by decide +kernel
theorem dX12_make_47 : decode cX12_make 47 = .ok (.ireturn, 1) := by decide +kernel
theorem dX12_makes_0 : decode cX12_makes 0 = .ok (.iconst 0, 1) := by decide +kernel
theorem dX12_makes_1 : decode cX12_makes 1 = .ok (.istore_n 2, 1) := by decide +kernel
theorem dX12_makes_2 : decode cX12_makes 2 = .ok (.iload_n 2, 1) := by decide +kernel
theorem dX12_makes_3 : decode cX12_makes 3 = .ok (.aload_n 0, 1) := by decide +kernel
theorem dX12_makes_4 : decode cX12_makes 4 = .ok (.getfield 75, 3) := by decide +kernel
theorem dX12_makes_7 : decode cX12_makes 7 = .ok (.iload_n 1, 1) := by decide +kernel
theorem dX12_makes_8 : decode cX12_makes 8 = .ok (.iaload, 1) := by decide +kernel
theorem dX12_makes_9 : decode cX12_makes 9 = .ok (.if_icmp .ge 118, 3) := by decide +kernel
theorem dX12_makes_127 : decode cX12_makes 127 = .ok (.iconst 1, 1) := by decide +kernel
theorem dX12_makes_128 : decode cX12_makes 128 = .ok (.ireturn, 1) := by decide +kernel
theorem dX12_next0_0 : decode cX12_next0 0 = .ok (.aload_n 0, 1) := by decide +kernel
theorem dX12_next0_1 : decode cX12_next0 1 = .ok (.aload_n 0, 1) := by decide +kernel
theorem dX12_next0_2 : decode cX12_next0 2 = .ok (.getfield 127, 3) := by decide +kernel
theorem dX12_next0_5 : decode cX12_next0 5 = .ok (.invokevirtual 161, 3) := by decide +kernel
theorem dX12_next0_8 : decode cX12_next0 8 = .ok (.bipush 32, 2) := by decide +kernel
theorem dX12_next0_10 : decode cX12_next0 10 = .ok (.if_icmp .eq 16, 3) := by decide +kernel
theorem dX12_next0_13 : decode cX12_next0 13 = .ok (.aload_n 0, 1) := by decide +kernel
theorem dX12_next0_14 : decode cX12_next0 14 = .ok (.aload_n 0, 1) := by decide +kernel
theorem dX12_next0_15 : decode cX12_next0 15 = .ok (.getfield 127, 3) := by decide +kernel
theorem dX12_next0_18 : decode cX12_next0 18 = .ok (.invokevirtual 161, 3) := by decide +kernel
theorem dX12_next0_21 : decode cX12_next0 21 = .ok (.bipush 10, 2) := by decide +kernel
theorem dX12_next0_23 : decode cX12_next0 23 = .ok (.if_icmp .ne 16, 3) := by decide +kernel
theorem dX12_next0_39 : decode cX12_next0 39 = .ok (.aload_n 0, 1) := by decide +kernel
theorem dX12_next0_40 : decode cX12_next0 40 = .ok (.aload_n 0, 1) := by decide +kernel
theorem dX12_next0_41 : decode cX12_next0 41 = .ok (.getfield 127, 3) := by decide +kernel
theorem dX12_next0_44 : decode cX12_next0 44 = .ok (.putfield 130, 3) := by decide +kernel
theorem dX12_next0_47 : decode cX12_next0 47 = .ok (.aload_n 0, 1) := by decide +kernel
theorem dX12_next0_48 : decode cX12_next0 48 = .ok (.aload_n 0, 1) := by decide +kernel
theorem dX12_next0_49 : decode cX12_next0 49 = .ok (.getfield 127, 3) := by decide +kernel
theorem dX12_next0_52 : decode cX12_next0 52 = .ok (.invokevirtual 161, 3) := by decide +kernel
theorem dX12_next0_55 : decode cX12_next0 55 = .ok (.istore_n 1, 1) := by decide +kernel
theorem dX12_next0_56 : decode cX12_next0 56 = .ok (.iload_n 1, 1) := by decide +kernel
theorem dX12_next0_57 : decode cX12_next0 57 = .ok (.iconst (-1), 1) := by decide +kernel
theorem dX12_next0_58 : decode cX12_next0 58 = .ok (.if_icmp .ne 11, 3) := by decide +kernel
theorem dX12_next0_61 : decode cX12_next0 61 = .ok (.aload_n 0, 1) := by decide +kernel
theorem dX12_next0_62 : decode cX12_next0 62 = .ok (.iconst 0, 1) := by decide +kernel
theorem dX12_next0_63 : decode cX12_next0 63 = .ok (.putfield 164, 3) := by decide +kernel
theorem dX12_next0_66 : decode cX12_next0 66 = .ok (.goto 285, 3) := by decide +kernel
theorem dX12_next0_351 : decode cX12_next0 351 = .ok (.return_, 1) := by decide +kernel
theorem dX12_parts_0 : decode cX12_parts 0 = .ok (.iconst 0, 1) := by decide +kernel
theorem dX12_parts_1 : decode cX12_parts 1 = .ok (.istore_n 1, 1) := by decide +kernel
theorem dX12_parts_2 : decode cX12_parts 2 = .ok (.iconst 0, 1) := by decide +kernel
theorem dX12_parts_3 : decode cX12_parts 3 = .ok (.istore_n 2, 1) := by decide +kernel
theorem dX12_parts_4 : decode cX12_parts 4 = .ok (.iload_n 2, 1) := by decide +kernel
theorem dX12_parts_5 : decode cX12_parts 5 = .ok (.aload_n 0, 1) := by decide +kernel
theorem dX12_parts_6 : decode cX12_parts 6 = .ok (.getfield 98, 3) := by decide +kernel
theorem dX12_parts_9 : decode cX12_parts 9 = .ok (.if_icmp .ge 30, 3) := by decide +kernel
theorem dX12_parts_39 : decode cX12_parts 39 = .ok (.iload_n 1, 1) := by decide +kernel
theorem dX12_parts_40 : decode cX12_parts 40 = .ok (.ireturn, 1) := by decide +kernel
theorem dX12_places_0 : decode cX12_places 0 = .ok (.iload_n 1, 1) := by decide +kernel
theorem dX12_places_1 : decode cX12_places 1 = .ok (.iconst 0, 1) := by decide +kernel
theorem dX12_places_2 : decode cX12_places 2 = .ok (.aload_n 0, 1) := by decide +kernel
theorem dX12_places_3 : decode cX12_places 3 = .ok (.getfield 268, 3) := by decide +kernel
theorem dX12_places_6 : decode cX12_places 6 = .ok (.iconst 1, 1) := by decide +kernel
theorem dX12_places_7 : decode cX12_places 7 = .ok (.isub, 1) := by decide +kernel
theorem dX12_places_8 : decode cX12_places 8 = .ok (.invokestatic 90, 3) := by decide +kernel
theorem dX12_places_11 : decode cX12_places 11 = .ok (.ifCond .eq 10, 3) := by decide +kernel
theorem dX12_places_21 : decode cX12_places 21 = .ok (.iconst (-1), 1) := by decide +kernel
theorem dX12_places_22 : decode cX12_places 22 = .ok (.ireturn, 1) := by decide +kernel
theorem dX12_product_0 : decode cX12_product 0 = .ok (.aload_n 0, 1) := by decide +kernel
theorem dX12_product_1 : decode cX12_product 1 = .ok (.getfield 117, 3) := by decide +kernel
theorem dX12_product_4 : decode cX12_product 4 = .ok (.istore_n 1, 1) := by decide +kernel
theorem dX12_product_5 : decode cX12_product 5 = .ok (.aload_n 0, 1) := by decide +kernel
theorem dX12_product_6 : decode cX12_product 6 = .ok (.invokevirtual 213, 3) := by decide +kernel
theorem dX12_product_9 : decode cX12_product 9 = .ok (.ifCond .ne 5, 3) := by decide +kernel
theorem dX12_product_12 : decode cX12_product 12 = .ok (.iconst 0, 1) := by decide +kernel
theorem dX12_product_13 : decode cX12_product 13 = .ok (.ireturn, 1) := by decide +kernel
theorem dX12_program_0 : decode cX12_program 0 = .ok (.aload_n 0, 1) := by decide +kernel
theorem dX12_program_1 : decode cX12_program 1 = .ok (.iconst 0, 1) := by decide +kernel
theorem dX12_program_2 : decode cX12_program 2 = .ok (.putfield 179, 3) := by decide +kernel
theorem dX12_program_5 : decode cX12_program 5 = .ok (.iload_n 1, 1) := by decide +kernel
theorem dX12_program_6 : decode cX12_program 6 = .ok (.invokestatic 249, 3) := by decide +kernel
theorem dX12_program_9 : decode cX12_program 9 = .ok (.ifCond .ne 9, 3) := by decide +kernel
theorem dX12_program_12 : decode cX12_program 12 = .ok (.aload_n 0, 1) := by decide +kernel
theorem dX12_program_13 : decode cX12_program 13 = .ok (.invokevirtual 252, 3) := by decide +kernel
theorem dX12_program_16 : decode cX12_program 16 = .ok (.iconst (-1), 1) := by decide +kernel
theorem dX12_program_17 : decode cX12_program 17 = .ok (.ireturn, 1) := by decide +kernel
theorem dX12_program_18 : decode cX12_program 18 = .ok (.aload_n 0, 1) := by decide +kernel
theorem dX12_program_19 : decode cX12_program 19 = .ok (.iconst 0, 1) := by decide +kernel
theorem dX12_program_20 : decode cX12_program 20 = .ok (.sipush 300, 3) := by decide +kernel
theorem dX12_program_23 : decode cX12_program 23 = .ok (.invokevirtual 255, 3) := by decide +kernel
theorem dX12_program_26 : decode cX12_program 26 = .ok (.iconst 1, 1) := by decide +kernel
theorem dX12_program_27 : decode cX12_program 27 = .ok (.istore_n 2, 1) := by decide +kernel
theorem dX12_program_28 : decode cX12_program 28 = .ok (.iload_n 2, 1) := by decide +kernel
theorem dX12_program_29 : decode cX12_program 29 = .ok (.ifCond .eq 18, 3) := by decide +kernel
theorem dX12_program_32 : decode cX12_program 32 = .ok (.aload_n 0, 1) := by decide +kernel
theorem dX12_program_33 : decode cX12_program 33 = .ok (.getfield 164, 3) := by decide +kernel
theorem dX12_program_36 : decode cX12_program 36 = .ok (.ifCond .eq 11, 3) := by decide +kernel
theorem dX12_program_47 : decode cX12_program 47 = .ok (.aload_n 0, 1) := by decide +kernel
theorem dX12_program_48 : decode cX12_program 48 = .ok (.invokevirtual 252, 3) := by decide +kernel
theorem dX12_program_51 : decode cX12_program 51 = .ok (.iload_n 2, 1) := by decide +kernel
theorem dX12_program_52 : decode cX12_program 52 = .ok (.ifCond .ne 5, 3) := by decide +kernel
theorem dX12_program_57 : decode cX12_program 57 = .ok (.aload_n 0, 1) := by decide +kernel
theorem dX12_program_58 : decode cX12_program 58 = .ok (.invokevirtual 259, 3) := by decide +kernel
theorem dX12_program_61 : decode cX12_program 61 = .ok (.aload_n 0, 1) := by decide +kernel
theorem dX12_program_62 : decode cX12_program 62 = .ok (.iload_n 1, 1) := by decide +kernel
theorem dX12_program_63 : decode cX12_program 63 = .ok (.invokevirtual 262, 3) := by decide +kernel
theorem dX12_program_66 : decode cX12_program 66 = .ok (.aload_n 0, 1) := by decide +kernel
theorem dX12_program_67 : decode cX12_program 67 = .ok (.invokevirtual 265, 3) := by decide +kernel
theorem dX12_program_70 : decode cX12_program 70 = .ok (.ireturn, 1) := by decide +kernel
theorem dX12_puts_0 : decode cX12_puts 0 = .ok (.aload_n 0, 1) := by decide +kernel
theorem dX12_puts_1 : decode cX12_puts 1 = .ok (.getfield 13, 3) := by decide +kernel
theorem dX12_puts_4 : decode cX12_puts 4 = .ok (.iload_n 1, 1) := by decide +kernel
theorem dX12_puts_5 : decode cX12_puts 5 = .ok (.aload_n 0, 1) := by decide +kernel
theorem dX12_puts_6 : decode cX12_puts 6 = .ok (.getfield 98, 3) := by decide +kernel
theorem dX12_puts_9 : decode cX12_puts 9 = .ok (.iastore, 1) := by decide +kernel
theorem dX12_puts_10 : decode cX12_puts 10 = .ok (.iconst 0, 1) := by decide +kernel
theorem dX12_puts_11 : decode cX12_puts 11 = .ok (.istore_n 2, 1) := by decide +kernel
theorem dX12_puts_12 : decode cX12_puts 12 = .ok (.iload_n 2, 1) := by decide +kernel
theorem dX12_puts_13 : decode cX12_puts 13 = .ok (.aload_n 0, 1) := by decide +kernel
theorem dX12_puts_14 : decode cX12_puts 14 = .ok (.getfield 98, 3) := by decide +kernel
theorem dX12_puts_17 : decode cX12_puts 17 = .ok (.if_icmp .ge 27, 3) := by decide +kernel
theorem dX12_puts_44 : decode cX12_puts 44 = .ok (.return_, 1) := by decide +kernel
theorem dX12_reads_0 : decode cX12_reads 0 = .ok (.iconst 0, 1) := by decide +kernel
theorem dX12_reads_1 : decode cX12_reads 1 = .ok (.istore_n 3, 1) := by decide +kernel
theorem dX12_reads_2 : decode cX12_reads 2 = .ok (.iload_n 1, 1) := by decide +kernel
theorem dX12_reads_3 : decode cX12_reads 3 = .ok (.istore 4, 2) := by decide +kernel
theorem dX12_reads_5 : decode cX12_reads 5 = .ok (.iload 4, 2) := by decide +kernel
theorem dX12_reads_7 : decode cX12_reads 7 = .ok (.iload_n 2, 1) := by decide +kernel
theorem dX12_reads_8 : decode cX12_reads 8 = .ok (.if_icmp .ge 45, 3) := by decide +kernel
theorem dX12_reads_53 : decode cX12_reads 53 = .ok (.iload_n 3, 1) := by decide +kernel
theorem dX12_reads_54 : decode cX12_reads 54 = .ok (.ireturn, 1) := by decide +kernel
theorem dX12_registers_0 : decode cX12_registers 0 = .ok (.iload_n 1, 1) := by decide +kernel
theorem dX12_registers_1 : decode cX12_registers 1 = .ok (.invokestatic 249, 3) := by decide +kernel
theorem dX12_registers_4 : decode cX12_registers 4 = .ok (.ifCond .eq 29, 3) := by decide +kernel
theorem dX12_registers_7 : decode cX12_registers 7 = .ok (.iload_n 2, 1) := by decide +kernel
theorem dX12_registers_8 : decode cX12_registers 8 = .ok (.ifCond .eq 27, 3) := by decide +kernel
theorem dX12_registers_11 : decode cX12_registers 11 = .ok (.iload_n 2, 1) := by decide +kernel
theorem dX12_registers_12 : decode cX12_registers 12 = .ok (.bipush 10, 2) := by decide +kernel
theorem dX12_registers_14 : decode cX12_registers 14 = .ok (.bipush 15, 2) := by decide +kernel
theorem dX12_registers_16 : decode cX12_registers 16 = .ok (.invokestatic 90, 3) := by decide +kernel
theorem dX12_registers_19 : decode cX12_registers 19 = .ok (.ifCond .ne 16, 3) := by decide +kernel
theorem dX12_registers_22 : decode cX12_registers 22 = .ok (.iload_n 2, 1) := by decide +kernel
theorem dX12_registers_23 : decode cX12_registers 23 = .ok (.bipush 20, 2) := by decide +kernel
theorem dX12_registers_25 : decode cX12_registers 25 = .ok (.bipush 26, 2) := by decide +kernel
theorem dX12_registers_27 : decode cX12_registers 27 = .ok (.invokestatic 90, 3) := by decide +kernel
theorem dX12_registers_30 : decode cX12_registers 30 = .ok (.ifCond .ne 5, 3) := by decide +kernel
theorem dX12_registers_33 : decode cX12_registers 33 = .ok (.iconst (-1), 1) := by decide +kernel
theorem dX12_registers_34 : decode cX12_registers 34 = .ok (.ireturn, 1) := by decide +kernel
theorem dX12_registers_35 : decode cX12_registers 35 = .ok (.aload_n 0, 1) := by decide +kernel
theorem dX12_registers_36 : decode cX12_registers 36 = .ok (.iload_n 1, 1) := by decide +kernel
theorem dX12_registers_37 : decode cX12_registers 37 = .ok (.invokevirtual 472, 3) := by decide +kernel
theorem dX12_registers_40 : decode cX12_registers 40 = .ok (.aload_n 0, 1) := by decide +kernel
theorem dX12_registers_41 : decode cX12_registers 41 = .ok (.invokevirtual 475, 3) := by decide +kernel
theorem dX12_registers_44 : decode cX12_registers 44 = .ok (.istore_n 3, 1) := by decide +kernel
theorem dX12_registers_45 : decode cX12_registers 45 = .ok (.iload_n 2, 1) := by decide +kernel
theorem dX12_registers_46 : decode cX12_registers 46 = .ok (.bipush 15, 2) := by decide +kernel
theorem dX12_registers_48 : decode cX12_registers 48 = .ok (.if_icmp .le 13, 3) := by decide +kernel
theorem dX12_registers_51 : decode cX12_registers 51 = .ok (.aload_n 0, 1) := by decide +kernel
theorem dX12_registers_52 : decode cX12_registers 52 = .ok (.iload_n 3, 1) := by decide +kernel
theorem dX12_registers_53 : decode cX12_registers 53 = .ok (.iload_n 2, 1) := by decide +kernel
theorem dX12_registers_54 : decode cX12_registers 54 = .ok (.bipush 20, 2) := by decide +kernel
theorem dX12_registers_56 : decode cX12_registers 56 = .ok (.isub, 1) := by decide +kernel
theorem dX12_registers_57 : decode cX12_registers 57 = .ok (.invokevirtual 478, 3) := by decide +kernel
theorem dX12_registers_60 : decode cX12_registers 60 = .ok (.ireturn, 1) := by decide +kernel
theorem dX12_registers_61 : decode cX12_registers 61 = .ok (.aload_n 0, 1) := by decide +kernel
theorem dX12_registers_62 : decode cX12_registers 62 = .ok (.iload_n 3, 1) := by decide +kernel
theorem dX12_registers_63 : decode cX12_registers 63 = .ok (.invokevirtual 481, 3) := by decide +kernel
theorem dX12_registers_66 : decode cX12_registers 66 = .ok (.istore 4, 2) := by decide +kernel
theorem dX12_registers_68 : decode cX12_registers 68 = .ok (.iload_n 2, 1) := by decide +kernel
theorem dX12_registers_69 : decode cX12_registers 69 = .ok (.ifCond .ne 8, 3) := by decide +kernel
theorem dX12_registers_72 : decode cX12_registers 72 = .ok (.iload 4, 2) := by decide +kernel
theorem dX12_registers_74 : decode cX12_registers 74 = .ok (.goto 12, 3) := by decide +kernel
theorem dX12_registers_77 : decode cX12_registers 77 = .ok (.aload_n 0, 1) := by decide +kernel
theorem dX12_registers_78 : decode cX12_registers 78 = .ok (.getfield 87, 3) := by decide +kernel
theorem dX12_registers_81 : decode cX12_registers 81 = .ok (.iload_n 2, 1) := by decide +kernel
theorem dX12_registers_82 : decode cX12_registers 82 = .ok (.bipush 10, 2) := by decide +kernel
theorem dX12_registers_84 : decode cX12_registers 84 = .ok (.isub, 1) := by decide +kernel
theorem dX12_registers_85 : decode cX12_registers 85 = .ok (.iaload, 1) := by decide +kernel
theorem dX12_registers_86 : decode cX12_registers 86 = .ok (.ireturn, 1) := by decide +kernel
theorem dX12_rule_0 : decode cX12_rule 0 = .ok (.aload_n 0, 1) := by decide +kernel
theorem dX12_rule_1 : decode cX12_rule 1 = .ok (.iconst 0, 1) := by decide +kernel
theorem dX12_rule_2 : decode cX12_rule 2 = .ok (.putfield 179, 3) := by decide +kernel
theorem dX12_rule_5 : decode cX12_rule 5 = .ok (.aload_n 0, 1) := by decide +kernel
theorem dX12_rule_6 : decode cX12_rule 6 = .ok (.getfield 268, 3) := by decide +kernel
theorem dX12_rule_9 : decode cX12_rule 9 = .ok (.bipush 12, 2) := by decide +kernel
theorem dX12_rule_11 : decode cX12_rule 11 = .ok (.if_icmp .ne 9, 3) := by decide +kernel
theorem dX12_rule_20 : decode cX12_rule 20 = .ok (.aload_n 0, 1) := by decide +kernel
theorem dX12_rule_21 : decode cX12_rule 21 = .ok (.iconst 1, 1) := by decide +kernel
theorem dX12_rule_22 : decode cX12_rule 22 = .ok (.bipush 40, 2) := by decide +kernel
theorem dX12_rule_24 : decode cX12_rule 24 = .ok (.invokevirtual 255, 3) := by decide +kernel
theorem dX12_rule_27 : decode cX12_rule 27 = .ok (.aload_n 0, 1) := by decide +kernel
theorem dX12_rule_28 : decode cX12_rule 28 = .ok (.invokevirtual 219, 3) := by decide +kernel
theorem dX12_rule_31 : decode cX12_rule 31 = .ok (.ifCond .eq 16, 3) := by decide +kernel
theorem dX12_rule_47 : decode cX12_rule 47 = .ok (.iconst 0, 1) := by decide +kernel
theorem dX12_rule_48 : decode cX12_rule 48 = .ok (.istore_n 1, 1) := by decide +kernel
theorem dX12_rule_49 : decode cX12_rule 49 = .ok (.aload_n 0, 1) := by decide +kernel
theorem dX12_rule_50 : decode cX12_rule 50 = .ok (.getfield 117, 3) := by decide +kernel
theorem dX12_rule_53 : decode cX12_rule 53 = .ok (.istore_n 2, 1) := by decide +kernel
theorem dX12_rule_54 : decode cX12_rule 54 = .ok (.aload_n 0, 1) := by decide +kernel
theorem dX12_rule_55 : decode cX12_rule 55 = .ok (.iconst 1, 1) := by decide +kernel
theorem dX12_rule_56 : decode cX12_rule 56 = .ok (.putfield 225, 3) := by decide +kernel
theorem dX12_rule_59 : decode cX12_rule 59 = .ok (.iload_n 1, 1) := by decide +kernel
theorem dX12_rule_60 : decode cX12_rule 60 = .ok (.ifCond .eq 29, 3) := by decide +kernel
theorem dX12_rule_89 : decode cX12_rule 89 = .ok (.iconst 0, 1) := by decide +kernel
theorem dX12_rule_90 : decode cX12_rule 90 = .ok (.istore_n 1, 1) := by decide +kernel
theorem dX12_rule_91 : decode cX12_rule 91 = .ok (.aload_n 0, 1) := by decide +kernel
theorem dX12_rule_92 : decode cX12_rule 92 = .ok (.invokevirtual 252, 3) := by decide +kernel
theorem dX12_rule_95 : decode cX12_rule 95 = .ok (.iload_n 1, 1) := by decide +kernel
theorem dX12_rule_96 : decode cX12_rule 96 = .ok (.ifCond .ne 5, 3) := by decide +kernel
theorem dX12_rule_99 : decode cX12_rule 99 = .ok (.iconst (-1), 1) := by decide +kernel
theorem dX12_rule_100 : decode cX12_rule 100 = .ok (.ireturn, 1) := by decide +kernel
theorem dX12_ruleOf_0 : decode cX12_ruleOf 0 = .ok (.iload_n 1, 1) := by decide +kernel
theorem dX12_ruleOf_1 : decode cX12_ruleOf 1 = .ok (.iconst 0, 1) := by decide +kernel
theorem dX12_ruleOf_2 : decode cX12_ruleOf 2 = .ok (.aload_n 0, 1) := by decide +kernel
theorem dX12_ruleOf_3 : decode cX12_ruleOf 3 = .ok (.getfield 268, 3) := by decide +kernel
theorem dX12_ruleOf_6 : decode cX12_ruleOf 6 = .ok (.iconst 1, 1) := by decide +kernel
theorem dX12_ruleOf_7 : decode cX12_ruleOf 7 = .ok (.isub, 1) := by decide +kernel
theorem dX12_ruleOf_8 : decode cX12_ruleOf 8 = .ok (.invokestatic 90, 3) := by decide +kernel
theorem dX12_ruleOf_11 : decode cX12_ruleOf 11 = .ok (.ifCond .eq 12, 3) := by decide +kernel
theorem dX12_ruleOf_23 : decode cX12_ruleOf 23 = .ok (.bipush (-2), 2) := by decide +kernel
theorem dX12_ruleOf_25 : decode cX12_ruleOf 25 = .ok (.ireturn, 1) := by decide +kernel
theorem dX12_run_0 : decode cX12_run 0 = .ok (.iload_n 1, 1) := by decide +kernel
theorem dX12_run_1 : decode cX12_run 1 = .ok (.invokestatic 249, 3) := by decide +kernel
theorem dX12_run_4 : decode cX12_run 4 = .ok (.ifCond .eq 23, 3) := by decide +kernel
theorem dX12_run_7 : decode cX12_run 7 = .ok (.iload_n 2, 1) := by decide +kernel
theorem dX12_run_8 : decode cX12_run 8 = .ok (.iconst 0, 1) := by decide +kernel
theorem dX12_run_9 : decode cX12_run 9 = .ok (.bipush 15, 2) := by decide +kernel
theorem dX12_run_11 : decode cX12_run 11 = .ok (.invokestatic 90, 3) := by decide +kernel
theorem dX12_run_14 : decode cX12_run 14 = .ok (.ifCond .eq 13, 3) := by decide +kernel
theorem dX12_run_17 : decode cX12_run 17 = .ok (.iload_n 3, 1) := by decide +kernel
theorem dX12_run_18 : decode cX12_run 18 = .ok (.iconst 0, 1) := by decide +kernel
theorem dX12_run_19 : decode cX12_run 19 = .ok (.bipush 15, 2) := by decide +kernel
theorem dX12_run_21 : decode cX12_run 21 = .ok (.invokestatic 90, 3) := by decide +kernel
theorem dX12_run_24 : decode cX12_run 24 = .ok (.ifCond .ne 5, 3) := by decide +kernel
theorem dX12_run_27 : decode cX12_run 27 = .ok (.iconst (-1), 1) := by decide +kernel
theorem dX12_run_28 : decode cX12_run 28 = .ok (.ireturn, 1) := by decide +kernel
theorem dX12_run_29 : decode cX12_run 29 = .ok (.aload_n 0, 1) := by decide +kernel
theorem dX12_run_30 : decode cX12_run 30 = .ok (.iload_n 1, 1) := by decide +kernel
theorem dX12_run_31 : decode cX12_run 31 = .ok (.invokevirtual 271, 3) := by decide +kernel
theorem dX12_run_34 : decode cX12_run 34 = .ok (.aload_n 0, 1) := by decide +kernel
theorem dX12_run_35 : decode cX12_run 35 = .ok (.iload_n 2, 1) := by decide +kernel
theorem dX12_run_36 : decode cX12_run 36 = .ok (.iload_n 3, 1) := by decide +kernel
theorem dX12_run_37 : decode cX12_run 37 = .ok (.invokevirtual 315, 3) := by decide +kernel
theorem dX12_run_40 : decode cX12_run 40 = .ok (.iload 4, 2) := by decide +kernel
theorem dX12_run_42 : decode cX12_run 42 = .ok (.bipush 10, 2) := by decide +kernel
theorem dX12_run_44 : decode cX12_run 44 = .ok (.bipush 15, 2) := by decide +kernel
theorem dX12_run_46 : decode cX12_run 46 = .ok (.invokestatic 90, 3) := by decide +kernel
theorem dX12_run_49 : decode cX12_run 49 = .ok (.ifCond .eq 14, 3) := by decide +kernel
theorem dX12_run_52 : decode cX12_run 52 = .ok (.aload_n 0, 1) := by decide +kernel
theorem dX12_run_53 : decode cX12_run 53 = .ok (.getfield 41, 3) := by decide +kernel
theorem dX12_run_56 : decode cX12_run 56 = .ok (.iload 4, 2) := by decide +kernel
theorem dX12_run_58 : decode cX12_run 58 = .ok (.bipush 10, 2) := by decide +kernel
theorem dX12_run_60 : decode cX12_run 60 = .ok (.isub, 1) := by decide +kernel
theorem dX12_run_61 : decode cX12_run 61 = .ok (.iaload, 1) := by decide +kernel
theorem dX12_run_62 : decode cX12_run 62 = .ok (.ireturn, 1) := by decide +kernel
theorem dX12_run_63 : decode cX12_run 63 = .ok (.iload 4, 2) := by decide +kernel
theorem dX12_run_65 : decode cX12_run 65 = .ok (.bipush 100, 2) := by decide +kernel
theorem dX12_run_67 : decode cX12_run 67 = .ok (.bipush 99, 2) := by decide +kernel
theorem dX12_run_69 : decode cX12_run 69 = .ok (.aload_n 0, 1) := by decide +kernel
theorem dX12_run_70 : decode cX12_run 70 = .ok (.getfield 312, 3) := by decide +kernel
theorem dX12_run_73 : decode cX12_run 73 = .ok (.iadd, 1) := by decide +kernel
theorem dX12_run_74 : decode cX12_run 74 = .ok (.invokestatic 90, 3) := by decide +kernel
theorem dX12_run_77 : decode cX12_run 77 = .ok (.ifCond .eq 14, 3) := by decide +kernel
theorem dX12_run_91 : decode cX12_run 91 = .ok (.iload 4, 2) := by decide +kernel
theorem dX12_run_93 : decode cX12_run 93 = .ok (.ifCond .ne 10, 3) := by decide +kernel
theorem dX12_run_96 : decode cX12_run 96 = .ok (.aload_n 0, 1) := by decide +kernel
theorem dX12_run_97 : decode cX12_run 97 = .ok (.getfield 294, 3) := by decide +kernel
theorem dX12_run_100 : decode cX12_run 100 = .ok (.goto 30, 3) := by decide +kernel
theorem dX12_run_103 : decode cX12_run 103 = .ok (.iload 4, 2) := by decide +kernel
theorem dX12_run_105 : decode cX12_run 105 = .ok (.iconst 1, 1) := by decide +kernel
theorem dX12_run_106 : decode cX12_run 106 = .ok (.if_icmp .ne 10, 3) := by decide +kernel
theorem dX12_run_109 : decode cX12_run 109 = .ok (.aload_n 0, 1) := by decide +kernel
theorem dX12_run_110 : decode cX12_run 110 = .ok (.getfield 291, 3) := by decide +kernel
theorem dX12_run_113 : decode cX12_run 113 = .ok (.goto 17, 3) := by decide +kernel
theorem dX12_run_116 : decode cX12_run 116 = .ok (.iload 4, 2) := by decide +kernel
theorem dX12_run_118 : decode cX12_run 118 = .ok (.iconst 2, 1) := by decide +kernel
theorem dX12_run_119 : decode cX12_run 119 = .ok (.if_icmp .ne 10, 3) := by decide +kernel
theorem dX12_run_122 : decode cX12_run 122 = .ok (.aload_n 0, 1) := by decide +kernel
theorem dX12_run_123 : decode cX12_run 123 = .ok (.getfield 312, 3) := by decide +kernel
theorem dX12_run_126 : decode cX12_run 126 = .ok (.goto 4, 3) := by decide +kernel
theorem dX12_run_129 : decode cX12_run 129 = .ok (.iconst (-1), 1) := by decide +kernel
theorem dX12_run_130 : decode cX12_run 130 = .ok (.ireturn, 1) := by decide +kernel
theorem dX12_runs_0 : decode cX12_runs 0 = .ok (.iconst 0, 1) := by decide +kernel
theorem dX12_runs_1 : decode cX12_runs 1 = .ok (.istore_n 3, 1) := by decide +kernel
theorem dX12_runs_2 : decode cX12_runs 2 = .ok (.iload_n 3, 1) := by decide +kernel
theorem dX12_runs_3 : decode cX12_runs 3 = .ok (.bipush 6, 2) := by decide +kernel
theorem dX12_runs_5 : decode cX12_runs 5 = .ok (.if_icmp .ge 33, 3) := by decide +kernel
theorem dX12_runs_8 : decode cX12_runs 8 = .ok (.aload_n 0, 1) := by decide +kernel
theorem dX12_runs_9 : decode cX12_runs 9 = .ok (.getfield 41, 3) := by decide +kernel
theorem dX12_runs_12 : decode cX12_runs 12 = .ok (.iload_n 3, 1) := by decide +kernel
theorem dX12_runs_13 : decode cX12_runs 13 = .ok (.iload_n 3, 1) := by decide +kernel
theorem dX12_runs_14 : decode cX12_runs 14 = .ok (.ifCond .ne 7, 3) := by decide +kernel
theorem dX12_runs_17 : decode cX12_runs 17 = .ok (.iload_n 1, 1) := by decide +kernel
theorem dX12_runs_18 : decode cX12_runs 18 = .ok (.goto 13, 3) := by decide +kernel
theorem dX12_runs_21 : decode cX12_runs 21 = .ok (.iload_n 3, 1) := by decide +kernel
theorem dX12_runs_22 : decode cX12_runs 22 = .ok (.iconst 1, 1) := by decide +kernel
theorem dX12_runs_23 : decode cX12_runs 23 = .ok (.if_icmp .ne 7, 3) := by decide +kernel
theorem dX12_runs_26 : decode cX12_runs 26 = .ok (.iload_n 2, 1) := by decide +kernel
theorem dX12_runs_27 : decode cX12_runs 27 = .ok (.goto 4, 3) := by decide +kernel
theorem dX12_runs_30 : decode cX12_runs 30 = .ok (.iconst 0, 1) := by decide +kernel
theorem dX12_runs_31 : decode cX12_runs 31 = .ok (.iastore, 1) := by decide +kernel
theorem dX12_runs_32 : decode cX12_runs 32 = .ok (.iinc 3 1, 3) := by decide +kernel
theorem dX12_runs_35 : decode cX12_runs 35 = .ok (.goto (-33), 3) := by decide +kernel
theorem dX12_runs_38 : decode cX12_runs 38 = .ok (.aload_n 0, 1) := by decide +kernel
theorem dX12_runs_39 : decode cX12_runs 39 = .ok (.iconst 0, 1) := by decide +kernel
theorem dX12_runs_40 : decode cX12_runs 40 = .ok (.putfield 291, 3) := by decide +kernel
theorem dX12_runs_43 : decode cX12_runs 43 = .ok (.aload_n 0, 1) := by decide +kernel
theorem dX12_runs_44 : decode cX12_runs 44 = .ok (.iconst 0, 1) := by decide +kernel
theorem dX12_runs_45 : decode cX12_runs 45 = .ok (.putfield 294, 3) := by decide +kernel
theorem dX12_runs_48 : decode cX12_runs 48 = .ok (.aload_n 0, 1) := by decide +kernel
theorem dX12_runs_49 : decode cX12_runs 49 = .ok (.iconst 0, 1) := by decide +kernel
theorem dX12_runs_50 : decode cX12_runs 50 = .ok (.putfield 312, 3) := by decide +kernel
theorem dX12_runs_53 : decode cX12_runs 53 = .ok (.aload_n 0, 1) := by decide +kernel
theorem dX12_runs_54 : decode cX12_runs 54 = .ok (.iconst 0, 1) := by decide +kernel
theorem dX12_runs_55 : decode cX12_runs 55 = .ok (.invokevirtual 306, 3) := by decide +kernel
theorem dX12_runs_58 : decode cX12_runs 58 = .ok (.pop, 1) := by decide +kernel
theorem dX12_runs_59 : decode cX12_runs 59 = .ok (.return_, 1) := by decide +kernel
theorem dX12_see_0 : decode cX12_see 0 = .ok (.iload_n 1, 1) := by decide +kernel
theorem dX12_see_1 : decode cX12_see 1 = .ok (.aload_n 0, 1) := by decide +kernel
theorem dX12_see_2 : decode cX12_see 2 = .ok (.getfield 124, 3) := by decide +kernel
theorem dX12_see_5 : decode cX12_see 5 = .ok (.if_icmp .ge 12, 3) := by decide +kernel
theorem dX12_see_17 : decode cX12_see 17 = .ok (.iconst (-1), 1) := by decide +kernel
theorem dX12_see_18 : decode cX12_see 18 = .ok (.ireturn, 1) := by decide +kernel
theorem dX12_sets_0 : decode cX12_sets 0 = .ok (.iconst 0, 1) := by decide +kernel
theorem dX12_sets_1 : decode cX12_sets 1 = .ok (.istore 4, 2) := by decide +kernel
theorem dX12_sets_3 : decode cX12_sets 3 = .ok (.iload_n 1, 1) := by decide +kernel
theorem dX12_sets_4 : decode cX12_sets 4 = .ok (.istore 5, 2) := by decide +kernel
theorem dX12_sets_6 : decode cX12_sets 6 = .ok (.iload 5, 2) := by decide +kernel
theorem dX12_sets_8 : decode cX12_sets 8 = .ok (.iload_n 2, 1) := by decide +kernel
theorem dX12_sets_9 : decode cX12_sets 9 = .ok (.if_icmp .ge 35, 3) := by decide +kernel
theorem dX12_sets_44 : decode cX12_sets 44 = .ok (.iload 4, 2) := by decide +kernel
theorem dX12_sets_46 : decode cX12_sets 46 = .ok (.ireturn, 1) := by decide +kernel
theorem dX12_size_0 : decode cX12_size 0 = .ok (.iload_n 1, 1) := by decide +kernel
theorem dX12_size_1 : decode cX12_size 1 = .ok (.invokestatic 249, 3) := by decide +kernel
theorem dX12_size_4 : decode cX12_size 4 = .ok (.ifCond .eq 12, 3) := by decide +kernel
theorem dX12_size_7 : decode cX12_size 7 = .ok (.iload_n 2, 1) := by decide +kernel
theorem dX12_size_8 : decode cX12_size 8 = .ok (.iconst 0, 1) := by decide +kernel
theorem dX12_size_9 : decode cX12_size 9 = .ok (.iconst 3, 1) := by decide +kernel
theorem dX12_size_10 : decode cX12_size 10 = .ok (.invokestatic 90, 3) := by decide +kernel
theorem dX12_size_13 : decode cX12_size 13 = .ok (.ifCond .ne 5, 3) := by decide +kernel
theorem dX12_size_16 : decode cX12_size 16 = .ok (.iconst (-1), 1) := by decide +kernel
theorem dX12_size_17 : decode cX12_size 17 = .ok (.ireturn, 1) := by decide +kernel
theorem dX12_size_18 : decode cX12_size 18 = .ok (.aload_n 0, 1) := by decide +kernel
theorem dX12_size_19 : decode cX12_size 19 = .ok (.iload_n 1, 1) := by decide +kernel
theorem dX12_size_20 : decode cX12_size 20 = .ok (.invokevirtual 271, 3) := by decide +kernel
theorem dX12_size_23 : decode cX12_size 23 = .ok (.iload_n 2, 1) := by decide +kernel
theorem dX12_size_24 : decode cX12_size 24 = .ok (.ifCond .ne 10, 3) := by decide +kernel
theorem dX12_size_27 : decode cX12_size 27 = .ok (.aload_n 0, 1) := by decide +kernel
theorem dX12_size_28 : decode cX12_size 28 = .ok (.invokevirtual 265, 3) := by decide +kernel
theorem dX12_size_31 : decode cX12_size 31 = .ok (.goto 33, 3) := by decide +kernel
theorem dX12_size_34 : decode cX12_size 34 = .ok (.iload_n 2, 1) := by decide +kernel
theorem dX12_size_35 : decode cX12_size 35 = .ok (.iconst 1, 1) := by decide +kernel
theorem dX12_size_36 : decode cX12_size 36 = .ok (.if_icmp .ne 10, 3) := by decide +kernel
theorem dX12_size_39 : decode cX12_size 39 = .ok (.aload_n 0, 1) := by decide +kernel
theorem dX12_size_40 : decode cX12_size 40 = .ok (.invokevirtual 274, 3) := by decide +kernel
theorem dX12_size_43 : decode cX12_size 43 = .ok (.goto 21, 3) := by decide +kernel
theorem dX12_size_46 : decode cX12_size 46 = .ok (.iload_n 2, 1) := by decide +kernel
theorem dX12_size_47 : decode cX12_size 47 = .ok (.iconst 2, 1) := by decide +kernel
theorem dX12_size_48 : decode cX12_size 48 = .ok (.if_icmp .ne 10, 3) := by decide +kernel
theorem dX12_size_51 : decode cX12_size 51 = .ok (.aload_n 0, 1) := by decide +kernel
theorem dX12_size_52 : decode cX12_size 52 = .ok (.getfield 98, 3) := by decide +kernel
theorem dX12_size_55 : decode cX12_size 55 = .ok (.goto 9, 3) := by decide +kernel
theorem dX12_size_58 : decode cX12_size 58 = .ok (.aload_n 0, 1) := by decide +kernel
theorem dX12_size_59 : decode cX12_size 59 = .ok (.iconst 0, 1) := by decide +kernel
theorem dX12_size_60 : decode cX12_size 60 = .ok (.iconst 0, 1) := by decide +kernel
theorem dX12_size_61 : decode cX12_size 61 = .ok (.invokevirtual 277, 3) := by decide +kernel
theorem dX12_size_64 : decode cX12_size 64 = .ok (.ireturn, 1) := by decide +kernel
theorem dX12_spills_0 : decode cX12_spills 0 = .ok (.iconst (-1), 1) := by decide +kernel
theorem dX12_spills_1 : decode cX12_spills 1 = .ok (.istore_n 3, 1) := by decide +kernel
theorem dX12_spills_2 : decode cX12_spills 2 = .ok (.iconst 0, 1) := by decide +kernel
theorem dX12_spills_3 : decode cX12_spills 3 = .ok (.istore 4, 2) := by decide +kernel
theorem dX12_spills_5 : decode cX12_spills 5 = .ok (.iload 4, 2) := by decide +kernel
theorem dX12_spills_7 : decode cX12_spills 7 = .ok (.bipush 64, 2) := by decide +kernel
theorem dX12_spills_9 : decode cX12_spills 9 = .ok (.if_icmp .ge 54, 3) := by decide +kernel
theorem dX12_spills_12 : decode cX12_spills 12 = .ok (.iload 4, 2) := by decide +kernel
theorem dX12_spills_14 : decode cX12_spills 14 = .ok (.iload_n 1, 1) := by decide +kernel
theorem dX12_spills_15 : decode cX12_spills 15 = .ok (.iconst (-1), 1) := by decide +kernel
theorem dX12_spills_16 : decode cX12_spills 16 = .ok (.ixor, 1) := by decide +kernel
theorem dX12_spills_17 : decode cX12_spills 17 = .ok (.iand, 1) := by decide +kernel
theorem dX12_spills_18 : decode cX12_spills 18 = .ok (.ifCond .ne 39, 3) := by decide +kernel
theorem dX12_spills_21 : decode cX12_spills 21 = .ok (.iload_n 3, 1) := by decide +kernel
theorem dX12_spills_22 : decode cX12_spills 22 = .ok (.iconst (-1), 1) := by decide +kernel
theorem dX12_spills_23 : decode cX12_spills 23 = .ok (.if_icmp .eq 17, 3) := by decide +kernel
theorem dX12_spills_40 : decode cX12_spills 40 = .ok (.aload_n 0, 1) := by decide +kernel
theorem dX12_spills_41 : decode cX12_spills 41 = .ok (.iload_n 1, 1) := by decide +kernel
theorem dX12_spills_42 : decode cX12_spills 42 = .ok (.iload 4, 2) := by decide +kernel
theorem dX12_spills_44 : decode cX12_spills 44 = .ok (.iconst (-1), 1) := by decide +kernel
theorem dX12_spills_45 : decode cX12_spills 45 = .ok (.ixor, 1) := by decide +kernel
theorem dX12_spills_46 : decode cX12_spills 46 = .ok (.iand, 1) := by decide +kernel
theorem dX12_spills_47 : decode cX12_spills 47 = .ok (.iload_n 2, 1) := by decide +kernel
theorem dX12_spills_48 : decode cX12_spills 48 = .ok (.invokevirtual 466, 3) := by decide +kernel
theorem dX12_spills_51 : decode cX12_spills 51 = .ok (.ifCond .eq 6, 3) := by decide +kernel
theorem dX12_spills_54 : decode cX12_spills 54 = .ok (.iload 4, 2) := by decide +kernel
theorem dX12_spills_56 : decode cX12_spills 56 = .ok (.istore_n 3, 1) := by decide +kernel
theorem dX12_spills_57 : decode cX12_spills 57 = .ok (.iinc 4 1, 3) := by decide +kernel
theorem dX12_spills_60 : decode cX12_spills 60 = .ok (.goto (-55), 3) := by decide +kernel
theorem dX12_spills_63 : decode cX12_spills 63 = .ok (.iload_n 3, 1) := by decide +kernel
theorem dX12_spills_64 : decode cX12_spills 64 = .ok (.ireturn, 1) := by decide +kernel
theorem dX12_statements_0 : decode cX12_statements 0 = .ok (.iconst 0, 1) := by decide +kernel
theorem dX12_statements_1 : decode cX12_statements 1 = .ok (.istore_n 1, 1) := by decide +kernel
theorem dX12_statements_2 : decode cX12_statements 2 = .ok (.iconst 0, 1) := by decide +kernel
theorem dX12_statements_3 : decode cX12_statements 3 = .ok (.istore_n 2, 1) := by decide +kernel
theorem dX12_statements_4 : decode cX12_statements 4 = .ok (.iload_n 2, 1) := by decide +kernel
theorem dX12_statements_5 : decode cX12_statements 5 = .ok (.aload_n 0, 1) := by decide +kernel
theorem dX12_statements_6 : decode cX12_statements 6 = .ok (.getfield 98, 3) := by decide +kernel
theorem dX12_statements_9 : decode cX12_statements 9 = .ok (.if_icmp .ge 29, 3) := by decide +kernel
theorem dX12_statements_38 : decode cX12_statements 38 = .ok (.iload_n 1, 1) := by decide +kernel
theorem dX12_statements_39 : decode cX12_statements 39 = .ok (.ireturn, 1) := by decide +kernel
theorem dX12_sumUp_0 : decode cX12_sumUp 0 = .ok (.aload_n 0, 1) := by decide +kernel
theorem dX12_sumUp_1 : decode cX12_sumUp 1 = .ok (.getfield 117, 3) := by decide +kernel
theorem dX12_sumUp_4 : decode cX12_sumUp 4 = .ok (.istore_n 1, 1) := by decide +kernel
theorem dX12_sumUp_5 : decode cX12_sumUp 5 = .ok (.aload_n 0, 1) := by decide +kernel
theorem dX12_sumUp_6 : decode cX12_sumUp 6 = .ok (.invokevirtual 203, 3) := by decide +kernel
theorem dX12_sumUp_9 : decode cX12_sumUp 9 = .ok (.ifCond .ne 5, 3) := by decide +kernel
theorem dX12_sumUp_12 : decode cX12_sumUp 12 = .ok (.iconst 0, 1) := by decide +kernel
theorem dX12_sumUp_13 : decode cX12_sumUp 13 = .ok (.ireturn, 1) := by decide +kernel
theorem dX12_takes_0 : decode cX12_takes 0 = .ok (.aload_n 0, 1) := by decide +kernel
theorem dX12_takes_1 : decode cX12_takes 1 = .ok (.aload_n 0, 1) := by decide +kernel
theorem dX12_takes_2 : decode cX12_takes 2 = .ok (.getfield 13, 3) := by decide +kernel
theorem dX12_takes_5 : decode cX12_takes 5 = .ok (.iload_n 1, 1) := by decide +kernel
theorem dX12_takes_6 : decode cX12_takes 6 = .ok (.iaload, 1) := by decide +kernel
theorem dX12_takes_7 : decode cX12_takes 7 = .ok (.putfield 98, 3) := by decide +kernel
theorem dX12_takes_10 : decode cX12_takes 10 = .ok (.iconst 0, 1) := by decide +kernel
theorem dX12_takes_11 : decode cX12_takes 11 = .ok (.istore_n 2, 1) := by decide +kernel
theorem dX12_takes_12 : decode cX12_takes 12 = .ok (.iload_n 2, 1) := by decide +kernel
theorem dX12_takes_13 : decode cX12_takes 13 = .ok (.aload_n 0, 1) := by decide +kernel
theorem dX12_takes_14 : decode cX12_takes 14 = .ok (.getfield 98, 3) := by decide +kernel
theorem dX12_takes_17 : decode cX12_takes 17 = .ok (.if_icmp .ge 27, 3) := by decide +kernel
theorem dX12_takes_44 : decode cX12_takes 44 = .ok (.return_, 1) := by decide +kernel
theorem dX12_turns_0 : decode cX12_turns 0 = .ok (.aload_n 0, 1) := by decide +kernel
theorem dX12_turns_1 : decode cX12_turns 1 = .ok (.aload_n 0, 1) := by decide +kernel
theorem dX12_turns_2 : decode cX12_turns 2 = .ok (.getfield 117, 3) := by decide +kernel
theorem dX12_turns_5 : decode cX12_turns 5 = .ok (.putfield 98, 3) := by decide +kernel
theorem dX12_turns_8 : decode cX12_turns 8 = .ok (.iconst 0, 1) := by decide +kernel
theorem dX12_turns_9 : decode cX12_turns 9 = .ok (.istore_n 1, 1) := by decide +kernel
theorem dX12_turns_10 : decode cX12_turns 10 = .ok (.iload_n 1, 1) := by decide +kernel
theorem dX12_turns_11 : decode cX12_turns 11 = .ok (.aload_n 0, 1) := by decide +kernel
theorem dX12_turns_12 : decode cX12_turns 12 = .ok (.getfield 98, 3) := by decide +kernel
theorem dX12_turns_15 : decode cX12_turns 15 = .ok (.if_icmp .ge 21, 3) := by decide +kernel
theorem dX12_turns_36 : decode cX12_turns 36 = .ok (.aload_n 0, 1) := by decide +kernel
theorem dX12_turns_37 : decode cX12_turns 37 = .ok (.iconst 0, 1) := by decide +kernel
theorem dX12_turns_38 : decode cX12_turns 38 = .ok (.putfield 117, 3) := by decide +kernel
theorem dX12_turns_41 : decode cX12_turns 41 = .ok (.return_, 1) := by decide +kernel
theorem dX12_unit_0 : decode cX12_unit 0 = .ok (.aload_n 0, 1) := by decide +kernel
theorem dX12_unit_1 : decode cX12_unit 1 = .ok (.getfield 164, 3) := by decide +kernel
theorem dX12_unit_4 : decode cX12_unit 4 = .ok (.bipush 40, 2) := by decide +kernel
theorem dX12_unit_6 : decode cX12_unit 6 = .ok (.if_icmp .ne 34, 3) := by decide +kernel
theorem dX12_unit_40 : decode cX12_unit 40 = .ok (.aload_n 0, 1) := by decide +kernel
theorem dX12_unit_41 : decode cX12_unit 41 = .ok (.getfield 164, 3) := by decide +kernel
theorem dX12_unit_44 : decode cX12_unit 44 = .ok (.iconst 2, 1) := by decide +kernel
theorem dX12_unit_45 : decode cX12_unit 45 = .ok (.if_icmp .ne 18, 3) := by decide +kernel
theorem dX12_unit_63 : decode cX12_unit 63 = .ok (.aload_n 0, 1) := by decide +kernel
theorem dX12_unit_64 : decode cX12_unit 64 = .ok (.getfield 164, 3) := by decide +kernel
theorem dX12_unit_67 : decode cX12_unit 67 = .ok (.sipush 320, 3) := by decide +kernel
theorem dX12_unit_70 : decode cX12_unit 70 = .ok (.if_icmp .lt 7, 3) := by decide +kernel
theorem dX12_unit_77 : decode cX12_unit 77 = .ok (.iconst 0, 1) := by decide +kernel
theorem dX12_unit_78 : decode cX12_unit 78 = .ok (.istore_n 1, 1) := by decide +kernel
theorem dX12_unit_79 : decode cX12_unit 79 = .ok (.aload_n 0, 1) := by decide +kernel
theorem dX12_unit_80 : decode cX12_unit 80 = .ok (.getfield 164, 3) := by decide +kernel
theorem dX12_unit_83 : decode cX12_unit 83 = .ok (.iconst 2, 1) := by decide +kernel
theorem dX12_unit_84 : decode cX12_unit 84 = .ok (.if_icmp .eq 13, 3) := by decide +kernel
theorem dX12_unit_87 : decode cX12_unit 87 = .ok (.iload_n 1, 1) := by decide +kernel
theorem dX12_unit_88 : decode cX12_unit 88 = .ok (.ifCond .ne 9, 3) := by decide +kernel
theorem dX12_unit_91 : decode cX12_unit 91 = .ok (.aload_n 0, 1) := by decide +kernel
theorem dX12_unit_92 : decode cX12_unit 92 = .ok (.iconst 1, 1) := by decide +kernel
theorem dX12_unit_93 : decode cX12_unit 93 = .ok (.invokevirtual 185, 3) := by decide +kernel
theorem dX12_unit_96 : decode cX12_unit 96 = .ok (.ireturn, 1) := by decide +kernel
theorem dX1_aheadOf_0 : decode cX1_aheadOf 0 = .ok (.aload_n 0, 1) := by decide +kernel
theorem dX1_aheadOf_1 : decode cX1_aheadOf 1 = .ok (.iload_n 1, 1) := by decide +kernel
theorem dX1_aheadOf_2 : decode cX1_aheadOf 2 = .ok (.invokevirtual 70, 3) := by decide +kernel
theorem dX1_aheadOf_5 : decode cX1_aheadOf 5 = .ok (.ifCond .eq 12, 3) := by decide +kernel
theorem dX1_aheadOf_17 : decode cX1_aheadOf 17 = .ok (.iconst 0, 1) := by decide +kernel
theorem dX1_aheadOf_18 : decode cX1_aheadOf 18 = .ok (.ireturn, 1) := by decide +kernel
theorem dX1_init_0 : decode cX1_init 0 = .ok (.aload_n 0, 1) := by decide +kernel
theorem dX1_init_1 : decode cX1_init 1 = .ok (.invokespecial 3, 3) := by decide +kernel
theorem dX1_init_4 : decode cX1_init 4 = .ok (.aload_n 0, 1) := by decide +kernel
theorem dX1_init_5 : decode cX1_init 5 = .ok (.new 9, 3) := by decide +kernel
theorem dX1_init_8 : decode cX1_init 8 = .ok (.dup, 1) := by decide +kernel
theorem dX1_init_9 : decode cX1_init 9 = .ok (.iconst 1, 1) := by decide +kernel
theorem dX1_init_10 : decode cX1_init 10 = .ok (.invokespecial 11, 3) := by decide +kernel
theorem dX1_init_13 : decode cX1_init 13 = .ok (.putfield 14, 3) := by decide +kernel
theorem dX1_init_16 : decode cX1_init 16 = .ok (.aload_n 0, 1) := by decide +kernel
theorem dX1_init_17 : decode cX1_init 17 = .ok (.bipush 40, 2) := by decide +kernel
theorem dX1_init_19 : decode cX1_init 19 = .ok (.newarray .int, 2) := by decide +kernel
theorem dX1_init_21 : decode cX1_init 21 = .ok (.putfield 20, 3) := by decide +kernel
theorem dX1_init_24 : decode cX1_init 24 = .ok (.aload_n 0, 1) := by decide +kernel
theorem dX1_init_25 : decode cX1_init 25 = .ok (.bipush 40, 2) := by decide +kernel
theorem dX1_init_27 : decode cX1_init 27 = .ok (.newarray .int, 2) := by decide +kernel
theorem dX1_init_29 : decode cX1_init 29 = .ok (.putfield 24, 3) := by decide +kernel
theorem dX1_init_32 : decode cX1_init 32 = .ok (.aload_n 0, 1) := by decide +kernel
theorem dX1_init_33 : decode cX1_init 33 = .ok (.bipush 40, 2) := by decide +kernel
theorem dX1_init_35 : decode cX1_init 35 = .ok (.newarray .int, 2) := by decide +kernel
theorem dX1_init_37 : decode cX1_init 37 = .ok (.putfield 27, 3) := by decide +kernel
theorem dX1_init_40 : decode cX1_init 40 = .ok (.aload_n 0, 1) := by decide +kernel
theorem dX1_init_41 : decode cX1_init 41 = .ok (.bipush 40, 2) := by decide +kernel
theorem dX1_init_43 : decode cX1_init 43 = .ok (.newarray .int, 2) := by decide +kernel
theorem dX1_init_45 : decode cX1_init 45 = .ok (.putfield 30, 3) := by decide +kernel
theorem dX1_init_48 : decode cX1_init 48 = .ok (.aload_n 0, 1) := by decide +kernel
theorem dX1_init_49 : decode cX1_init 49 = .ok (.bipush 40, 2) := by decide +kernel
theorem dX1_init_51 : decode cX1_init 51 = .ok (.newarray .int, 2) := by decide +kernel
theorem dX1_init_53 : decode cX1_init 53 = .ok (.putfield 33, 3) := by decide +kernel
theorem dX1_init_56 : decode cX1_init 56 = .ok (.aload_n 0, 1) := by decide +kernel
theorem dX1_init_57 : decode cX1_init 57 = .ok (.bipush 40, 2) := by decide +kernel
theorem dX1_init_59 : decode cX1_init 59 = .ok (.newarray .int, 2) := by decide +kernel
theorem dX1_init_61 : decode cX1_init 61 = .ok (.putfield 36, 3) := by decide +kernel
theorem dX1_init_64 : decode cX1_init 64 = .ok (.aload_n 0, 1) := by decide +kernel
theorem dX1_init_65 : decode cX1_init 65 = .ok (.bipush 40, 2) := by decide +kernel
theorem dX1_init_67 : decode cX1_init 67 = .ok (.newarray .int, 2) := by decide +kernel
theorem dX1_init_69 : decode cX1_init 69 = .ok (.putfield 39, 3) := by decide +kernel
theorem dX1_init_72 : decode cX1_init 72 = .ok (.aload_n 0, 1) := by decide +kernel
theorem dX1_init_73 : decode cX1_init 73 = .ok (.bipush 40, 2) := by decide +kernel
theorem dX1_init_75 : decode cX1_init 75 = .ok (.newarray .int, 2) := by decide +kernel
theorem dX1_init_77 : decode cX1_init 77 = .ok (.putfield 42, 3) := by decide +kernel
theorem dX1_init_80 : decode cX1_init 80 = .ok (.aload_n 0, 1) := by decide +kernel
theorem dX1_init_81 : decode cX1_init 81 = .ok (.bipush 40, 2) := by decide +kernel
theorem dX1_init_83 : decode cX1_init 83 = .ok (.newarray .int, 2) := by decide +kernel
theorem dX1_init_85 : decode cX1_init 85 = .ok (.putfield 45, 3) := by decide +kernel
theorem dX1_init_88 : decode cX1_init 88 = .ok (.aload_n 0, 1) := by decide +kernel
theorem dX1_init_89 : decode cX1_init 89 = .ok (.bipush 40, 2) := by decide +kernel
theorem dX1_init_91 : decode cX1_init 91 = .ok (.newarray .int, 2) := by decide +kernel
theorem dX1_init_93 : decode cX1_init 93 = .ok (.putfield 48, 3) := by decide +kernel
theorem dX1_init_96 : decode cX1_init 96 = .ok (.aload_n 0, 1) := by decide +kernel
theorem dX1_init_97 : decode cX1_init 97 = .ok (.bipush 40, 2) := by decide +kernel
theorem dX1_init_99 : decode cX1_init 99 = .ok (.newarray .int, 2) := by decide +kernel
theorem dX1_init_101 : decode cX1_init 101 = .ok (.putfield 51, 3) := by decide +kernel
theorem dX1_init_104 : decode cX1_init 104 = .ok (.aload_n 0, 1) := by decide +kernel
theorem dX1_init_105 : decode cX1_init 105 = .ok (.sipush 480, 3) := by decide +kernel
theorem dX1_init_108 : decode cX1_init 108 = .ok (.newarray .int, 2) := by decide +kernel
theorem dX1_init_110 : decode cX1_init 110 = .ok (.putfield 54, 3) := by decide +kernel
theorem dX1_init_113 : decode cX1_init 113 = .ok (.aload_n 0, 1) := by decide +kernel
theorem dX1_init_114 : decode cX1_init 114 = .ok (.iconst 0, 1) := by decide +kernel
theorem dX1_init_115 : decode cX1_init 115 = .ok (.putfield 57, 3) := by decide +kernel
theorem dX1_init_118 : decode cX1_init 118 = .ok (.return_, 1) := by decide +kernel
theorem dX1_isHere_0 : decode cX1_isHere 0 = .ok (.iload_n 1, 1) := by decide +kernel
theorem dX1_isHere_1 : decode cX1_isHere 1 = .ok (.ifCond .lt 21, 3) := by decide +kernel
theorem dX1_isHere_4 : decode cX1_isHere 4 = .ok (.iload_n 1, 1) := by decide +kernel
theorem dX1_isHere_5 : decode cX1_isHere 5 = .ok (.aload_n 0, 1) := by decide +kernel
theorem dX1_isHere_6 : decode cX1_isHere 6 = .ok (.getfield 57, 3) := by decide +kernel
theorem dX1_isHere_9 : decode cX1_isHere 9 = .ok (.if_icmp .ge 13, 3) := by decide +kernel
theorem dX1_isHere_22 : decode cX1_isHere 22 = .ok (.iconst 0, 1) := by decide +kernel
theorem dX1_isHere_23 : decode cX1_isHere 23 = .ok (.ireturn, 1) := by decide +kernel
theorem dX1_link_0 : decode cX1_link 0 = .ok (.iconst (-1), 1) := by decide +kernel
theorem dX1_link_1 : decode cX1_link 1 = .ok (.istore_n 1, 1) := by decide +kernel
theorem dX1_link_2 : decode cX1_link 2 = .ok (.aload_n 0, 1) := by decide +kernel
theorem dX1_link_3 : decode cX1_link 3 = .ok (.getfield 14, 3) := by decide +kernel
theorem dX1_link_6 : decode cX1_link 6 = .ok (.getfield 78, 3) := by decide +kernel
theorem dX1_link_9 : decode cX1_link 9 = .ok (.aload_n 0, 1) := by decide +kernel
theorem dX1_link_10 : decode cX1_link 10 = .ok (.getfield 54, 3) := by decide +kernel
theorem dX1_link_13 : decode cX1_link 13 = .ok (.arraylength, 1) := by decide +kernel
theorem dX1_link_14 : decode cX1_link 14 = .ok (.invokestatic 103, 3) := by decide +kernel
theorem dX1_link_17 : decode cX1_link 17 = .ok (.iconst 1, 1) := by decide +kernel
theorem dX1_link_18 : decode cX1_link 18 = .ok (.isub, 1) := by decide +kernel
theorem dX1_link_19 : decode cX1_link 19 = .ok (.istore_n 2, 1) := by decide +kernel
theorem dX1_link_20 : decode cX1_link 20 = .ok (.iload_n 2, 1) := by decide +kernel
theorem dX1_link_21 : decode cX1_link 21 = .ok (.ifCond .lt 39, 3) := by decide +kernel
theorem dX1_link_60 : decode cX1_link 60 = .ok (.return_, 1) := by decide +kernel
theorem dX1_number_0 : decode cX1_number 0 = .ok (.iconst 0, 1) := by decide +kernel
theorem dX1_number_1 : decode cX1_number 1 = .ok (.istore_n 1, 1) := by decide +kernel
theorem dX1_number_2 : decode cX1_number 2 = .ok (.aload_n 0, 1) := by decide +kernel
theorem dX1_number_3 : decode cX1_number 3 = .ok (.iconst 0, 1) := by decide +kernel
theorem dX1_number_4 : decode cX1_number 4 = .ok (.putfield 57, 3) := by decide +kernel
theorem dX1_number_7 : decode cX1_number 7 = .ok (.iconst 0, 1) := by decide +kernel
theorem dX1_number_8 : decode cX1_number 8 = .ok (.istore_n 2, 1) := by decide +kernel
theorem dX1_number_9 : decode cX1_number 9 = .ok (.iload_n 2, 1) := by decide +kernel
theorem dX1_number_10 : decode cX1_number 10 = .ok (.aload_n 0, 1) := by decide +kernel
theorem dX1_number_11 : decode cX1_number 11 = .ok (.getfield 14, 3) := by decide +kernel
theorem dX1_number_14 : decode cX1_number 14 = .ok (.getfield 78, 3) := by decide +kernel
theorem dX1_number_17 : decode cX1_number 17 = .ok (.if_icmp .ge 218, 3) := by decide +kernel
theorem dX1_number_235 : decode cX1_number 235 = .ok (.return_, 1) := by decide +kernel
theorem dX1_settle_0 : decode cX1_settle 0 = .ok (.iconst 0, 1) := by decide +kernel
theorem dX1_settle_1 : decode cX1_settle 1 = .ok (.istore_n 1, 1) := by decide +kernel
theorem dX1_settle_2 : decode cX1_settle 2 = .ok (.iload_n 1, 1) := by decide +kernel
theorem dX1_settle_3 : decode cX1_settle 3 = .ok (.aload_n 0, 1) := by decide +kernel
theorem dX1_settle_4 : decode cX1_settle 4 = .ok (.getfield 57, 3) := by decide +kernel
theorem dX1_settle_7 : decode cX1_settle 7 = .ok (.if_icmp .ge 22, 3) := by decide +kernel
theorem dX1_settle_29 : decode cX1_settle 29 = .ok (.iconst 1, 1) := by decide +kernel
theorem dX1_settle_30 : decode cX1_settle 30 = .ok (.istore_n 1, 1) := by decide +kernel
theorem dX1_settle_31 : decode cX1_settle 31 = .ok (.iconst 0, 1) := by decide +kernel
theorem dX1_settle_32 : decode cX1_settle 32 = .ok (.istore_n 2, 1) := by decide +kernel
theorem dX1_settle_33 : decode cX1_settle 33 = .ok (.iload_n 2, 1) := by decide +kernel
theorem dX1_settle_34 : decode cX1_settle 34 = .ok (.sipush 241, 3) := by decide +kernel
theorem dX1_settle_37 : decode cX1_settle 37 = .ok (.if_icmp .ge 105, 3) := by decide +kernel
theorem dX1_settle_40 : decode cX1_settle 40 = .ok (.iload_n 1, 1) := by decide +kernel
theorem dX1_settle_41 : decode cX1_settle 41 = .ok (.ifCond .eq 101, 3) := by decide +kernel
theorem dX1_settle_44 : decode cX1_settle 44 = .ok (.iconst 0, 1) := by decide +kernel
theorem dX1_settle_45 : decode cX1_settle 45 = .ok (.istore_n 1, 1) := by decide +kernel
theorem dX1_settle_46 : decode cX1_settle 46 = .ok (.aload_n 0, 1) := by decide +kernel
theorem dX1_settle_47 : decode cX1_settle 47 = .ok (.getfield 57, 3) := by decide +kernel
theorem dX1_settle_50 : decode cX1_settle 50 = .ok (.bipush 40, 2) := by decide +kernel
theorem dX1_settle_52 : decode cX1_settle 52 = .ok (.invokestatic 103, 3) := by decide +kernel
theorem dX1_settle_55 : decode cX1_settle 55 = .ok (.iconst 1, 1) := by decide +kernel
theorem dX1_settle_56 : decode cX1_settle 56 = .ok (.isub, 1) := by decide +kernel
theorem dX1_settle_57 : decode cX1_settle 57 = .ok (.istore_n 3, 1) := by decide +kernel
theorem dX1_settle_58 : decode cX1_settle 58 = .ok (.iload_n 3, 1) := by decide +kernel
theorem dX1_settle_59 : decode cX1_settle 59 = .ok (.ifCond .lt 77, 3) := by decide +kernel
theorem dX1_settle_136 : decode cX1_settle 136 = .ok (.iinc 2 1, 3) := by decide +kernel
theorem dX1_settle_139 : decode cX1_settle 139 = .ok (.goto (-106), 3) := by decide +kernel
theorem dX1_settle_142 : decode cX1_settle 142 = .ok (.return_, 1) := by decide +kernel
theorem dX1_trace_0 : decode cX1_trace 0 = .ok (.aload_n 0, 1) := by decide +kernel
theorem dX1_trace_1 : decode cX1_trace 1 = .ok (.aload_n 1, 1) := by decide +kernel
theorem dX1_trace_2 : decode cX1_trace 2 = .ok (.putfield 14, 3) := by decide +kernel
theorem dX1_trace_5 : decode cX1_trace 5 = .ok (.aload_n 0, 1) := by decide +kernel
theorem dX1_trace_6 : decode cX1_trace 6 = .ok (.invokevirtual 61, 3) := by decide +kernel
theorem dX1_trace_9 : decode cX1_trace 9 = .ok (.aload_n 0, 1) := by decide +kernel
theorem dX1_trace_10 : decode cX1_trace 10 = .ok (.invokevirtual 64, 3) := by decide +kernel
theorem dX1_trace_13 : decode cX1_trace 13 = .ok (.aload_n 0, 1) := by decide +kernel
theorem dX1_trace_14 : decode cX1_trace 14 = .ok (.invokevirtual 67, 3) := by decide +kernel
theorem dX1_trace_17 : decode cX1_trace 17 = .ok (.return_, 1) := by decide +kernel
theorem dX2_compare_0 : decode cX2_compare 0 = .ok (.aload_n 0, 1) := by decide +kernel
theorem dX2_compare_1 : decode cX2_compare 1 = .ok (.iconst (-1), 1) := by decide +kernel
theorem dX2_compare_2 : decode cX2_compare 2 = .ok (.putfield 21, 3) := by decide +kernel
theorem dX2_compare_5 : decode cX2_compare 5 = .ok (.aload_n 0, 1) := by decide +kernel
theorem dX2_compare_6 : decode cX2_compare 6 = .ok (.iconst (-1), 1) := by decide +kernel
theorem dX2_compare_7 : decode cX2_compare 7 = .ok (.putfield 25, 3) := by decide +kernel
theorem dX2_compare_10 : decode cX2_compare 10 = .ok (.aload_n 0, 1) := by decide +kernel
theorem dX2_compare_11 : decode cX2_compare 11 = .ok (.iconst 0, 1) := by decide +kernel
theorem dX2_compare_12 : decode cX2_compare 12 = .ok (.putfield 28, 3) := by decide +kernel
theorem dX2_compare_15 : decode cX2_compare 15 = .ok (.aload_n 0, 1) := by decide +kernel
theorem dX2_compare_16 : decode cX2_compare 16 = .ok (.iconst 0, 1) := by decide +kernel
theorem dX2_compare_17 : decode cX2_compare 17 = .ok (.putfield 31, 3) := by decide +kernel
theorem dX2_compare_20 : decode cX2_compare 20 = .ok (.aload_n 0, 1) := by decide +kernel
theorem dX2_compare_21 : decode cX2_compare 21 = .ok (.getfield 12, 3) := by decide +kernel
theorem dX2_compare_24 : decode cX2_compare 24 = .ok (.getfield 35, 3) := by decide +kernel
theorem dX2_compare_27 : decode cX2_compare 27 = .ok (.aload_n 1, 1) := by decide +kernel
theorem dX2_compare_28 : decode cX2_compare 28 = .ok (.invokevirtual 39, 3) := by decide +kernel
theorem dX2_compare_31 : decode cX2_compare 31 = .ok (.aload_n 0, 1) := by decide +kernel
theorem dX2_compare_32 : decode cX2_compare 32 = .ok (.getfield 18, 3) := by decide +kernel
theorem dX2_compare_35 : decode cX2_compare 35 = .ok (.getfield 35, 3) := by decide +kernel
theorem dX2_compare_38 : decode cX2_compare 38 = .ok (.aload_n 2, 1) := by decide +kernel
theorem dX2_compare_39 : decode cX2_compare 39 = .ok (.invokevirtual 39, 3) := by decide +kernel
theorem dX2_compare_42 : decode cX2_compare 42 = .ok (.aload_n 0, 1) := by decide +kernel
theorem dX2_compare_43 : decode cX2_compare 43 = .ok (.getfield 12, 3) := by decide +kernel
theorem dX2_compare_46 : decode cX2_compare 46 = .ok (.getfield 35, 3) := by decide +kernel
theorem dX2_compare_49 : decode cX2_compare 49 = .ok (.iconst 0, 1) := by decide +kernel
theorem dX2_compare_50 : decode cX2_compare 50 = .ok (.invokevirtual 45, 3) := by decide +kernel
theorem dX2_compare_53 : decode cX2_compare 53 = .ok (.aload_n 0, 1) := by decide +kernel
theorem dX2_compare_54 : decode cX2_compare 54 = .ok (.getfield 18, 3) := by decide +kernel
theorem dX2_compare_57 : decode cX2_compare 57 = .ok (.getfield 35, 3) := by decide +kernel
theorem dX2_compare_60 : decode cX2_compare 60 = .ok (.iconst 0, 1) := by decide +kernel
theorem dX2_compare_61 : decode cX2_compare 61 = .ok (.invokevirtual 45, 3) := by decide +kernel
theorem dX2_compare_64 : decode cX2_compare 64 = .ok (.ior, 1) := by decide +kernel
theorem dX2_compare_65 : decode cX2_compare 65 = .ok (.istore 4, 2) := by decide +kernel
theorem dX2_compare_67 : decode cX2_compare 67 = .ok (.iload 4, 2) := by decide +kernel
theorem dX2_compare_69 : decode cX2_compare 69 = .ok (.iconst 1, 1) := by decide +kernel
theorem dX2_compare_70 : decode cX2_compare 70 = .ok (.iand, 1) := by decide +kernel
theorem dX2_compare_71 : decode cX2_compare 71 = .ok (.ifCond .eq 7, 3) := by decide +kernel
theorem dX2_compare_78 : decode cX2_compare 78 = .ok (.bipush 16, 2) := by decide +kernel
theorem dX2_compare_80 : decode cX2_compare 80 = .ok (.istore 5, 2) := by decide +kernel
theorem dX2_compare_82 : decode cX2_compare 82 = .ok (.iload 4, 2) := by decide +kernel
theorem dX2_compare_84 : decode cX2_compare 84 = .ok (.iconst 2, 1) := by decide +kernel
theorem dX2_compare_85 : decode cX2_compare 85 = .ok (.iand, 1) := by decide +kernel
theorem dX2_compare_86 : decode cX2_compare 86 = .ok (.ifCond .eq 7, 3) := by decide +kernel
theorem dX2_compare_93 : decode cX2_compare 93 = .ok (.bipush 16, 2) := by decide +kernel
theorem dX2_compare_95 : decode cX2_compare 95 = .ok (.istore 6, 2) := by decide +kernel
theorem dX2_compare_97 : decode cX2_compare 97 = .ok (.iconst 0, 1) := by decide +kernel
theorem dX2_compare_98 : decode cX2_compare 98 = .ok (.istore 7, 2) := by decide +kernel
theorem dX2_compare_100 : decode cX2_compare 100 = .ok (.iload 7, 2) := by decide +kernel
theorem dX2_compare_102 : decode cX2_compare 102 = .ok (.bipush 16, 2) := by decide +kernel
theorem dX2_compare_104 : decode cX2_compare 104 = .ok (.if_icmp .ge 85, 3) := by decide +kernel
theorem dX2_compare_107 : decode cX2_compare 107 = .ok (.iconst 0, 1) := by decide +kernel
theorem dX2_compare_108 : decode cX2_compare 108 = .ok (.istore 8, 2) := by decide +kernel
theorem dX2_compare_110 : decode cX2_compare 110 = .ok (.iload 8, 2) := by decide +kernel
theorem dX2_compare_112 : decode cX2_compare 112 = .ok (.bipush 16, 2) := by decide +kernel
theorem dX2_compare_114 : decode cX2_compare 114 = .ok (.if_icmp .ge 65, 3) := by decide +kernel
theorem dX2_compare_117 : decode cX2_compare 117 = .ok (.aload_n 0, 1) := by decide +kernel
theorem dX2_compare_118 : decode cX2_compare 118 = .ok (.getfield 12, 3) := by decide +kernel
theorem dX2_compare_121 : decode cX2_compare 121 = .ok (.iload 7, 2) := by decide +kernel
theorem dX2_compare_123 : decode cX2_compare 123 = .ok (.iload 8, 2) := by decide +kernel
theorem dX2_compare_125 : decode cX2_compare 125 = .ok (.invokevirtual 49, 3) := by decide +kernel
theorem dX2_compare_128 : decode cX2_compare 128 = .ok (.aload_n 0, 1) := by decide +kernel
theorem dX2_compare_129 : decode cX2_compare 129 = .ok (.getfield 18, 3) := by decide +kernel
theorem dX2_compare_132 : decode cX2_compare 132 = .ok (.iload 7, 2) := by decide +kernel
theorem dX2_compare_134 : decode cX2_compare 134 = .ok (.iload 8, 2) := by decide +kernel
theorem dX2_compare_136 : decode cX2_compare 136 = .ok (.invokevirtual 49, 3) := by decide +kernel
theorem dX2_compare_139 : decode cX2_compare 139 = .ok (.aload_n 0, 1) := by decide +kernel
theorem dX2_compare_140 : decode cX2_compare 140 = .ok (.bipush 16, 2) := by decide +kernel
theorem dX2_compare_142 : decode cX2_compare 142 = .ok (.iload 7, 2) := by decide +kernel
theorem dX2_compare_144 : decode cX2_compare 144 = .ok (.imul, 1) := by decide +kernel
theorem dX2_compare_145 : decode cX2_compare 145 = .ok (.iload 8, 2) := by decide +kernel
theorem dX2_compare_147 : decode cX2_compare 147 = .ok (.iadd, 1) := by decide +kernel
theorem dX2_compare_148 : decode cX2_compare 148 = .ok (.iload 5, 2) := by decide +kernel
theorem dX2_compare_150 : decode cX2_compare 150 = .ok (.iload 6, 2) := by decide +kernel
theorem dX2_compare_152 : decode cX2_compare 152 = .ok (.imul, 1) := by decide +kernel
theorem dX2_compare_153 : decode cX2_compare 153 = .ok (.invokevirtual 53, 3) := by decide +kernel
theorem dX2_compare_156 : decode cX2_compare 156 = .ok (.iload_n 3, 1) := by decide +kernel
theorem dX2_compare_157 : decode cX2_compare 157 = .ok (.ifCond .eq 12, 3) := by decide +kernel
theorem dX2_compare_169 : decode cX2_compare 169 = .ok (.iload 8, 2) := by decide +kernel
theorem dX2_compare_171 : decode cX2_compare 171 = .ok (.iload 6, 2) := by decide +kernel
theorem dX2_compare_173 : decode cX2_compare 173 = .ok (.iadd, 1) := by decide +kernel
theorem dX2_compare_174 : decode cX2_compare 174 = .ok (.istore 8, 2) := by decide +kernel
theorem dX2_compare_176 : decode cX2_compare 176 = .ok (.goto (-66), 3) := by decide +kernel
theorem dX2_compare_179 : decode cX2_compare 179 = .ok (.iload 7, 2) := by decide +kernel
theorem dX2_compare_181 : decode cX2_compare 181 = .ok (.iload 5, 2) := by decide +kernel
theorem dX2_compare_183 : decode cX2_compare 183 = .ok (.iadd, 1) := by decide +kernel
theorem dX2_compare_184 : decode cX2_compare 184 = .ok (.istore 7, 2) := by decide +kernel
theorem dX2_compare_186 : decode cX2_compare 186 = .ok (.goto (-86), 3) := by decide +kernel
theorem dX2_compare_189 : decode cX2_compare 189 = .ok (.aload_n 0, 1) := by decide +kernel
theorem dX2_compare_190 : decode cX2_compare 190 = .ok (.getfield 28, 3) := by decide +kernel
theorem dX2_compare_193 : decode cX2_compare 193 = .ok (.ifCond .le 7, 3) := by decide +kernel
theorem dX2_compare_200 : decode cX2_compare 200 = .ok (.iconst 0, 1) := by decide +kernel
theorem dX2_compare_201 : decode cX2_compare 201 = .ok (.ireturn, 1) := by decide +kernel
theorem dX2_init_0 : decode cX2_init 0 = .ok (.aload_n 0, 1) := by decide +kernel
theorem dX2_init_1 : decode cX2_init 1 = .ok (.invokespecial 3, 3) := by decide +kernel
theorem dX2_init_4 : decode cX2_init 4 = .ok (.aload_n 0, 1) := by decide +kernel
theorem dX2_init_5 : decode cX2_init 5 = .ok (.new 9, 3) := by decide +kernel
theorem dX2_init_8 : decode cX2_init 8 = .ok (.dup, 1) := by decide +kernel
theorem dX2_init_9 : decode cX2_init 9 = .ok (.invokespecial 11, 3) := by decide +kernel
theorem dX2_init_12 : decode cX2_init 12 = .ok (.putfield 12, 3) := by decide +kernel
theorem dX2_init_15 : decode cX2_init 15 = .ok (.aload_n 0, 1) := by decide +kernel
theorem dX2_init_16 : decode cX2_init 16 = .ok (.new 9, 3) := by decide +kernel
theorem dX2_init_19 : decode cX2_init 19 = .ok (.dup, 1) := by decide +kernel
theorem dX2_init_20 : decode cX2_init 20 = .ok (.invokespecial 11, 3) := by decide +kernel
theorem dX2_init_23 : decode cX2_init 23 = .ok (.putfield 18, 3) := by decide +kernel
theorem dX2_init_26 : decode cX2_init 26 = .ok (.aload_n 0, 1) := by decide +kernel
theorem dX2_init_27 : decode cX2_init 27 = .ok (.iconst (-1), 1) := by decide +kernel
theorem dX2_init_28 : decode cX2_init 28 = .ok (.putfield 21, 3) := by decide +kernel
theorem dX2_init_31 : decode cX2_init 31 = .ok (.aload_n 0, 1) := by decide +kernel
theorem dX2_init_32 : decode cX2_init 32 = .ok (.iconst (-1), 1) := by decide +kernel
theorem dX2_init_33 : decode cX2_init 33 = .ok (.putfield 25, 3) := by decide +kernel
theorem dX2_init_36 : decode cX2_init 36 = .ok (.return_, 1) := by decide +kernel
theorem dX2_note_0 : decode cX2_note 0 = .ok (.aload_n 0, 1) := by decide +kernel
theorem dX2_note_1 : decode cX2_note 1 = .ok (.invokevirtual 56, 3) := by decide +kernel
theorem dX2_note_4 : decode cX2_note 4 = .ok (.istore_n 3, 1) := by decide +kernel
theorem dX2_note_5 : decode cX2_note 5 = .ok (.aload_n 0, 1) := by decide +kernel
theorem dX2_note_6 : decode cX2_note 6 = .ok (.getfield 12, 3) := by decide +kernel
theorem dX2_note_9 : decode cX2_note 9 = .ok (.invokevirtual 60, 3) := by decide +kernel
theorem dX2_note_12 : decode cX2_note 12 = .ok (.ifCond .ne 13, 3) := by decide +kernel
theorem dX2_note_15 : decode cX2_note 15 = .ok (.aload_n 0, 1) := by decide +kernel
theorem dX2_note_16 : decode cX2_note 16 = .ok (.getfield 18, 3) := by decide +kernel
theorem dX2_note_19 : decode cX2_note 19 = .ok (.invokevirtual 60, 3) := by decide +kernel
theorem dX2_note_22 : decode cX2_note 22 = .ok (.ifCond .eq 7, 3) := by decide +kernel
theorem dX2_note_29 : decode cX2_note 29 = .ok (.iconst 0, 1) := by decide +kernel
theorem dX2_note_30 : decode cX2_note 30 = .ok (.istore 4, 2) := by decide +kernel
theorem dX2_note_32 : decode cX2_note 32 = .ok (.aload_n 0, 1) := by decide +kernel
theorem dX2_note_33 : decode cX2_note 33 = .ok (.getfield 12, 3) := by decide +kernel
theorem dX2_note_36 : decode cX2_note 36 = .ok (.getfield 64, 3) := by decide +kernel
theorem dX2_note_39 : decode cX2_note 39 = .ok (.aload_n 0, 1) := by decide +kernel
theorem dX2_note_40 : decode cX2_note 40 = .ok (.getfield 18, 3) := by decide +kernel
theorem dX2_note_43 : decode cX2_note 43 = .ok (.getfield 64, 3) := by decide +kernel
theorem dX2_note_46 : decode cX2_note 46 = .ok (.if_icmp .ne 20, 3) := by decide +kernel
theorem dX2_note_49 : decode cX2_note 49 = .ok (.aload_n 0, 1) := by decide +kernel
theorem dX2_note_50 : decode cX2_note 50 = .ok (.getfield 12, 3) := by decide +kernel
theorem dX2_note_53 : decode cX2_note 53 = .ok (.getfield 67, 3) := by decide +kernel
theorem dX2_note_56 : decode cX2_note 56 = .ok (.aload_n 0, 1) := by decide +kernel
theorem dX2_note_57 : decode cX2_note 57 = .ok (.getfield 18, 3) := by decide +kernel
theorem dX2_note_60 : decode cX2_note 60 = .ok (.getfield 67, 3) := by decide +kernel
theorem dX2_note_63 : decode cX2_note 63 = .ok (.if_icmp .eq 7, 3) := by decide +kernel
theorem dX2_note_70 : decode cX2_note 70 = .ok (.iconst 0, 1) := by decide +kernel
theorem dX2_note_71 : decode cX2_note 71 = .ok (.istore 5, 2) := by decide +kernel
theorem dX2_note_73 : decode cX2_note 73 = .ok (.aload_n 0, 1) := by decide +kernel
theorem dX2_note_74 : decode cX2_note 74 = .ok (.aload_n 0, 1) := by decide +kernel
theorem dX2_note_75 : decode cX2_note 75 = .ok (.getfield 31, 3) := by decide +kernel
theorem dX2_note_78 : decode cX2_note 78 = .ok (.ifCond .ne 8, 3) := by decide +kernel
theorem dX2_note_81 : decode cX2_note 81 = .ok (.iload 4, 2) := by decide +kernel
theorem dX2_note_83 : decode cX2_note 83 = .ok (.ifCond .eq 7, 3) := by decide +kernel
theorem dX2_note_90 : decode cX2_note 90 = .ok (.iconst 0, 1) := by decide +kernel
theorem dX2_note_91 : decode cX2_note 91 = .ok (.putfield 31, 3) := by decide +kernel
theorem dX2_note_94 : decode cX2_note 94 = .ok (.iload_n 3, 1) := by decide +kernel
theorem dX2_note_95 : decode cX2_note 95 = .ok (.iconst (-1), 1) := by decide +kernel
theorem dX2_note_96 : decode cX2_note 96 = .ok (.if_icmp .ne 14, 3) := by decide +kernel
theorem dX2_note_99 : decode cX2_note 99 = .ok (.iload 4, 2) := by decide +kernel
theorem dX2_note_101 : decode cX2_note 101 = .ok (.ifCond .ne 8, 3) := by decide +kernel
theorem dX2_note_104 : decode cX2_note 104 = .ok (.iload 5, 2) := by decide +kernel
theorem dX2_note_106 : decode cX2_note 106 = .ok (.ifCond .ne 4, 3) := by decide +kernel
theorem dX2_note_109 : decode cX2_note 109 = .ok (.return_, 1) := by decide +kernel
theorem dX2_placeThatDiffers_0 : decode cX2_placeThatDiffers 0 = .ok (.aload_n 0, 1) := by decide +kernel
theorem dX2_placeThatDiffers_1 : decode cX2_placeThatDiffers 1 = .ok (.getfield 12, 3) := by decide +kernel
theorem dX2_placeThatDiffers_4 : decode cX2_placeThatDiffers 4 = .ok (.getfield 64, 3) := by decide +kernel
theorem dX2_placeThatDiffers_7 : decode cX2_placeThatDiffers 7 = .ok (.aload_n 0, 1) := by decide +kernel
theorem dX2_placeThatDiffers_8 : decode cX2_placeThatDiffers 8 = .ok (.getfield 18, 3) := by decide +kernel
theorem dX2_placeThatDiffers_11 : decode cX2_placeThatDiffers 11 = .ok (.getfield 64, 3) := by decide +kernel
theorem dX2_placeThatDiffers_14 : decode cX2_placeThatDiffers 14 = .ok (.invokestatic 70, 3) := by decide +kernel
theorem dX2_placeThatDiffers_17 : decode cX2_placeThatDiffers 17 = .ok (.istore_n 1, 1) := by decide +kernel
theorem dX2_placeThatDiffers_18 : decode cX2_placeThatDiffers 18 = .ok (.iconst 0, 1) := by decide +kernel
theorem dX2_placeThatDiffers_19 : decode cX2_placeThatDiffers 19 = .ok (.istore_n 2, 1) := by decide +kernel
theorem dX2_placeThatDiffers_20 : decode cX2_placeThatDiffers 20 = .ok (.iload_n 2, 1) := by decide +kernel
theorem dX2_placeThatDiffers_21 : decode cX2_placeThatDiffers 21 = .ok (.iload_n 1, 1) := by decide +kernel
theorem dX2_placeThatDiffers_22 : decode cX2_placeThatDiffers 22 = .ok (.if_icmp .ge 30, 3) := by decide +kernel
theorem dX2_placeThatDiffers_52 : decode cX2_placeThatDiffers 52 = .ok (.iconst (-1), 1) := by decide +kernel
theorem dX2_placeThatDiffers_53 : decode cX2_placeThatDiffers 53 = .ok (.ireturn, 1) := by decide +kernel
theorem dX2_verdict_0 : decode cX2_verdict 0 = .ok (.aload_n 0, 1) := by decide +kernel
theorem dX2_verdict_1 : decode cX2_verdict 1 = .ok (.getfield 28, 3) := by decide +kernel
theorem dX2_verdict_4 : decode cX2_verdict 4 = .ok (.ifCond .le 7, 3) := by decide +kernel
theorem dX2_verdict_11 : decode cX2_verdict 11 = .ok (.aload_n 0, 1) := by decide +kernel
theorem dX2_verdict_12 : decode cX2_verdict 12 = .ok (.getfield 31, 3) := by decide +kernel
theorem dX2_verdict_15 : decode cX2_verdict 15 = .ok (.ifCond .eq 7, 3) := by decide +kernel
theorem dX2_verdict_22 : decode cX2_verdict 22 = .ok (.iconst 0, 1) := by decide +kernel
theorem dX2_verdict_23 : decode cX2_verdict 23 = .ok (.ireturn, 1) := by decide +kernel
theorem dX3_go_0 : decode cX3_go 0 = .ok (.iconst 0, 1) := by decide +kernel
theorem dX3_go_1 : decode cX3_go 1 = .ok (.istore_n 3, 1) := by decide +kernel
theorem dX3_go_2 : decode cX3_go 2 = .ok (.iload_n 3, 1) := by decide +kernel
theorem dX3_go_3 : decode cX3_go 3 = .ok (.aload_n 0, 1) := by decide +kernel
theorem dX3_go_4 : decode cX3_go 4 = .ok (.getfield 22, 3) := by decide +kernel
theorem dX3_go_7 : decode cX3_go 7 = .ok (.arraylength, 1) := by decide +kernel
theorem dX3_go_8 : decode cX3_go 8 = .ok (.if_icmp .ge 33, 3) := by decide +kernel
theorem dX3_go_11 : decode cX3_go 11 = .ok (.aload_n 0, 1) := by decide +kernel
theorem dX3_go_12 : decode cX3_go 12 = .ok (.getfield 22, 3) := by decide +kernel
theorem dX3_go_15 : decode cX3_go 15 = .ok (.iload_n 3, 1) := by decide +kernel
theorem dX3_go_16 : decode cX3_go 16 = .ok (.iload_n 3, 1) := by decide +kernel
theorem dX3_go_17 : decode cX3_go 17 = .ok (.ifCond .ne 7, 3) := by decide +kernel
theorem dX3_go_20 : decode cX3_go 20 = .ok (.iload_n 1, 1) := by decide +kernel
theorem dX3_go_21 : decode cX3_go 21 = .ok (.goto 13, 3) := by decide +kernel
theorem dX3_go_24 : decode cX3_go 24 = .ok (.iload_n 3, 1) := by decide +kernel
theorem dX3_go_25 : decode cX3_go 25 = .ok (.iconst 1, 1) := by decide +kernel
theorem dX3_go_26 : decode cX3_go 26 = .ok (.if_icmp .ne 7, 3) := by decide +kernel
theorem dX3_go_29 : decode cX3_go 29 = .ok (.iload_n 2, 1) := by decide +kernel
theorem dX3_go_30 : decode cX3_go 30 = .ok (.goto 4, 3) := by decide +kernel
theorem dX3_go_33 : decode cX3_go 33 = .ok (.iconst 0, 1) := by decide +kernel
theorem dX3_go_34 : decode cX3_go 34 = .ok (.iastore, 1) := by decide +kernel
theorem dX3_go_35 : decode cX3_go 35 = .ok (.iinc 3 1, 3) := by decide +kernel
theorem dX3_go_38 : decode cX3_go 38 = .ok (.goto (-36), 3) := by decide +kernel
theorem dX3_go_41 : decode cX3_go 41 = .ok (.aload_n 0, 1) := by decide +kernel
theorem dX3_go_42 : decode cX3_go 42 = .ok (.iconst 0, 1) := by decide +kernel
theorem dX3_go_43 : decode cX3_go 43 = .ok (.putfield 28, 3) := by decide +kernel
theorem dX3_go_46 : decode cX3_go 46 = .ok (.aload_n 0, 1) := by decide +kernel
theorem dX3_go_47 : decode cX3_go 47 = .ok (.getfield 12, 3) := by decide +kernel
theorem dX3_go_50 : decode cX3_go 50 = .ok (.getfield 32, 3) := by decide +kernel
theorem dX3_go_53 : decode cX3_go 53 = .ok (.ifCond .le 7, 3) := by decide +kernel
theorem dX3_go_60 : decode cX3_go 60 = .ok (.iconst (-1), 1) := by decide +kernel
theorem dX3_go_61 : decode cX3_go 61 = .ok (.istore_n 3, 1) := by decide +kernel
theorem dX3_go_62 : decode cX3_go 62 = .ok (.aload_n 0, 1) := by decide +kernel
theorem dX3_go_63 : decode cX3_go 63 = .ok (.iconst 0, 1) := by decide +kernel
theorem dX3_go_64 : decode cX3_go 64 = .ok (.putfield 35, 3) := by decide +kernel
theorem dX3_go_67 : decode cX3_go 67 = .ok (.aload_n 0, 1) := by decide +kernel
theorem dX3_go_68 : decode cX3_go 68 = .ok (.getfield 35, 3) := by decide +kernel
theorem dX3_go_71 : decode cX3_go 71 = .ok (.bipush 100, 2) := by decide +kernel
theorem dX3_go_73 : decode cX3_go 73 = .ok (.if_icmp .ge 26, 3) := by decide +kernel
theorem dX3_go_76 : decode cX3_go 76 = .ok (.iload_n 3, 1) := by decide +kernel
theorem dX3_go_77 : decode cX3_go 77 = .ok (.ifCond .lt 22, 3) := by decide +kernel
theorem dX3_go_99 : decode cX3_go 99 = .ok (.aload_n 0, 1) := by decide +kernel
theorem dX3_go_100 : decode cX3_go 100 = .ok (.iload_n 3, 1) := by decide +kernel
theorem dX3_go_101 : decode cX3_go 101 = .ok (.bipush (-2), 2) := by decide +kernel
theorem dX3_go_103 : decode cX3_go 103 = .ok (.if_icmp .ne 7, 3) := by decide +kernel
theorem dX3_go_110 : decode cX3_go 110 = .ok (.iload_n 3, 1) := by decide +kernel
theorem dX3_go_111 : decode cX3_go 111 = .ok (.ifCond .lt 7, 3) := by decide +kernel
theorem dX3_go_118 : decode cX3_go 118 = .ok (.iconst 0, 1) := by decide +kernel
theorem dX3_go_119 : decode cX3_go 119 = .ok (.putfield 42, 3) := by decide +kernel
theorem dX3_go_122 : decode cX3_go 122 = .ok (.return_, 1) := by decide +kernel
theorem dX3_init_0 : decode cX3_init 0 = .ok (.aload_n 0, 1) := by decide +kernel
theorem dX3_init_1 : decode cX3_init 1 = .ok (.invokespecial 3, 3) := by decide +kernel
theorem dX3_init_4 : decode cX3_init 4 = .ok (.aload_n 0, 1) := by decide +kernel
theorem dX3_init_5 : decode cX3_init 5 = .ok (.new 9, 3) := by decide +kernel
theorem dX3_init_8 : decode cX3_init 8 = .ok (.dup, 1) := by decide +kernel
theorem dX3_init_9 : decode cX3_init 9 = .ok (.invokespecial 11, 3) := by decide +kernel
theorem dX3_init_12 : decode cX3_init 12 = .ok (.putfield 12, 3) := by decide +kernel
theorem dX3_init_15 : decode cX3_init 15 = .ok (.aload_n 0, 1) := by decide +kernel
theorem dX3_init_16 : decode cX3_init 16 = .ok (.bipush 100, 2) := by decide +kernel
theorem dX3_init_18 : decode cX3_init 18 = .ok (.newarray .int, 2) := by decide +kernel
theorem dX3_init_20 : decode cX3_init 20 = .ok (.putfield 18, 3) := by decide +kernel
theorem dX3_init_23 : decode cX3_init 23 = .ok (.aload_n 0, 1) := by decide +kernel
theorem dX3_init_24 : decode cX3_init 24 = .ok (.bipush 6, 2) := by decide +kernel
theorem dX3_init_26 : decode cX3_init 26 = .ok (.newarray .int, 2) := by decide +kernel
theorem dX3_init_28 : decode cX3_init 28 = .ok (.putfield 22, 3) := by decide +kernel
theorem dX3_init_31 : decode cX3_init 31 = .ok (.aload_n 0, 1) := by decide +kernel
theorem dX3_init_32 : decode cX3_init 32 = .ok (.sipush 300, 3) := by decide +kernel
theorem dX3_init_35 : decode cX3_init 35 = .ok (.newarray .int, 2) := by decide +kernel
theorem dX3_init_37 : decode cX3_init 37 = .ok (.putfield 25, 3) := by decide +kernel
theorem dX3_init_40 : decode cX3_init 40 = .ok (.return_, 1) := by decide +kernel
theorem dX3_isTired_0 : decode cX3_isTired 0 = .ok (.aload_n 0, 1) := by decide +kernel
theorem dX3_isTired_1 : decode cX3_isTired 1 = .ok (.getfield 42, 3) := by decide +kernel
theorem dX3_isTired_4 : decode cX3_isTired 4 = .ok (.iconst 2, 1) := by decide +kernel
theorem dX3_isTired_5 : decode cX3_isTired 5 = .ok (.if_icmp .ne 7, 3) := by decide +kernel
theorem dX3_isTired_12 : decode cX3_isTired 12 = .ok (.iconst 0, 1) := by decide +kernel
theorem dX3_isTired_13 : decode cX3_isTired 13 = .ok (.ireturn, 1) := by decide +kernel
theorem dX3_output_0 : decode cX3_output 0 = .ok (.iload_n 1, 1) := by decide +kernel
theorem dX3_output_1 : decode cX3_output 1 = .ok (.ifCond .lt 29, 3) := by decide +kernel
theorem dX3_output_4 : decode cX3_output 4 = .ok (.iload_n 1, 1) := by decide +kernel
theorem dX3_output_5 : decode cX3_output 5 = .ok (.aload_n 0, 1) := by decide +kernel
theorem dX3_output_6 : decode cX3_output 6 = .ok (.getfield 28, 3) := by decide +kernel
theorem dX3_output_9 : decode cX3_output 9 = .ok (.if_icmp .ge 21, 3) := by decide +kernel
theorem dX3_output_30 : decode cX3_output 30 = .ok (.iconst (-1), 1) := by decide +kernel
theorem dX3_output_31 : decode cX3_output 31 = .ok (.ireturn, 1) := by decide +kernel
theorem dX3_tell_0 : decode cX3_tell 0 = .ok (.iload_n 1, 1) := by decide +kernel
theorem dX3_tell_1 : decode cX3_tell 1 = .ok (.ifCond .ne 8, 3) := by decide +kernel
theorem dX3_tell_4 : decode cX3_tell 4 = .ok (.aload_n 0, 1) := by decide +kernel
theorem dX3_tell_5 : decode cX3_tell 5 = .ok (.getfield 42, 3) := by decide +kernel
theorem dX3_tell_8 : decode cX3_tell 8 = .ok (.ireturn, 1) := by decide +kernel
theorem dX3_tell_9 : decode cX3_tell 9 = .ok (.iload_n 1, 1) := by decide +kernel
theorem dX3_tell_10 : decode cX3_tell 10 = .ok (.iconst 1, 1) := by decide +kernel
theorem dX3_tell_11 : decode cX3_tell 11 = .ok (.if_icmp .ne 8, 3) := by decide +kernel
theorem dX3_tell_14 : decode cX3_tell 14 = .ok (.aload_n 0, 1) := by decide +kernel
theorem dX3_tell_15 : decode cX3_tell 15 = .ok (.getfield 35, 3) := by decide +kernel
theorem dX3_tell_18 : decode cX3_tell 18 = .ok (.ireturn, 1) := by decide +kernel
theorem dX3_tell_19 : decode cX3_tell 19 = .ok (.iload_n 1, 1) := by decide +kernel
theorem dX3_tell_20 : decode cX3_tell 20 = .ok (.iconst 2, 1) := by decide +kernel
theorem dX3_tell_21 : decode cX3_tell 21 = .ok (.if_icmp .ne 8, 3) := by decide +kernel
theorem dX3_tell_24 : decode cX3_tell 24 = .ok (.aload_n 0, 1) := by decide +kernel
theorem dX3_tell_25 : decode cX3_tell 25 = .ok (.getfield 28, 3) := by decide +kernel
theorem dX3_tell_28 : decode cX3_tell 28 = .ok (.ireturn, 1) := by decide +kernel
theorem dX3_tell_29 : decode cX3_tell 29 = .ok (.iload_n 1, 1) := by decide +kernel
theorem dX3_tell_30 : decode cX3_tell 30 = .ok (.bipush 10, 2) := by decide +kernel
theorem dX3_tell_32 : decode cX3_tell 32 = .ok (.if_icmp .lt 19, 3) := by decide +kernel
theorem dX3_tell_35 : decode cX3_tell 35 = .ok (.iload_n 1, 1) := by decide +kernel
theorem dX3_tell_36 : decode cX3_tell 36 = .ok (.bipush 16, 2) := by decide +kernel
theorem dX3_tell_38 : decode cX3_tell 38 = .ok (.if_icmp .ge 13, 3) := by decide +kernel
theorem dX3_tell_41 : decode cX3_tell 41 = .ok (.aload_n 0, 1) := by decide +kernel
theorem dX3_tell_42 : decode cX3_tell 42 = .ok (.getfield 22, 3) := by decide +kernel
theorem dX3_tell_45 : decode cX3_tell 45 = .ok (.iload_n 1, 1) := by decide +kernel
theorem dX3_tell_46 : decode cX3_tell 46 = .ok (.bipush 10, 2) := by decide +kernel
theorem dX3_tell_48 : decode cX3_tell 48 = .ok (.isub, 1) := by decide +kernel
theorem dX3_tell_49 : decode cX3_tell 49 = .ok (.iaload, 1) := by decide +kernel
theorem dX3_tell_50 : decode cX3_tell 50 = .ok (.ireturn, 1) := by decide +kernel
theorem dX3_tell_51 : decode cX3_tell 51 = .ok (.iload_n 1, 1) := by decide +kernel
theorem dX3_tell_52 : decode cX3_tell 52 = .ok (.bipush 100, 2) := by decide +kernel
theorem dX3_tell_54 : decode cX3_tell 54 = .ok (.if_icmp .lt 14, 3) := by decide +kernel
theorem dX3_tell_57 : decode cX3_tell 57 = .ok (.aload_n 0, 1) := by decide +kernel
theorem dX3_tell_58 : decode cX3_tell 58 = .ok (.iload_n 1, 1) := by decide +kernel
theorem dX3_tell_59 : decode cX3_tell 59 = .ok (.bipush 100, 2) := by decide +kernel
theorem dX3_tell_61 : decode cX3_tell 61 = .ok (.isub, 1) := by decide +kernel
theorem dX3_tell_62 : decode cX3_tell 62 = .ok (.invokevirtual 45, 3) := by decide +kernel
theorem dX3_tell_65 : decode cX3_tell 65 = .ok (.goto 4, 3) := by decide +kernel
theorem dX3_tell_68 : decode cX3_tell 68 = .ok (.iconst (-1), 1) := by decide +kernel
theorem dX3_tell_69 : decode cX3_tell 69 = .ok (.ireturn, 1) := by decide +kernel
theorem dX4_addItem_0 : decode cX4_addItem 0 = .ok (.iload_n 1, 1) := by decide +kernel
theorem dX4_addItem_1 : decode cX4_addItem 1 = .ok (.invokestatic 63, 3) := by decide +kernel
theorem dX4_addItem_4 : decode cX4_addItem 4 = .ok (.ifCond .eq 14, 3) := by decide +kernel
theorem dX4_addItem_7 : decode cX4_addItem 7 = .ok (.aload_n 0, 1) := by decide +kernel
theorem dX4_addItem_8 : decode cX4_addItem 8 = .ok (.getfield 23, 3) := by decide +kernel
theorem dX4_addItem_11 : decode cX4_addItem 11 = .ok (.iload_n 1, 1) := by decide +kernel
theorem dX4_addItem_12 : decode cX4_addItem 12 = .ok (.iaload, 1) := by decide +kernel
theorem dX4_addItem_13 : decode cX4_addItem 13 = .ok (.bipush 8, 2) := by decide +kernel
theorem dX4_addItem_15 : decode cX4_addItem 15 = .ok (.if_icmp .lt 5, 3) := by decide +kernel
theorem dX4_addItem_18 : decode cX4_addItem 18 = .ok (.iconst (-1), 1) := by decide +kernel
theorem dX4_addItem_19 : decode cX4_addItem 19 = .ok (.ireturn, 1) := by decide +kernel
theorem dX4_addItem_20 : decode cX4_addItem 20 = .ok (.aload_n 0, 1) := by decide +kernel
theorem dX4_addItem_21 : decode cX4_addItem 21 = .ok (.getfield 20, 3) := by decide +kernel
theorem dX4_addItem_24 : decode cX4_addItem 24 = .ok (.iload_n 1, 1) := by decide +kernel
theorem dX4_addItem_25 : decode cX4_addItem 25 = .ok (.aaload, 1) := by decide +kernel
theorem dX4_addItem_26 : decode cX4_addItem 26 = .ok (.aload_n 0, 1) := by decide +kernel
theorem dX4_addItem_27 : decode cX4_addItem 27 = .ok (.getfield 23, 3) := by decide +kernel
theorem dX4_addItem_30 : decode cX4_addItem 30 = .ok (.iload_n 1, 1) := by decide +kernel
