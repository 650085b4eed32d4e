theorem dJ0_charAt_5068e_0 : decode cJ0_charAt_5068e 0 = .ok (.aload_n 0, 1) := by decide +kernel
theorem dJ0_charAt_5068e_1 : decode cJ0_charAt_5068e 1 = .ok (.invokevirtual 492, 3) := by decide +kernel
theorem dJ0_charAt_5068e_4 : decode cJ0_charAt_5068e 4 = .ok (.ifCond .eq 12, 3) := by decide +kernel
theorem dJ0_charAt_5068e_7 : decode cJ0_charAt_5068e 7 = .ok (.aload_n 0, 1) := by decide +kernel
theorem dJ0_charAt_5068e_8 : decode cJ0_charAt_5068e 8 = .ok (.getfield 9, 3) := by decide +kernel
theorem dJ0_charAt_5068e_11 : decode cJ0_charAt_5068e 11 = .ok (.iload_n 1, 1) := by decide +kernel
theorem dJ0_charAt_5068e_12 : decode cJ0_charAt_5068e 12 = .ok (.invokestatic 495, 3) := by decide +kernel
theorem dJ0_charAt_5068e_15 : decode cJ0_charAt_5068e 15 = .ok (.ireturn, 1) := by decide +kernel
theorem dJ0_checkIndex_df160_0 : decode cJ0_checkIndex_df160 0 = .ok (.iload_n 0, 1) := by decide +kernel
theorem dJ0_checkIndex_df160_1 : decode cJ0_checkIndex_df160 1 = .ok (.iload_n 1, 1) := by decide +kernel
theorem dJ0_checkIndex_df160_2 : decode cJ0_checkIndex_df160 2 = .ok (.getstatic 1053, 3) := by decide +kernel
theorem dJ0_checkIndex_df160_5 : decode cJ0_checkIndex_df160 5 = .ok (.invokestatic 1059, 3) := by decide +kernel
theorem dJ0_checkIndex_df160_8 : decode cJ0_checkIndex_df160 8 = .ok (.pop, 1) := by decide +kernel
theorem dJ0_checkIndex_df160_9 : decode cJ0_checkIndex_df160 9 = .ok (.return_, 1) := by decide +kernel
theorem dJ0_coder_7d493_0 : decode cJ0_coder_7d493 0 = .ok (.getstatic 38, 3) := by decide +kernel
theorem dJ0_coder_7d493_3 : decode cJ0_coder_7d493 3 = .ok (.ifCond .eq 10, 3) := by decide +kernel
theorem dJ0_coder_7d493_6 : decode cJ0_coder_7d493 6 = .ok (.aload_n 0, 1) := by decide +kernel
theorem dJ0_coder_7d493_7 : decode cJ0_coder_7d493 7 = .ok (.getfield 15, 3) := by decide +kernel
theorem dJ0_coder_7d493_10 : decode cJ0_coder_7d493 10 = .ok (.goto 4, 3) := by decide +kernel
theorem dJ0_coder_7d493_14 : decode cJ0_coder_7d493 14 = .ok (.ireturn, 1) := by decide +kernel
theorem dJ0_isLatin1_aae02_0 : decode cJ0_isLatin1_aae02 0 = .ok (.getstatic 38, 3) := by decide +kernel
theorem dJ0_isLatin1_aae02_3 : decode cJ0_isLatin1_aae02 3 = .ok (.ifCond .eq 14, 3) := by decide +kernel
theorem dJ0_isLatin1_aae02_6 : decode cJ0_isLatin1_aae02 6 = .ok (.aload_n 0, 1) := by decide +kernel
theorem dJ0_isLatin1_aae02_7 : decode cJ0_isLatin1_aae02 7 = .ok (.getfield 15, 3) := by decide +kernel
theorem dJ0_isLatin1_aae02_10 : decode cJ0_isLatin1_aae02 10 = .ok (.ifCond .ne 7, 3) := by decide +kernel
theorem dJ0_isLatin1_aae02_13 : decode cJ0_isLatin1_aae02 13 = .ok (.iconst 1, 1) := by decide +kernel
theorem dJ0_isLatin1_aae02_14 : decode cJ0_isLatin1_aae02 14 = .ok (.goto 4, 3) := by decide +kernel
theorem dJ0_isLatin1_aae02_18 : decode cJ0_isLatin1_aae02 18 = .ok (.ireturn, 1) := by decide +kernel
theorem dJ0_length_8abf5_1 : decode cJ0_length_8abf5 1 = .ok (.getfield 9, 3) := by decide +kernel
theorem dJ0_length_8abf5_4 : decode cJ0_length_8abf5 4 = .ok (.arraylength, 1) := by decide +kernel
theorem dJ0_length_8abf5_5 : decode cJ0_length_8abf5 5 = .ok (.aload_n 0, 1) := by decide +kernel
theorem dJ0_length_8abf5_6 : decode cJ0_length_8abf5 6 = .ok (.invokevirtual 335, 3) := by decide +kernel
theorem dJ0_length_8abf5_9 : decode cJ0_length_8abf5 9 = .ok (.ishr, 1) := by decide +kernel
theorem dJ0_length_8abf5_10 : decode cJ0_length_8abf5 10 = .ok (.ireturn, 1) := by decide +kernel
theorem dJ1_charAt_3b067_0 : decode cJ1_charAt_3b067 0 = .ok (.iload_n 1, 1) := by decide +kernel
theorem dJ1_charAt_3b067_1 : decode cJ1_charAt_3b067 1 = .ok (.aload_n 0, 1) := by decide +kernel
theorem dJ1_charAt_3b067_2 : decode cJ1_charAt_3b067 2 = .ok (.arraylength, 1) := by decide +kernel
theorem dJ1_charAt_3b067_3 : decode cJ1_charAt_3b067 3 = .ok (.invokestatic 9, 3) := by decide +kernel
theorem dJ1_charAt_3b067_6 : decode cJ1_charAt_3b067 6 = .ok (.aload_n 0, 1) := by decide +kernel
theorem dJ1_charAt_3b067_7 : decode cJ1_charAt_3b067 7 = .ok (.iload_n 1, 1) := by decide +kernel
theorem dJ1_charAt_3b067_8 : decode cJ1_charAt_3b067 8 = .ok (.baload, 1) := by decide +kernel
theorem dJ1_charAt_3b067_9 : decode cJ1_charAt_3b067 9 = .ok (.sipush 255, 3) := by decide +kernel
theorem dJ1_charAt_3b067_12 : decode cJ1_charAt_3b067 12 = .ok (.iand, 1) := by decide +kernel
theorem dJ1_charAt_3b067_13 : decode cJ1_charAt_3b067 13 = .ok (.i2c, 1) := by decide +kernel
theorem dJ1_charAt_3b067_14 : decode cJ1_charAt_3b067 14 = .ok (.ireturn, 1) := by decide +kernel
theorem dJ3_checkIndex_8e157_0 : decode cJ3_checkIndex_8e157 0 = .ok (.iload_n 0, 1) := by decide +kernel
theorem dJ3_checkIndex_8e157_1 : decode cJ3_checkIndex_8e157 1 = .ok (.ifCond .lt 8, 3) := by decide +kernel
theorem dJ3_checkIndex_8e157_4 : decode cJ3_checkIndex_8e157 4 = .ok (.iload_n 0, 1) := by decide +kernel
theorem dJ3_checkIndex_8e157_5 : decode cJ3_checkIndex_8e157 5 = .ok (.iload_n 1, 1) := by decide +kernel
theorem dJ3_checkIndex_8e157_6 : decode cJ3_checkIndex_8e157 6 = .ok (.if_icmp .lt 10, 3) := by decide +kernel
theorem dJ3_checkIndex_8e157_16 : decode cJ3_checkIndex_8e157 16 = .ok (.iload_n 0, 1) := by decide +kernel
theorem dJ3_checkIndex_8e157_17 : decode cJ3_checkIndex_8e157 17 = .ok (.ireturn, 1) := by decide +kernel
theorem dX12_again_0 : decode cX12_again 0 = .ok (.iconst 0, 1) := by decide +kernel
theorem dX12_again_1 : decode cX12_again 1 = .ok (.istore_n 2, 1) := by decide +kernel
theorem dX12_again_2 : decode cX12_again 2 = .ok (.iload_n 2, 1) := by decide +kernel
theorem dX12_again_3 : decode cX12_again 3 = .ok (.bipush 50, 2) := by decide +kernel
theorem dX12_again_5 : decode cX12_again 5 = .ok (.if_icmp .ge 34, 3) := by decide +kernel
theorem dX12_again_8 : decode cX12_again 8 = .ok (.aload_n 0, 1) := by decide +kernel
theorem dX12_again_9 : decode cX12_again 9 = .ok (.iload_n 1, 1) := by decide +kernel
theorem dX12_again_10 : decode cX12_again 10 = .ok (.iconst 0, 1) := by decide +kernel
theorem dX12_again_11 : decode cX12_again 11 = .ok (.invokevirtual 370, 3) := by decide +kernel
theorem dX12_again_14 : decode cX12_again 14 = .ok (.istore_n 3, 1) := by decide +kernel
theorem dX12_again_15 : decode cX12_again 15 = .ok (.iload_n 3, 1) := by decide +kernel
theorem dX12_again_16 : decode cX12_again 16 = .ok (.iconst (-1), 1) := by decide +kernel
theorem dX12_again_17 : decode cX12_again 17 = .ok (.if_icmp .ne 5, 3) := by decide +kernel
theorem dX12_again_20 : decode cX12_again 20 = .ok (.iconst 1, 1) := by decide +kernel
theorem dX12_again_21 : decode cX12_again 21 = .ok (.ireturn, 1) := by decide +kernel
theorem dX12_again_22 : decode cX12_again 22 = .ok (.aload_n 0, 1) := by decide +kernel
theorem dX12_again_23 : decode cX12_again 23 = .ok (.iload_n 1, 1) := by decide +kernel
theorem dX12_again_24 : decode cX12_again 24 = .ok (.iload_n 3, 1) := by decide +kernel
theorem dX12_again_25 : decode cX12_again 25 = .ok (.invokevirtual 373, 3) := by decide +kernel
theorem dX12_again_28 : decode cX12_again 28 = .ok (.ifCond .ne 5, 3) := by decide +kernel
theorem dX12_again_31 : decode cX12_again 31 = .ok (.iconst 0, 1) := by decide +kernel
theorem dX12_again_32 : decode cX12_again 32 = .ok (.ireturn, 1) := by decide +kernel
theorem dX12_again_33 : decode cX12_again 33 = .ok (.iinc 2 1, 3) := by decide +kernel
theorem dX12_again_36 : decode cX12_again 36 = .ok (.goto (-34), 3) := by decide +kernel
theorem dX12_again_39 : decode cX12_again 39 = .ok (.iconst 1, 1) := by decide +kernel
theorem dX12_again_40 : decode cX12_again 40 = .ok (.ireturn, 1) := by decide +kernel
theorem dX12_ahead_0 : decode cX12_ahead 0 = .ok (.aload_n 0, 1) := by decide +kernel
theorem dX12_ahead_1 : decode cX12_ahead 1 = .ok (.getfield 117, 3) := by decide +kernel
theorem dX12_ahead_4 : decode cX12_ahead 4 = .ok (.istore_n 3, 1) := by decide +kernel
theorem dX12_ahead_5 : decode cX12_ahead 5 = .ok (.iload_n 3, 1) := by decide +kernel
theorem dX12_ahead_6 : decode cX12_ahead 6 = .ok (.iload_n 1, 1) := by decide +kernel
theorem dX12_ahead_7 : decode cX12_ahead 7 = .ok (.if_icmp .le 23, 3) := by decide +kernel
theorem dX12_ahead_10 : decode cX12_ahead 10 = .ok (.aload_n 0, 1) := by decide +kernel
theorem dX12_ahead_11 : decode cX12_ahead 11 = .ok (.getfield 19, 3) := by decide +kernel
theorem dX12_ahead_14 : decode cX12_ahead 14 = .ok (.iload_n 3, 1) := by decide +kernel
theorem dX12_ahead_15 : decode cX12_ahead 15 = .ok (.aload_n 0, 1) := by decide +kernel
theorem dX12_ahead_16 : decode cX12_ahead 16 = .ok (.getfield 19, 3) := by decide +kernel
theorem dX12_ahead_19 : decode cX12_ahead 19 = .ok (.iload_n 3, 1) := by decide +kernel
theorem dX12_ahead_20 : decode cX12_ahead 20 = .ok (.iconst 1, 1) := by decide +kernel
theorem dX12_ahead_21 : decode cX12_ahead 21 = .ok (.isub, 1) := by decide +kernel
theorem dX12_ahead_22 : decode cX12_ahead 22 = .ok (.iaload, 1) := by decide +kernel
theorem dX12_ahead_23 : decode cX12_ahead 23 = .ok (.iastore, 1) := by decide +kernel
theorem dX12_ahead_24 : decode cX12_ahead 24 = .ok (.iinc 3 (-1), 3) := by decide +kernel
theorem dX12_ahead_27 : decode cX12_ahead 27 = .ok (.goto (-22), 3) := by decide +kernel
theorem dX12_ahead_30 : decode cX12_ahead 30 = .ok (.aload_n 0, 1) := by decide +kernel
theorem dX12_ahead_31 : decode cX12_ahead 31 = .ok (.getfield 19, 3) := by decide +kernel
theorem dX12_ahead_34 : decode cX12_ahead 34 = .ok (.iload_n 1, 1) := by decide +kernel
theorem dX12_ahead_35 : decode cX12_ahead 35 = .ok (.iload_n 2, 1) := by decide +kernel
theorem dX12_ahead_36 : decode cX12_ahead 36 = .ok (.iastore, 1) := by decide +kernel
theorem dX12_ahead_37 : decode cX12_ahead 37 = .ok (.aload_n 0, 1) := by decide +kernel
theorem dX12_ahead_38 : decode cX12_ahead 38 = .ok (.dup, 1) := by decide +kernel
theorem dX12_ahead_39 : decode cX12_ahead 39 = .ok (.getfield 117, 3) := by decide +kernel
theorem dX12_ahead_42 : decode cX12_ahead 42 = .ok (.iconst 1, 1) := by decide +kernel
theorem dX12_ahead_43 : decode cX12_ahead 43 = .ok (.iadd, 1) := by decide +kernel
theorem dX12_ahead_44 : decode cX12_ahead 44 = .ok (.putfield 117, 3) := by decide +kernel
theorem dX12_ahead_47 : decode cX12_ahead 47 = .ok (.return_, 1) := by decide +kernel
theorem dX12_applies_0 : decode cX12_applies 0 = .ok (.aload_n 0, 1) := by decide +kernel
theorem dX12_applies_1 : decode cX12_applies 1 = .ok (.iload_n 1, 1) := by decide +kernel
theorem dX12_applies_2 : decode cX12_applies 2 = .ok (.iload_n 2, 1) := by decide +kernel
theorem dX12_applies_3 : decode cX12_applies 3 = .ok (.invokevirtual 364, 3) := by decide +kernel
theorem dX12_applies_6 : decode cX12_applies 6 = .ok (.pop, 1) := by decide +kernel
theorem dX12_applies_7 : decode cX12_applies 7 = .ok (.aload_n 0, 1) := by decide +kernel
theorem dX12_applies_8 : decode cX12_applies 8 = .ok (.invokevirtual 274, 3) := by decide +kernel
theorem dX12_applies_11 : decode cX12_applies 11 = .ok (.aload_n 0, 1) := by decide +kernel
theorem dX12_applies_12 : decode cX12_applies 12 = .ok (.iload_n 2, 1) := by decide +kernel
theorem dX12_applies_13 : decode cX12_applies 13 = .ok (.invokevirtual 94, 3) := by decide +kernel
theorem dX12_applies_16 : decode cX12_applies 16 = .ok (.iload_n 2, 1) := by decide +kernel
theorem dX12_applies_17 : decode cX12_applies 17 = .ok (.isub, 1) := by decide +kernel
theorem dX12_applies_18 : decode cX12_applies 18 = .ok (.isub, 1) := by decide +kernel
theorem dX12_applies_19 : decode cX12_applies 19 = .ok (.istore_n 3, 1) := by decide +kernel
theorem dX12_applies_20 : decode cX12_applies 20 = .ok (.aload_n 0, 1) := by decide +kernel
theorem dX12_applies_21 : decode cX12_applies 21 = .ok (.getfield 32, 3) := by decide +kernel
theorem dX12_applies_24 : decode cX12_applies 24 = .ok (.iload_n 1, 1) := by decide +kernel
theorem dX12_applies_25 : decode cX12_applies 25 = .ok (.iaload, 1) := by decide +kernel
theorem dX12_applies_26 : decode cX12_applies 26 = .ok (.istore 4, 2) := by decide +kernel
theorem dX12_applies_28 : decode cX12_applies 28 = .ok (.iload 4, 2) := by decide +kernel
theorem dX12_applies_30 : decode cX12_applies 30 = .ok (.aload_n 0, 1) := by decide +kernel
theorem dX12_applies_31 : decode cX12_applies 31 = .ok (.getfield 35, 3) := by decide +kernel
theorem dX12_applies_34 : decode cX12_applies 34 = .ok (.iload_n 1, 1) := by decide +kernel
theorem dX12_applies_35 : decode cX12_applies 35 = .ok (.iaload, 1) := by decide +kernel
theorem dX12_applies_36 : decode cX12_applies 36 = .ok (.if_icmp .ge 67, 3) := by decide +kernel
theorem dX12_applies_39 : decode cX12_applies 39 = .ok (.aload_n 0, 1) := by decide +kernel
theorem dX12_applies_40 : decode cX12_applies 40 = .ok (.getfield 29, 3) := by decide +kernel
theorem dX12_applies_43 : decode cX12_applies 43 = .ok (.bipush 40, 2) := by decide +kernel
theorem dX12_applies_45 : decode cX12_applies 45 = .ok (.iload_n 1, 1) := by decide +kernel
theorem dX12_applies_46 : decode cX12_applies 46 = .ok (.imul, 1) := by decide +kernel
theorem dX12_applies_47 : decode cX12_applies 47 = .ok (.iload 4, 2) := by decide +kernel
theorem dX12_applies_49 : decode cX12_applies 49 = .ok (.iadd, 1) := by decide +kernel
theorem dX12_applies_50 : decode cX12_applies 50 = .ok (.iaload, 1) := by decide +kernel
theorem dX12_applies_51 : decode cX12_applies 51 = .ok (.istore 5, 2) := by decide +kernel
theorem dX12_applies_53 : decode cX12_applies 53 = .ok (.iload_n 3, 1) := by decide +kernel
theorem dX12_applies_54 : decode cX12_applies 54 = .ok (.iload 5, 2) := by decide +kernel
theorem dX12_applies_56 : decode cX12_applies 56 = .ok (.bipush 30, 2) := by decide +kernel
theorem dX12_applies_58 : decode cX12_applies 58 = .ok (.bipush 32, 2) := by decide +kernel
theorem dX12_applies_60 : decode cX12_applies 60 = .ok (.invokestatic 90, 3) := by decide +kernel
theorem dX12_applies_63 : decode cX12_applies 63 = .ok (.ifCond .eq 31, 3) := by decide +kernel
theorem dX12_applies_66 : decode cX12_applies 66 = .ok (.aload_n 0, 1) := by decide +kernel
theorem dX12_applies_67 : decode cX12_applies 67 = .ok (.aload_n 0, 1) := by decide +kernel
theorem dX12_applies_68 : decode cX12_applies 68 = .ok (.getfield 65, 3) := by decide +kernel
theorem dX12_applies_71 : decode cX12_applies 71 = .ok (.iload 5, 2) := by decide +kernel
theorem dX12_applies_73 : decode cX12_applies 73 = .ok (.bipush 30, 2) := by decide +kernel
theorem dX12_applies_75 : decode cX12_applies 75 = .ok (.isub, 1) := by decide +kernel
theorem dX12_applies_76 : decode cX12_applies 76 = .ok (.iaload, 1) := by decide +kernel
theorem dX12_applies_77 : decode cX12_applies 77 = .ok (.invokevirtual 94, 3) := by decide +kernel
theorem dX12_applies_80 : decode cX12_applies 80 = .ok (.aload_n 0, 1) := by decide +kernel
theorem dX12_applies_81 : decode cX12_applies 81 = .ok (.getfield 65, 3) := by decide +kernel
theorem dX12_applies_84 : decode cX12_applies 84 = .ok (.iload 5, 2) := by decide +kernel
theorem dX12_applies_86 : decode cX12_applies 86 = .ok (.bipush 30, 2) := by decide +kernel
theorem dX12_applies_88 : decode cX12_applies 88 = .ok (.isub, 1) := by decide +kernel
theorem dX12_applies_89 : decode cX12_applies 89 = .ok (.iaload, 1) := by decide +kernel
theorem dX12_applies_90 : decode cX12_applies 90 = .ok (.isub, 1) := by decide +kernel
theorem dX12_applies_91 : decode cX12_applies 91 = .ok (.goto 4, 3) := by decide +kernel
theorem dX12_applies_94 : decode cX12_applies 94 = .ok (.iconst 1, 1) := by decide +kernel
theorem dX12_applies_95 : decode cX12_applies 95 = .ok (.iadd, 1) := by decide +kernel
theorem dX12_applies_96 : decode cX12_applies 96 = .ok (.istore_n 3, 1) := by decide +kernel
theorem dX12_applies_97 : decode cX12_applies 97 = .ok (.iinc 4 1, 3) := by decide +kernel
theorem dX12_applies_100 : decode cX12_applies 100 = .ok (.goto (-72), 3) := by decide +kernel
theorem dX12_applies_103 : decode cX12_applies 103 = .ok (.iload_n 3, 1) := by decide +kernel
theorem dX12_applies_104 : decode cX12_applies 104 = .ok (.sipush 300, 3) := by decide +kernel
theorem dX12_applies_107 : decode cX12_applies 107 = .ok (.if_icmp .le 5, 3) := by decide +kernel
theorem dX12_applies_110 : decode cX12_applies 110 = .ok (.iconst 0, 1) := by decide +kernel
theorem dX12_applies_111 : decode cX12_applies 111 = .ok (.ireturn, 1) := by decide +kernel
theorem dX12_applies_112 : decode cX12_applies 112 = .ok (.aload_n 0, 1) := by decide +kernel
theorem dX12_applies_113 : decode cX12_applies 113 = .ok (.iconst 0, 1) := by decide +kernel
theorem dX12_applies_114 : decode cX12_applies 114 = .ok (.putfield 117, 3) := by decide +kernel
theorem dX12_applies_117 : decode cX12_applies 117 = .ok (.aload_n 0, 1) := by decide +kernel
theorem dX12_applies_118 : decode cX12_applies 118 = .ok (.iconst 0, 1) := by decide +kernel
theorem dX12_applies_119 : decode cX12_applies 119 = .ok (.iload_n 2, 1) := by decide +kernel
theorem dX12_applies_120 : decode cX12_applies 120 = .ok (.invokevirtual 367, 3) := by decide +kernel
theorem dX12_applies_123 : decode cX12_applies 123 = .ok (.aload_n 0, 1) := by decide +kernel
theorem dX12_applies_124 : decode cX12_applies 124 = .ok (.getfield 32, 3) := by decide +kernel
theorem dX12_applies_127 : decode cX12_applies 127 = .ok (.iload_n 1, 1) := by decide +kernel
theorem dX12_applies_128 : decode cX12_applies 128 = .ok (.iaload, 1) := by decide +kernel
theorem dX12_applies_129 : decode cX12_applies 129 = .ok (.istore 4, 2) := by decide +kernel
theorem dX12_applies_131 : decode cX12_applies 131 = .ok (.iload 4, 2) := by decide +kernel
theorem dX12_applies_133 : decode cX12_applies 133 = .ok (.aload_n 0, 1) := by decide +kernel
theorem dX12_applies_134 : decode cX12_applies 134 = .ok (.getfield 35, 3) := by decide +kernel
theorem dX12_applies_137 : decode cX12_applies 137 = .ok (.iload_n 1, 1) := by decide +kernel
theorem dX12_applies_138 : decode cX12_applies 138 = .ok (.iaload, 1) := by decide +kernel
theorem dX12_applies_139 : decode cX12_applies 139 = .ok (.if_icmp .ge 72, 3) := by decide +kernel
theorem dX12_applies_142 : decode cX12_applies 142 = .ok (.aload_n 0, 1) := by decide +kernel
theorem dX12_applies_143 : decode cX12_applies 143 = .ok (.getfield 29, 3) := by decide +kernel
theorem dX12_applies_146 : decode cX12_applies 146 = .ok (.bipush 40, 2) := by decide +kernel
theorem dX12_applies_148 : decode cX12_applies 148 = .ok (.iload_n 1, 1) := by decide +kernel
theorem dX12_applies_149 : decode cX12_applies 149 = .ok (.imul, 1) := by decide +kernel
theorem dX12_applies_150 : decode cX12_applies 150 = .ok (.iload 4, 2) := by decide +kernel
theorem dX12_applies_152 : decode cX12_applies 152 = .ok (.iadd, 1) := by decide +kernel
theorem dX12_applies_153 : decode cX12_applies 153 = .ok (.iaload, 1) := by decide +kernel
theorem dX12_applies_154 : decode cX12_applies 154 = .ok (.istore 5, 2) := by decide +kernel
theorem dX12_applies_156 : decode cX12_applies 156 = .ok (.iload 5, 2) := by decide +kernel
theorem dX12_applies_158 : decode cX12_applies 158 = .ok (.bipush 30, 2) := by decide +kernel
theorem dX12_applies_160 : decode cX12_applies 160 = .ok (.bipush 32, 2) := by decide +kernel
theorem dX12_applies_162 : decode cX12_applies 162 = .ok (.invokestatic 90, 3) := by decide +kernel
theorem dX12_applies_165 : decode cX12_applies 165 = .ok (.ifCond .eq 34, 3) := by decide +kernel
theorem dX12_applies_168 : decode cX12_applies 168 = .ok (.aload_n 0, 1) := by decide +kernel
theorem dX12_applies_169 : decode cX12_applies 169 = .ok (.aload_n 0, 1) := by decide +kernel
theorem dX12_applies_170 : decode cX12_applies 170 = .ok (.getfield 65, 3) := by decide +kernel
theorem dX12_applies_173 : decode cX12_applies 173 = .ok (.iload 5, 2) := by decide +kernel
theorem dX12_applies_175 : decode cX12_applies 175 = .ok (.bipush 30, 2) := by decide +kernel
theorem dX12_applies_177 : decode cX12_applies 177 = .ok (.isub, 1) := by decide +kernel
theorem dX12_applies_178 : decode cX12_applies 178 = .ok (.iaload, 1) := by decide +kernel
theorem dX12_applies_179 : decode cX12_applies 179 = .ok (.aload_n 0, 1) := by decide +kernel
theorem dX12_applies_180 : decode cX12_applies 180 = .ok (.aload_n 0, 1) := by decide +kernel
theorem dX12_applies_181 : decode cX12_applies 181 = .ok (.getfield 65, 3) := by decide +kernel
theorem dX12_applies_184 : decode cX12_applies 184 = .ok (.iload 5, 2) := by decide +kernel
theorem dX12_applies_186 : decode cX12_applies 186 = .ok (.bipush 30, 2) := by decide +kernel
theorem dX12_applies_188 : decode cX12_applies 188 = .ok (.isub, 1) := by decide +kernel
theorem dX12_applies_189 : decode cX12_applies 189 = .ok (.iaload, 1) := by decide +kernel
theorem dX12_applies_190 : decode cX12_applies 190 = .ok (.invokevirtual 94, 3) := by decide +kernel
theorem dX12_applies_193 : decode cX12_applies 193 = .ok (.invokevirtual 367, 3) := by decide +kernel
theorem dX12_applies_196 : decode cX12_applies 196 = .ok (.goto 9, 3) := by decide +kernel
theorem dX12_applies_199 : decode cX12_applies 199 = .ok (.aload_n 0, 1) := by decide +kernel
theorem dX12_applies_200 : decode cX12_applies 200 = .ok (.iload 5, 2) := by decide +kernel
theorem dX12_applies_202 : decode cX12_applies 202 = .ok (.invokevirtual 120, 3) := by decide +kernel
theorem dX12_applies_205 : decode cX12_applies 205 = .ok (.iinc 4 1, 3) := by decide +kernel
theorem dX12_applies_208 : decode cX12_applies 208 = .ok (.goto (-77), 3) := by decide +kernel
theorem dX12_applies_211 : decode cX12_applies 211 = .ok (.aload_n 0, 1) := by decide +kernel
theorem dX12_applies_212 : decode cX12_applies 212 = .ok (.aload_n 0, 1) := by decide +kernel
theorem dX12_applies_213 : decode cX12_applies 213 = .ok (.iload_n 2, 1) := by decide +kernel
theorem dX12_applies_214 : decode cX12_applies 214 = .ok (.invokevirtual 94, 3) := by decide +kernel
theorem dX12_applies_217 : decode cX12_applies 217 = .ok (.aload_n 0, 1) := by decide +kernel
theorem dX12_applies_218 : decode cX12_applies 218 = .ok (.getfield 98, 3) := by decide +kernel
theorem dX12_applies_221 : decode cX12_applies 221 = .ok (.invokevirtual 367, 3) := by decide +kernel
theorem dX12_applies_224 : decode cX12_applies 224 = .ok (.aload_n 0, 1) := by decide +kernel
theorem dX12_applies_225 : decode cX12_applies 225 = .ok (.invokevirtual 259, 3) := by decide +kernel
theorem dX12_applies_228 : decode cX12_applies 228 = .ok (.iconst 1, 1) := by decide +kernel
theorem dX12_applies_229 : decode cX12_applies 229 = .ok (.ireturn, 1) := by decide +kernel
theorem dX12_apply_0 : decode cX12_apply 0 = .ok (.iload_n 1, 1) := by decide +kernel
theorem dX12_apply_1 : decode cX12_apply 1 = .ok (.iconst 0, 1) := by decide +kernel
theorem dX12_apply_2 : decode cX12_apply 2 = .ok (.aload_n 0, 1) := by decide +kernel
theorem dX12_apply_3 : decode cX12_apply 3 = .ok (.getfield 268, 3) := by decide +kernel
theorem dX12_apply_6 : decode cX12_apply 6 = .ok (.iconst 1, 1) := by decide +kernel
theorem dX12_apply_7 : decode cX12_apply 7 = .ok (.isub, 1) := by decide +kernel
theorem dX12_apply_8 : decode cX12_apply 8 = .ok (.invokestatic 90, 3) := by decide +kernel
theorem dX12_apply_11 : decode cX12_apply 11 = .ok (.ifCond .eq 22, 3) := by decide +kernel
theorem dX12_apply_14 : decode cX12_apply 14 = .ok (.iload_n 2, 1) := by decide +kernel
theorem dX12_apply_15 : decode cX12_apply 15 = .ok (.invokestatic 249, 3) := by decide +kernel
theorem dX12_apply_18 : decode cX12_apply 18 = .ok (.ifCond .eq 15, 3) := by decide +kernel
theorem dX12_apply_21 : decode cX12_apply 21 = .ok (.iload 4, 2) := by decide +kernel
theorem dX12_apply_23 : decode cX12_apply 23 = .ok (.invokestatic 249, 3) := by decide +kernel
theorem dX12_apply_26 : decode cX12_apply 26 = .ok (.ifCond .eq 7, 3) := by decide +kernel
theorem dX12_apply_29 : decode cX12_apply 29 = .ok (.iload_n 3, 1) := by decide +kernel
theorem dX12_apply_30 : decode cX12_apply 30 = .ok (.ifCond .ge 5, 3) := by decide +kernel
theorem dX12_apply_33 : decode cX12_apply 33 = .ok (.iconst 0, 1) := by decide +kernel
theorem dX12_apply_34 : decode cX12_apply 34 = .ok (.ireturn, 1) := by decide +kernel
theorem dX12_apply_35 : decode cX12_apply 35 = .ok (.aload_n 0, 1) := by decide +kernel
theorem dX12_apply_36 : decode cX12_apply 36 = .ok (.iload_n 2, 1) := by decide +kernel
theorem dX12_apply_37 : decode cX12_apply 37 = .ok (.invokevirtual 271, 3) := by decide +kernel
theorem dX12_apply_40 : decode cX12_apply 40 = .ok (.aload_n 0, 1) := by decide +kernel
theorem dX12_apply_41 : decode cX12_apply 41 = .ok (.iload_n 1, 1) := by decide +kernel
theorem dX12_apply_42 : decode cX12_apply 42 = .ok (.iload_n 3, 1) := by decide +kernel
theorem dX12_apply_43 : decode cX12_apply 43 = .ok (.invokevirtual 370, 3) := by decide +kernel
theorem dX12_apply_46 : decode cX12_apply 46 = .ok (.istore 5, 2) := by decide +kernel
theorem dX12_apply_48 : decode cX12_apply 48 = .ok (.iload 5, 2) := by decide +kernel
theorem dX12_apply_50 : decode cX12_apply 50 = .ok (.iconst (-1), 1) := by decide +kernel
theorem dX12_apply_51 : decode cX12_apply 51 = .ok (.if_icmp .eq 13, 3) := by decide +kernel
theorem dX12_apply_54 : decode cX12_apply 54 = .ok (.aload_n 0, 1) := by decide +kernel
theorem dX12_apply_55 : decode cX12_apply 55 = .ok (.iload_n 1, 1) := by decide +kernel
theorem dX12_apply_56 : decode cX12_apply 56 = .ok (.iload 5, 2) := by decide +kernel
theorem dX12_apply_58 : decode cX12_apply 58 = .ok (.invokevirtual 373, 3) := by decide +kernel
theorem dX12_apply_61 : decode cX12_apply 61 = .ok (.ifCond .ne 5, 3) := by decide +kernel
theorem dX12_apply_64 : decode cX12_apply 64 = .ok (.iconst 0, 1) := by decide +kernel
theorem dX12_apply_65 : decode cX12_apply 65 = .ok (.ireturn, 1) := by decide +kernel
theorem dX12_apply_66 : decode cX12_apply 66 = .ok (.aload_n 0, 1) := by decide +kernel
theorem dX12_apply_67 : decode cX12_apply 67 = .ok (.iload 4, 2) := by decide +kernel
theorem dX12_apply_69 : decode cX12_apply 69 = .ok (.invokevirtual 262, 3) := by decide +kernel
theorem dX12_apply_72 : decode cX12_apply 72 = .ok (.iconst 1, 1) := by decide +kernel
theorem dX12_apply_73 : decode cX12_apply 73 = .ok (.ireturn, 1) := by decide +kernel
theorem dX12_asks_0 : decode cX12_asks 0 = .ok (.aload_n 0, 1) := by decide +kernel
theorem dX12_asks_1 : decode cX12_asks 1 = .ok (.getfield 117, 3) := by decide +kernel
theorem dX12_asks_4 : decode cX12_asks 4 = .ok (.istore_n 1, 1) := by decide +kernel
theorem dX12_asks_5 : decode cX12_asks 5 = .ok (.aload_n 0, 1) := by decide +kernel
theorem dX12_asks_6 : decode cX12_asks 6 = .ok (.invokevirtual 219, 3) := by decide +kernel
theorem dX12_asks_9 : decode cX12_asks 9 = .ok (.ifCond .ne 5, 3) := by decide +kernel
theorem dX12_asks_12 : decode cX12_asks 12 = .ok (.iconst 0, 1) := by decide +kernel
theorem dX12_asks_13 : decode cX12_asks 13 = .ok (.ireturn, 1) := by decide +kernel
theorem dX12_asks_14 : decode cX12_asks 14 = .ok (.aload_n 0, 1) := by decide +kernel
theorem dX12_asks_15 : decode cX12_asks 15 = .ok (.getfield 164, 3) := by decide +kernel
theorem dX12_asks_18 : decode cX12_asks 18 = .ok (.bipush 60, 2) := by decide +kernel
theorem dX12_asks_20 : decode cX12_asks 20 = .ok (.if_icmp .ne 9, 3) := by decide +kernel
theorem dX12_asks_23 : decode cX12_asks 23 = .ok (.sipush 130, 3) := by decide +kernel
theorem dX12_asks_26 : decode cX12_asks 26 = .ok (.goto 34, 3) := by decide +kernel
theorem dX12_asks_29 : decode cX12_asks 29 = .ok (.aload_n 0, 1) := by decide +kernel
theorem dX12_asks_30 : decode cX12_asks 30 = .ok (.getfield 164, 3) := by decide +kernel
theorem dX12_asks_33 : decode cX12_asks 33 = .ok (.bipush 61, 2) := by decide +kernel
theorem dX12_asks_35 : decode cX12_asks 35 = .ok (.if_icmp .ne 9, 3) := by decide +kernel
theorem dX12_asks_38 : decode cX12_asks 38 = .ok (.sipush 131, 3) := by decide +kernel
theorem dX12_asks_41 : decode cX12_asks 41 = .ok (.goto 19, 3) := by decide +kernel
theorem dX12_asks_44 : decode cX12_asks 44 = .ok (.aload_n 0, 1) := by decide +kernel
theorem dX12_asks_45 : decode cX12_asks 45 = .ok (.getfield 164, 3) := by decide +kernel
theorem dX12_asks_48 : decode cX12_asks 48 = .ok (.bipush 62, 2) := by decide +kernel
theorem dX12_asks_50 : decode cX12_asks 50 = .ok (.if_icmp .ne 9, 3) := by decide +kernel
theorem dX12_asks_53 : decode cX12_asks 53 = .ok (.sipush 132, 3) := by decide +kernel
theorem dX12_asks_56 : decode cX12_asks 56 = .ok (.goto 4, 3) := by decide +kernel
theorem dX12_asks_59 : decode cX12_asks 59 = .ok (.iconst (-1), 1) := by decide +kernel
theorem dX12_asks_60 : decode cX12_asks 60 = .ok (.istore_n 2, 1) := by decide +kernel
theorem dX12_asks_61 : decode cX12_asks 61 = .ok (.iload_n 2, 1) := by decide +kernel
theorem dX12_asks_62 : decode cX12_asks 62 = .ok (.iconst (-1), 1) := by decide +kernel
theorem dX12_asks_63 : decode cX12_asks 63 = .ok (.if_icmp .ne 9, 3) := by decide +kernel
theorem dX12_asks_66 : decode cX12_asks 66 = .ok (.aload_n 0, 1) := by decide +kernel
theorem dX12_asks_67 : decode cX12_asks 67 = .ok (.iconst 1, 1) := by decide +kernel
theorem dX12_asks_68 : decode cX12_asks 68 = .ok (.invokevirtual 185, 3) := by decide +kernel
theorem dX12_asks_71 : decode cX12_asks 71 = .ok (.ireturn, 1) := by decide +kernel
theorem dX12_asks_72 : decode cX12_asks 72 = .ok (.aload_n 0, 1) := by decide +kernel
theorem dX12_asks_73 : decode cX12_asks 73 = .ok (.invokevirtual 188, 3) := by decide +kernel
theorem dX12_asks_76 : decode cX12_asks 76 = .ok (.aload_n 0, 1) := by decide +kernel
theorem dX12_asks_77 : decode cX12_asks 77 = .ok (.iload_n 1, 1) := by decide +kernel
theorem dX12_asks_78 : decode cX12_asks 78 = .ok (.iload_n 2, 1) := by decide +kernel
theorem dX12_asks_79 : decode cX12_asks 79 = .ok (.invokevirtual 209, 3) := by decide +kernel
theorem dX12_asks_82 : decode cX12_asks 82 = .ok (.aload_n 0, 1) := by decide +kernel
theorem dX12_asks_83 : decode cX12_asks 83 = .ok (.invokevirtual 219, 3) := by decide +kernel
theorem dX12_asks_86 : decode cX12_asks 86 = .ok (.ireturn, 1) := by decide +kernel
theorem dX12_at_0 : decode cX12_at 0 = .ok (.iload_n 1, 1) := by decide +kernel
theorem dX12_at_1 : decode cX12_at 1 = .ok (.invokestatic 249, 3) := by decide +kernel
theorem dX12_at_4 : decode cX12_at 4 = .ok (.ifCond .eq 34, 3) := by decide +kernel
theorem dX12_at_7 : decode cX12_at 7 = .ok (.iload_n 2, 1) := by decide +kernel
theorem dX12_at_8 : decode cX12_at 8 = .ok (.iconst 0, 1) := by decide +kernel
theorem dX12_at_9 : decode cX12_at 9 = .ok (.aload_n 0, 1) := by decide +kernel
theorem dX12_at_10 : decode cX12_at 10 = .ok (.getfield 13, 3) := by decide +kernel
theorem dX12_at_13 : decode cX12_at 13 = .ok (.iload_n 1, 1) := by decide +kernel
theorem dX12_at_14 : decode cX12_at 14 = .ok (.iaload, 1) := by decide +kernel
theorem dX12_at_15 : decode cX12_at 15 = .ok (.iconst 1, 1) := by decide +kernel
theorem dX12_at_16 : decode cX12_at 16 = .ok (.isub, 1) := by decide +kernel
theorem dX12_at_17 : decode cX12_at 17 = .ok (.invokestatic 90, 3) := by decide +kernel
theorem dX12_at_20 : decode cX12_at 20 = .ok (.ifCond .eq 18, 3) := by decide +kernel
theorem dX12_at_23 : decode cX12_at 23 = .ok (.aload_n 0, 1) := by decide +kernel
theorem dX12_at_24 : decode cX12_at 24 = .ok (.getfield 7, 3) := by decide +kernel
theorem dX12_at_27 : decode cX12_at 27 = .ok (.sipush 520, 3) := by decide +kernel
theorem dX12_at_30 : decode cX12_at 30 = .ok (.iload_n 1, 1) := by decide +kernel
theorem dX12_at_31 : decode cX12_at 31 = .ok (.imul, 1) := by decide +kernel
theorem dX12_at_32 : decode cX12_at 32 = .ok (.iload_n 2, 1) := by decide +kernel
theorem dX12_at_33 : decode cX12_at 33 = .ok (.iadd, 1) := by decide +kernel
theorem dX12_at_34 : decode cX12_at 34 = .ok (.iaload, 1) := by decide +kernel
theorem dX12_at_35 : decode cX12_at 35 = .ok (.goto 4, 3) := by decide +kernel
theorem dX12_at_38 : decode cX12_at 38 = .ok (.iconst (-1), 1) := by decide +kernel
theorem dX12_at_39 : decode cX12_at 39 = .ok (.ireturn, 1) := by decide +kernel
theorem dX12_bad_0 : decode cX12_bad 0 = .ok (.aload_n 0, 1) := by decide +kernel
theorem dX12_bad_1 : decode cX12_bad 1 = .ok (.iload_n 1, 1) := by decide +kernel
theorem dX12_bad_2 : decode cX12_bad 2 = .ok (.putfield 179, 3) := by decide +kernel
theorem dX12_bad_5 : decode cX12_bad 5 = .ok (.aload_n 0, 1) := by decide +kernel
theorem dX12_bad_6 : decode cX12_bad 6 = .ok (.aload_n 0, 1) := by decide +kernel
theorem dX12_bad_7 : decode cX12_bad 7 = .ok (.getfield 130, 3) := by decide +kernel
theorem dX12_bad_10 : decode cX12_bad 10 = .ok (.putfield 182, 3) := by decide +kernel
theorem dX12_bad_13 : decode cX12_bad 13 = .ok (.iconst 0, 1) := by decide +kernel
theorem dX12_bad_14 : decode cX12_bad 14 = .ok (.ireturn, 1) := by decide +kernel
theorem dX12_begins_0 : decode cX12_begins 0 = .ok (.aload_n 0, 1) := by decide +kernel
theorem dX12_begins_1 : decode cX12_begins 1 = .ok (.iload_n 1, 1) := by decide +kernel
theorem dX12_begins_2 : decode cX12_begins 2 = .ok (.putfield 143, 3) := by decide +kernel
theorem dX12_begins_5 : decode cX12_begins 5 = .ok (.aload_n 0, 1) := by decide +kernel
theorem dX12_begins_6 : decode cX12_begins 6 = .ok (.iconst 0, 1) := by decide +kernel
theorem dX12_begins_7 : decode cX12_begins 7 = .ok (.putfield 225, 3) := by decide +kernel
theorem dX12_begins_10 : decode cX12_begins 10 = .ok (.aload_n 0, 1) := by decide +kernel
theorem dX12_begins_11 : decode cX12_begins 11 = .ok (.iload_n 2, 1) := by decide +kernel
theorem dX12_begins_12 : decode cX12_begins 12 = .ok (.putfield 200, 3) := by decide +kernel
theorem dX12_begins_15 : decode cX12_begins 15 = .ok (.aload_n 0, 1) := by decide +kernel
theorem dX12_begins_16 : decode cX12_begins 16 = .ok (.iconst 0, 1) := by decide +kernel
theorem dX12_begins_17 : decode cX12_begins 17 = .ok (.putfield 179, 3) := by decide +kernel
theorem dX12_begins_20 : decode cX12_begins 20 = .ok (.aload_n 0, 1) := by decide +kernel
theorem dX12_begins_21 : decode cX12_begins 21 = .ok (.iconst (-1), 1) := by decide +kernel
theorem dX12_begins_22 : decode cX12_begins 22 = .ok (.putfield 182, 3) := by decide +kernel
theorem dX12_begins_25 : decode cX12_begins 25 = .ok (.aload_n 0, 1) := by decide +kernel
theorem dX12_begins_26 : decode cX12_begins 26 = .ok (.iconst 0, 1) := by decide +kernel
theorem dX12_begins_27 : decode cX12_begins 27 = .ok (.putfield 127, 3) := by decide +kernel
theorem dX12_begins_30 : decode cX12_begins 30 = .ok (.aload_n 0, 1) := by decide +kernel
theorem dX12_begins_31 : decode cX12_begins 31 = .ok (.iconst 0, 1) := by decide +kernel
theorem dX12_begins_32 : decode cX12_begins 32 = .ok (.putfield 191, 3) := by decide +kernel
theorem dX12_begins_35 : decode cX12_begins 35 = .ok (.aload_n 0, 1) := by decide +kernel
theorem dX12_begins_36 : decode cX12_begins 36 = .ok (.iconst 0, 1) := by decide +kernel
theorem dX12_begins_37 : decode cX12_begins 37 = .ok (.putfield 197, 3) := by decide +kernel
theorem dX12_begins_40 : decode cX12_begins 40 = .ok (.aload_n 0, 1) := by decide +kernel
theorem dX12_begins_41 : decode cX12_begins 41 = .ok (.iconst 0, 1) := by decide +kernel
theorem dX12_begins_42 : decode cX12_begins 42 = .ok (.putfield 237, 3) := by decide +kernel
theorem dX12_begins_45 : decode cX12_begins 45 = .ok (.aload_n 0, 1) := by decide +kernel
theorem dX12_begins_46 : decode cX12_begins 46 = .ok (.iconst 0, 1) := by decide +kernel
theorem dX12_begins_47 : decode cX12_begins 47 = .ok (.putfield 228, 3) := by decide +kernel
theorem dX12_begins_50 : decode cX12_begins 50 = .ok (.aload_n 0, 1) := by decide +kernel
theorem dX12_begins_51 : decode cX12_begins 51 = .ok (.iconst 0, 1) := by decide +kernel
theorem dX12_begins_52 : decode cX12_begins 52 = .ok (.putfield 117, 3) := by decide +kernel
theorem dX12_begins_55 : decode cX12_begins 55 = .ok (.aload_n 0, 1) := by decide +kernel
theorem dX12_begins_56 : decode cX12_begins 56 = .ok (.invokevirtual 188, 3) := by decide +kernel
theorem dX12_begins_59 : decode cX12_begins 59 = .ok (.return_, 1) := by decide +kernel
theorem dX12_behind_0 : decode cX12_behind 0 = .ok (.aload_n 0, 1) := by decide +kernel
theorem dX12_behind_1 : decode cX12_behind 1 = .ok (.getfield 16, 3) := by decide +kernel
theorem dX12_behind_4 : decode cX12_behind 4 = .ok (.iload_n 1, 1) := by decide +kernel
theorem dX12_behind_5 : decode cX12_behind 5 = .ok (.iaload, 1) := by decide +kernel
theorem dX12_behind_6 : decode cX12_behind 6 = .ok (.bipush 111, 2) := by decide +kernel
theorem dX12_behind_8 : decode cX12_behind 8 = .ok (.if_icmp .ne 7, 3) := by decide +kernel
theorem dX12_behind_11 : decode cX12_behind 11 = .ok (.iload_n 1, 1) := by decide +kernel
theorem dX12_behind_12 : decode cX12_behind 12 = .ok (.iconst 1, 1) := by decide +kernel
theorem dX12_behind_13 : decode cX12_behind 13 = .ok (.iadd, 1) := by decide +kernel
theorem dX12_behind_14 : decode cX12_behind 14 = .ok (.ireturn, 1) := by decide +kernel
theorem dX12_behind_15 : decode cX12_behind 15 = .ok (.aload_n 0, 1) := by decide +kernel
theorem dX12_behind_16 : decode cX12_behind 16 = .ok (.getfield 16, 3) := by decide +kernel
theorem dX12_behind_19 : decode cX12_behind 19 = .ok (.iload_n 1, 1) := by decide +kernel
theorem dX12_behind_20 : decode cX12_behind 20 = .ok (.iaload, 1) := by decide +kernel
theorem dX12_behind_21 : decode cX12_behind 21 = .ok (.bipush 112, 2) := by decide +kernel
theorem dX12_behind_23 : decode cX12_behind 23 = .ok (.if_icmp .eq 22, 3) := by decide +kernel
theorem dX12_behind_26 : decode cX12_behind 26 = .ok (.aload_n 0, 1) := by decide +kernel
theorem dX12_behind_27 : decode cX12_behind 27 = .ok (.getfield 16, 3) := by decide +kernel
theorem dX12_behind_30 : decode cX12_behind 30 = .ok (.iload_n 1, 1) := by decide +kernel
theorem dX12_behind_31 : decode cX12_behind 31 = .ok (.iaload, 1) := by decide +kernel
theorem dX12_behind_32 : decode cX12_behind 32 = .ok (.bipush 115, 2) := by decide +kernel
theorem dX12_behind_34 : decode cX12_behind 34 = .ok (.if_icmp .eq 11, 3) := by decide +kernel
theorem dX12_behind_37 : decode cX12_behind 37 = .ok (.aload_n 0, 1) := by decide +kernel
theorem dX12_behind_38 : decode cX12_behind 38 = .ok (.iload_n 1, 1) := by decide +kernel
theorem dX12_behind_39 : decode cX12_behind 39 = .ok (.iconst 1, 1) := by decide +kernel
theorem dX12_behind_40 : decode cX12_behind 40 = .ok (.iadd, 1) := by decide +kernel
theorem dX12_behind_41 : decode cX12_behind 41 = .ok (.invokevirtual 94, 3) := by decide +kernel
theorem dX12_behind_44 : decode cX12_behind 44 = .ok (.ireturn, 1) := by decide +kernel
theorem dX12_behind_45 : decode cX12_behind 45 = .ok (.aload_n 0, 1) := by decide +kernel
theorem dX12_behind_46 : decode cX12_behind 46 = .ok (.iload_n 1, 1) := by decide +kernel
theorem dX12_behind_47 : decode cX12_behind 47 = .ok (.invokevirtual 101, 3) := by decide +kernel
theorem dX12_behind_50 : decode cX12_behind 50 = .ok (.istore_n 2, 1) := by decide +kernel
theorem dX12_behind_51 : decode cX12_behind 51 = .ok (.aload_n 0, 1) := by decide +kernel
theorem dX12_behind_52 : decode cX12_behind 52 = .ok (.getfield 16, 3) := by decide +kernel
theorem dX12_behind_55 : decode cX12_behind 55 = .ok (.iload_n 2, 1) := by decide +kernel
theorem dX12_behind_56 : decode cX12_behind 56 = .ok (.iaload, 1) := by decide +kernel
theorem dX12_behind_57 : decode cX12_behind 57 = .ok (.bipush 114, 2) := by decide +kernel
theorem dX12_behind_59 : decode cX12_behind 59 = .ok (.if_icmp .eq 29, 3) := by decide +kernel
theorem dX12_behind_62 : decode cX12_behind 62 = .ok (.aload_n 0, 1) := by decide +kernel
theorem dX12_behind_63 : decode cX12_behind 63 = .ok (.getfield 16, 3) := by decide +kernel
theorem dX12_behind_66 : decode cX12_behind 66 = .ok (.iload_n 2, 1) := by decide +kernel
theorem dX12_behind_67 : decode cX12_behind 67 = .ok (.iaload, 1) := by decide +kernel
theorem dX12_behind_68 : decode cX12_behind 68 = .ok (.bipush 113, 2) := by decide +kernel
theorem dX12_behind_70 : decode cX12_behind 70 = .ok (.if_icmp .ne 9, 3) := by decide +kernel
theorem dX12_behind_73 : decode cX12_behind 73 = .ok (.iload_n 2, 1) := by decide +kernel
theorem dX12_behind_74 : decode cX12_behind 74 = .ok (.iconst 1, 1) := by decide +kernel
theorem dX12_behind_75 : decode cX12_behind 75 = .ok (.iadd, 1) := by decide +kernel
theorem dX12_behind_76 : decode cX12_behind 76 = .ok (.goto 8, 3) := by decide +kernel
theorem dX12_behind_79 : decode cX12_behind 79 = .ok (.aload_n 0, 1) := by decide +kernel
theorem dX12_behind_80 : decode cX12_behind 80 = .ok (.iload_n 2, 1) := by decide +kernel
theorem dX12_behind_81 : decode cX12_behind 81 = .ok (.invokevirtual 104, 3) := by decide +kernel
theorem dX12_behind_84 : decode cX12_behind 84 = .ok (.istore_n 2, 1) := by decide +kernel
theorem dX12_behind_85 : decode cX12_behind 85 = .ok (.goto (-34), 3) := by decide +kernel
theorem dX12_behind_88 : decode cX12_behind 88 = .ok (.iload_n 2, 1) := by decide +kernel
theorem dX12_behind_89 : decode cX12_behind 89 = .ok (.iconst 1, 1) := by decide +kernel
theorem dX12_behind_90 : decode cX12_behind 90 = .ok (.iadd, 1) := by decide +kernel
theorem dX12_behind_91 : decode cX12_behind 91 = .ok (.ireturn, 1) := by decide +kernel
theorem dX12_blame_0 : decode cX12_blame 0 = .ok (.iload_n 1, 1) := by decide +kernel
theorem dX12_blame_1 : decode cX12_blame 1 = .ok (.invokestatic 249, 3) := by decide +kernel
theorem dX12_blame_4 : decode cX12_blame 4 = .ok (.ifCond .eq 12, 3) := by decide +kernel
theorem dX12_blame_7 : decode cX12_blame 7 = .ok (.iload_n 2, 1) := by decide +kernel
theorem dX12_blame_8 : decode cX12_blame 8 = .ok (.iconst 0, 1) := by decide +kernel
theorem dX12_blame_9 : decode cX12_blame 9 = .ok (.iconst 1, 1) := by decide +kernel
theorem dX12_blame_10 : decode cX12_blame 10 = .ok (.invokestatic 90, 3) := by decide +kernel
theorem dX12_blame_13 : decode cX12_blame 13 = .ok (.ifCond .ne 5, 3) := by decide +kernel
theorem dX12_blame_16 : decode cX12_blame 16 = .ok (.iconst (-1), 1) := by decide +kernel
theorem dX12_blame_17 : decode cX12_blame 17 = .ok (.ireturn, 1) := by decide +kernel
theorem dX12_blame_18 : decode cX12_blame 18 = .ok (.aload_n 0, 1) := by decide +kernel
theorem dX12_blame_19 : decode cX12_blame 19 = .ok (.iload_n 1, 1) := by decide +kernel
theorem dX12_blame_20 : decode cX12_blame 20 = .ok (.invokevirtual 271, 3) := by decide +kernel
theorem dX12_blame_23 : decode cX12_blame 23 = .ok (.iconst 0, 1) := by decide +kernel
theorem dX12_blame_24 : decode cX12_blame 24 = .ok (.istore_n 3, 1) := by decide +kernel
theorem dX12_blame_25 : decode cX12_blame 25 = .ok (.iload_n 3, 1) := by decide +kernel
theorem dX12_blame_26 : decode cX12_blame 26 = .ok (.bipush 6, 2) := by decide +kernel
theorem dX12_blame_28 : decode cX12_blame 28 = .ok (.if_icmp .ge 68, 3) := by decide +kernel
theorem dX12_blame_31 : decode cX12_blame 31 = .ok (.aload_n 0, 1) := by decide +kernel
theorem dX12_blame_32 : decode cX12_blame 32 = .ok (.getfield 75, 3) := by decide +kernel
theorem dX12_blame_35 : decode cX12_blame 35 = .ok (.iload_n 3, 1) := by decide +kernel
theorem dX12_blame_36 : decode cX12_blame 36 = .ok (.iaload, 1) := by decide +kernel
theorem dX12_blame_37 : decode cX12_blame 37 = .ok (.ifCond .ne 6, 3) := by decide +kernel
theorem dX12_blame_40 : decode cX12_blame 40 = .ok (.goto 50, 3) := by decide +kernel
theorem dX12_blame_43 : decode cX12_blame 43 = .ok (.aload_n 0, 1) := by decide +kernel
theorem dX12_blame_44 : decode cX12_blame 44 = .ok (.invokevirtual 330, 3) := by decide +kernel
theorem dX12_blame_47 : decode cX12_blame 47 = .ok (.aload_n 0, 1) := by decide +kernel
theorem dX12_blame_48 : decode cX12_blame 48 = .ok (.iload_n 3, 1) := by decide +kernel
theorem dX12_blame_49 : decode cX12_blame 49 = .ok (.invokevirtual 439, 3) := by decide +kernel
theorem dX12_blame_52 : decode cX12_blame 52 = .ok (.ifCond .ne 13, 3) := by decide +kernel
theorem dX12_blame_55 : decode cX12_blame 55 = .ok (.iload_n 2, 1) := by decide +kernel
theorem dX12_blame_56 : decode cX12_blame 56 = .ok (.ifCond .ne 7, 3) := by decide +kernel
theorem dX12_blame_59 : decode cX12_blame 59 = .ok (.iload_n 3, 1) := by decide +kernel
theorem dX12_blame_60 : decode cX12_blame 60 = .ok (.goto 4, 3) := by decide +kernel
theorem dX12_blame_63 : decode cX12_blame 63 = .ok (.iconst (-1), 1) := by decide +kernel
theorem dX12_blame_64 : decode cX12_blame 64 = .ok (.ireturn, 1) := by decide +kernel
theorem dX12_blame_65 : decode cX12_blame 65 = .ok (.aload_n 0, 1) := by decide +kernel
theorem dX12_blame_66 : decode cX12_blame 66 = .ok (.invokevirtual 333, 3) := by decide +kernel
theorem dX12_blame_69 : decode cX12_blame 69 = .ok (.aload_n 0, 1) := by decide +kernel
theorem dX12_blame_70 : decode cX12_blame 70 = .ok (.getfield 318, 3) := by decide +kernel
theorem dX12_blame_73 : decode cX12_blame 73 = .ok (.iconst (-1), 1) := by decide +kernel
theorem dX12_blame_74 : decode cX12_blame 74 = .ok (.if_icmp .eq 16, 3) := by decide +kernel
theorem dX12_blame_77 : decode cX12_blame 77 = .ok (.iload_n 2, 1) := by decide +kernel
theorem dX12_blame_78 : decode cX12_blame 78 = .ok (.ifCond .ne 7, 3) := by decide +kernel
theorem dX12_blame_81 : decode cX12_blame 81 = .ok (.iload_n 3, 1) := by decide +kernel
theorem dX12_blame_82 : decode cX12_blame 82 = .ok (.goto 7, 3) := by decide +kernel
theorem dX12_blame_85 : decode cX12_blame 85 = .ok (.aload_n 0, 1) := by decide +kernel
theorem dX12_blame_86 : decode cX12_blame 86 = .ok (.getfield 318, 3) := by decide +kernel
theorem dX12_blame_89 : decode cX12_blame 89 = .ok (.ireturn, 1) := by decide +kernel
theorem dX12_blame_90 : decode cX12_blame 90 = .ok (.iinc 3 1, 3) := by decide +kernel
theorem dX12_blame_93 : decode cX12_blame 93 = .ok (.goto (-68), 3) := by decide +kernel
theorem dX12_blame_96 : decode cX12_blame 96 = .ok (.iconst (-1), 1) := by decide +kernel
theorem dX12_blame_97 : decode cX12_blame 97 = .ok (.ireturn, 1) := by decide +kernel
theorem dX12_block_0 : decode cX12_block 0 = .ok (.aload_n 0, 1) := by decide +kernel
theorem dX12_block_1 : decode cX12_block 1 = .ok (.bipush 123, 2) := by decide +kernel
theorem dX12_block_3 : decode cX12_block 3 = .ok (.invokevirtual 216, 3) := by decide +kernel
theorem dX12_block_6 : decode cX12_block 6 = .ok (.ifCond .ne 5, 3) := by decide +kernel
theorem dX12_block_9 : decode cX12_block 9 = .ok (.iconst 0, 1) := by decide +kernel
theorem dX12_block_10 : decode cX12_block 10 = .ok (.ireturn, 1) := by decide +kernel
theorem dX12_block_11 : decode cX12_block 11 = .ok (.aload_n 0, 1) := by decide +kernel
theorem dX12_block_12 : decode cX12_block 12 = .ok (.getfield 164, 3) := by decide +kernel
theorem dX12_block_15 : decode cX12_block 15 = .ok (.bipush 125, 2) := by decide +kernel
theorem dX12_block_17 : decode cX12_block 17 = .ok (.if_icmp .eq 12, 3) := by decide +kernel
theorem dX12_block_20 : decode cX12_block 20 = .ok (.aload_n 0, 1) := by decide +kernel
theorem dX12_block_21 : decode cX12_block 21 = .ok (.invokevirtual 231, 3) := by decide +kernel
theorem dX12_block_24 : decode cX12_block 24 = .ok (.ifCond .ne (-13), 3) := by decide +kernel
theorem dX12_block_27 : decode cX12_block 27 = .ok (.iconst 0, 1) := by decide +kernel
theorem dX12_block_28 : decode cX12_block 28 = .ok (.ireturn, 1) := by decide +kernel
theorem dX12_block_29 : decode cX12_block 29 = .ok (.aload_n 0, 1) := by decide +kernel
theorem dX12_block_30 : decode cX12_block 30 = .ok (.bipush 125, 2) := by decide +kernel
theorem dX12_block_32 : decode cX12_block 32 = .ok (.invokevirtual 222, 3) := by decide +kernel
theorem dX12_block_35 : decode cX12_block 35 = .ok (.ireturn, 1) := by decide +kernel
theorem dX12_body_0 : decode cX12_body 0 = .ok (.aload_n 0, 1) := by decide +kernel
theorem dX12_body_1 : decode cX12_body 1 = .ok (.aload_n 0, 1) := by decide +kernel
theorem dX12_body_2 : decode cX12_body 2 = .ok (.iload_n 1, 1) := by decide +kernel
theorem dX12_body_3 : decode cX12_body 3 = .ok (.iconst 2, 1) := by decide +kernel
theorem dX12_body_4 : decode cX12_body 4 = .ok (.iadd, 1) := by decide +kernel
theorem dX12_body_5 : decode cX12_body 5 = .ok (.invokevirtual 94, 3) := by decide +kernel
theorem dX12_body_8 : decode cX12_body 8 = .ok (.invokevirtual 94, 3) := by decide +kernel
theorem dX12_body_11 : decode cX12_body 11 = .ok (.ireturn, 1) := by decide +kernel
theorem dX12_both_0 : decode cX12_both 0 = .ok (.iload_n 0, 1) := by decide +kernel
theorem dX12_both_1 : decode cX12_both 1 = .ok (.bipush 120, 2) := by decide +kernel
theorem dX12_both_3 : decode cX12_both 3 = .ok (.if_icmp .ne 9, 3) := by decide +kernel
theorem dX12_both_6 : decode cX12_both 6 = .ok (.iload_n 1, 1) := by decide +kernel
theorem dX12_both_7 : decode cX12_both 7 = .ok (.iload_n 2, 1) := by decide +kernel
theorem dX12_both_8 : decode cX12_both 8 = .ok (.iadd, 1) := by decide +kernel
theorem dX12_both_9 : decode cX12_both 9 = .ok (.goto 18, 3) := by decide +kernel
theorem dX12_both_12 : decode cX12_both 12 = .ok (.iload_n 0, 1) := by decide +kernel
theorem dX12_both_13 : decode cX12_both 13 = .ok (.bipush 121, 2) := by decide +kernel
theorem dX12_both_15 : decode cX12_both 15 = .ok (.if_icmp .ne 9, 3) := by decide +kernel
theorem dX12_both_18 : decode cX12_both 18 = .ok (.iload_n 1, 1) := by decide +kernel
theorem dX12_both_19 : decode cX12_both 19 = .ok (.iload_n 2, 1) := by decide +kernel
theorem dX12_both_20 : decode cX12_both 20 = .ok (.isub, 1) := by decide +kernel
theorem dX12_both_21 : decode cX12_both 21 = .ok (.goto 6, 3) := by decide +kernel
theorem dX12_both_24 : decode cX12_both 24 = .ok (.iload_n 1, 1) := by decide +kernel
theorem dX12_both_25 : decode cX12_both 25 = .ok (.iload_n 2, 1) := by decide +kernel
theorem dX12_both_26 : decode cX12_both 26 = .ok (.imul, 1) := by decide +kernel
theorem dX12_both_27 : decode cX12_both 27 = .ok (.bipush 15, 2) := by decide +kernel
theorem dX12_both_29 : decode cX12_both 29 = .ok (.iand, 1) := by decide +kernel
theorem dX12_both_30 : decode cX12_both 30 = .ok (.ireturn, 1) := by decide +kernel
theorem dX12_clash_0 : decode cX12_clash 0 = .ok (.iload_n 1, 1) := by decide +kernel
theorem dX12_clash_1 : decode cX12_clash 1 = .ok (.invokestatic 249, 3) := by decide +kernel
theorem dX12_clash_4 : decode cX12_clash 4 = .ok (.ifCond .eq 26, 3) := by decide +kernel
theorem dX12_clash_7 : decode cX12_clash 7 = .ok (.iload_n 2, 1) := by decide +kernel
theorem dX12_clash_8 : decode cX12_clash 8 = .ok (.iconst 0, 1) := by decide +kernel
theorem dX12_clash_9 : decode cX12_clash 9 = .ok (.iconst 5, 1) := by decide +kernel
theorem dX12_clash_10 : decode cX12_clash 10 = .ok (.invokestatic 90, 3) := by decide +kernel
theorem dX12_clash_13 : decode cX12_clash 13 = .ok (.ifCond .eq 17, 3) := by decide +kernel
theorem dX12_clash_16 : decode cX12_clash 16 = .ok (.iload_n 3, 1) := by decide +kernel
theorem dX12_clash_17 : decode cX12_clash 17 = .ok (.iconst 0, 1) := by decide +kernel
theorem dX12_clash_18 : decode cX12_clash 18 = .ok (.iconst 5, 1) := by decide +kernel
theorem dX12_clash_19 : decode cX12_clash 19 = .ok (.invokestatic 90, 3) := by decide +kernel
theorem dX12_clash_22 : decode cX12_clash 22 = .ok (.ifCond .eq 8, 3) := by decide +kernel
theorem dX12_clash_25 : decode cX12_clash 25 = .ok (.iload_n 2, 1) := by decide +kernel
theorem dX12_clash_26 : decode cX12_clash 26 = .ok (.iload_n 3, 1) := by decide +kernel
theorem dX12_clash_27 : decode cX12_clash 27 = .ok (.if_icmp .ne 5, 3) := by decide +kernel
theorem dX12_clash_30 : decode cX12_clash 30 = .ok (.iconst (-1), 1) := by decide +kernel
theorem dX12_clash_31 : decode cX12_clash 31 = .ok (.ireturn, 1) := by decide +kernel
theorem dX12_clash_32 : decode cX12_clash 32 = .ok (.aload_n 0, 1) := by decide +kernel
theorem dX12_clash_33 : decode cX12_clash 33 = .ok (.iload_n 1, 1) := by decide +kernel
theorem dX12_clash_34 : decode cX12_clash 34 = .ok (.invokevirtual 472, 3) := by decide +kernel
theorem dX12_clash_37 : decode cX12_clash 37 = .ok (.aload_n 0, 1) := by decide +kernel
theorem dX12_clash_38 : decode cX12_clash 38 = .ok (.getfield 84, 3) := by decide +kernel
theorem dX12_clash_41 : decode cX12_clash 41 = .ok (.iload_n 2, 1) := by decide +kernel
theorem dX12_clash_42 : decode cX12_clash 42 = .ok (.iaload, 1) := by decide +kernel
theorem dX12_clash_43 : decode cX12_clash 43 = .ok (.iload_n 3, 1) := by decide +kernel
theorem dX12_clash_44 : decode cX12_clash 44 = .ok (.ishr, 1) := by decide +kernel
theorem dX12_clash_45 : decode cX12_clash 45 = .ok (.iconst 1, 1) := by decide +kernel
theorem dX12_clash_46 : decode cX12_clash 46 = .ok (.iand, 1) := by decide +kernel
theorem dX12_clash_47 : decode cX12_clash 47 = .ok (.ireturn, 1) := by decide +kernel
theorem dX12_clashAll_0 : decode cX12_clashAll 0 = .ok (.iconst 0, 1) := by decide +kernel
theorem dX12_clashAll_1 : decode cX12_clashAll 1 = .ok (.istore_n 2, 1) := by decide +kernel
theorem dX12_clashAll_2 : decode cX12_clashAll 2 = .ok (.iload_n 2, 1) := by decide +kernel
theorem dX12_clashAll_3 : decode cX12_clashAll 3 = .ok (.bipush 6, 2) := by decide +kernel
theorem dX12_clashAll_5 : decode cX12_clashAll 5 = .ok (.if_icmp .ge 34, 3) := by decide +kernel
theorem dX12_clashAll_8 : decode cX12_clashAll 8 = .ok (.iload_n 1, 1) := by decide +kernel
theorem dX12_clashAll_9 : decode cX12_clashAll 9 = .ok (.iload_n 2, 1) := by decide +kernel
theorem dX12_clashAll_10 : decode cX12_clashAll 10 = .ok (.ishr, 1) := by decide +kernel
theorem dX12_clashAll_11 : decode cX12_clashAll 11 = .ok (.iconst 1, 1) := by decide +kernel
theorem dX12_clashAll_12 : decode cX12_clashAll 12 = .ok (.iand, 1) := by decide +kernel
theorem dX12_clashAll_13 : decode cX12_clashAll 13 = .ok (.iconst 1, 1) := by decide +kernel
theorem dX12_clashAll_14 : decode cX12_clashAll 14 = .ok (.if_icmp .ne 19, 3) := by decide +kernel
theorem dX12_clashAll_17 : decode cX12_clashAll 17 = .ok (.aload_n 0, 1) := by decide +kernel
theorem dX12_clashAll_18 : decode cX12_clashAll 18 = .ok (.getfield 84, 3) := by decide +kernel
theorem dX12_clashAll_21 : decode cX12_clashAll 21 = .ok (.iload_n 2, 1) := by decide +kernel
theorem dX12_clashAll_22 : decode cX12_clashAll 22 = .ok (.dup2, 1) := by decide +kernel
theorem dX12_clashAll_23 : decode cX12_clashAll 23 = .ok (.iaload, 1) := by decide +kernel
theorem dX12_clashAll_24 : decode cX12_clashAll 24 = .ok (.iload_n 1, 1) := by decide +kernel
theorem dX12_clashAll_25 : decode cX12_clashAll 25 = .ok (.iconst 1, 1) := by decide +kernel
theorem dX12_clashAll_26 : decode cX12_clashAll 26 = .ok (.iload_n 2, 1) := by decide +kernel
theorem dX12_clashAll_27 : decode cX12_clashAll 27 = .ok (.ishl, 1) := by decide +kernel
theorem dX12_clashAll_28 : decode cX12_clashAll 28 = .ok (.iconst (-1), 1) := by decide +kernel
theorem dX12_clashAll_29 : decode cX12_clashAll 29 = .ok (.ixor, 1) := by decide +kernel
theorem dX12_clashAll_30 : decode cX12_clashAll 30 = .ok (.iand, 1) := by decide +kernel
theorem dX12_clashAll_31 : decode cX12_clashAll 31 = .ok (.ior, 1) := by decide +kernel
theorem dX12_clashAll_32 : decode cX12_clashAll 32 = .ok (.iastore, 1) := by decide +kernel
theorem dX12_clashAll_33 : decode cX12_clashAll 33 = .ok (.iinc 2 1, 3) := by decide +kernel
theorem dX12_clashAll_36 : decode cX12_clashAll 36 = .ok (.goto (-34), 3) := by decide +kernel
theorem dX12_clashAll_39 : decode cX12_clashAll 39 = .ok (.return_, 1) := by decide +kernel
theorem dX12_clashFrom_0 : decode cX12_clashFrom 0 = .ok (.iload_n 1, 1) := by decide +kernel
theorem dX12_clashFrom_1 : decode cX12_clashFrom 1 = .ok (.istore_n 3, 1) := by decide +kernel
theorem dX12_clashFrom_2 : decode cX12_clashFrom 2 = .ok (.aload_n 0, 1) := by decide +kernel
theorem dX12_clashFrom_3 : decode cX12_clashFrom 3 = .ok (.iload_n 3, 1) := by decide +kernel
theorem dX12_clashFrom_4 : decode cX12_clashFrom 4 = .ok (.invokevirtual 107, 3) := by decide +kernel
theorem dX12_clashFrom_7 : decode cX12_clashFrom 7 = .ok (.ifCond .ne 143, 3) := by decide +kernel
theorem dX12_clashFrom_10 : decode cX12_clashFrom 10 = .ok (.aload_n 0, 1) := by decide +kernel
theorem dX12_clashFrom_11 : decode cX12_clashFrom 11 = .ok (.aload_n 0, 1) := by decide +kernel
theorem dX12_clashFrom_12 : decode cX12_clashFrom 12 = .ok (.iload_n 3, 1) := by decide +kernel
theorem dX12_clashFrom_13 : decode cX12_clashFrom 13 = .ok (.invokevirtual 104, 3) := by decide +kernel
theorem dX12_clashFrom_16 : decode cX12_clashFrom 16 = .ok (.iload_n 2, 1) := by decide +kernel
theorem dX12_clashFrom_17 : decode cX12_clashFrom 17 = .ok (.invokevirtual 277, 3) := by decide +kernel
theorem dX12_clashFrom_20 : decode cX12_clashFrom 20 = .ok (.istore 4, 2) := by decide +kernel
theorem dX12_clashFrom_22 : decode cX12_clashFrom 22 = .ok (.aload_n 0, 1) := by decide +kernel
theorem dX12_clashFrom_23 : decode cX12_clashFrom 23 = .ok (.getfield 16, 3) := by decide +kernel
theorem dX12_clashFrom_26 : decode cX12_clashFrom 26 = .ok (.iload_n 3, 1) := by decide +kernel
theorem dX12_clashFrom_27 : decode cX12_clashFrom 27 = .ok (.iaload, 1) := by decide +kernel
theorem dX12_clashFrom_28 : decode cX12_clashFrom 28 = .ok (.istore 5, 2) := by decide +kernel
theorem dX12_clashFrom_30 : decode cX12_clashFrom 30 = .ok (.aload_n 0, 1) := by decide +kernel
theorem dX12_clashFrom_31 : decode cX12_clashFrom 31 = .ok (.aload_n 0, 1) := by decide +kernel
theorem dX12_clashFrom_32 : decode cX12_clashFrom 32 = .ok (.iload_n 3, 1) := by decide +kernel
theorem dX12_clashFrom_33 : decode cX12_clashFrom 33 = .ok (.iload 4, 2) := by decide +kernel
theorem dX12_clashFrom_35 : decode cX12_clashFrom 35 = .ok (.invokevirtual 376, 3) := by decide +kernel
theorem dX12_clashFrom_38 : decode cX12_clashFrom 38 = .ok (.invokevirtual 457, 3) := by decide +kernel
theorem dX12_clashFrom_41 : decode cX12_clashFrom 41 = .ok (.iload 5, 2) := by decide +kernel
theorem dX12_clashFrom_43 : decode cX12_clashFrom 43 = .ok (.bipush 100, 2) := by decide +kernel
theorem dX12_clashFrom_45 : decode cX12_clashFrom 45 = .ok (.bipush 105, 2) := by decide +kernel
theorem dX12_clashFrom_47 : decode cX12_clashFrom 47 = .ok (.invokestatic 90, 3) := by decide +kernel
theorem dX12_clashFrom_50 : decode cX12_clashFrom 50 = .ok (.ifCond .eq 14, 3) := by decide +kernel
theorem dX12_clashFrom_53 : decode cX12_clashFrom 53 = .ok (.aload_n 0, 1) := by decide +kernel
theorem dX12_clashFrom_54 : decode cX12_clashFrom 54 = .ok (.iload 5, 2) := by decide +kernel
theorem dX12_clashFrom_56 : decode cX12_clashFrom 56 = .ok (.bipush 100, 2) := by decide +kernel
theorem dX12_clashFrom_58 : decode cX12_clashFrom 58 = .ok (.isub, 1) := by decide +kernel
theorem dX12_clashFrom_59 : decode cX12_clashFrom 59 = .ok (.iload 4, 2) := by decide +kernel
theorem dX12_clashFrom_61 : decode cX12_clashFrom 61 = .ok (.invokevirtual 460, 3) := by decide +kernel
theorem dX12_clashFrom_64 : decode cX12_clashFrom 64 = .ok (.iload 5, 2) := by decide +kernel
theorem dX12_clashFrom_66 : decode cX12_clashFrom 66 = .ok (.bipush 115, 2) := by decide +kernel
theorem dX12_clashFrom_68 : decode cX12_clashFrom 68 = .ok (.if_icmp .ne 19, 3) := by decide +kernel
theorem dX12_clashFrom_71 : decode cX12_clashFrom 71 = .ok (.aload_n 0, 1) := by decide +kernel
theorem dX12_clashFrom_72 : decode cX12_clashFrom 72 = .ok (.aload_n 0, 1) := by decide +kernel
theorem dX12_clashFrom_73 : decode cX12_clashFrom 73 = .ok (.iload_n 3, 1) := by decide +kernel
theorem dX12_clashFrom_74 : decode cX12_clashFrom 74 = .ok (.invokevirtual 101, 3) := by decide +kernel
theorem dX12_clashFrom_77 : decode cX12_clashFrom 77 = .ok (.aload_n 0, 1) := by decide +kernel
theorem dX12_clashFrom_78 : decode cX12_clashFrom 78 = .ok (.iload_n 3, 1) := by decide +kernel
theorem dX12_clashFrom_79 : decode cX12_clashFrom 79 = .ok (.iload 4, 2) := by decide +kernel
theorem dX12_clashFrom_81 : decode cX12_clashFrom 81 = .ok (.invokevirtual 376, 3) := by decide +kernel
theorem dX12_clashFrom_84 : decode cX12_clashFrom 84 = .ok (.invokevirtual 463, 3) := by decide +kernel
theorem dX12_clashFrom_87 : decode cX12_clashFrom 87 = .ok (.iload 5, 2) := by decide +kernel
theorem dX12_clashFrom_89 : decode cX12_clashFrom 89 = .ok (.bipush 112, 2) := by decide +kernel
theorem dX12_clashFrom_91 : decode cX12_clashFrom 91 = .ok (.if_icmp .eq 6, 3) := by decide +kernel
theorem dX12_clashFrom_94 : decode cX12_clashFrom 94 = .ok (.goto 47, 3) := by decide +kernel
theorem dX12_clashFrom_97 : decode cX12_clashFrom 97 = .ok (.aload_n 0, 1) := by decide +kernel
theorem dX12_clashFrom_98 : decode cX12_clashFrom 98 = .ok (.aload_n 0, 1) := by decide +kernel
theorem dX12_clashFrom_99 : decode cX12_clashFrom 99 = .ok (.iload_n 3, 1) := by decide +kernel
theorem dX12_clashFrom_100 : decode cX12_clashFrom 100 = .ok (.invokevirtual 101, 3) := by decide +kernel
theorem dX12_clashFrom_103 : decode cX12_clashFrom 103 = .ok (.invokevirtual 309, 3) := by decide +kernel
theorem dX12_clashFrom_106 : decode cX12_clashFrom 106 = .ok (.istore 6, 2) := by decide +kernel
theorem dX12_clashFrom_108 : decode cX12_clashFrom 108 = .ok (.aload_n 0, 1) := by decide +kernel
theorem dX12_clashFrom_109 : decode cX12_clashFrom 109 = .ok (.aload_n 0, 1) := by decide +kernel
theorem dX12_clashFrom_110 : decode cX12_clashFrom 110 = .ok (.iload_n 3, 1) := by decide +kernel
theorem dX12_clashFrom_111 : decode cX12_clashFrom 111 = .ok (.invokevirtual 101, 3) := by decide +kernel
theorem dX12_clashFrom_114 : decode cX12_clashFrom 114 = .ok (.iload 4, 2) := by decide +kernel
theorem dX12_clashFrom_116 : decode cX12_clashFrom 116 = .ok (.invokevirtual 463, 3) := by decide +kernel
theorem dX12_clashFrom_119 : decode cX12_clashFrom 119 = .ok (.aload_n 0, 1) := by decide +kernel
theorem dX12_clashFrom_120 : decode cX12_clashFrom 120 = .ok (.getfield 16, 3) := by decide +kernel
theorem dX12_clashFrom_123 : decode cX12_clashFrom 123 = .ok (.iload 6, 2) := by decide +kernel
theorem dX12_clashFrom_125 : decode cX12_clashFrom 125 = .ok (.iaload, 1) := by decide +kernel
theorem dX12_clashFrom_126 : decode cX12_clashFrom 126 = .ok (.bipush 113, 2) := by decide +kernel
theorem dX12_clashFrom_128 : decode cX12_clashFrom 128 = .ok (.if_icmp .ne 13, 3) := by decide +kernel
theorem dX12_clashFrom_131 : decode cX12_clashFrom 131 = .ok (.aload_n 0, 1) := by decide +kernel
theorem dX12_clashFrom_132 : decode cX12_clashFrom 132 = .ok (.iload 6, 2) := by decide +kernel
theorem dX12_clashFrom_134 : decode cX12_clashFrom 134 = .ok (.iconst 1, 1) := by decide +kernel
theorem dX12_clashFrom_135 : decode cX12_clashFrom 135 = .ok (.iadd, 1) := by decide +kernel
theorem dX12_clashFrom_136 : decode cX12_clashFrom 136 = .ok (.iload 4, 2) := by decide +kernel
theorem dX12_clashFrom_138 : decode cX12_clashFrom 138 = .ok (.invokevirtual 463, 3) := by decide +kernel
theorem dX12_clashFrom_141 : decode cX12_clashFrom 141 = .ok (.aload_n 0, 1) := by decide +kernel
theorem dX12_clashFrom_142 : decode cX12_clashFrom 142 = .ok (.iload_n 3, 1) := by decide +kernel
theorem dX12_clashFrom_143 : decode cX12_clashFrom 143 = .ok (.invokevirtual 104, 3) := by decide +kernel
theorem dX12_clashFrom_146 : decode cX12_clashFrom 146 = .ok (.istore_n 3, 1) := by decide +kernel
theorem dX12_clashFrom_147 : decode cX12_clashFrom 147 = .ok (.goto (-145), 3) := by decide +kernel
theorem dX12_clashFrom_150 : decode cX12_clashFrom 150 = .ok (.return_, 1) := by decide +kernel
theorem dX12_clashIn_0 : decode cX12_clashIn 0 = .ok (.aload_n 0, 1) := by decide +kernel
theorem dX12_clashIn_1 : decode cX12_clashIn 1 = .ok (.iload_n 1, 1) := by decide +kernel
theorem dX12_clashIn_2 : decode cX12_clashIn 2 = .ok (.invokevirtual 271, 3) := by decide +kernel
theorem dX12_clashIn_5 : decode cX12_clashIn 5 = .ok (.iconst 0, 1) := by decide +kernel
theorem dX12_clashIn_6 : decode cX12_clashIn 6 = .ok (.istore_n 2, 1) := by decide +kernel
theorem dX12_clashIn_7 : decode cX12_clashIn 7 = .ok (.iload_n 2, 1) := by decide +kernel
theorem dX12_clashIn_8 : decode cX12_clashIn 8 = .ok (.bipush 6, 2) := by decide +kernel
theorem dX12_clashIn_10 : decode cX12_clashIn 10 = .ok (.if_icmp .ge 16, 3) := by decide +kernel
theorem dX12_clashIn_13 : decode cX12_clashIn 13 = .ok (.aload_n 0, 1) := by decide +kernel
theorem dX12_clashIn_14 : decode cX12_clashIn 14 = .ok (.getfield 84, 3) := by decide +kernel
theorem dX12_clashIn_17 : decode cX12_clashIn 17 = .ok (.iload_n 2, 1) := by decide +kernel
theorem dX12_clashIn_18 : decode cX12_clashIn 18 = .ok (.iconst 0, 1) := by decide +kernel
theorem dX12_clashIn_19 : decode cX12_clashIn 19 = .ok (.iastore, 1) := by decide +kernel
theorem dX12_clashIn_20 : decode cX12_clashIn 20 = .ok (.iinc 2 1, 3) := by decide +kernel
theorem dX12_clashIn_23 : decode cX12_clashIn 23 = .ok (.goto (-16), 3) := by decide +kernel
theorem dX12_clashIn_26 : decode cX12_clashIn 26 = .ok (.aload_n 0, 1) := by decide +kernel
theorem dX12_clashIn_27 : decode cX12_clashIn 27 = .ok (.iconst 0, 1) := by decide +kernel
theorem dX12_clashIn_28 : decode cX12_clashIn 28 = .ok (.iconst 0, 1) := by decide +kernel
theorem dX12_clashIn_29 : decode cX12_clashIn 29 = .ok (.invokevirtual 463, 3) := by decide +kernel
theorem dX12_clashIn_32 : decode cX12_clashIn 32 = .ok (.return_, 1) := by decide +kernel
theorem dX12_clashSet_0 : decode cX12_clashSet 0 = .ok (.aload_n 0, 1) := by decide +kernel
theorem dX12_clashSet_1 : decode cX12_clashSet 1 = .ok (.getfield 84, 3) := by decide +kernel
theorem dX12_clashSet_4 : decode cX12_clashSet 4 = .ok (.iload_n 1, 1) := by decide +kernel
theorem dX12_clashSet_5 : decode cX12_clashSet 5 = .ok (.dup2, 1) := by decide +kernel
theorem dX12_clashSet_6 : decode cX12_clashSet 6 = .ok (.iaload, 1) := by decide +kernel
theorem dX12_clashSet_7 : decode cX12_clashSet 7 = .ok (.iload_n 2, 1) := by decide +kernel
theorem dX12_clashSet_8 : decode cX12_clashSet 8 = .ok (.iconst 1, 1) := by decide +kernel
theorem dX12_clashSet_9 : decode cX12_clashSet 9 = .ok (.iload_n 1, 1) := by decide +kernel
theorem dX12_clashSet_10 : decode cX12_clashSet 10 = .ok (.ishl, 1) := by decide +kernel
theorem dX12_clashSet_11 : decode cX12_clashSet 11 = .ok (.iconst (-1), 1) := by decide +kernel
theorem dX12_clashSet_12 : decode cX12_clashSet 12 = .ok (.ixor, 1) := by decide +kernel
theorem dX12_clashSet_13 : decode cX12_clashSet 13 = .ok (.iand, 1) := by decide +kernel
theorem dX12_clashSet_14 : decode cX12_clashSet 14 = .ok (.ior, 1) := by decide +kernel
theorem dX12_clashSet_15 : decode cX12_clashSet 15 = .ok (.iastore, 1) := by decide +kernel
theorem dX12_clashSet_16 : decode cX12_clashSet 16 = .ok (.iconst 0, 1) := by decide +kernel
theorem dX12_clashSet_17 : decode cX12_clashSet 17 = .ok (.istore_n 3, 1) := by decide +kernel
theorem dX12_clashSet_18 : decode cX12_clashSet 18 = .ok (.iload_n 3, 1) := by decide +kernel
theorem dX12_clashSet_19 : decode cX12_clashSet 19 = .ok (.bipush 6, 2) := by decide +kernel
theorem dX12_clashSet_21 : decode cX12_clashSet 21 = .ok (.if_icmp .ge 35, 3) := by decide +kernel
theorem dX12_clashSet_24 : decode cX12_clashSet 24 = .ok (.iload_n 3, 1) := by decide +kernel
theorem dX12_clashSet_25 : decode cX12_clashSet 25 = .ok (.iload_n 1, 1) := by decide +kernel
theorem dX12_clashSet_26 : decode cX12_clashSet 26 = .ok (.if_icmp .eq 24, 3) := by decide +kernel
theorem dX12_clashSet_29 : decode cX12_clashSet 29 = .ok (.iload_n 2, 1) := by decide +kernel
theorem dX12_clashSet_30 : decode cX12_clashSet 30 = .ok (.iload_n 3, 1) := by decide +kernel
theorem dX12_clashSet_31 : decode cX12_clashSet 31 = .ok (.ishr, 1) := by decide +kernel
theorem dX12_clashSet_32 : decode cX12_clashSet 32 = .ok (.iconst 1, 1) := by decide +kernel
theorem dX12_clashSet_33 : decode cX12_clashSet 33 = .ok (.iand, 1) := by decide +kernel
theorem dX12_clashSet_34 : decode cX12_clashSet 34 = .ok (.iconst 1, 1) := by decide +kernel
theorem dX12_clashSet_35 : decode cX12_clashSet 35 = .ok (.if_icmp .ne 15, 3) := by decide +kernel
theorem dX12_clashSet_38 : decode cX12_clashSet 38 = .ok (.aload_n 0, 1) := by decide +kernel
theorem dX12_clashSet_39 : decode cX12_clashSet 39 = .ok (.getfield 84, 3) := by decide +kernel
theorem dX12_clashSet_42 : decode cX12_clashSet 42 = .ok (.iload_n 3, 1) := by decide +kernel
theorem dX12_clashSet_43 : decode cX12_clashSet 43 = .ok (.dup2, 1) := by decide +kernel
theorem dX12_clashSet_44 : decode cX12_clashSet 44 = .ok (.iaload, 1) := by decide +kernel
theorem dX12_clashSet_45 : decode cX12_clashSet 45 = .ok (.iconst 1, 1) := by decide +kernel
theorem dX12_clashSet_46 : decode cX12_clashSet 46 = .ok (.iload_n 1, 1) := by decide +kernel
theorem dX12_clashSet_47 : decode cX12_clashSet 47 = .ok (.ishl, 1) := by decide +kernel
theorem dX12_clashSet_48 : decode cX12_clashSet 48 = .ok (.ior, 1) := by decide +kernel
theorem dX12_clashSet_49 : decode cX12_clashSet 49 = .ok (.iastore, 1) := by decide +kernel
theorem dX12_clashSet_50 : decode cX12_clashSet 50 = .ok (.iinc 3 1, 3) := by decide +kernel
theorem dX12_clashSet_53 : decode cX12_clashSet 53 = .ok (.goto (-35), 3) := by decide +kernel
theorem dX12_clashSet_56 : decode cX12_clashSet 56 = .ok (.return_, 1) := by decide +kernel
theorem dX12_clear_0 : decode cX12_clear 0 = .ok (.iload_n 1, 1) := by decide +kernel
theorem dX12_clear_1 : decode cX12_clear 1 = .ok (.invokestatic 423, 3) := by decide +kernel
theorem dX12_clear_4 : decode cX12_clear 4 = .ok (.ifCond .ne 5, 3) := by decide +kernel
theorem dX12_clear_7 : decode cX12_clear 7 = .ok (.iconst 0, 1) := by decide +kernel
theorem dX12_clear_8 : decode cX12_clear 8 = .ok (.ireturn, 1) := by decide +kernel
theorem dX12_clear_9 : decode cX12_clear 9 = .ok (.aload_n 0, 1) := by decide +kernel
theorem dX12_clear_10 : decode cX12_clear 10 = .ok (.getfield 75, 3) := by decide +kernel
theorem dX12_clear_13 : decode cX12_clear 13 = .ok (.iload_n 1, 1) := by decide +kernel
theorem dX12_clear_14 : decode cX12_clear 14 = .ok (.iconst 0, 1) := by decide +kernel
theorem dX12_clear_15 : decode cX12_clear 15 = .ok (.iastore, 1) := by decide +kernel
theorem dX12_clear_16 : decode cX12_clear 16 = .ok (.iconst 1, 1) := by decide +kernel
theorem dX12_clear_17 : decode cX12_clear 17 = .ok (.ireturn, 1) := by decide +kernel
theorem dX12_clears_0 : decode cX12_clears 0 = .ok (.aload_n 0, 1) := by decide +kernel
theorem dX12_clears_1 : decode cX12_clears 1 = .ok (.iconst 0, 1) := by decide +kernel
theorem dX12_clears_2 : decode cX12_clears 2 = .ok (.putfield 382, 3) := by decide +kernel
theorem dX12_clears_5 : decode cX12_clears 5 = .ok (.iconst 0, 1) := by decide +kernel
theorem dX12_clears_6 : decode cX12_clears 6 = .ok (.istore_n 1, 1) := by decide +kernel
theorem dX12_clears_7 : decode cX12_clears 7 = .ok (.iload_n 1, 1) := by decide +kernel
theorem dX12_clears_8 : decode cX12_clears 8 = .ok (.sipush 2400, 3) := by decide +kernel
theorem dX12_clears_11 : decode cX12_clears 11 = .ok (.if_icmp .ge 16, 3) := by decide +kernel
theorem dX12_clears_14 : decode cX12_clears 14 = .ok (.aload_n 0, 1) := by decide +kernel
theorem dX12_clears_15 : decode cX12_clears 15 = .ok (.getfield 68, 3) := by decide +kernel
theorem dX12_clears_18 : decode cX12_clears 18 = .ok (.iload_n 1, 1) := by decide +kernel
theorem dX12_clears_19 : decode cX12_clears 19 = .ok (.iconst 0, 1) := by decide +kernel
theorem dX12_clears_20 : decode cX12_clears 20 = .ok (.bastore, 1) := by decide +kernel
theorem dX12_clears_21 : decode cX12_clears 21 = .ok (.iinc 1 1, 3) := by decide +kernel
theorem dX12_clears_24 : decode cX12_clears 24 = .ok (.goto (-17), 3) := by decide +kernel
theorem dX12_clears_27 : decode cX12_clears 27 = .ok (.return_, 1) := by decide +kernel
theorem dX12_close_0 : decode cX12_close 0 = .ok (.iload_n 1, 1) := by decide +kernel
theorem dX12_close_1 : decode cX12_close 1 = .ok (.istore_n 2, 1) := by decide +kernel
theorem dX12_close_2 : decode cX12_close 2 = .ok (.aload_n 0, 1) := by decide +kernel
theorem dX12_close_3 : decode cX12_close 3 = .ok (.iload_n 2, 1) := by decide +kernel
theorem dX12_close_4 : decode cX12_close 4 = .ok (.invokevirtual 107, 3) := by decide +kernel
theorem dX12_close_7 : decode cX12_close 7 = .ok (.ifCond .ne 12, 3) := by decide +kernel
theorem dX12_close_10 : decode cX12_close 10 = .ok (.aload_n 0, 1) := by decide +kernel
theorem dX12_close_11 : decode cX12_close 11 = .ok (.iload_n 2, 1) := by decide +kernel
theorem dX12_close_12 : decode cX12_close 12 = .ok (.invokevirtual 104, 3) := by decide +kernel
theorem dX12_close_15 : decode cX12_close 15 = .ok (.istore_n 2, 1) := by decide +kernel
theorem dX12_close_16 : decode cX12_close 16 = .ok (.goto (-14), 3) := by decide +kernel
theorem dX12_close_19 : decode cX12_close 19 = .ok (.iload_n 2, 1) := by decide +kernel
theorem dX12_close_20 : decode cX12_close 20 = .ok (.ireturn, 1) := by decide +kernel
theorem dX12_closes_0 : decode cX12_closes 0 = .ok (.aload_n 0, 1) := by decide +kernel
theorem dX12_closes_1 : decode cX12_closes 1 = .ok (.iload_n 1, 1) := by decide +kernel
theorem dX12_closes_2 : decode cX12_closes 2 = .ok (.invokevirtual 194, 3) := by decide +kernel
theorem dX12_closes_5 : decode cX12_closes 5 = .ok (.ifCond .ne 5, 3) := by decide +kernel
theorem dX12_closes_8 : decode cX12_closes 8 = .ok (.iconst 0, 1) := by decide +kernel
theorem dX12_closes_9 : decode cX12_closes 9 = .ok (.ireturn, 1) := by decide +kernel
theorem dX12_closes_10 : decode cX12_closes 10 = .ok (.aload_n 0, 1) := by decide +kernel
theorem dX12_closes_11 : decode cX12_closes 11 = .ok (.dup, 1) := by decide +kernel
theorem dX12_closes_12 : decode cX12_closes 12 = .ok (.getfield 191, 3) := by decide +kernel
theorem dX12_closes_15 : decode cX12_closes 15 = .ok (.iconst 1, 1) := by decide +kernel
theorem dX12_closes_16 : decode cX12_closes 16 = .ok (.isub, 1) := by decide +kernel
theorem dX12_closes_17 : decode cX12_closes 17 = .ok (.putfield 191, 3) := by decide +kernel
theorem dX12_closes_20 : decode cX12_closes 20 = .ok (.iconst 1, 1) := by decide +kernel
theorem dX12_closes_21 : decode cX12_closes 21 = .ok (.ireturn, 1) := by decide +kernel
theorem dX12_compares_0 : decode cX12_compares 0 = .ok (.aload_n 0, 1) := by decide +kernel
theorem dX12_compares_1 : decode cX12_compares 1 = .ok (.iconst (-1), 1) := by decide +kernel
theorem dX12_compares_2 : decode cX12_compares 2 = .ok (.putfield 318, 3) := by decide +kernel
theorem dX12_compares_5 : decode cX12_compares 5 = .ok (.aload_n 0, 1) := by decide +kernel
theorem dX12_compares_6 : decode cX12_compares 6 = .ok (.iconst (-1), 1) := by decide +kernel
theorem dX12_compares_7 : decode cX12_compares 7 = .ok (.putfield 321, 3) := by decide +kernel
theorem dX12_compares_10 : decode cX12_compares 10 = .ok (.aload_n 0, 1) := by decide +kernel
theorem dX12_compares_11 : decode cX12_compares 11 = .ok (.iconst 0, 1) := by decide +kernel
theorem dX12_compares_12 : decode cX12_compares 12 = .ok (.putfield 324, 3) := by decide +kernel
theorem dX12_compares_15 : decode cX12_compares 15 = .ok (.aload_n 0, 1) := by decide +kernel
theorem dX12_compares_16 : decode cX12_compares 16 = .ok (.iconst 0, 1) := by decide +kernel
theorem dX12_compares_17 : decode cX12_compares 17 = .ok (.putfield 327, 3) := by decide +kernel
theorem dX12_compares_20 : decode cX12_compares 20 = .ok (.iconst 0, 1) := by decide +kernel
theorem dX12_compares_21 : decode cX12_compares 21 = .ok (.istore_n 1, 1) := by decide +kernel
theorem dX12_compares_22 : decode cX12_compares 22 = .ok (.iload_n 1, 1) := by decide +kernel
theorem dX12_compares_23 : decode cX12_compares 23 = .ok (.sipush 256, 3) := by decide +kernel
theorem dX12_compares_26 : decode cX12_compares 26 = .ok (.if_icmp .ge 214, 3) := by decide +kernel
theorem dX12_compares_29 : decode cX12_compares 29 = .ok (.aload_n 0, 1) := by decide +kernel
theorem dX12_compares_30 : decode cX12_compares 30 = .ok (.iload_n 1, 1) := by decide +kernel
theorem dX12_compares_31 : decode cX12_compares 31 = .ok (.bipush 16, 2) := by decide +kernel
theorem dX12_compares_33 : decode cX12_compares 33 = .ok (.idiv, 1) := by decide +kernel
theorem dX12_compares_34 : decode cX12_compares 34 = .ok (.iload_n 1, 1) := by decide +kernel
theorem dX12_compares_35 : decode cX12_compares 35 = .ok (.bipush 16, 2) := by decide +kernel
theorem dX12_compares_37 : decode cX12_compares 37 = .ok (.irem, 1) := by decide +kernel
theorem dX12_compares_38 : decode cX12_compares 38 = .ok (.invokevirtual 315, 3) := by decide +kernel
theorem dX12_compares_41 : decode cX12_compares 41 = .ok (.iconst 0, 1) := by decide +kernel
theorem dX12_compares_42 : decode cX12_compares 42 = .ok (.istore_n 2, 1) := by decide +kernel
theorem dX12_compares_43 : decode cX12_compares 43 = .ok (.iload_n 2, 1) := by decide +kernel
theorem dX12_compares_44 : decode cX12_compares 44 = .ok (.aload_n 0, 1) := by decide +kernel
theorem dX12_compares_45 : decode cX12_compares 45 = .ok (.getfield 312, 3) := by decide +kernel
theorem dX12_compares_48 : decode cX12_compares 48 = .ok (.if_icmp .ge 39, 3) := by decide +kernel
theorem dX12_compares_51 : decode cX12_compares 51 = .ok (.iload_n 2, 1) := by decide +kernel
theorem dX12_compares_52 : decode cX12_compares 52 = .ok (.aload_n 0, 1) := by decide +kernel
theorem dX12_compares_53 : decode cX12_compares 53 = .ok (.getfield 50, 3) := by decide +kernel
theorem dX12_compares_56 : decode cX12_compares 56 = .ok (.iload_n 1, 1) := by decide +kernel
theorem dX12_compares_57 : decode cX12_compares 57 = .ok (.iaload, 1) := by decide +kernel
theorem dX12_compares_58 : decode cX12_compares 58 = .ok (.if_icmp .ge 29, 3) := by decide +kernel
theorem dX12_compares_61 : decode cX12_compares 61 = .ok (.aload_n 0, 1) := by decide +kernel
theorem dX12_compares_62 : decode cX12_compares 62 = .ok (.getfield 44, 3) := by decide +kernel
theorem dX12_compares_65 : decode cX12_compares 65 = .ok (.iload_n 2, 1) := by decide +kernel
theorem dX12_compares_66 : decode cX12_compares 66 = .ok (.iaload, 1) := by decide +kernel
theorem dX12_compares_67 : decode cX12_compares 67 = .ok (.aload_n 0, 1) := by decide +kernel
theorem dX12_compares_68 : decode cX12_compares 68 = .ok (.getfield 53, 3) := by decide +kernel
theorem dX12_compares_71 : decode cX12_compares 71 = .ok (.bipush 101, 2) := by decide +kernel
theorem dX12_compares_73 : decode cX12_compares 73 = .ok (.iload_n 1, 1) := by decide +kernel
theorem dX12_compares_74 : decode cX12_compares 74 = .ok (.imul, 1) := by decide +kernel
theorem dX12_compares_75 : decode cX12_compares 75 = .ok (.iload_n 2, 1) := by decide +kernel
theorem dX12_compares_76 : decode cX12_compares 76 = .ok (.iadd, 1) := by decide +kernel
theorem dX12_compares_77 : decode cX12_compares 77 = .ok (.iaload, 1) := by decide +kernel
theorem dX12_compares_78 : decode cX12_compares 78 = .ok (.if_icmp .ne 9, 3) := by decide +kernel
theorem dX12_compares_81 : decode cX12_compares 81 = .ok (.iinc 2 1, 3) := by decide +kernel
theorem dX12_compares_84 : decode cX12_compares 84 = .ok (.goto (-41), 3) := by decide +kernel
theorem dX12_compares_87 : decode cX12_compares 87 = .ok (.iload_n 2, 1) := by decide +kernel
theorem dX12_compares_88 : decode cX12_compares 88 = .ok (.aload_n 0, 1) := by decide +kernel
theorem dX12_compares_89 : decode cX12_compares 89 = .ok (.getfield 312, 3) := by decide +kernel
theorem dX12_compares_92 : decode cX12_compares 92 = .ok (.if_icmp .ge 17, 3) := by decide +kernel
theorem dX12_compares_95 : decode cX12_compares 95 = .ok (.iload_n 2, 1) := by decide +kernel
theorem dX12_compares_96 : decode cX12_compares 96 = .ok (.aload_n 0, 1) := by decide +kernel
theorem dX12_compares_97 : decode cX12_compares 97 = .ok (.getfield 50, 3) := by decide +kernel
theorem dX12_compares_100 : decode cX12_compares 100 = .ok (.iload_n 1, 1) := by decide +kernel
theorem dX12_compares_101 : decode cX12_compares 101 = .ok (.iaload, 1) := by decide +kernel
theorem dX12_compares_102 : decode cX12_compares 102 = .ok (.if_icmp .ge 7, 3) := by decide +kernel
theorem dX12_compares_105 : decode cX12_compares 105 = .ok (.iconst 1, 1) := by decide +kernel
theorem dX12_compares_106 : decode cX12_compares 106 = .ok (.goto 4, 3) := by decide +kernel
theorem dX12_compares_109 : decode cX12_compares 109 = .ok (.iconst 0, 1) := by decide +kernel
theorem dX12_compares_110 : decode cX12_compares 110 = .ok (.istore_n 3, 1) := by decide +kernel
theorem dX12_compares_111 : decode cX12_compares 111 = .ok (.aload_n 0, 1) := by decide +kernel
theorem dX12_compares_112 : decode cX12_compares 112 = .ok (.getfield 294, 3) := by decide +kernel
theorem dX12_compares_115 : decode cX12_compares 115 = .ok (.iconst 2, 1) := by decide +kernel
theorem dX12_compares_116 : decode cX12_compares 116 = .ok (.if_icmp .eq 13, 3) := by decide +kernel
theorem dX12_compares_119 : decode cX12_compares 119 = .ok (.aload_n 0, 1) := by decide +kernel
theorem dX12_compares_120 : decode cX12_compares 120 = .ok (.getfield 47, 3) := by decide +kernel
theorem dX12_compares_123 : decode cX12_compares 123 = .ok (.iload_n 1, 1) := by decide +kernel
theorem dX12_compares_124 : decode cX12_compares 124 = .ok (.iaload, 1) := by decide +kernel
theorem dX12_compares_125 : decode cX12_compares 125 = .ok (.iconst 2, 1) := by decide +kernel
theorem dX12_compares_126 : decode cX12_compares 126 = .ok (.if_icmp .ne 7, 3) := by decide +kernel
theorem dX12_compares_129 : decode cX12_compares 129 = .ok (.iconst 1, 1) := by decide +kernel
theorem dX12_compares_130 : decode cX12_compares 130 = .ok (.goto 4, 3) := by decide +kernel
theorem dX12_compares_133 : decode cX12_compares 133 = .ok (.iconst 0, 1) := by decide +kernel
theorem dX12_compares_134 : decode cX12_compares 134 = .ok (.istore 4, 2) := by decide +kernel
theorem dX12_compares_136 : decode cX12_compares 136 = .ok (.aload_n 0, 1) := by decide +kernel
theorem dX12_compares_137 : decode cX12_compares 137 = .ok (.aload_n 0, 1) := by decide +kernel
theorem dX12_compares_138 : decode cX12_compares 138 = .ok (.getfield 327, 3) := by decide +kernel
theorem dX12_compares_141 : decode cX12_compares 141 = .ok (.ifCond .ne 8, 3) := by decide +kernel
theorem dX12_compares_144 : decode cX12_compares 144 = .ok (.iload 4, 2) := by decide +kernel
theorem dX12_compares_146 : decode cX12_compares 146 = .ok (.ifCond .eq 7, 3) := by decide +kernel
theorem dX12_compares_149 : decode cX12_compares 149 = .ok (.iconst 1, 1) := by decide +kernel
theorem dX12_compares_150 : decode cX12_compares 150 = .ok (.goto 4, 3) := by decide +kernel
theorem dX12_compares_153 : decode cX12_compares 153 = .ok (.iconst 0, 1) := by decide +kernel
theorem dX12_compares_154 : decode cX12_compares 154 = .ok (.putfield 327, 3) := by decide +kernel
theorem dX12_compares_157 : decode cX12_compares 157 = .ok (.iload_n 3, 1) := by decide +kernel
theorem dX12_compares_158 : decode cX12_compares 158 = .ok (.ifCond .ne 37, 3) := by decide +kernel
theorem dX12_compares_161 : decode cX12_compares 161 = .ok (.iload 4, 2) := by decide +kernel
theorem dX12_compares_163 : decode cX12_compares 163 = .ok (.ifCond .ne 71, 3) := by decide +kernel
theorem dX12_compares_166 : decode cX12_compares 166 = .ok (.aload_n 0, 1) := by decide +kernel
theorem dX12_compares_167 : decode cX12_compares 167 = .ok (.getfield 312, 3) := by decide +kernel
theorem dX12_compares_170 : decode cX12_compares 170 = .ok (.aload_n 0, 1) := by decide +kernel
theorem dX12_compares_171 : decode cX12_compares 171 = .ok (.getfield 50, 3) := by decide +kernel
theorem dX12_compares_174 : decode cX12_compares 174 = .ok (.iload_n 1, 1) := by decide +kernel
theorem dX12_compares_175 : decode cX12_compares 175 = .ok (.iaload, 1) := by decide +kernel
theorem dX12_compares_176 : decode cX12_compares 176 = .ok (.if_icmp .ne 19, 3) := by decide +kernel
theorem dX12_compares_179 : decode cX12_compares 179 = .ok (.aload_n 0, 1) := by decide +kernel
theorem dX12_compares_180 : decode cX12_compares 180 = .ok (.getfield 294, 3) := by decide +kernel
theorem dX12_compares_183 : decode cX12_compares 183 = .ok (.aload_n 0, 1) := by decide +kernel
theorem dX12_compares_184 : decode cX12_compares 184 = .ok (.getfield 47, 3) := by decide +kernel
theorem dX12_compares_187 : decode cX12_compares 187 = .ok (.iload_n 1, 1) := by decide +kernel
theorem dX12_compares_188 : decode cX12_compares 188 = .ok (.iaload, 1) := by decide +kernel
theorem dX12_compares_189 : decode cX12_compares 189 = .ok (.if_icmp .ne 6, 3) := by decide +kernel
theorem dX12_compares_192 : decode cX12_compares 192 = .ok (.goto 42, 3) := by decide +kernel
theorem dX12_compares_195 : decode cX12_compares 195 = .ok (.aload_n 0, 1) := by decide +kernel
theorem dX12_compares_196 : decode cX12_compares 196 = .ok (.dup, 1) := by decide +kernel
theorem dX12_compares_197 : decode cX12_compares 197 = .ok (.getfield 324, 3) := by decide +kernel
theorem dX12_compares_200 : decode cX12_compares 200 = .ok (.iconst 1, 1) := by decide +kernel
theorem dX12_compares_201 : decode cX12_compares 201 = .ok (.iadd, 1) := by decide +kernel
theorem dX12_compares_202 : decode cX12_compares 202 = .ok (.putfield 324, 3) := by decide +kernel
theorem dX12_compares_205 : decode cX12_compares 205 = .ok (.aload_n 0, 1) := by decide +kernel
theorem dX12_compares_206 : decode cX12_compares 206 = .ok (.getfield 318, 3) := by decide +kernel
theorem dX12_compares_209 : decode cX12_compares 209 = .ok (.iconst (-1), 1) := by decide +kernel
theorem dX12_compares_210 : decode cX12_compares 210 = .ok (.if_icmp .eq 6, 3) := by decide +kernel
theorem dX12_compares_213 : decode cX12_compares 213 = .ok (.goto 21, 3) := by decide +kernel
theorem dX12_compares_216 : decode cX12_compares 216 = .ok (.aload_n 0, 1) := by decide +kernel
theorem dX12_compares_217 : decode cX12_compares 217 = .ok (.iload_n 1, 1) := by decide +kernel
theorem dX12_compares_218 : decode cX12_compares 218 = .ok (.putfield 318, 3) := by decide +kernel
theorem dX12_compares_221 : decode cX12_compares 221 = .ok (.aload_n 0, 1) := by decide +kernel
theorem dX12_compares_222 : decode cX12_compares 222 = .ok (.iload_n 3, 1) := by decide +kernel
theorem dX12_compares_223 : decode cX12_compares 223 = .ok (.ifCond .eq 7, 3) := by decide +kernel
theorem dX12_compares_226 : decode cX12_compares 226 = .ok (.iload_n 2, 1) := by decide +kernel
theorem dX12_compares_227 : decode cX12_compares 227 = .ok (.goto 4, 3) := by decide +kernel
theorem dX12_compares_230 : decode cX12_compares 230 = .ok (.iconst (-1), 1) := by decide +kernel
theorem dX12_compares_231 : decode cX12_compares 231 = .ok (.putfield 321, 3) := by decide +kernel
theorem dX12_compares_234 : decode cX12_compares 234 = .ok (.iinc 1 1, 3) := by decide +kernel
theorem dX12_compares_237 : decode cX12_compares 237 = .ok (.goto (-215), 3) := by decide +kernel
theorem dX12_compares_240 : decode cX12_compares 240 = .ok (.return_, 1) := by decide +kernel
theorem dX12_copies_0 : decode cX12_copies 0 = .ok (.iload_n 1, 1) := by decide +kernel
theorem dX12_copies_1 : decode cX12_copies 1 = .ok (.istore_n 2, 1) := by decide +kernel
theorem dX12_copies_2 : decode cX12_copies 2 = .ok (.aload_n 0, 1) := by decide +kernel
theorem dX12_copies_3 : decode cX12_copies 3 = .ok (.iload_n 2, 1) := by decide +kernel
theorem dX12_copies_4 : decode cX12_copies 4 = .ok (.invokevirtual 107, 3) := by decide +kernel
theorem dX12_copies_7 : decode cX12_copies 7 = .ok (.ifCond .ne 118, 3) := by decide +kernel
theorem dX12_copies_10 : decode cX12_copies 10 = .ok (.aload_n 0, 1) := by decide +kernel
theorem dX12_copies_11 : decode cX12_copies 11 = .ok (.getfield 68, 3) := by decide +kernel
theorem dX12_copies_14 : decode cX12_copies 14 = .ok (.iload_n 2, 1) := by decide +kernel
theorem dX12_copies_15 : decode cX12_copies 15 = .ok (.baload, 1) := by decide +kernel
theorem dX12_copies_16 : decode cX12_copies 16 = .ok (.ifCond .eq 6, 3) := by decide +kernel
theorem dX12_copies_19 : decode cX12_copies 19 = .ok (.goto 97, 3) := by decide +kernel
theorem dX12_copies_22 : decode cX12_copies 22 = .ok (.aload_n 0, 1) := by decide +kernel
theorem dX12_copies_23 : decode cX12_copies 23 = .ok (.getfield 16, 3) := by decide +kernel
theorem dX12_copies_26 : decode cX12_copies 26 = .ok (.iload_n 2, 1) := by decide +kernel
theorem dX12_copies_27 : decode cX12_copies 27 = .ok (.iaload, 1) := by decide +kernel
theorem dX12_copies_28 : decode cX12_copies 28 = .ok (.bipush 112, 2) := by decide +kernel
theorem dX12_copies_30 : decode cX12_copies 30 = .ok (.if_icmp .eq 27, 3) := by decide +kernel
theorem dX12_copies_33 : decode cX12_copies 33 = .ok (.aload_n 0, 1) := by decide +kernel
theorem dX12_copies_34 : decode cX12_copies 34 = .ok (.getfield 16, 3) := by decide +kernel
theorem dX12_copies_37 : decode cX12_copies 37 = .ok (.iload_n 2, 1) := by decide +kernel
theorem dX12_copies_38 : decode cX12_copies 38 = .ok (.iaload, 1) := by decide +kernel
theorem dX12_copies_39 : decode cX12_copies 39 = .ok (.bipush 115, 2) := by decide +kernel
theorem dX12_copies_41 : decode cX12_copies 41 = .ok (.if_icmp .eq 16, 3) := by decide +kernel
theorem dX12_copies_44 : decode cX12_copies 44 = .ok (.aload_n 0, 1) := by decide +kernel
theorem dX12_copies_45 : decode cX12_copies 45 = .ok (.iload_n 2, 1) := by decide +kernel
theorem dX12_copies_46 : decode cX12_copies 46 = .ok (.aload_n 0, 1) := by decide +kernel
theorem dX12_copies_47 : decode cX12_copies 47 = .ok (.iload_n 2, 1) := by decide +kernel
theorem dX12_copies_48 : decode cX12_copies 48 = .ok (.invokevirtual 104, 3) := by decide +kernel
theorem dX12_copies_51 : decode cX12_copies 51 = .ok (.invokevirtual 367, 3) := by decide +kernel
theorem dX12_copies_54 : decode cX12_copies 54 = .ok (.goto 62, 3) := by decide +kernel
theorem dX12_copies_57 : decode cX12_copies 57 = .ok (.aload_n 0, 1) := by decide +kernel
theorem dX12_copies_58 : decode cX12_copies 58 = .ok (.iload_n 2, 1) := by decide +kernel
theorem dX12_copies_59 : decode cX12_copies 59 = .ok (.aload_n 0, 1) := by decide +kernel
theorem dX12_copies_60 : decode cX12_copies 60 = .ok (.iload_n 2, 1) := by decide +kernel
theorem dX12_copies_61 : decode cX12_copies 61 = .ok (.invokevirtual 101, 3) := by decide +kernel
theorem dX12_copies_64 : decode cX12_copies 64 = .ok (.invokevirtual 367, 3) := by decide +kernel
theorem dX12_copies_67 : decode cX12_copies 67 = .ok (.aload_n 0, 1) := by decide +kernel
theorem dX12_copies_68 : decode cX12_copies 68 = .ok (.aload_n 0, 1) := by decide +kernel
theorem dX12_copies_69 : decode cX12_copies 69 = .ok (.iload_n 2, 1) := by decide +kernel
theorem dX12_copies_70 : decode cX12_copies 70 = .ok (.invokevirtual 101, 3) := by decide +kernel
theorem dX12_copies_73 : decode cX12_copies 73 = .ok (.invokevirtual 391, 3) := by decide +kernel
theorem dX12_copies_76 : decode cX12_copies 76 = .ok (.aload_n 0, 1) := by decide +kernel
theorem dX12_copies_77 : decode cX12_copies 77 = .ok (.aload_n 0, 1) := by decide +kernel
theorem dX12_copies_78 : decode cX12_copies 78 = .ok (.iload_n 2, 1) := by decide +kernel
theorem dX12_copies_79 : decode cX12_copies 79 = .ok (.invokevirtual 101, 3) := by decide +kernel
theorem dX12_copies_82 : decode cX12_copies 82 = .ok (.invokevirtual 309, 3) := by decide +kernel
theorem dX12_copies_85 : decode cX12_copies 85 = .ok (.istore_n 3, 1) := by decide +kernel
theorem dX12_copies_86 : decode cX12_copies 86 = .ok (.aload_n 0, 1) := by decide +kernel
theorem dX12_copies_87 : decode cX12_copies 87 = .ok (.getfield 16, 3) := by decide +kernel
theorem dX12_copies_90 : decode cX12_copies 90 = .ok (.iload_n 3, 1) := by decide +kernel
theorem dX12_copies_91 : decode cX12_copies 91 = .ok (.iaload, 1) := by decide +kernel
theorem dX12_copies_92 : decode cX12_copies 92 = .ok (.bipush 113, 2) := by decide +kernel
theorem dX12_copies_94 : decode cX12_copies 94 = .ok (.if_icmp .ne 16, 3) := by decide +kernel
theorem dX12_copies_97 : decode cX12_copies 97 = .ok (.aload_n 0, 1) := by decide +kernel
theorem dX12_copies_98 : decode cX12_copies 98 = .ok (.bipush 113, 2) := by decide +kernel
theorem dX12_copies_100 : decode cX12_copies 100 = .ok (.invokevirtual 120, 3) := by decide +kernel
theorem dX12_copies_103 : decode cX12_copies 103 = .ok (.aload_n 0, 1) := by decide +kernel
theorem dX12_copies_104 : decode cX12_copies 104 = .ok (.iload_n 3, 1) := by decide +kernel
theorem dX12_copies_105 : decode cX12_copies 105 = .ok (.iconst 1, 1) := by decide +kernel
theorem dX12_copies_106 : decode cX12_copies 106 = .ok (.iadd, 1) := by decide +kernel
theorem dX12_copies_107 : decode cX12_copies 107 = .ok (.invokevirtual 391, 3) := by decide +kernel
theorem dX12_copies_110 : decode cX12_copies 110 = .ok (.aload_n 0, 1) := by decide +kernel
theorem dX12_copies_111 : decode cX12_copies 111 = .ok (.bipush 114, 2) := by decide +kernel
theorem dX12_copies_113 : decode cX12_copies 113 = .ok (.invokevirtual 120, 3) := by decide +kernel
theorem dX12_copies_116 : decode cX12_copies 116 = .ok (.aload_n 0, 1) := by decide +kernel
theorem dX12_copies_117 : decode cX12_copies 117 = .ok (.iload_n 2, 1) := by decide +kernel
theorem dX12_copies_118 : decode cX12_copies 118 = .ok (.invokevirtual 104, 3) := by decide +kernel
theorem dX12_copies_121 : decode cX12_copies 121 = .ok (.istore_n 2, 1) := by decide +kernel
theorem dX12_copies_122 : decode cX12_copies 122 = .ok (.goto (-120), 3) := by decide +kernel
theorem dX12_copies_125 : decode cX12_copies 125 = .ok (.return_, 1) := by decide +kernel
theorem dX12_copyFrom_0 : decode cX12_copyFrom 0 = .ok (.aload_n 0, 1) := by decide +kernel
theorem dX12_copyFrom_1 : decode cX12_copyFrom 1 = .ok (.iload_n 1, 1) := by decide +kernel
theorem dX12_copyFrom_2 : decode cX12_copyFrom 2 = .ok (.invokevirtual 104, 3) := by decide +kernel
theorem dX12_copyFrom_5 : decode cX12_copyFrom 5 = .ok (.istore 4, 2) := by decide +kernel
theorem dX12_copyFrom_7 : decode cX12_copyFrom 7 = .ok (.aload_n 0, 1) := by decide +kernel
theorem dX12_copyFrom_8 : decode cX12_copyFrom 8 = .ok (.iload 4, 2) := by decide +kernel
theorem dX12_copyFrom_10 : decode cX12_copyFrom 10 = .ok (.invokevirtual 107, 3) := by decide +kernel
theorem dX12_copyFrom_13 : decode cX12_copyFrom 13 = .ok (.ifCond .ne 96, 3) := by decide +kernel
theorem dX12_copyFrom_16 : decode cX12_copyFrom 16 = .ok (.aload_n 0, 1) := by decide +kernel
theorem dX12_copyFrom_17 : decode cX12_copyFrom 17 = .ok (.getfield 16, 3) := by decide +kernel
theorem dX12_copyFrom_20 : decode cX12_copyFrom 20 = .ok (.iload 4, 2) := by decide +kernel
theorem dX12_copyFrom_22 : decode cX12_copyFrom 22 = .ok (.iaload, 1) := by decide +kernel
theorem dX12_copyFrom_23 : decode cX12_copyFrom 23 = .ok (.bipush 112, 2) := by decide +kernel
theorem dX12_copyFrom_25 : decode cX12_copyFrom 25 = .ok (.if_icmp .eq 15, 3) := by decide +kernel
theorem dX12_copyFrom_28 : decode cX12_copyFrom 28 = .ok (.aload_n 0, 1) := by decide +kernel
theorem dX12_copyFrom_29 : decode cX12_copyFrom 29 = .ok (.getfield 16, 3) := by decide +kernel
theorem dX12_copyFrom_32 : decode cX12_copyFrom 32 = .ok (.iload 4, 2) := by decide +kernel
theorem dX12_copyFrom_34 : decode cX12_copyFrom 34 = .ok (.iaload, 1) := by decide +kernel
theorem dX12_copyFrom_35 : decode cX12_copyFrom 35 = .ok (.bipush 115, 2) := by decide +kernel
theorem dX12_copyFrom_37 : decode cX12_copyFrom 37 = .ok (.if_icmp .ne 7, 3) := by decide +kernel
theorem dX12_copyFrom_40 : decode cX12_copyFrom 40 = .ok (.iconst 1, 1) := by decide +kernel
theorem dX12_copyFrom_41 : decode cX12_copyFrom 41 = .ok (.goto 4, 3) := by decide +kernel
theorem dX12_copyFrom_44 : decode cX12_copyFrom 44 = .ok (.iconst 0, 1) := by decide +kernel
theorem dX12_copyFrom_45 : decode cX12_copyFrom 45 = .ok (.istore 5, 2) := by decide +kernel
theorem dX12_copyFrom_47 : decode cX12_copyFrom 47 = .ok (.iload 5, 2) := by decide +kernel
theorem dX12_copyFrom_49 : decode cX12_copyFrom 49 = .ok (.ifCond .eq 20, 3) := by decide +kernel
theorem dX12_copyFrom_52 : decode cX12_copyFrom 52 = .ok (.aload_n 0, 1) := by decide +kernel
theorem dX12_copyFrom_53 : decode cX12_copyFrom 53 = .ok (.iload 4, 2) := by decide +kernel
theorem dX12_copyFrom_55 : decode cX12_copyFrom 55 = .ok (.aload_n 0, 1) := by decide +kernel
theorem dX12_copyFrom_56 : decode cX12_copyFrom 56 = .ok (.iload 4, 2) := by decide +kernel
theorem dX12_copyFrom_58 : decode cX12_copyFrom 58 = .ok (.invokevirtual 104, 3) := by decide +kernel
theorem dX12_copyFrom_61 : decode cX12_copyFrom 61 = .ok (.iload_n 2, 1) := by decide +kernel
theorem dX12_copyFrom_62 : decode cX12_copyFrom 62 = .ok (.invokevirtual 409, 3) := by decide +kernel
theorem dX12_copyFrom_65 : decode cX12_copyFrom 65 = .ok (.ifCond .eq 4, 3) := by decide +kernel
theorem dX12_copyFrom_68 : decode cX12_copyFrom 68 = .ok (.return_, 1) := by decide +kernel
theorem dX12_copyFrom_69 : decode cX12_copyFrom 69 = .ok (.aload_n 0, 1) := by decide +kernel
theorem dX12_copyFrom_70 : decode cX12_copyFrom 70 = .ok (.iload 4, 2) := by decide +kernel
theorem dX12_copyFrom_72 : decode cX12_copyFrom 72 = .ok (.aload_n 0, 1) := by decide +kernel
theorem dX12_copyFrom_73 : decode cX12_copyFrom 73 = .ok (.iload 4, 2) := by decide +kernel
theorem dX12_copyFrom_75 : decode cX12_copyFrom 75 = .ok (.invokevirtual 104, 3) := by decide +kernel
theorem dX12_copyFrom_78 : decode cX12_copyFrom 78 = .ok (.iload_n 2, 1) := by decide +kernel
theorem dX12_copyFrom_79 : decode cX12_copyFrom 79 = .ok (.iload_n 3, 1) := by decide +kernel
theorem dX12_copyFrom_80 : decode cX12_copyFrom 80 = .ok (.invokevirtual 412, 3) := by decide +kernel
theorem dX12_copyFrom_83 : decode cX12_copyFrom 83 = .ok (.aload_n 0, 1) := by decide +kernel
theorem dX12_copyFrom_84 : decode cX12_copyFrom 84 = .ok (.getfield 16, 3) := by decide +kernel
theorem dX12_copyFrom_87 : decode cX12_copyFrom 87 = .ok (.iload 4, 2) := by decide +kernel
theorem dX12_copyFrom_89 : decode cX12_copyFrom 89 = .ok (.iaload, 1) := by decide +kernel
theorem dX12_copyFrom_90 : decode cX12_copyFrom 90 = .ok (.bipush 100, 2) := by decide +kernel
theorem dX12_copyFrom_92 : decode cX12_copyFrom 92 = .ok (.iload_n 2, 1) := by decide +kernel
theorem dX12_copyFrom_93 : decode cX12_copyFrom 93 = .ok (.iadd, 1) := by decide +kernel
theorem dX12_copyFrom_94 : decode cX12_copyFrom 94 = .ok (.if_icmp .ne 4, 3) := by decide +kernel
theorem dX12_copyFrom_97 : decode cX12_copyFrom 97 = .ok (.return_, 1) := by decide +kernel
theorem dX12_copyFrom_98 : decode cX12_copyFrom 98 = .ok (.aload_n 0, 1) := by decide +kernel
theorem dX12_copyFrom_99 : decode cX12_copyFrom 99 = .ok (.iload 4, 2) := by decide +kernel
theorem dX12_copyFrom_101 : decode cX12_copyFrom 101 = .ok (.invokevirtual 104, 3) := by decide +kernel
theorem dX12_copyFrom_104 : decode cX12_copyFrom 104 = .ok (.istore 4, 2) := by decide +kernel
theorem dX12_copyFrom_106 : decode cX12_copyFrom 106 = .ok (.goto (-99), 3) := by decide +kernel
theorem dX12_copyFrom_109 : decode cX12_copyFrom 109 = .ok (.return_, 1) := by decide +kernel
theorem dX12_counts_0 : decode cX12_counts 0 = .ok (.aload_n 0, 1) := by decide +kernel
theorem dX12_counts_1 : decode cX12_counts 1 = .ok (.getfield 197, 3) := by decide +kernel
theorem dX12_counts_4 : decode cX12_counts 4 = .ok (.aload_n 0, 1) := by decide +kernel
theorem dX12_counts_5 : decode cX12_counts 5 = .ok (.getfield 200, 3) := by decide +kernel
theorem dX12_counts_8 : decode cX12_counts 8 = .ok (.if_icmp .ne 9, 3) := by decide +kernel
theorem dX12_counts_11 : decode cX12_counts 11 = .ok (.aload_n 0, 1) := by decide +kernel
theorem dX12_counts_12 : decode cX12_counts 12 = .ok (.iconst 3, 1) := by decide +kernel
theorem dX12_counts_13 : decode cX12_counts 13 = .ok (.invokevirtual 185, 3) := by decide +kernel
theorem dX12_counts_16 : decode cX12_counts 16 = .ok (.ireturn, 1) := by decide +kernel
theorem dX12_counts_17 : decode cX12_counts 17 = .ok (.aload_n 0, 1) := by decide +kernel
theorem dX12_counts_18 : decode cX12_counts 18 = .ok (.dup, 1) := by decide +kernel
theorem dX12_counts_19 : decode cX12_counts 19 = .ok (.getfield 197, 3) := by decide +kernel
theorem dX12_counts_22 : decode cX12_counts 22 = .ok (.iconst 1, 1) := by decide +kernel
theorem dX12_counts_23 : decode cX12_counts 23 = .ok (.iadd, 1) := by decide +kernel
theorem dX12_counts_24 : decode cX12_counts 24 = .ok (.putfield 197, 3) := by decide +kernel
theorem dX12_counts_27 : decode cX12_counts 27 = .ok (.iconst 1, 1) := by decide +kernel
theorem dX12_counts_28 : decode cX12_counts 28 = .ok (.ireturn, 1) := by decide +kernel
theorem dX12_cut_0 : decode cX12_cut 0 = .ok (.iload_n 1, 1) := by decide +kernel
theorem dX12_cut_1 : decode cX12_cut 1 = .ok (.invokestatic 423, 3) := by decide +kernel
theorem dX12_cut_4 : decode cX12_cut 4 = .ok (.ifCond .eq 17, 3) := by decide +kernel
theorem dX12_cut_7 : decode cX12_cut 7 = .ok (.iload_n 2, 1) := by decide +kernel
theorem dX12_cut_8 : decode cX12_cut 8 = .ok (.invokestatic 249, 3) := by decide +kernel
theorem dX12_cut_11 : decode cX12_cut 11 = .ok (.ifCond .eq 10, 3) := by decide +kernel
theorem dX12_cut_14 : decode cX12_cut 14 = .ok (.iload_n 3, 1) := by decide +kernel
theorem dX12_cut_15 : decode cX12_cut 15 = .ok (.invokestatic 249, 3) := by decide +kernel
theorem dX12_cut_18 : decode cX12_cut 18 = .ok (.ifCond .ne 5, 3) := by decide +kernel
theorem dX12_cut_21 : decode cX12_cut 21 = .ok (.iconst (-1), 1) := by decide +kernel
theorem dX12_cut_22 : decode cX12_cut 22 = .ok (.ireturn, 1) := by decide +kernel
theorem dX12_cut_23 : decode cX12_cut 23 = .ok (.aload_n 0, 1) := by decide +kernel
theorem dX12_cut_24 : decode cX12_cut 24 = .ok (.iload_n 2, 1) := by decide +kernel
theorem dX12_cut_25 : decode cX12_cut 25 = .ok (.invokevirtual 271, 3) := by decide +kernel
theorem dX12_cut_28 : decode cX12_cut 28 = .ok (.aload_n 0, 1) := by decide +kernel
theorem dX12_cut_29 : decode cX12_cut 29 = .ok (.invokevirtual 265, 3) := by decide +kernel
theorem dX12_cut_32 : decode cX12_cut 32 = .ok (.iconst 1, 1) := by decide +kernel
theorem dX12_cut_33 : decode cX12_cut 33 = .ok (.bipush 12, 2) := by decide +kernel
theorem dX12_cut_35 : decode cX12_cut 35 = .ok (.invokestatic 90, 3) := by decide +kernel
theorem dX12_cut_38 : decode cX12_cut 38 = .ok (.ifCond .ne 5, 3) := by decide +kernel
theorem dX12_cut_41 : decode cX12_cut 41 = .ok (.iconst (-1), 1) := by decide +kernel
theorem dX12_cut_42 : decode cX12_cut 42 = .ok (.ireturn, 1) := by decide +kernel
theorem dX12_cut_43 : decode cX12_cut 43 = .ok (.aload_n 0, 1) := by decide +kernel
theorem dX12_cut_44 : decode cX12_cut 44 = .ok (.invokevirtual 451, 3) := by decide +kernel
theorem dX12_cut_47 : decode cX12_cut 47 = .ok (.aload_n 0, 1) := by decide +kernel
theorem dX12_cut_48 : decode cX12_cut 48 = .ok (.iload_n 1, 1) := by decide +kernel
theorem dX12_cut_49 : decode cX12_cut 49 = .ok (.invokevirtual 448, 3) := by decide +kernel
theorem dX12_cut_52 : decode cX12_cut 52 = .ok (.ifCond .ne 5, 3) := by decide +kernel
theorem dX12_cut_55 : decode cX12_cut 55 = .ok (.iconst (-1), 1) := by decide +kernel
theorem dX12_cut_56 : decode cX12_cut 56 = .ok (.ireturn, 1) := by decide +kernel
theorem dX12_cut_57 : decode cX12_cut 57 = .ok (.iconst 1, 1) := by decide +kernel
theorem dX12_cut_58 : decode cX12_cut 58 = .ok (.istore 4, 2) := by decide +kernel
theorem dX12_cut_60 : decode cX12_cut 60 = .ok (.iload 4, 2) := by decide +kernel
theorem dX12_cut_62 : decode cX12_cut 62 = .ok (.ifCond .eq 13, 3) := by decide +kernel
theorem dX12_cut_65 : decode cX12_cut 65 = .ok (.aload_n 0, 1) := by decide +kernel
theorem dX12_cut_66 : decode cX12_cut 66 = .ok (.iload_n 1, 1) := by decide +kernel
theorem dX12_cut_67 : decode cX12_cut 67 = .ok (.invokevirtual 454, 3) := by decide +kernel
theorem dX12_cut_70 : decode cX12_cut 70 = .ok (.istore 4, 2) := by decide +kernel
theorem dX12_cut_72 : decode cX12_cut 72 = .ok (.goto (-12), 3) := by decide +kernel
theorem dX12_cut_75 : decode cX12_cut 75 = .ok (.aload_n 0, 1) := by decide +kernel
theorem dX12_cut_76 : decode cX12_cut 76 = .ok (.invokevirtual 445, 3) := by decide +kernel
theorem dX12_cut_79 : decode cX12_cut 79 = .ok (.aload_n 0, 1) := by decide +kernel
theorem dX12_cut_80 : decode cX12_cut 80 = .ok (.iload_n 3, 1) := by decide +kernel
theorem dX12_cut_81 : decode cX12_cut 81 = .ok (.invokevirtual 262, 3) := by decide +kernel
theorem dX12_cut_84 : decode cX12_cut 84 = .ok (.aload_n 0, 1) := by decide +kernel
theorem dX12_cut_85 : decode cX12_cut 85 = .ok (.invokevirtual 265, 3) := by decide +kernel
theorem dX12_cut_88 : decode cX12_cut 88 = .ok (.ireturn, 1) := by decide +kernel
theorem dX12_cutsOne_0 : decode cX12_cutsOne 0 = .ok (.iconst 0, 1) := by decide +kernel
theorem dX12_cutsOne_1 : decode cX12_cutsOne 1 = .ok (.istore_n 2, 1) := by decide +kernel
theorem dX12_cutsOne_2 : decode cX12_cutsOne 2 = .ok (.iload_n 2, 1) := by decide +kernel
theorem dX12_cutsOne_3 : decode cX12_cutsOne 3 = .ok (.aload_n 0, 1) := by decide +kernel
theorem dX12_cutsOne_4 : decode cX12_cutsOne 4 = .ok (.getfield 442, 3) := by decide +kernel
theorem dX12_cutsOne_7 : decode cX12_cutsOne 7 = .ok (.if_icmp .ge 137, 3) := by decide +kernel
theorem dX12_cutsOne_10 : decode cX12_cutsOne 10 = .ok (.aload_n 0, 1) := by decide +kernel
theorem dX12_cutsOne_11 : decode cX12_cutsOne 11 = .ok (.getfield 78, 3) := by decide +kernel
theorem dX12_cutsOne_14 : decode cX12_cutsOne 14 = .ok (.iload_n 2, 1) := by decide +kernel
theorem dX12_cutsOne_15 : decode cX12_cutsOne 15 = .ok (.iaload, 1) := by decide +kernel
theorem dX12_cutsOne_16 : decode cX12_cutsOne 16 = .ok (.invokestatic 111, 3) := by decide +kernel
theorem dX12_cutsOne_19 : decode cX12_cutsOne 19 = .ok (.ifCond .ne 6, 3) := by decide +kernel
theorem dX12_cutsOne_22 : decode cX12_cutsOne 22 = .ok (.goto 116, 3) := by decide +kernel
theorem dX12_cutsOne_25 : decode cX12_cutsOne 25 = .ok (.aload_n 0, 1) := by decide +kernel
theorem dX12_cutsOne_26 : decode cX12_cutsOne 26 = .ok (.invokevirtual 445, 3) := by decide +kernel
theorem dX12_cutsOne_29 : decode cX12_cutsOne 29 = .ok (.aload_n 0, 1) := by decide +kernel
theorem dX12_cutsOne_30 : decode cX12_cutsOne 30 = .ok (.invokevirtual 394, 3) := by decide +kernel
theorem dX12_cutsOne_33 : decode cX12_cutsOne 33 = .ok (.aload_n 0, 1) := by decide +kernel
theorem dX12_cutsOne_34 : decode cX12_cutsOne 34 = .ok (.getfield 68, 3) := by decide +kernel
theorem dX12_cutsOne_37 : decode cX12_cutsOne 37 = .ok (.iload_n 2, 1) := by decide +kernel
theorem dX12_cutsOne_38 : decode cX12_cutsOne 38 = .ok (.iconst 1, 1) := by decide +kernel
theorem dX12_cutsOne_39 : decode cX12_cutsOne 39 = .ok (.bastore, 1) := by decide +kernel
theorem dX12_cutsOne_40 : decode cX12_cutsOne 40 = .ok (.aload_n 0, 1) := by decide +kernel
theorem dX12_cutsOne_41 : decode cX12_cutsOne 41 = .ok (.iconst 0, 1) := by decide +kernel
theorem dX12_cutsOne_42 : decode cX12_cutsOne 42 = .ok (.putfield 117, 3) := by decide +kernel
theorem dX12_cutsOne_45 : decode cX12_cutsOne 45 = .ok (.aload_n 0, 1) := by decide +kernel
theorem dX12_cutsOne_46 : decode cX12_cutsOne 46 = .ok (.iconst 0, 1) := by decide +kernel
theorem dX12_cutsOne_47 : decode cX12_cutsOne 47 = .ok (.invokevirtual 391, 3) := by decide +kernel
theorem dX12_cutsOne_50 : decode cX12_cutsOne 50 = .ok (.aload_n 0, 1) := by decide +kernel
theorem dX12_cutsOne_51 : decode cX12_cutsOne 51 = .ok (.invokevirtual 259, 3) := by decide +kernel
theorem dX12_cutsOne_54 : decode cX12_cutsOne 54 = .ok (.aload_n 0, 1) := by decide +kernel
theorem dX12_cutsOne_55 : decode cX12_cutsOne 55 = .ok (.getfield 98, 3) := by decide +kernel
theorem dX12_cutsOne_58 : decode cX12_cutsOne 58 = .ok (.istore_n 3, 1) := by decide +kernel
theorem dX12_cutsOne_59 : decode cX12_cutsOne 59 = .ok (.iconst 0, 1) := by decide +kernel
theorem dX12_cutsOne_60 : decode cX12_cutsOne 60 = .ok (.istore 4, 2) := by decide +kernel
theorem dX12_cutsOne_62 : decode cX12_cutsOne 62 = .ok (.iload 4, 2) := by decide +kernel
theorem dX12_cutsOne_64 : decode cX12_cutsOne 64 = .ok (.aload_n 0, 1) := by decide +kernel
theorem dX12_cutsOne_65 : decode cX12_cutsOne 65 = .ok (.getfield 98, 3) := by decide +kernel
theorem dX12_cutsOne_68 : decode cX12_cutsOne 68 = .ok (.if_icmp .ge 23, 3) := by decide +kernel
theorem dX12_cutsOne_71 : decode cX12_cutsOne 71 = .ok (.aload_n 0, 1) := by decide +kernel
theorem dX12_cutsOne_72 : decode cX12_cutsOne 72 = .ok (.getfield 81, 3) := by decide +kernel
theorem dX12_cutsOne_75 : decode cX12_cutsOne 75 = .ok (.iload 4, 2) := by decide +kernel
theorem dX12_cutsOne_77 : decode cX12_cutsOne 77 = .ok (.aload_n 0, 1) := by decide +kernel
theorem dX12_cutsOne_78 : decode cX12_cutsOne 78 = .ok (.getfield 16, 3) := by decide +kernel
theorem dX12_cutsOne_81 : decode cX12_cutsOne 81 = .ok (.iload 4, 2) := by decide +kernel
theorem dX12_cutsOne_83 : decode cX12_cutsOne 83 = .ok (.iaload, 1) := by decide +kernel
theorem dX12_cutsOne_84 : decode cX12_cutsOne 84 = .ok (.iastore, 1) := by decide +kernel
theorem dX12_cutsOne_85 : decode cX12_cutsOne 85 = .ok (.iinc 4 1, 3) := by decide +kernel
theorem dX12_cutsOne_88 : decode cX12_cutsOne 88 = .ok (.goto (-26), 3) := by decide +kernel
theorem dX12_cutsOne_91 : decode cX12_cutsOne 91 = .ok (.aload_n 0, 1) := by decide +kernel
theorem dX12_cutsOne_92 : decode cX12_cutsOne 92 = .ok (.iload_n 1, 1) := by decide +kernel
theorem dX12_cutsOne_93 : decode cX12_cutsOne 93 = .ok (.invokevirtual 448, 3) := by decide +kernel
theorem dX12_cutsOne_96 : decode cX12_cutsOne 96 = .ok (.ifCond .ne 6, 3) := by decide +kernel
theorem dX12_cutsOne_99 : decode cX12_cutsOne 99 = .ok (.goto 39, 3) := by decide +kernel
theorem dX12_cutsOne_102 : decode cX12_cutsOne 102 = .ok (.aload_n 0, 1) := by decide +kernel
theorem dX12_cutsOne_103 : decode cX12_cutsOne 103 = .ok (.iload_n 3, 1) := by decide +kernel
theorem dX12_cutsOne_104 : decode cX12_cutsOne 104 = .ok (.putfield 442, 3) := by decide +kernel
theorem dX12_cutsOne_107 : decode cX12_cutsOne 107 = .ok (.iconst 0, 1) := by decide +kernel
theorem dX12_cutsOne_108 : decode cX12_cutsOne 108 = .ok (.istore 4, 2) := by decide +kernel
theorem dX12_cutsOne_110 : decode cX12_cutsOne 110 = .ok (.iload 4, 2) := by decide +kernel
theorem dX12_cutsOne_112 : decode cX12_cutsOne 112 = .ok (.iload_n 3, 1) := by decide +kernel
theorem dX12_cutsOne_113 : decode cX12_cutsOne 113 = .ok (.if_icmp .ge 23, 3) := by decide +kernel
theorem dX12_cutsOne_116 : decode cX12_cutsOne 116 = .ok (.aload_n 0, 1) := by decide +kernel
theorem dX12_cutsOne_117 : decode cX12_cutsOne 117 = .ok (.getfield 78, 3) := by decide +kernel
theorem dX12_cutsOne_120 : decode cX12_cutsOne 120 = .ok (.iload 4, 2) := by decide +kernel
theorem dX12_cutsOne_122 : decode cX12_cutsOne 122 = .ok (.aload_n 0, 1) := by decide +kernel
theorem dX12_cutsOne_123 : decode cX12_cutsOne 123 = .ok (.getfield 81, 3) := by decide +kernel
theorem dX12_cutsOne_126 : decode cX12_cutsOne 126 = .ok (.iload 4, 2) := by decide +kernel
theorem dX12_cutsOne_128 : decode cX12_cutsOne 128 = .ok (.iaload, 1) := by decide +kernel
theorem dX12_cutsOne_129 : decode cX12_cutsOne 129 = .ok (.iastore, 1) := by decide +kernel
theorem dX12_cutsOne_130 : decode cX12_cutsOne 130 = .ok (.iinc 4 1, 3) := by decide +kernel
theorem dX12_cutsOne_133 : decode cX12_cutsOne 133 = .ok (.goto (-23), 3) := by decide +kernel
theorem dX12_cutsOne_136 : decode cX12_cutsOne 136 = .ok (.iconst 1, 1) := by decide +kernel
theorem dX12_cutsOne_137 : decode cX12_cutsOne 137 = .ok (.ireturn, 1) := by decide +kernel
theorem dX12_cutsOne_138 : decode cX12_cutsOne 138 = .ok (.iinc 2 1, 3) := by decide +kernel
theorem dX12_cutsOne_141 : decode cX12_cutsOne 141 = .ok (.goto (-139), 3) := by decide +kernel
theorem dX12_cutsOne_144 : decode cX12_cutsOne 144 = .ok (.iconst 0, 1) := by decide +kernel
theorem dX12_cutsOne_145 : decode cX12_cutsOne 145 = .ok (.ireturn, 1) := by decide +kernel
theorem dX12_dead_0 : decode cX12_dead 0 = .ok (.aload_n 0, 1) := by decide +kernel
theorem dX12_dead_1 : decode cX12_dead 1 = .ok (.invokevirtual 394, 3) := by decide +kernel
theorem dX12_dead_4 : decode cX12_dead 4 = .ok (.iload_n 1, 1) := by decide +kernel
theorem dX12_dead_5 : decode cX12_dead 5 = .ok (.ifCond .eq 10, 3) := by decide +kernel
theorem dX12_dead_8 : decode cX12_dead 8 = .ok (.aload_n 0, 1) := by decide +kernel
theorem dX12_dead_9 : decode cX12_dead 9 = .ok (.invokevirtual 397, 3) := by decide +kernel
theorem dX12_dead_12 : decode cX12_dead 12 = .ok (.goto 9, 3) := by decide +kernel
theorem dX12_dead_15 : decode cX12_dead 15 = .ok (.aload_n 0, 1) := by decide +kernel
theorem dX12_dead_16 : decode cX12_dead 16 = .ok (.iconst 0, 1) := by decide +kernel
theorem dX12_dead_17 : decode cX12_dead 17 = .ok (.iconst 0, 1) := by decide +kernel
theorem dX12_dead_18 : decode cX12_dead 18 = .ok (.invokevirtual 388, 3) := by decide +kernel
theorem dX12_dead_21 : decode cX12_dead 21 = .ok (.aload_n 0, 1) := by decide +kernel
theorem dX12_dead_22 : decode cX12_dead 22 = .ok (.getfield 382, 3) := by decide +kernel
theorem dX12_dead_25 : decode cX12_dead 25 = .ok (.ifCond .eq 41, 3) := by decide +kernel
theorem dX12_dead_28 : decode cX12_dead 28 = .ok (.aload_n 0, 1) := by decide +kernel
theorem dX12_dead_29 : decode cX12_dead 29 = .ok (.iconst 0, 1) := by decide +kernel
theorem dX12_dead_30 : decode cX12_dead 30 = .ok (.putfield 117, 3) := by decide +kernel
theorem dX12_dead_33 : decode cX12_dead 33 = .ok (.aload_n 0, 1) := by decide +kernel
theorem dX12_dead_34 : decode cX12_dead 34 = .ok (.iconst 0, 1) := by decide +kernel
theorem dX12_dead_35 : decode cX12_dead 35 = .ok (.invokevirtual 391, 3) := by decide +kernel
theorem dX12_dead_38 : decode cX12_dead 38 = .ok (.aload_n 0, 1) := by decide +kernel
theorem dX12_dead_39 : decode cX12_dead 39 = .ok (.invokevirtual 259, 3) := by decide +kernel
theorem dX12_dead_42 : decode cX12_dead 42 = .ok (.aload_n 0, 1) := by decide +kernel
theorem dX12_dead_43 : decode cX12_dead 43 = .ok (.invokevirtual 394, 3) := by decide +kernel
theorem dX12_dead_46 : decode cX12_dead 46 = .ok (.iload_n 1, 1) := by decide +kernel
theorem dX12_dead_47 : decode cX12_dead 47 = .ok (.ifCond .eq 10, 3) := by decide +kernel
theorem dX12_dead_50 : decode cX12_dead 50 = .ok (.aload_n 0, 1) := by decide +kernel
theorem dX12_dead_51 : decode cX12_dead 51 = .ok (.invokevirtual 397, 3) := by decide +kernel
theorem dX12_dead_54 : decode cX12_dead 54 = .ok (.goto (-33), 3) := by decide +kernel
theorem dX12_dead_57 : decode cX12_dead 57 = .ok (.aload_n 0, 1) := by decide +kernel
theorem dX12_dead_58 : decode cX12_dead 58 = .ok (.iconst 0, 1) := by decide +kernel
theorem dX12_dead_59 : decode cX12_dead 59 = .ok (.iconst 0, 1) := by decide +kernel
theorem dX12_dead_60 : decode cX12_dead 60 = .ok (.invokevirtual 388, 3) := by decide +kernel
theorem dX12_dead_63 : decode cX12_dead 63 = .ok (.goto (-42), 3) := by decide +kernel
theorem dX12_dead_66 : decode cX12_dead 66 = .ok (.return_, 1) := by decide +kernel
theorem dX12_deals_0 : decode cX12_deals 0 = .ok (.iconst 1, 1) := by decide +kernel
theorem dX12_deals_1 : decode cX12_deals 1 = .ok (.istore_n 3, 1) := by decide +kernel
theorem dX12_deals_2 : decode cX12_deals 2 = .ok (.iconst 0, 1) := by decide +kernel
theorem dX12_deals_3 : decode cX12_deals 3 = .ok (.istore 4, 2) := by decide +kernel
theorem dX12_deals_5 : decode cX12_deals 5 = .ok (.iload 4, 2) := by decide +kernel
theorem dX12_deals_7 : decode cX12_deals 7 = .ok (.bipush 6, 2) := by decide +kernel
theorem dX12_deals_9 : decode cX12_deals 9 = .ok (.if_icmp .ge 27, 3) := by decide +kernel
theorem dX12_deals_12 : decode cX12_deals 12 = .ok (.iload_n 3, 1) := by decide +kernel
theorem dX12_deals_13 : decode cX12_deals 13 = .ok (.iload_n 1, 1) := by decide +kernel
theorem dX12_deals_14 : decode cX12_deals 14 = .ok (.iload 4, 2) := by decide +kernel
theorem dX12_deals_16 : decode cX12_deals 16 = .ok (.ishr, 1) := by decide +kernel
theorem dX12_deals_17 : decode cX12_deals 17 = .ok (.iconst 1, 1) := by decide +kernel
theorem dX12_deals_18 : decode cX12_deals 18 = .ok (.iand, 1) := by decide +kernel
theorem dX12_deals_19 : decode cX12_deals 19 = .ok (.iconst 1, 1) := by decide +kernel
theorem dX12_deals_20 : decode cX12_deals 20 = .ok (.if_icmp .ne 7, 3) := by decide +kernel
theorem dX12_deals_23 : decode cX12_deals 23 = .ok (.iload_n 2, 1) := by decide +kernel
theorem dX12_deals_24 : decode cX12_deals 24 = .ok (.goto 4, 3) := by decide +kernel
theorem dX12_deals_27 : decode cX12_deals 27 = .ok (.iconst 1, 1) := by decide +kernel
theorem dX12_deals_28 : decode cX12_deals 28 = .ok (.imul, 1) := by decide +kernel
theorem dX12_deals_29 : decode cX12_deals 29 = .ok (.istore_n 3, 1) := by decide +kernel
theorem dX12_deals_30 : decode cX12_deals 30 = .ok (.iinc 4 1, 3) := by decide +kernel
theorem dX12_deals_33 : decode cX12_deals 33 = .ok (.goto (-28), 3) := by decide +kernel
theorem dX12_deals_36 : decode cX12_deals 36 = .ok (.iconst 0, 1) := by decide +kernel
theorem dX12_deals_37 : decode cX12_deals 37 = .ok (.istore 4, 2) := by decide +kernel
theorem dX12_deals_39 : decode cX12_deals 39 = .ok (.iload 4, 2) := by decide +kernel
theorem dX12_deals_41 : decode cX12_deals 41 = .ok (.iload_n 3, 1) := by decide +kernel
theorem dX12_deals_42 : decode cX12_deals 42 = .ok (.if_icmp .ge 161, 3) := by decide +kernel
theorem dX12_deals_45 : decode cX12_deals 45 = .ok (.iload 4, 2) := by decide +kernel
theorem dX12_deals_47 : decode cX12_deals 47 = .ok (.istore 5, 2) := by decide +kernel
theorem dX12_deals_49 : decode cX12_deals 49 = .ok (.iconst 5, 1) := by decide +kernel
theorem dX12_deals_50 : decode cX12_deals 50 = .ok (.istore 6, 2) := by decide +kernel
theorem dX12_deals_52 : decode cX12_deals 52 = .ok (.iload 6, 2) := by decide +kernel
theorem dX12_deals_54 : decode cX12_deals 54 = .ok (.ifCond .lt 46, 3) := by decide +kernel
theorem dX12_deals_57 : decode cX12_deals 57 = .ok (.aload_n 0, 1) := by decide +kernel
theorem dX12_deals_58 : decode cX12_deals 58 = .ok (.getfield 87, 3) := by decide +kernel
theorem dX12_deals_61 : decode cX12_deals 61 = .ok (.iload 6, 2) := by decide +kernel
theorem dX12_deals_63 : decode cX12_deals 63 = .ok (.iconst (-1), 1) := by decide +kernel
theorem dX12_deals_64 : decode cX12_deals 64 = .ok (.iastore, 1) := by decide +kernel
theorem dX12_deals_65 : decode cX12_deals 65 = .ok (.iload_n 1, 1) := by decide +kernel
theorem dX12_deals_66 : decode cX12_deals 66 = .ok (.iload 6, 2) := by decide +kernel
theorem dX12_deals_68 : decode cX12_deals 68 = .ok (.ishr, 1) := by decide +kernel
theorem dX12_deals_69 : decode cX12_deals 69 = .ok (.iconst 1, 1) := by decide +kernel
theorem dX12_deals_70 : decode cX12_deals 70 = .ok (.iand, 1) := by decide +kernel
theorem dX12_deals_71 : decode cX12_deals 71 = .ok (.ifCond .ne 6, 3) := by decide +kernel
theorem dX12_deals_74 : decode cX12_deals 74 = .ok (.goto 20, 3) := by decide +kernel
theorem dX12_deals_77 : decode cX12_deals 77 = .ok (.aload_n 0, 1) := by decide +kernel
theorem dX12_deals_78 : decode cX12_deals 78 = .ok (.getfield 87, 3) := by decide +kernel
theorem dX12_deals_81 : decode cX12_deals 81 = .ok (.iload 6, 2) := by decide +kernel
theorem dX12_deals_83 : decode cX12_deals 83 = .ok (.iload 5, 2) := by decide +kernel
theorem dX12_deals_85 : decode cX12_deals 85 = .ok (.iload_n 2, 1) := by decide +kernel
theorem dX12_deals_86 : decode cX12_deals 86 = .ok (.irem, 1) := by decide +kernel
theorem dX12_deals_87 : decode cX12_deals 87 = .ok (.iastore, 1) := by decide +kernel
theorem dX12_deals_88 : decode cX12_deals 88 = .ok (.iload 5, 2) := by decide +kernel
theorem dX12_deals_90 : decode cX12_deals 90 = .ok (.iload_n 2, 1) := by decide +kernel
theorem dX12_deals_91 : decode cX12_deals 91 = .ok (.idiv, 1) := by decide +kernel
theorem dX12_deals_92 : decode cX12_deals 92 = .ok (.istore 5, 2) := by decide +kernel
theorem dX12_deals_94 : decode cX12_deals 94 = .ok (.iinc 6 (-1), 3) := by decide +kernel
theorem dX12_deals_97 : decode cX12_deals 97 = .ok (.goto (-45), 3) := by decide +kernel
theorem dX12_deals_100 : decode cX12_deals 100 = .ok (.iconst 1, 1) := by decide +kernel
theorem dX12_deals_101 : decode cX12_deals 101 = .ok (.istore 6, 2) := by decide +kernel
theorem dX12_deals_103 : decode cX12_deals 103 = .ok (.iconst 0, 1) := by decide +kernel
theorem dX12_deals_104 : decode cX12_deals 104 = .ok (.istore 7, 2) := by decide +kernel
theorem dX12_deals_106 : decode cX12_deals 106 = .ok (.iload 7, 2) := by decide +kernel
theorem dX12_deals_108 : decode cX12_deals 108 = .ok (.bipush 6, 2) := by decide +kernel
theorem dX12_deals_110 : decode cX12_deals 110 = .ok (.if_icmp .ge 80, 3) := by decide +kernel
theorem dX12_deals_113 : decode cX12_deals 113 = .ok (.iconst 0, 1) := by decide +kernel
theorem dX12_deals_114 : decode cX12_deals 114 = .ok (.istore 8, 2) := by decide +kernel
theorem dX12_deals_116 : decode cX12_deals 116 = .ok (.iload 8, 2) := by decide +kernel
theorem dX12_deals_118 : decode cX12_deals 118 = .ok (.iload 7, 2) := by decide +kernel
theorem dX12_deals_120 : decode cX12_deals 120 = .ok (.if_icmp .ge 64, 3) := by decide +kernel
theorem dX12_deals_123 : decode cX12_deals 123 = .ok (.iload 6, 2) := by decide +kernel
theorem dX12_deals_125 : decode cX12_deals 125 = .ok (.ifCond .eq 50, 3) := by decide +kernel
theorem dX12_deals_128 : decode cX12_deals 128 = .ok (.aload_n 0, 1) := by decide +kernel
theorem dX12_deals_129 : decode cX12_deals 129 = .ok (.getfield 87, 3) := by decide +kernel
theorem dX12_deals_132 : decode cX12_deals 132 = .ok (.iload 7, 2) := by decide +kernel
theorem dX12_deals_134 : decode cX12_deals 134 = .ok (.iaload, 1) := by decide +kernel
theorem dX12_deals_135 : decode cX12_deals 135 = .ok (.iconst (-1), 1) := by decide +kernel
theorem dX12_deals_136 : decode cX12_deals 136 = .ok (.if_icmp .eq 35, 3) := by decide +kernel
theorem dX12_deals_139 : decode cX12_deals 139 = .ok (.aload_n 0, 1) := by decide +kernel
theorem dX12_deals_140 : decode cX12_deals 140 = .ok (.getfield 87, 3) := by decide +kernel
theorem dX12_deals_143 : decode cX12_deals 143 = .ok (.iload 7, 2) := by decide +kernel
theorem dX12_deals_145 : decode cX12_deals 145 = .ok (.iaload, 1) := by decide +kernel
theorem dX12_deals_146 : decode cX12_deals 146 = .ok (.aload_n 0, 1) := by decide +kernel
theorem dX12_deals_147 : decode cX12_deals 147 = .ok (.getfield 87, 3) := by decide +kernel
theorem dX12_deals_150 : decode cX12_deals 150 = .ok (.iload 8, 2) := by decide +kernel
theorem dX12_deals_152 : decode cX12_deals 152 = .ok (.iaload, 1) := by decide +kernel
theorem dX12_deals_153 : decode cX12_deals 153 = .ok (.if_icmp .ne 18, 3) := by decide +kernel
theorem dX12_deals_156 : decode cX12_deals 156 = .ok (.aload_n 0, 1) := by decide +kernel
theorem dX12_deals_157 : decode cX12_deals 157 = .ok (.getfield 84, 3) := by decide +kernel
theorem dX12_deals_160 : decode cX12_deals 160 = .ok (.iload 7, 2) := by decide +kernel
theorem dX12_deals_162 : decode cX12_deals 162 = .ok (.iaload, 1) := by decide +kernel
theorem dX12_deals_163 : decode cX12_deals 163 = .ok (.iload 8, 2) := by decide +kernel
theorem dX12_deals_165 : decode cX12_deals 165 = .ok (.ishr, 1) := by decide +kernel
theorem dX12_deals_166 : decode cX12_deals 166 = .ok (.iconst 1, 1) := by decide +kernel
theorem dX12_deals_167 : decode cX12_deals 167 = .ok (.iand, 1) := by decide +kernel
theorem dX12_deals_168 : decode cX12_deals 168 = .ok (.ifCond .ne 7, 3) := by decide +kernel
theorem dX12_deals_171 : decode cX12_deals 171 = .ok (.iconst 1, 1) := by decide +kernel
theorem dX12_deals_172 : decode cX12_deals 172 = .ok (.goto 4, 3) := by decide +kernel
theorem dX12_deals_175 : decode cX12_deals 175 = .ok (.iconst 0, 1) := by decide +kernel
theorem dX12_deals_176 : decode cX12_deals 176 = .ok (.istore 6, 2) := by decide +kernel
theorem dX12_deals_178 : decode cX12_deals 178 = .ok (.iinc 8 1, 3) := by decide +kernel
theorem dX12_deals_181 : decode cX12_deals 181 = .ok (.goto (-65), 3) := by decide +kernel
theorem dX12_deals_184 : decode cX12_deals 184 = .ok (.iinc 7 1, 3) := by decide +kernel
theorem dX12_deals_187 : decode cX12_deals 187 = .ok (.goto (-81), 3) := by decide +kernel
theorem dX12_deals_190 : decode cX12_deals 190 = .ok (.iload 6, 2) := by decide +kernel
theorem dX12_deals_192 : decode cX12_deals 192 = .ok (.ifCond .eq 5, 3) := by decide +kernel
theorem dX12_deals_195 : decode cX12_deals 195 = .ok (.iconst 1, 1) := by decide +kernel
theorem dX12_deals_196 : decode cX12_deals 196 = .ok (.ireturn, 1) := by decide +kernel
theorem dX12_deals_197 : decode cX12_deals 197 = .ok (.iinc 4 1, 3) := by decide +kernel
theorem dX12_deals_200 : decode cX12_deals 200 = .ok (.goto (-161), 3) := by decide +kernel
theorem dX12_deals_203 : decode cX12_deals 203 = .ok (.iconst 0, 1) := by decide +kernel
theorem dX12_deals_204 : decode cX12_deals 204 = .ok (.ireturn, 1) := by decide +kernel
theorem dX12_does_0 : decode cX12_does 0 = .ok (.iload_n 1, 1) := by decide +kernel
theorem dX12_does_1 : decode cX12_does 1 = .ok (.istore_n 2, 1) := by decide +kernel
theorem dX12_does_2 : decode cX12_does 2 = .ok (.aload_n 0, 1) := by decide +kernel
theorem dX12_does_3 : decode cX12_does 3 = .ok (.iload_n 2, 1) := by decide +kernel
theorem dX12_does_4 : decode cX12_does 4 = .ok (.invokevirtual 107, 3) := by decide +kernel
theorem dX12_does_7 : decode cX12_does 7 = .ok (.ifCond .ne 22, 3) := by decide +kernel
theorem dX12_does_10 : decode cX12_does 10 = .ok (.aload_n 0, 1) := by decide +kernel
theorem dX12_does_11 : decode cX12_does 11 = .ok (.iload_n 2, 1) := by decide +kernel
theorem dX12_does_12 : decode cX12_does 12 = .ok (.invokevirtual 297, 3) := by decide +kernel
theorem dX12_does_15 : decode cX12_does 15 = .ok (.ifCond .ne 5, 3) := by decide +kernel
theorem dX12_does_18 : decode cX12_does 18 = .ok (.iconst 0, 1) := by decide +kernel
theorem dX12_does_19 : decode cX12_does 19 = .ok (.ireturn, 1) := by decide +kernel
theorem dX12_does_20 : decode cX12_does 20 = .ok (.aload_n 0, 1) := by decide +kernel
theorem dX12_does_21 : decode cX12_does 21 = .ok (.iload_n 2, 1) := by decide +kernel
theorem dX12_does_22 : decode cX12_does 22 = .ok (.invokevirtual 104, 3) := by decide +kernel
theorem dX12_does_25 : decode cX12_does 25 = .ok (.istore_n 2, 1) := by decide +kernel
theorem dX12_does_26 : decode cX12_does 26 = .ok (.goto (-24), 3) := by decide +kernel
theorem dX12_does_29 : decode cX12_does 29 = .ok (.iconst 1, 1) := by decide +kernel
theorem dX12_does_30 : decode cX12_does 30 = .ok (.ireturn, 1) := by decide +kernel
theorem dX12_doesOne_0 : decode cX12_doesOne 0 = .ok (.aload_n 0, 1) := by decide +kernel
theorem dX12_doesOne_1 : decode cX12_doesOne 1 = .ok (.invokevirtual 300, 3) := by decide +kernel
theorem dX12_doesOne_4 : decode cX12_doesOne 4 = .ok (.ifCond .ne 5, 3) := by decide +kernel
theorem dX12_doesOne_7 : decode cX12_doesOne 7 = .ok (.iconst 0, 1) := by decide +kernel
theorem dX12_doesOne_8 : decode cX12_doesOne 8 = .ok (.ireturn, 1) := by decide +kernel
theorem dX12_doesOne_9 : decode cX12_doesOne 9 = .ok (.aload_n 0, 1) := by decide +kernel
theorem dX12_doesOne_10 : decode cX12_doesOne 10 = .ok (.getfield 16, 3) := by decide +kernel
theorem dX12_doesOne_13 : decode cX12_doesOne 13 = .ok (.iload_n 1, 1) := by decide +kernel
theorem dX12_doesOne_14 : decode cX12_doesOne 14 = .ok (.iaload, 1) := by decide +kernel
theorem dX12_doesOne_15 : decode cX12_doesOne 15 = .ok (.istore_n 2, 1) := by decide +kernel
theorem dX12_doesOne_16 : decode cX12_doesOne 16 = .ok (.iload_n 2, 1) := by decide +kernel
theorem dX12_doesOne_17 : decode cX12_doesOne 17 = .ok (.bipush 111, 2) := by decide +kernel
theorem dX12_doesOne_19 : decode cX12_doesOne 19 = .ok (.if_icmp .ne 10, 3) := by decide +kernel
theorem dX12_doesOne_22 : decode cX12_doesOne 22 = .ok (.aload_n 0, 1) := by decide +kernel
theorem dX12_doesOne_23 : decode cX12_doesOne 23 = .ok (.iconst 1, 1) := by decide +kernel
theorem dX12_doesOne_24 : decode cX12_doesOne 24 = .ok (.putfield 294, 3) := by decide +kernel
theorem dX12_doesOne_27 : decode cX12_doesOne 27 = .ok (.iconst 0, 1) := by decide +kernel
theorem dX12_doesOne_28 : decode cX12_doesOne 28 = .ok (.ireturn, 1) := by decide +kernel
theorem dX12_doesOne_29 : decode cX12_doesOne 29 = .ok (.iload_n 2, 1) := by decide +kernel
theorem dX12_doesOne_30 : decode cX12_doesOne 30 = .ok (.bipush 112, 2) := by decide +kernel
theorem dX12_doesOne_32 : decode cX12_doesOne 32 = .ok (.if_icmp .ne 56, 3) := by decide +kernel
theorem dX12_doesOne_35 : decode cX12_doesOne 35 = .ok (.aload_n 0, 1) := by decide +kernel
theorem dX12_doesOne_36 : decode cX12_doesOne 36 = .ok (.iload_n 1, 1) := by decide +kernel
theorem dX12_doesOne_37 : decode cX12_doesOne 37 = .ok (.invokevirtual 101, 3) := by decide +kernel
theorem dX12_doesOne_40 : decode cX12_doesOne 40 = .ok (.istore_n 3, 1) := by decide +kernel
theorem dX12_doesOne_41 : decode cX12_doesOne 41 = .ok (.aload_n 0, 1) := by decide +kernel
theorem dX12_doesOne_42 : decode cX12_doesOne 42 = .ok (.iload_n 1, 1) := by decide +kernel
theorem dX12_doesOne_43 : decode cX12_doesOne 43 = .ok (.invokevirtual 303, 3) := by decide +kernel
theorem dX12_doesOne_46 : decode cX12_doesOne 46 = .ok (.ifCond .eq 9, 3) := by decide +kernel
theorem dX12_doesOne_49 : decode cX12_doesOne 49 = .ok (.aload_n 0, 1) := by decide +kernel
theorem dX12_doesOne_50 : decode cX12_doesOne 50 = .ok (.iload_n 3, 1) := by decide +kernel
theorem dX12_doesOne_51 : decode cX12_doesOne 51 = .ok (.invokevirtual 306, 3) := by decide +kernel
theorem dX12_doesOne_54 : decode cX12_doesOne 54 = .ok (.ireturn, 1) := by decide +kernel
theorem dX12_doesOne_55 : decode cX12_doesOne 55 = .ok (.aload_n 0, 1) := by decide +kernel
theorem dX12_doesOne_56 : decode cX12_doesOne 56 = .ok (.iload_n 3, 1) := by decide +kernel
theorem dX12_doesOne_57 : decode cX12_doesOne 57 = .ok (.invokevirtual 309, 3) := by decide +kernel
theorem dX12_doesOne_60 : decode cX12_doesOne 60 = .ok (.istore_n 3, 1) := by decide +kernel
theorem dX12_doesOne_61 : decode cX12_doesOne 61 = .ok (.aload_n 0, 1) := by decide +kernel
theorem dX12_doesOne_62 : decode cX12_doesOne 62 = .ok (.getfield 16, 3) := by decide +kernel
theorem dX12_doesOne_65 : decode cX12_doesOne 65 = .ok (.iload_n 3, 1) := by decide +kernel
theorem dX12_doesOne_66 : decode cX12_doesOne 66 = .ok (.iaload, 1) := by decide +kernel
theorem dX12_doesOne_67 : decode cX12_doesOne 67 = .ok (.bipush 114, 2) := by decide +kernel
theorem dX12_doesOne_69 : decode cX12_doesOne 69 = .ok (.if_icmp .eq 13, 3) := by decide +kernel
theorem dX12_doesOne_72 : decode cX12_doesOne 72 = .ok (.aload_n 0, 1) := by decide +kernel
theorem dX12_doesOne_73 : decode cX12_doesOne 73 = .ok (.iload_n 3, 1) := by decide +kernel
theorem dX12_doesOne_74 : decode cX12_doesOne 74 = .ok (.iconst 1, 1) := by decide +kernel
theorem dX12_doesOne_75 : decode cX12_doesOne 75 = .ok (.iadd, 1) := by decide +kernel
theorem dX12_doesOne_76 : decode cX12_doesOne 76 = .ok (.invokevirtual 306, 3) := by decide +kernel
theorem dX12_doesOne_79 : decode cX12_doesOne 79 = .ok (.ifCond .eq 7, 3) := by decide +kernel
theorem dX12_doesOne_82 : decode cX12_doesOne 82 = .ok (.iconst 1, 1) := by decide +kernel
theorem dX12_doesOne_83 : decode cX12_doesOne 83 = .ok (.goto 4, 3) := by decide +kernel
theorem dX12_doesOne_86 : decode cX12_doesOne 86 = .ok (.iconst 0, 1) := by decide +kernel
theorem dX12_doesOne_87 : decode cX12_doesOne 87 = .ok (.ireturn, 1) := by decide +kernel
theorem dX12_doesOne_88 : decode cX12_doesOne 88 = .ok (.iload_n 2, 1) := by decide +kernel
theorem dX12_doesOne_89 : decode cX12_doesOne 89 = .ok (.bipush 115, 2) := by decide +kernel
theorem dX12_doesOne_91 : decode cX12_doesOne 91 = .ok (.if_icmp .ne 34, 3) := by decide +kernel
theorem dX12_doesOne_94 : decode cX12_doesOne 94 = .ok (.aload_n 0, 1) := by decide +kernel
theorem dX12_doesOne_95 : decode cX12_doesOne 95 = .ok (.iload_n 1, 1) := by decide +kernel
theorem dX12_doesOne_96 : decode cX12_doesOne 96 = .ok (.invokevirtual 303, 3) := by decide +kernel
theorem dX12_doesOne_99 : decode cX12_doesOne 99 = .ok (.ifCond .eq 24, 3) := by decide +kernel
theorem dX12_doesOne_102 : decode cX12_doesOne 102 = .ok (.aload_n 0, 1) := by decide +kernel
theorem dX12_doesOne_103 : decode cX12_doesOne 103 = .ok (.aload_n 0, 1) := by decide +kernel
theorem dX12_doesOne_104 : decode cX12_doesOne 104 = .ok (.iload_n 1, 1) := by decide +kernel
theorem dX12_doesOne_105 : decode cX12_doesOne 105 = .ok (.invokevirtual 101, 3) := by decide +kernel
theorem dX12_doesOne_108 : decode cX12_doesOne 108 = .ok (.invokevirtual 306, 3) := by decide +kernel
theorem dX12_doesOne_111 : decode cX12_doesOne 111 = .ok (.ifCond .eq 10, 3) := by decide +kernel
theorem dX12_doesOne_114 : decode cX12_doesOne 114 = .ok (.aload_n 0, 1) := by decide +kernel
theorem dX12_doesOne_115 : decode cX12_doesOne 115 = .ok (.invokevirtual 300, 3) := by decide +kernel
theorem dX12_doesOne_118 : decode cX12_doesOne 118 = .ok (.ifCond .ne (-24), 3) := by decide +kernel
theorem dX12_doesOne_121 : decode cX12_doesOne 121 = .ok (.iconst 0, 1) := by decide +kernel
theorem dX12_doesOne_122 : decode cX12_doesOne 122 = .ok (.ireturn, 1) := by decide +kernel
theorem dX12_doesOne_123 : decode cX12_doesOne 123 = .ok (.iconst 1, 1) := by decide +kernel
theorem dX12_doesOne_124 : decode cX12_doesOne 124 = .ok (.ireturn, 1) := by decide +kernel
theorem dX12_doesOne_125 : decode cX12_doesOne 125 = .ok (.aload_n 0, 1) := by decide +kernel
theorem dX12_doesOne_126 : decode cX12_doesOne 126 = .ok (.iload_n 1, 1) := by decide +kernel
theorem dX12_doesOne_127 : decode cX12_doesOne 127 = .ok (.iconst 1, 1) := by decide +kernel
theorem dX12_doesOne_128 : decode cX12_doesOne 128 = .ok (.iadd, 1) := by decide +kernel
theorem dX12_doesOne_129 : decode cX12_doesOne 129 = .ok (.putfield 281, 3) := by decide +kernel
theorem dX12_doesOne_132 : decode cX12_doesOne 132 = .ok (.aload_n 0, 1) := by decide +kernel
theorem dX12_doesOne_133 : decode cX12_doesOne 133 = .ok (.invokevirtual 284, 3) := by decide +kernel
theorem dX12_doesOne_136 : decode cX12_doesOne 136 = .ok (.istore_n 3, 1) := by decide +kernel
theorem dX12_doesOne_137 : decode cX12_doesOne 137 = .ok (.iload_n 2, 1) := by decide +kernel
theorem dX12_doesOne_138 : decode cX12_doesOne 138 = .ok (.bipush 110, 2) := by decide +kernel
theorem dX12_doesOne_140 : decode cX12_doesOne 140 = .ok (.if_icmp .ne 26, 3) := by decide +kernel
theorem dX12_doesOne_143 : decode cX12_doesOne 143 = .ok (.aload_n 0, 1) := by decide +kernel
theorem dX12_doesOne_144 : decode cX12_doesOne 144 = .ok (.getfield 44, 3) := by decide +kernel
theorem dX12_doesOne_147 : decode cX12_doesOne 147 = .ok (.aload_n 0, 1) := by decide +kernel
theorem dX12_doesOne_148 : decode cX12_doesOne 148 = .ok (.getfield 312, 3) := by decide +kernel
theorem dX12_doesOne_151 : decode cX12_doesOne 151 = .ok (.iload_n 3, 1) := by decide +kernel
theorem dX12_doesOne_152 : decode cX12_doesOne 152 = .ok (.iastore, 1) := by decide +kernel
theorem dX12_doesOne_153 : decode cX12_doesOne 153 = .ok (.aload_n 0, 1) := by decide +kernel
theorem dX12_doesOne_154 : decode cX12_doesOne 154 = .ok (.dup, 1) := by decide +kernel
theorem dX12_doesOne_155 : decode cX12_doesOne 155 = .ok (.getfield 312, 3) := by decide +kernel
theorem dX12_doesOne_158 : decode cX12_doesOne 158 = .ok (.iconst 1, 1) := by decide +kernel
theorem dX12_doesOne_159 : decode cX12_doesOne 159 = .ok (.iadd, 1) := by decide +kernel
theorem dX12_doesOne_160 : decode cX12_doesOne 160 = .ok (.putfield 312, 3) := by decide +kernel
theorem dX12_doesOne_163 : decode cX12_doesOne 163 = .ok (.goto 13, 3) := by decide +kernel
theorem dX12_doesOne_166 : decode cX12_doesOne 166 = .ok (.aload_n 0, 1) := by decide +kernel
theorem dX12_doesOne_167 : decode cX12_doesOne 167 = .ok (.getfield 41, 3) := by decide +kernel
theorem dX12_doesOne_170 : decode cX12_doesOne 170 = .ok (.iload_n 2, 1) := by decide +kernel
theorem dX12_doesOne_171 : decode cX12_doesOne 171 = .ok (.bipush 100, 2) := by decide +kernel
theorem dX12_doesOne_173 : decode cX12_doesOne 173 = .ok (.isub, 1) := by decide +kernel
theorem dX12_doesOne_174 : decode cX12_doesOne 174 = .ok (.iload_n 3, 1) := by decide +kernel
theorem dX12_doesOne_175 : decode cX12_doesOne 175 = .ok (.iastore, 1) := by decide +kernel
theorem dX12_doesOne_176 : decode cX12_doesOne 176 = .ok (.iconst 1, 1) := by decide +kernel
theorem dX12_doesOne_177 : decode cX12_doesOne 177 = .ok (.ireturn, 1) := by decide +kernel
theorem dX12_drops_0 : decode cX12_drops 0 = .ok (.aload_n 0, 1) := by decide +kernel
theorem dX12_drops_1 : decode cX12_drops 1 = .ok (.getfield 68, 3) := by decide +kernel
theorem dX12_drops_4 : decode cX12_drops 4 = .ok (.iload_n 1, 1) := by decide +kernel
theorem dX12_drops_5 : decode cX12_drops 5 = .ok (.iconst 1, 1) := by decide +kernel
theorem dX12_drops_6 : decode cX12_drops 6 = .ok (.bastore, 1) := by decide +kernel
theorem dX12_drops_7 : decode cX12_drops 7 = .ok (.aload_n 0, 1) := by decide +kernel
theorem dX12_drops_8 : decode cX12_drops 8 = .ok (.iconst 1, 1) := by decide +kernel
theorem dX12_drops_9 : decode cX12_drops 9 = .ok (.putfield 382, 3) := by decide +kernel
theorem dX12_drops_12 : decode cX12_drops 12 = .ok (.return_, 1) := by decide +kernel
theorem dX12_end_0 : decode cX12_end 0 = .ok (.iload_n 1, 1) := by decide +kernel
theorem dX12_end_1 : decode cX12_end 1 = .ok (.iconst 0, 1) := by decide +kernel
theorem dX12_end_2 : decode cX12_end 2 = .ok (.aload_n 0, 1) := by decide +kernel
theorem dX12_end_3 : decode cX12_end 3 = .ok (.getfield 124, 3) := by decide +kernel
theorem dX12_end_6 : decode cX12_end 6 = .ok (.invokestatic 90, 3) := by decide +kernel
theorem dX12_end_9 : decode cX12_end 9 = .ok (.ifCond .ne 5, 3) := by decide +kernel
theorem dX12_end_12 : decode cX12_end 12 = .ok (.iconst 0, 1) := by decide +kernel
theorem dX12_end_13 : decode cX12_end 13 = .ok (.ireturn, 1) := by decide +kernel
