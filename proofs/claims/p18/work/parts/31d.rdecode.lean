theorem dX12_unit_25 : decode cX12_unit 25 = .ok (.aload_n 0, 1) := by decide +kernel
theorem dX12_unit_26 : decode cX12_unit 26 = .ok (.bipush 41, 2) := by decide +kernel
theorem dX12_unit_28 : decode cX12_unit 28 = .ok (.invokevirtual 222, 3) := by decide +kernel
theorem dX12_unit_31 : decode cX12_unit 31 = .ok (.ifCond .eq 7, 3) := by decide +kernel
theorem dX12_unit_34 : decode cX12_unit 34 = .ok (.iconst 1, 1) := by decide +kernel
theorem dX12_unit_35 : decode cX12_unit 35 = .ok (.goto 4, 3) := by decide +kernel
theorem dX12_unit_38 : decode cX12_unit 38 = .ok (.iconst 0, 1) := by decide +kernel
theorem dX12_unit_39 : decode cX12_unit 39 = .ok (.ireturn, 1) := by decide +kernel
theorem dX12_unit_40 : decode cX12_unit 40 = .ok (.aload_n 0, 1) := by decide +kernel
theorem dX12_unit_41 : decode cX12_unit 41 = .ok (.getfield 164, 3) := by decide +kernel
theorem dX12_unit_44 : decode cX12_unit 44 = .ok (.iconst 2, 1) := by decide +kernel
theorem dX12_unit_45 : decode cX12_unit 45 = .ok (.if_icmp .ne 18, 3) := by decide +kernel
theorem dX12_unit_48 : decode cX12_unit 48 = .ok (.aload_n 0, 1) := by decide +kernel
theorem dX12_unit_49 : decode cX12_unit 49 = .ok (.getfield 176, 3) := by decide +kernel
theorem dX12_unit_52 : decode cX12_unit 52 = .ok (.bipush 15, 2) := by decide +kernel
theorem dX12_unit_54 : decode cX12_unit 54 = .ok (.if_icmp .le 9, 3) := by decide +kernel
theorem dX12_unit_57 : decode cX12_unit 57 = .ok (.aload_n 0, 1) := by decide +kernel
theorem dX12_unit_58 : decode cX12_unit 58 = .ok (.iconst 2, 1) := by decide +kernel
theorem dX12_unit_59 : decode cX12_unit 59 = .ok (.invokevirtual 185, 3) := by decide +kernel
theorem dX12_unit_62 : decode cX12_unit 62 = .ok (.ireturn, 1) := by decide +kernel
theorem dX12_unit_63 : decode cX12_unit 63 = .ok (.aload_n 0, 1) := by decide +kernel
theorem dX12_unit_64 : decode cX12_unit 64 = .ok (.getfield 164, 3) := by decide +kernel
theorem dX12_unit_67 : decode cX12_unit 67 = .ok (.sipush 320, 3) := by decide +kernel
theorem dX12_unit_70 : decode cX12_unit 70 = .ok (.if_icmp .lt 7, 3) := by decide +kernel
theorem dX12_unit_73 : decode cX12_unit 73 = .ok (.iconst 1, 1) := by decide +kernel
theorem dX12_unit_74 : decode cX12_unit 74 = .ok (.goto 4, 3) := by decide +kernel
theorem dX12_unit_77 : decode cX12_unit 77 = .ok (.iconst 0, 1) := by decide +kernel
theorem dX12_unit_78 : decode cX12_unit 78 = .ok (.istore_n 1, 1) := by decide +kernel
theorem dX12_unit_79 : decode cX12_unit 79 = .ok (.aload_n 0, 1) := by decide +kernel
theorem dX12_unit_80 : decode cX12_unit 80 = .ok (.getfield 164, 3) := by decide +kernel
theorem dX12_unit_83 : decode cX12_unit 83 = .ok (.iconst 2, 1) := by decide +kernel
theorem dX12_unit_84 : decode cX12_unit 84 = .ok (.if_icmp .eq 13, 3) := by decide +kernel
theorem dX12_unit_87 : decode cX12_unit 87 = .ok (.iload_n 1, 1) := by decide +kernel
theorem dX12_unit_88 : decode cX12_unit 88 = .ok (.ifCond .ne 9, 3) := by decide +kernel
theorem dX12_unit_91 : decode cX12_unit 91 = .ok (.aload_n 0, 1) := by decide +kernel
theorem dX12_unit_92 : decode cX12_unit 92 = .ok (.iconst 1, 1) := by decide +kernel
theorem dX12_unit_93 : decode cX12_unit 93 = .ok (.invokevirtual 185, 3) := by decide +kernel
theorem dX12_unit_96 : decode cX12_unit 96 = .ok (.ireturn, 1) := by decide +kernel
theorem dX12_unit_97 : decode cX12_unit 97 = .ok (.iload_n 1, 1) := by decide +kernel
theorem dX12_unit_98 : decode cX12_unit 98 = .ok (.ifCond .eq 53, 3) := by decide +kernel
theorem dX12_unit_101 : decode cX12_unit 101 = .ok (.aload_n 0, 1) := by decide +kernel
theorem dX12_unit_102 : decode cX12_unit 102 = .ok (.getfield 143, 3) := by decide +kernel
theorem dX12_unit_105 : decode cX12_unit 105 = .ok (.ifCond .eq 46, 3) := by decide +kernel
theorem dX12_unit_108 : decode cX12_unit 108 = .ok (.iconst 1, 1) := by decide +kernel
theorem dX12_unit_109 : decode cX12_unit 109 = .ok (.aload_n 0, 1) := by decide +kernel
theorem dX12_unit_110 : decode cX12_unit 110 = .ok (.getfield 164, 3) := by decide +kernel
theorem dX12_unit_113 : decode cX12_unit 113 = .ok (.sipush 330, 3) := by decide +kernel
theorem dX12_unit_116 : decode cX12_unit 116 = .ok (.isub, 1) := by decide +kernel
theorem dX12_unit_117 : decode cX12_unit 117 = .ok (.ishl, 1) := by decide +kernel
theorem dX12_unit_118 : decode cX12_unit 118 = .ok (.istore_n 2, 1) := by decide +kernel
theorem dX12_unit_119 : decode cX12_unit 119 = .ok (.aload_n 0, 1) := by decide +kernel
theorem dX12_unit_120 : decode cX12_unit 120 = .ok (.getfield 225, 3) := by decide +kernel
theorem dX12_unit_123 : decode cX12_unit 123 = .ok (.ifCond .eq 18, 3) := by decide +kernel
theorem dX12_unit_126 : decode cX12_unit 126 = .ok (.aload_n 0, 1) := by decide +kernel
theorem dX12_unit_127 : decode cX12_unit 127 = .ok (.getfield 228, 3) := by decide +kernel
theorem dX12_unit_130 : decode cX12_unit 130 = .ok (.iload_n 2, 1) := by decide +kernel
theorem dX12_unit_131 : decode cX12_unit 131 = .ok (.iand, 1) := by decide +kernel
theorem dX12_unit_132 : decode cX12_unit 132 = .ok (.ifCond .ne 9, 3) := by decide +kernel
theorem dX12_unit_135 : decode cX12_unit 135 = .ok (.aload_n 0, 1) := by decide +kernel
theorem dX12_unit_136 : decode cX12_unit 136 = .ok (.iconst 2, 1) := by decide +kernel
theorem dX12_unit_137 : decode cX12_unit 137 = .ok (.invokevirtual 185, 3) := by decide +kernel
theorem dX12_unit_140 : decode cX12_unit 140 = .ok (.ireturn, 1) := by decide +kernel
theorem dX12_unit_141 : decode cX12_unit 141 = .ok (.aload_n 0, 1) := by decide +kernel
theorem dX12_unit_142 : decode cX12_unit 142 = .ok (.dup, 1) := by decide +kernel
theorem dX12_unit_143 : decode cX12_unit 143 = .ok (.getfield 228, 3) := by decide +kernel
theorem dX12_unit_146 : decode cX12_unit 146 = .ok (.iload_n 2, 1) := by decide +kernel
theorem dX12_unit_147 : decode cX12_unit 147 = .ok (.ior, 1) := by decide +kernel
theorem dX12_unit_148 : decode cX12_unit 148 = .ok (.putfield 228, 3) := by decide +kernel
theorem dX12_unit_151 : decode cX12_unit 151 = .ok (.aload_n 0, 1) := by decide +kernel
theorem dX12_unit_152 : decode cX12_unit 152 = .ok (.invokevirtual 206, 3) := by decide +kernel
theorem dX12_unit_155 : decode cX12_unit 155 = .ok (.ifCond .ne 5, 3) := by decide +kernel
theorem dX12_unit_158 : decode cX12_unit 158 = .ok (.iconst 0, 1) := by decide +kernel
theorem dX12_unit_159 : decode cX12_unit 159 = .ok (.ireturn, 1) := by decide +kernel
theorem dX12_unit_160 : decode cX12_unit 160 = .ok (.aload_n 0, 1) := by decide +kernel
theorem dX12_unit_161 : decode cX12_unit 161 = .ok (.aload_n 0, 1) := by decide +kernel
theorem dX12_unit_162 : decode cX12_unit 162 = .ok (.getfield 164, 3) := by decide +kernel
theorem dX12_unit_165 : decode cX12_unit 165 = .ok (.iconst 2, 1) := by decide +kernel
theorem dX12_unit_166 : decode cX12_unit 166 = .ok (.if_icmp .ne 10, 3) := by decide +kernel
theorem dX12_unit_169 : decode cX12_unit 169 = .ok (.aload_n 0, 1) := by decide +kernel
theorem dX12_unit_170 : decode cX12_unit 170 = .ok (.getfield 176, 3) := by decide +kernel
theorem dX12_unit_173 : decode cX12_unit 173 = .ok (.goto 35, 3) := by decide +kernel
theorem dX12_unit_176 : decode cX12_unit 176 = .ok (.aload_n 0, 1) := by decide +kernel
theorem dX12_unit_177 : decode cX12_unit 177 = .ok (.getfield 143, 3) := by decide +kernel
theorem dX12_unit_180 : decode cX12_unit 180 = .ok (.ifCond .eq 17, 3) := by decide +kernel
theorem dX12_unit_183 : decode cX12_unit 183 = .ok (.bipush 30, 2) := by decide +kernel
theorem dX12_unit_185 : decode cX12_unit 185 = .ok (.aload_n 0, 1) := by decide +kernel
theorem dX12_unit_186 : decode cX12_unit 186 = .ok (.getfield 164, 3) := by decide +kernel
theorem dX12_unit_189 : decode cX12_unit 189 = .ok (.iadd, 1) := by decide +kernel
theorem dX12_unit_190 : decode cX12_unit 190 = .ok (.sipush 330, 3) := by decide +kernel
theorem dX12_unit_193 : decode cX12_unit 193 = .ok (.isub, 1) := by decide +kernel
theorem dX12_unit_194 : decode cX12_unit 194 = .ok (.goto 14, 3) := by decide +kernel
theorem dX12_unit_197 : decode cX12_unit 197 = .ok (.bipush 20, 2) := by decide +kernel
theorem dX12_unit_199 : decode cX12_unit 199 = .ok (.aload_n 0, 1) := by decide +kernel
theorem dX12_unit_200 : decode cX12_unit 200 = .ok (.getfield 164, 3) := by decide +kernel
theorem dX12_unit_203 : decode cX12_unit 203 = .ok (.iadd, 1) := by decide +kernel
theorem dX12_unit_204 : decode cX12_unit 204 = .ok (.sipush 320, 3) := by decide +kernel
theorem dX12_unit_207 : decode cX12_unit 207 = .ok (.isub, 1) := by decide +kernel
theorem dX12_unit_208 : decode cX12_unit 208 = .ok (.invokevirtual 120, 3) := by decide +kernel
theorem dX12_unit_211 : decode cX12_unit 211 = .ok (.aload_n 0, 1) := by decide +kernel
theorem dX12_unit_212 : decode cX12_unit 212 = .ok (.invokevirtual 188, 3) := by decide +kernel
theorem dX12_unit_215 : decode cX12_unit 215 = .ok (.iconst 1, 1) := by decide +kernel
theorem dX12_unit_216 : decode cX12_unit 216 = .ok (.ireturn, 1) := by decide +kernel
theorem dX12_unrolls_0 : decode cX12_unrolls 0 = .ok (.iload_n 1, 1) := by decide +kernel
theorem dX12_unrolls_1 : decode cX12_unrolls 1 = .ok (.istore_n 2, 1) := by decide +kernel
theorem dX12_unrolls_2 : decode cX12_unrolls 2 = .ok (.aload_n 0, 1) := by decide +kernel
theorem dX12_unrolls_3 : decode cX12_unrolls 3 = .ok (.iload_n 2, 1) := by decide +kernel
theorem dX12_unrolls_4 : decode cX12_unrolls 4 = .ok (.invokevirtual 107, 3) := by decide +kernel
theorem dX12_unrolls_7 : decode cX12_unrolls 7 = .ok (.ifCond .ne 151, 3) := by decide +kernel
theorem dX12_unrolls_10 : decode cX12_unrolls 10 = .ok (.aload_n 0, 1) := by decide +kernel
theorem dX12_unrolls_11 : decode cX12_unrolls 11 = .ok (.getfield 16, 3) := by decide +kernel
theorem dX12_unrolls_14 : decode cX12_unrolls 14 = .ok (.iload_n 2, 1) := by decide +kernel
theorem dX12_unrolls_15 : decode cX12_unrolls 15 = .ok (.iaload, 1) := by decide +kernel
theorem dX12_unrolls_16 : decode cX12_unrolls 16 = .ok (.bipush 115, 2) := by decide +kernel
theorem dX12_unrolls_18 : decode cX12_unrolls 18 = .ok (.if_icmp .ne 48, 3) := by decide +kernel
theorem dX12_unrolls_21 : decode cX12_unrolls 21 = .ok (.aload_n 0, 1) := by decide +kernel
theorem dX12_unrolls_22 : decode cX12_unrolls 22 = .ok (.bipush 112, 2) := by decide +kernel
theorem dX12_unrolls_24 : decode cX12_unrolls 24 = .ok (.invokevirtual 120, 3) := by decide +kernel
theorem dX12_unrolls_27 : decode cX12_unrolls 27 = .ok (.aload_n 0, 1) := by decide +kernel
theorem dX12_unrolls_28 : decode cX12_unrolls 28 = .ok (.iload_n 2, 1) := by decide +kernel
theorem dX12_unrolls_29 : decode cX12_unrolls 29 = .ok (.iconst 1, 1) := by decide +kernel
theorem dX12_unrolls_30 : decode cX12_unrolls 30 = .ok (.iadd, 1) := by decide +kernel
theorem dX12_unrolls_31 : decode cX12_unrolls 31 = .ok (.aload_n 0, 1) := by decide +kernel
theorem dX12_unrolls_32 : decode cX12_unrolls 32 = .ok (.iload_n 2, 1) := by decide +kernel
theorem dX12_unrolls_33 : decode cX12_unrolls 33 = .ok (.invokevirtual 104, 3) := by decide +kernel
theorem dX12_unrolls_36 : decode cX12_unrolls 36 = .ok (.iconst 1, 1) := by decide +kernel
theorem dX12_unrolls_37 : decode cX12_unrolls 37 = .ok (.isub, 1) := by decide +kernel
theorem dX12_unrolls_38 : decode cX12_unrolls 38 = .ok (.invokevirtual 367, 3) := by decide +kernel
theorem dX12_unrolls_41 : decode cX12_unrolls 41 = .ok (.aload_n 0, 1) := by decide +kernel
theorem dX12_unrolls_42 : decode cX12_unrolls 42 = .ok (.iload_n 2, 1) := by decide +kernel
theorem dX12_unrolls_43 : decode cX12_unrolls 43 = .ok (.aload_n 0, 1) := by decide +kernel
theorem dX12_unrolls_44 : decode cX12_unrolls 44 = .ok (.iload_n 2, 1) := by decide +kernel
theorem dX12_unrolls_45 : decode cX12_unrolls 45 = .ok (.invokevirtual 104, 3) := by decide +kernel
theorem dX12_unrolls_48 : decode cX12_unrolls 48 = .ok (.invokevirtual 367, 3) := by decide +kernel
theorem dX12_unrolls_51 : decode cX12_unrolls 51 = .ok (.aload_n 0, 1) := by decide +kernel
theorem dX12_unrolls_52 : decode cX12_unrolls 52 = .ok (.bipush 113, 2) := by decide +kernel
theorem dX12_unrolls_54 : decode cX12_unrolls 54 = .ok (.invokevirtual 120, 3) := by decide +kernel
theorem dX12_unrolls_57 : decode cX12_unrolls 57 = .ok (.aload_n 0, 1) := by decide +kernel
theorem dX12_unrolls_58 : decode cX12_unrolls 58 = .ok (.bipush 114, 2) := by decide +kernel
theorem dX12_unrolls_60 : decode cX12_unrolls 60 = .ok (.invokevirtual 120, 3) := by decide +kernel
theorem dX12_unrolls_63 : decode cX12_unrolls 63 = .ok (.goto 86, 3) := by decide +kernel
theorem dX12_unrolls_66 : decode cX12_unrolls 66 = .ok (.aload_n 0, 1) := by decide +kernel
theorem dX12_unrolls_67 : decode cX12_unrolls 67 = .ok (.getfield 16, 3) := by decide +kernel
theorem dX12_unrolls_70 : decode cX12_unrolls 70 = .ok (.iload_n 2, 1) := by decide +kernel
theorem dX12_unrolls_71 : decode cX12_unrolls 71 = .ok (.iaload, 1) := by decide +kernel
theorem dX12_unrolls_72 : decode cX12_unrolls 72 = .ok (.bipush 112, 2) := by decide +kernel
theorem dX12_unrolls_74 : decode cX12_unrolls 74 = .ok (.if_icmp .ne 65, 3) := by decide +kernel
theorem dX12_unrolls_77 : decode cX12_unrolls 77 = .ok (.aload_n 0, 1) := by decide +kernel
theorem dX12_unrolls_78 : decode cX12_unrolls 78 = .ok (.iload_n 2, 1) := by decide +kernel
theorem dX12_unrolls_79 : decode cX12_unrolls 79 = .ok (.aload_n 0, 1) := by decide +kernel
theorem dX12_unrolls_80 : decode cX12_unrolls 80 = .ok (.iload_n 2, 1) := by decide +kernel
theorem dX12_unrolls_81 : decode cX12_unrolls 81 = .ok (.invokevirtual 101, 3) := by decide +kernel
theorem dX12_unrolls_84 : decode cX12_unrolls 84 = .ok (.invokevirtual 367, 3) := by decide +kernel
theorem dX12_unrolls_87 : decode cX12_unrolls 87 = .ok (.aload_n 0, 1) := by decide +kernel
theorem dX12_unrolls_88 : decode cX12_unrolls 88 = .ok (.aload_n 0, 1) := by decide +kernel
theorem dX12_unrolls_89 : decode cX12_unrolls 89 = .ok (.iload_n 2, 1) := by decide +kernel
theorem dX12_unrolls_90 : decode cX12_unrolls 90 = .ok (.invokevirtual 101, 3) := by decide +kernel
theorem dX12_unrolls_93 : decode cX12_unrolls 93 = .ok (.invokevirtual 420, 3) := by decide +kernel
theorem dX12_unrolls_96 : decode cX12_unrolls 96 = .ok (.aload_n 0, 1) := by decide +kernel
theorem dX12_unrolls_97 : decode cX12_unrolls 97 = .ok (.aload_n 0, 1) := by decide +kernel
theorem dX12_unrolls_98 : decode cX12_unrolls 98 = .ok (.iload_n 2, 1) := by decide +kernel
theorem dX12_unrolls_99 : decode cX12_unrolls 99 = .ok (.invokevirtual 101, 3) := by decide +kernel
theorem dX12_unrolls_102 : decode cX12_unrolls 102 = .ok (.invokevirtual 309, 3) := by decide +kernel
theorem dX12_unrolls_105 : decode cX12_unrolls 105 = .ok (.istore_n 3, 1) := by decide +kernel
theorem dX12_unrolls_106 : decode cX12_unrolls 106 = .ok (.aload_n 0, 1) := by decide +kernel
theorem dX12_unrolls_107 : decode cX12_unrolls 107 = .ok (.getfield 16, 3) := by decide +kernel
theorem dX12_unrolls_110 : decode cX12_unrolls 110 = .ok (.iload_n 3, 1) := by decide +kernel
theorem dX12_unrolls_111 : decode cX12_unrolls 111 = .ok (.iaload, 1) := by decide +kernel
theorem dX12_unrolls_112 : decode cX12_unrolls 112 = .ok (.bipush 113, 2) := by decide +kernel
theorem dX12_unrolls_114 : decode cX12_unrolls 114 = .ok (.if_icmp .ne 16, 3) := by decide +kernel
theorem dX12_unrolls_117 : decode cX12_unrolls 117 = .ok (.aload_n 0, 1) := by decide +kernel
theorem dX12_unrolls_118 : decode cX12_unrolls 118 = .ok (.bipush 113, 2) := by decide +kernel
theorem dX12_unrolls_120 : decode cX12_unrolls 120 = .ok (.invokevirtual 120, 3) := by decide +kernel
theorem dX12_unrolls_123 : decode cX12_unrolls 123 = .ok (.aload_n 0, 1) := by decide +kernel
theorem dX12_unrolls_124 : decode cX12_unrolls 124 = .ok (.iload_n 3, 1) := by decide +kernel
theorem dX12_unrolls_125 : decode cX12_unrolls 125 = .ok (.iconst 1, 1) := by decide +kernel
theorem dX12_unrolls_126 : decode cX12_unrolls 126 = .ok (.iadd, 1) := by decide +kernel
theorem dX12_unrolls_127 : decode cX12_unrolls 127 = .ok (.invokevirtual 420, 3) := by decide +kernel
theorem dX12_unrolls_130 : decode cX12_unrolls 130 = .ok (.aload_n 0, 1) := by decide +kernel
theorem dX12_unrolls_131 : decode cX12_unrolls 131 = .ok (.bipush 114, 2) := by decide +kernel
theorem dX12_unrolls_133 : decode cX12_unrolls 133 = .ok (.invokevirtual 120, 3) := by decide +kernel
theorem dX12_unrolls_136 : decode cX12_unrolls 136 = .ok (.goto 13, 3) := by decide +kernel
theorem dX12_unrolls_139 : decode cX12_unrolls 139 = .ok (.aload_n 0, 1) := by decide +kernel
theorem dX12_unrolls_140 : decode cX12_unrolls 140 = .ok (.iload_n 2, 1) := by decide +kernel
theorem dX12_unrolls_141 : decode cX12_unrolls 141 = .ok (.aload_n 0, 1) := by decide +kernel
theorem dX12_unrolls_142 : decode cX12_unrolls 142 = .ok (.iload_n 2, 1) := by decide +kernel
theorem dX12_unrolls_143 : decode cX12_unrolls 143 = .ok (.invokevirtual 104, 3) := by decide +kernel
theorem dX12_unrolls_146 : decode cX12_unrolls 146 = .ok (.invokevirtual 367, 3) := by decide +kernel
theorem dX12_unrolls_149 : decode cX12_unrolls 149 = .ok (.aload_n 0, 1) := by decide +kernel
theorem dX12_unrolls_150 : decode cX12_unrolls 150 = .ok (.iload_n 2, 1) := by decide +kernel
theorem dX12_unrolls_151 : decode cX12_unrolls 151 = .ok (.invokevirtual 104, 3) := by decide +kernel
theorem dX12_unrolls_154 : decode cX12_unrolls 154 = .ok (.istore_n 2, 1) := by decide +kernel
theorem dX12_unrolls_155 : decode cX12_unrolls 155 = .ok (.goto (-153), 3) := by decide +kernel
theorem dX12_unrolls_158 : decode cX12_unrolls 158 = .ok (.return_, 1) := by decide +kernel
theorem dX12_word_0 : decode cX12_word 0 = .ok (.aload_n 0, 1) := by decide +kernel
theorem dX12_word_1 : decode cX12_word 1 = .ok (.getfield 22, 3) := by decide +kernel
theorem dX12_word_4 : decode cX12_word 4 = .ok (.aload_n 0, 1) := by decide +kernel
theorem dX12_word_5 : decode cX12_word 5 = .ok (.getfield 130, 3) := by decide +kernel
theorem dX12_word_8 : decode cX12_word 8 = .ok (.iaload, 1) := by decide +kernel
theorem dX12_word_9 : decode cX12_word 9 = .ok (.istore_n 1, 1) := by decide +kernel
theorem dX12_word_10 : decode cX12_word 10 = .ok (.aload_n 0, 1) := by decide +kernel
theorem dX12_word_11 : decode cX12_word 11 = .ok (.getfield 127, 3) := by decide +kernel
theorem dX12_word_14 : decode cX12_word 14 = .ok (.aload_n 0, 1) := by decide +kernel
theorem dX12_word_15 : decode cX12_word 15 = .ok (.getfield 130, 3) := by decide +kernel
theorem dX12_word_18 : decode cX12_word 18 = .ok (.isub, 1) := by decide +kernel
theorem dX12_word_19 : decode cX12_word 19 = .ok (.iconst 1, 1) := by decide +kernel
theorem dX12_word_20 : decode cX12_word 20 = .ok (.if_icmp .ne 63, 3) := by decide +kernel
theorem dX12_word_23 : decode cX12_word 23 = .ok (.aload_n 0, 1) := by decide +kernel
theorem dX12_word_24 : decode cX12_word 24 = .ok (.getfield 143, 3) := by decide +kernel
theorem dX12_word_27 : decode cX12_word 27 = .ok (.ifCond .ne 25, 3) := by decide +kernel
theorem dX12_word_30 : decode cX12_word 30 = .ok (.iload_n 1, 1) := by decide +kernel
theorem dX12_word_31 : decode cX12_word 31 = .ok (.bipush 97, 2) := by decide +kernel
theorem dX12_word_33 : decode cX12_word 33 = .ok (.bipush 102, 2) := by decide +kernel
theorem dX12_word_35 : decode cX12_word 35 = .ok (.invokestatic 90, 3) := by decide +kernel
theorem dX12_word_38 : decode cX12_word 38 = .ok (.ifCond .eq 14, 3) := by decide +kernel
theorem dX12_word_41 : decode cX12_word 41 = .ok (.sipush 320, 3) := by decide +kernel
theorem dX12_word_44 : decode cX12_word 44 = .ok (.iload_n 1, 1) := by decide +kernel
theorem dX12_word_45 : decode cX12_word 45 = .ok (.iadd, 1) := by decide +kernel
theorem dX12_word_46 : decode cX12_word 46 = .ok (.bipush 97, 2) := by decide +kernel
theorem dX12_word_48 : decode cX12_word 48 = .ok (.isub, 1) := by decide +kernel
theorem dX12_word_49 : decode cX12_word 49 = .ok (.goto 33, 3) := by decide +kernel
theorem dX12_word_52 : decode cX12_word 52 = .ok (.aload_n 0, 1) := by decide +kernel
theorem dX12_word_53 : decode cX12_word 53 = .ok (.getfield 143, 3) := by decide +kernel
theorem dX12_word_56 : decode cX12_word 56 = .ok (.ifCond .eq 25, 3) := by decide +kernel
theorem dX12_word_59 : decode cX12_word 59 = .ok (.iload_n 1, 1) := by decide +kernel
theorem dX12_word_60 : decode cX12_word 60 = .ok (.bipush 120, 2) := by decide +kernel
theorem dX12_word_62 : decode cX12_word 62 = .ok (.bipush 122, 2) := by decide +kernel
theorem dX12_word_64 : decode cX12_word 64 = .ok (.invokestatic 90, 3) := by decide +kernel
theorem dX12_word_67 : decode cX12_word 67 = .ok (.ifCond .eq 14, 3) := by decide +kernel
theorem dX12_word_70 : decode cX12_word 70 = .ok (.sipush 330, 3) := by decide +kernel
theorem dX12_word_73 : decode cX12_word 73 = .ok (.iload_n 1, 1) := by decide +kernel
theorem dX12_word_74 : decode cX12_word 74 = .ok (.iadd, 1) := by decide +kernel
theorem dX12_word_75 : decode cX12_word 75 = .ok (.bipush 120, 2) := by decide +kernel
theorem dX12_word_77 : decode cX12_word 77 = .ok (.isub, 1) := by decide +kernel
theorem dX12_word_78 : decode cX12_word 78 = .ok (.goto 4, 3) := by decide +kernel
theorem dX12_word_81 : decode cX12_word 81 = .ok (.iconst 1, 1) := by decide +kernel
theorem dX12_word_82 : decode cX12_word 82 = .ok (.ireturn, 1) := by decide +kernel
theorem dX12_word_83 : decode cX12_word 83 = .ok (.aload_n 0, 1) := by decide +kernel
theorem dX12_word_84 : decode cX12_word 84 = .ok (.ldc 147, 2) := by decide +kernel
theorem dX12_word_86 : decode cX12_word 86 = .ok (.invokevirtual 149, 3) := by decide +kernel
theorem dX12_word_89 : decode cX12_word 89 = .ok (.ifCond .eq 5, 3) := by decide +kernel
theorem dX12_word_92 : decode cX12_word 92 = .ok (.iconst 3, 1) := by decide +kernel
theorem dX12_word_93 : decode cX12_word 93 = .ok (.ireturn, 1) := by decide +kernel
theorem dX12_word_94 : decode cX12_word 94 = .ok (.aload_n 0, 1) := by decide +kernel
theorem dX12_word_95 : decode cX12_word 95 = .ok (.ldc 153, 2) := by decide +kernel
theorem dX12_word_97 : decode cX12_word 97 = .ok (.invokevirtual 149, 3) := by decide +kernel
theorem dX12_word_100 : decode cX12_word 100 = .ok (.ifCond .eq 5, 3) := by decide +kernel
theorem dX12_word_103 : decode cX12_word 103 = .ok (.iconst 4, 1) := by decide +kernel
theorem dX12_word_104 : decode cX12_word 104 = .ok (.ireturn, 1) := by decide +kernel
theorem dX12_word_105 : decode cX12_word 105 = .ok (.aload_n 0, 1) := by decide +kernel
theorem dX12_word_106 : decode cX12_word 106 = .ok (.ldc 155, 2) := by decide +kernel
theorem dX12_word_108 : decode cX12_word 108 = .ok (.invokevirtual 149, 3) := by decide +kernel
theorem dX12_word_111 : decode cX12_word 111 = .ok (.ifCond .eq 5, 3) := by decide +kernel
theorem dX12_word_114 : decode cX12_word 114 = .ok (.iconst 5, 1) := by decide +kernel
theorem dX12_word_115 : decode cX12_word 115 = .ok (.ireturn, 1) := by decide +kernel
theorem dX12_word_116 : decode cX12_word 116 = .ok (.aload_n 0, 1) := by decide +kernel
theorem dX12_word_117 : decode cX12_word 117 = .ok (.ldc 157, 2) := by decide +kernel
theorem dX12_word_119 : decode cX12_word 119 = .ok (.invokevirtual 149, 3) := by decide +kernel
theorem dX12_word_122 : decode cX12_word 122 = .ok (.ifCond .eq 6, 3) := by decide +kernel
theorem dX12_word_125 : decode cX12_word 125 = .ok (.bipush 6, 2) := by decide +kernel
theorem dX12_word_127 : decode cX12_word 127 = .ok (.ireturn, 1) := by decide +kernel
theorem dX12_word_128 : decode cX12_word 128 = .ok (.aload_n 0, 1) := by decide +kernel
theorem dX12_word_129 : decode cX12_word 129 = .ok (.ldc 159, 2) := by decide +kernel
theorem dX12_word_131 : decode cX12_word 131 = .ok (.invokevirtual 149, 3) := by decide +kernel
theorem dX12_word_134 : decode cX12_word 134 = .ok (.ifCond .eq 8, 3) := by decide +kernel
theorem dX12_word_137 : decode cX12_word 137 = .ok (.bipush 7, 2) := by decide +kernel
theorem dX12_word_139 : decode cX12_word 139 = .ok (.goto 4, 3) := by decide +kernel
theorem dX12_word_142 : decode cX12_word 142 = .ok (.iconst 1, 1) := by decide +kernel
theorem dX12_word_143 : decode cX12_word 143 = .ok (.ireturn, 1) := by decide +kernel
theorem dX12_worth_0 : decode cX12_worth 0 = .ok (.aload_n 0, 1) := by decide +kernel
theorem dX12_worth_1 : decode cX12_worth 1 = .ok (.getfield 16, 3) := by decide +kernel
theorem dX12_worth_4 : decode cX12_worth 4 = .ok (.aload_n 0, 1) := by decide +kernel
theorem dX12_worth_5 : decode cX12_worth 5 = .ok (.getfield 281, 3) := by decide +kernel
theorem dX12_worth_8 : decode cX12_worth 8 = .ok (.iaload, 1) := by decide +kernel
theorem dX12_worth_9 : decode cX12_worth 9 = .ok (.istore_n 1, 1) := by decide +kernel
theorem dX12_worth_10 : decode cX12_worth 10 = .ok (.aload_n 0, 1) := by decide +kernel
theorem dX12_worth_11 : decode cX12_worth 11 = .ok (.dup, 1) := by decide +kernel
theorem dX12_worth_12 : decode cX12_worth 12 = .ok (.getfield 281, 3) := by decide +kernel
theorem dX12_worth_15 : decode cX12_worth 15 = .ok (.iconst 1, 1) := by decide +kernel
theorem dX12_worth_16 : decode cX12_worth 16 = .ok (.iadd, 1) := by decide +kernel
theorem dX12_worth_17 : decode cX12_worth 17 = .ok (.putfield 281, 3) := by decide +kernel
theorem dX12_worth_20 : decode cX12_worth 20 = .ok (.iload_n 1, 1) := by decide +kernel
theorem dX12_worth_21 : decode cX12_worth 21 = .ok (.bipush 20, 2) := by decide +kernel
theorem dX12_worth_23 : decode cX12_worth 23 = .ok (.if_icmp .ge 5, 3) := by decide +kernel
theorem dX12_worth_26 : decode cX12_worth 26 = .ok (.iload_n 1, 1) := by decide +kernel
theorem dX12_worth_27 : decode cX12_worth 27 = .ok (.ireturn, 1) := by decide +kernel
theorem dX12_worth_28 : decode cX12_worth 28 = .ok (.iload_n 1, 1) := by decide +kernel
theorem dX12_worth_29 : decode cX12_worth 29 = .ok (.bipush 120, 2) := by decide +kernel
theorem dX12_worth_31 : decode cX12_worth 31 = .ok (.if_icmp .ge 13, 3) := by decide +kernel
theorem dX12_worth_34 : decode cX12_worth 34 = .ok (.aload_n 0, 1) := by decide +kernel
theorem dX12_worth_35 : decode cX12_worth 35 = .ok (.getfield 41, 3) := by decide +kernel
theorem dX12_worth_38 : decode cX12_worth 38 = .ok (.iload_n 1, 1) := by decide +kernel
theorem dX12_worth_39 : decode cX12_worth 39 = .ok (.bipush 20, 2) := by decide +kernel
theorem dX12_worth_41 : decode cX12_worth 41 = .ok (.isub, 1) := by decide +kernel
theorem dX12_worth_42 : decode cX12_worth 42 = .ok (.iaload, 1) := by decide +kernel
theorem dX12_worth_43 : decode cX12_worth 43 = .ok (.ireturn, 1) := by decide +kernel
theorem dX12_worth_44 : decode cX12_worth 44 = .ok (.aload_n 0, 1) := by decide +kernel
theorem dX12_worth_45 : decode cX12_worth 45 = .ok (.invokevirtual 284, 3) := by decide +kernel
theorem dX12_worth_48 : decode cX12_worth 48 = .ok (.istore_n 2, 1) := by decide +kernel
theorem dX12_worth_49 : decode cX12_worth 49 = .ok (.iload_n 1, 1) := by decide +kernel
theorem dX12_worth_50 : decode cX12_worth 50 = .ok (.iload_n 2, 1) := by decide +kernel
theorem dX12_worth_51 : decode cX12_worth 51 = .ok (.aload_n 0, 1) := by decide +kernel
theorem dX12_worth_52 : decode cX12_worth 52 = .ok (.invokevirtual 284, 3) := by decide +kernel
theorem dX12_worth_55 : decode cX12_worth 55 = .ok (.invokestatic 287, 3) := by decide +kernel
theorem dX12_worth_58 : decode cX12_worth 58 = .ok (.ireturn, 1) := by decide +kernel
theorem dX12_write_0 : decode cX12_write 0 = .ok (.aload_n 0, 1) := by decide +kernel
theorem dX12_write_1 : decode cX12_write 1 = .ok (.getfield 19, 3) := by decide +kernel
theorem dX12_write_4 : decode cX12_write 4 = .ok (.aload_n 0, 1) := by decide +kernel
theorem dX12_write_5 : decode cX12_write 5 = .ok (.getfield 117, 3) := by decide +kernel
theorem dX12_write_8 : decode cX12_write 8 = .ok (.iload_n 1, 1) := by decide +kernel
theorem dX12_write_9 : decode cX12_write 9 = .ok (.iastore, 1) := by decide +kernel
theorem dX12_write_10 : decode cX12_write 10 = .ok (.aload_n 0, 1) := by decide +kernel
theorem dX12_write_11 : decode cX12_write 11 = .ok (.dup, 1) := by decide +kernel
theorem dX12_write_12 : decode cX12_write 12 = .ok (.getfield 117, 3) := by decide +kernel
theorem dX12_write_15 : decode cX12_write 15 = .ok (.iconst 1, 1) := by decide +kernel
theorem dX12_write_16 : decode cX12_write 16 = .ok (.iadd, 1) := by decide +kernel
theorem dX12_write_17 : decode cX12_write 17 = .ok (.putfield 117, 3) := by decide +kernel
theorem dX12_write_20 : decode cX12_write 20 = .ok (.return_, 1) := by decide +kernel
theorem dX12_writes_0 : decode cX12_writes 0 = .ok (.iload_n 1, 1) := by decide +kernel
theorem dX12_writes_1 : decode cX12_writes 1 = .ok (.istore_n 3, 1) := by decide +kernel
theorem dX12_writes_2 : decode cX12_writes 2 = .ok (.iload_n 3, 1) := by decide +kernel
theorem dX12_writes_3 : decode cX12_writes 3 = .ok (.iload_n 2, 1) := by decide +kernel
theorem dX12_writes_4 : decode cX12_writes 4 = .ok (.if_icmp .ge 19, 3) := by decide +kernel
theorem dX12_writes_7 : decode cX12_writes 7 = .ok (.aload_n 0, 1) := by decide +kernel
theorem dX12_writes_8 : decode cX12_writes 8 = .ok (.aload_n 0, 1) := by decide +kernel
theorem dX12_writes_9 : decode cX12_writes 9 = .ok (.getfield 16, 3) := by decide +kernel
theorem dX12_writes_12 : decode cX12_writes 12 = .ok (.iload_n 3, 1) := by decide +kernel
theorem dX12_writes_13 : decode cX12_writes 13 = .ok (.iaload, 1) := by decide +kernel
theorem dX12_writes_14 : decode cX12_writes 14 = .ok (.invokevirtual 120, 3) := by decide +kernel
theorem dX12_writes_17 : decode cX12_writes 17 = .ok (.iinc 3 1, 3) := by decide +kernel
theorem dX12_writes_20 : decode cX12_writes 20 = .ok (.goto (-18), 3) := by decide +kernel
theorem dX12_writes_23 : decode cX12_writes 23 = .ok (.return_, 1) := by decide +kernel
