theorem dX1_number_119 : decode cX1_number 119 = .ok (.aload_n 0, 1) := by decide +kernel
theorem dX1_number_120 : decode cX1_number 120 = .ok (.getfield 54, 3) := by decide +kernel
theorem dX1_number_123 : decode cX1_number 123 = .ok (.iload_n 2, 1) := by decide +kernel
theorem dX1_number_124 : decode cX1_number 124 = .ok (.aload_n 0, 1) := by decide +kernel
theorem dX1_number_125 : decode cX1_number 125 = .ok (.getfield 51, 3) := by decide +kernel
theorem dX1_number_128 : decode cX1_number 128 = .ok (.iload_n 1, 1) := by decide +kernel
theorem dX1_number_129 : decode cX1_number 129 = .ok (.iconst 1, 1) := by decide +kernel
theorem dX1_number_130 : decode cX1_number 130 = .ok (.isub, 1) := by decide +kernel
theorem dX1_number_131 : decode cX1_number 131 = .ok (.iaload, 1) := by decide +kernel
theorem dX1_number_132 : decode cX1_number 132 = .ok (.iastore, 1) := by decide +kernel
theorem dX1_number_133 : decode cX1_number 133 = .ok (.goto 96, 3) := by decide +kernel
theorem dX1_number_136 : decode cX1_number 136 = .ok (.iload_n 3, 1) := by decide +kernel
theorem dX1_number_137 : decode cX1_number 137 = .ok (.bipush 114, 2) := by decide +kernel
theorem dX1_number_139 : decode cX1_number 139 = .ok (.if_icmp .ne 25, 3) := by decide +kernel
theorem dX1_number_142 : decode cX1_number 142 = .ok (.iload_n 1, 1) := by decide +kernel
theorem dX1_number_143 : decode cX1_number 143 = .ok (.ifCond .le 21, 3) := by decide +kernel
theorem dX1_number_146 : decode cX1_number 146 = .ok (.iinc 1 (-1), 3) := by decide +kernel
theorem dX1_number_149 : decode cX1_number 149 = .ok (.aload_n 0, 1) := by decide +kernel
theorem dX1_number_150 : decode cX1_number 150 = .ok (.getfield 54, 3) := by decide +kernel
theorem dX1_number_153 : decode cX1_number 153 = .ok (.iload_n 2, 1) := by decide +kernel
theorem dX1_number_154 : decode cX1_number 154 = .ok (.aload_n 0, 1) := by decide +kernel
theorem dX1_number_155 : decode cX1_number 155 = .ok (.getfield 51, 3) := by decide +kernel
theorem dX1_number_158 : decode cX1_number 158 = .ok (.iload_n 1, 1) := by decide +kernel
theorem dX1_number_159 : decode cX1_number 159 = .ok (.iaload, 1) := by decide +kernel
theorem dX1_number_160 : decode cX1_number 160 = .ok (.iastore, 1) := by decide +kernel
theorem dX1_number_161 : decode cX1_number 161 = .ok (.goto 68, 3) := by decide +kernel
theorem dX1_number_164 : decode cX1_number 164 = .ok (.iload_n 3, 1) := by decide +kernel
theorem dX1_number_165 : decode cX1_number 165 = .ok (.invokestatic 94, 3) := by decide +kernel
theorem dX1_number_168 : decode cX1_number 168 = .ok (.ifCond .eq 61, 3) := by decide +kernel
theorem dX1_number_171 : decode cX1_number 171 = .ok (.aload_n 0, 1) := by decide +kernel
theorem dX1_number_172 : decode cX1_number 172 = .ok (.aload_n 0, 1) := by decide +kernel
theorem dX1_number_173 : decode cX1_number 173 = .ok (.getfield 57, 3) := by decide +kernel
theorem dX1_number_176 : decode cX1_number 176 = .ok (.iconst 1, 1) := by decide +kernel
theorem dX1_number_177 : decode cX1_number 177 = .ok (.isub, 1) := by decide +kernel
theorem dX1_number_178 : decode cX1_number 178 = .ok (.invokevirtual 70, 3) := by decide +kernel
theorem dX1_number_181 : decode cX1_number 181 = .ok (.ifCond .eq 48, 3) := by decide +kernel
theorem dX1_number_184 : decode cX1_number 184 = .ok (.aload_n 0, 1) := by decide +kernel
theorem dX1_number_185 : decode cX1_number 185 = .ok (.getfield 30, 3) := by decide +kernel
theorem dX1_number_188 : decode cX1_number 188 = .ok (.aload_n 0, 1) := by decide +kernel
theorem dX1_number_189 : decode cX1_number 189 = .ok (.getfield 57, 3) := by decide +kernel
theorem dX1_number_192 : decode cX1_number 192 = .ok (.iconst 1, 1) := by decide +kernel
theorem dX1_number_193 : decode cX1_number 193 = .ok (.isub, 1) := by decide +kernel
theorem dX1_number_194 : decode cX1_number 194 = .ok (.iload_n 2, 1) := by decide +kernel
theorem dX1_number_195 : decode cX1_number 195 = .ok (.iconst 1, 1) := by decide +kernel
theorem dX1_number_196 : decode cX1_number 196 = .ok (.iadd, 1) := by decide +kernel
theorem dX1_number_197 : decode cX1_number 197 = .ok (.iastore, 1) := by decide +kernel
theorem dX1_number_198 : decode cX1_number 198 = .ok (.aload_n 0, 1) := by decide +kernel
theorem dX1_number_199 : decode cX1_number 199 = .ok (.getfield 39, 3) := by decide +kernel
theorem dX1_number_202 : decode cX1_number 202 = .ok (.aload_n 0, 1) := by decide +kernel
theorem dX1_number_203 : decode cX1_number 203 = .ok (.getfield 57, 3) := by decide +kernel
theorem dX1_number_206 : decode cX1_number 206 = .ok (.iconst 1, 1) := by decide +kernel
theorem dX1_number_207 : decode cX1_number 207 = .ok (.isub, 1) := by decide +kernel
theorem dX1_number_208 : decode cX1_number 208 = .ok (.dup2, 1) := by decide +kernel
theorem dX1_number_209 : decode cX1_number 209 = .ok (.iaload, 1) := by decide +kernel
theorem dX1_number_210 : decode cX1_number 210 = .ok (.iload_n 3, 1) := by decide +kernel
theorem dX1_number_211 : decode cX1_number 211 = .ok (.invokestatic 97, 3) := by decide +kernel
theorem dX1_number_214 : decode cX1_number 214 = .ok (.ifCond .eq 12, 3) := by decide +kernel
theorem dX1_number_217 : decode cX1_number 217 = .ok (.iconst 1, 1) := by decide +kernel
theorem dX1_number_218 : decode cX1_number 218 = .ok (.iload_n 3, 1) := by decide +kernel
theorem dX1_number_219 : decode cX1_number 219 = .ok (.bipush 20, 2) := by decide +kernel
theorem dX1_number_221 : decode cX1_number 221 = .ok (.isub, 1) := by decide +kernel
theorem dX1_number_222 : decode cX1_number 222 = .ok (.ishl, 1) := by decide +kernel
theorem dX1_number_223 : decode cX1_number 223 = .ok (.goto 4, 3) := by decide +kernel
theorem dX1_number_226 : decode cX1_number 226 = .ok (.iconst 0, 1) := by decide +kernel
theorem dX1_number_227 : decode cX1_number 227 = .ok (.ior, 1) := by decide +kernel
theorem dX1_number_228 : decode cX1_number 228 = .ok (.iastore, 1) := by decide +kernel
theorem dX1_number_229 : decode cX1_number 229 = .ok (.iinc 2 1, 3) := by decide +kernel
theorem dX1_number_232 : decode cX1_number 232 = .ok (.goto (-223), 3) := by decide +kernel
theorem dX1_number_235 : decode cX1_number 235 = .ok (.return_, 1) := by decide +kernel
theorem dX1_setBy_0 : decode cX1_setBy 0 = .ok (.aload_n 0, 1) := by decide +kernel
theorem dX1_setBy_1 : decode cX1_setBy 1 = .ok (.iload_n 1, 1) := by decide +kernel
theorem dX1_setBy_2 : decode cX1_setBy 2 = .ok (.invokevirtual 70, 3) := by decide +kernel
theorem dX1_setBy_5 : decode cX1_setBy 5 = .ok (.ifCond .eq 12, 3) := by decide +kernel
theorem dX1_setBy_8 : decode cX1_setBy 8 = .ok (.aload_n 0, 1) := by decide +kernel
theorem dX1_setBy_9 : decode cX1_setBy 9 = .ok (.getfield 42, 3) := by decide +kernel
theorem dX1_setBy_12 : decode cX1_setBy 12 = .ok (.iload_n 1, 1) := by decide +kernel
theorem dX1_setBy_13 : decode cX1_setBy 13 = .ok (.iaload, 1) := by decide +kernel
theorem dX1_setBy_14 : decode cX1_setBy 14 = .ok (.goto 4, 3) := by decide +kernel
theorem dX1_setBy_17 : decode cX1_setBy 17 = .ok (.iconst 0, 1) := by decide +kernel
theorem dX1_setBy_18 : decode cX1_setBy 18 = .ok (.ireturn, 1) := by decide +kernel
theorem dX1_settle_0 : decode cX1_settle 0 = .ok (.iconst 0, 1) := by decide +kernel
theorem dX1_settle_1 : decode cX1_settle 1 = .ok (.istore_n 1, 1) := by decide +kernel
theorem dX1_settle_2 : decode cX1_settle 2 = .ok (.iload_n 1, 1) := by decide +kernel
theorem dX1_settle_3 : decode cX1_settle 3 = .ok (.aload_n 0, 1) := by decide +kernel
theorem dX1_settle_4 : decode cX1_settle 4 = .ok (.getfield 57, 3) := by decide +kernel
theorem dX1_settle_7 : decode cX1_settle 7 = .ok (.if_icmp .ge 22, 3) := by decide +kernel
theorem dX1_settle_10 : decode cX1_settle 10 = .ok (.iload_n 1, 1) := by decide +kernel
theorem dX1_settle_11 : decode cX1_settle 11 = .ok (.bipush 40, 2) := by decide +kernel
theorem dX1_settle_13 : decode cX1_settle 13 = .ok (.if_icmp .ge 16, 3) := by decide +kernel
theorem dX1_settle_16 : decode cX1_settle 16 = .ok (.aload_n 0, 1) := by decide +kernel
theorem dX1_settle_17 : decode cX1_settle 17 = .ok (.getfield 45, 3) := by decide +kernel
theorem dX1_settle_20 : decode cX1_settle 20 = .ok (.iload_n 1, 1) := by decide +kernel
theorem dX1_settle_21 : decode cX1_settle 21 = .ok (.iconst 0, 1) := by decide +kernel
theorem dX1_settle_22 : decode cX1_settle 22 = .ok (.iastore, 1) := by decide +kernel
theorem dX1_settle_23 : decode cX1_settle 23 = .ok (.iinc 1 1, 3) := by decide +kernel
theorem dX1_settle_26 : decode cX1_settle 26 = .ok (.goto (-24), 3) := by decide +kernel
theorem dX1_settle_29 : decode cX1_settle 29 = .ok (.iconst 1, 1) := by decide +kernel
theorem dX1_settle_30 : decode cX1_settle 30 = .ok (.istore_n 1, 1) := by decide +kernel
theorem dX1_settle_31 : decode cX1_settle 31 = .ok (.iconst 0, 1) := by decide +kernel
theorem dX1_settle_32 : decode cX1_settle 32 = .ok (.istore_n 2, 1) := by decide +kernel
theorem dX1_settle_33 : decode cX1_settle 33 = .ok (.iload_n 2, 1) := by decide +kernel
theorem dX1_settle_34 : decode cX1_settle 34 = .ok (.sipush 241, 3) := by decide +kernel
theorem dX1_settle_37 : decode cX1_settle 37 = .ok (.if_icmp .ge 105, 3) := by decide +kernel
theorem dX1_settle_40 : decode cX1_settle 40 = .ok (.iload_n 1, 1) := by decide +kernel
theorem dX1_settle_41 : decode cX1_settle 41 = .ok (.ifCond .eq 101, 3) := by decide +kernel
theorem dX1_settle_44 : decode cX1_settle 44 = .ok (.iconst 0, 1) := by decide +kernel
theorem dX1_settle_45 : decode cX1_settle 45 = .ok (.istore_n 1, 1) := by decide +kernel
theorem dX1_settle_46 : decode cX1_settle 46 = .ok (.aload_n 0, 1) := by decide +kernel
theorem dX1_settle_47 : decode cX1_settle 47 = .ok (.getfield 57, 3) := by decide +kernel
theorem dX1_settle_50 : decode cX1_settle 50 = .ok (.bipush 40, 2) := by decide +kernel
theorem dX1_settle_52 : decode cX1_settle 52 = .ok (.invokestatic 103, 3) := by decide +kernel
theorem dX1_settle_55 : decode cX1_settle 55 = .ok (.iconst 1, 1) := by decide +kernel
theorem dX1_settle_56 : decode cX1_settle 56 = .ok (.isub, 1) := by decide +kernel
theorem dX1_settle_57 : decode cX1_settle 57 = .ok (.istore_n 3, 1) := by decide +kernel
theorem dX1_settle_58 : decode cX1_settle 58 = .ok (.iload_n 3, 1) := by decide +kernel
theorem dX1_settle_59 : decode cX1_settle 59 = .ok (.ifCond .lt 77, 3) := by decide +kernel
theorem dX1_settle_62 : decode cX1_settle 62 = .ok (.aload_n 0, 1) := by decide +kernel
theorem dX1_settle_63 : decode cX1_settle 63 = .ok (.getfield 39, 3) := by decide +kernel
theorem dX1_settle_66 : decode cX1_settle 66 = .ok (.iload_n 3, 1) := by decide +kernel
theorem dX1_settle_67 : decode cX1_settle 67 = .ok (.iaload, 1) := by decide +kernel
theorem dX1_settle_68 : decode cX1_settle 68 = .ok (.aload_n 0, 1) := by decide +kernel
theorem dX1_settle_69 : decode cX1_settle 69 = .ok (.aload_n 0, 1) := by decide +kernel
theorem dX1_settle_70 : decode cX1_settle 70 = .ok (.getfield 33, 3) := by decide +kernel
theorem dX1_settle_73 : decode cX1_settle 73 = .ok (.iload_n 3, 1) := by decide +kernel
theorem dX1_settle_74 : decode cX1_settle 74 = .ok (.iaload, 1) := by decide +kernel
theorem dX1_settle_75 : decode cX1_settle 75 = .ok (.invokevirtual 74, 3) := by decide +kernel
theorem dX1_settle_78 : decode cX1_settle 78 = .ok (.aload_n 0, 1) := by decide +kernel
theorem dX1_settle_79 : decode cX1_settle 79 = .ok (.aload_n 0, 1) := by decide +kernel
theorem dX1_settle_80 : decode cX1_settle 80 = .ok (.getfield 36, 3) := by decide +kernel
theorem dX1_settle_83 : decode cX1_settle 83 = .ok (.iload_n 3, 1) := by decide +kernel
theorem dX1_settle_84 : decode cX1_settle 84 = .ok (.iaload, 1) := by decide +kernel
theorem dX1_settle_85 : decode cX1_settle 85 = .ok (.invokevirtual 74, 3) := by decide +kernel
theorem dX1_settle_88 : decode cX1_settle 88 = .ok (.ior, 1) := by decide +kernel
theorem dX1_settle_89 : decode cX1_settle 89 = .ok (.aload_n 0, 1) := by decide +kernel
theorem dX1_settle_90 : decode cX1_settle 90 = .ok (.getfield 42, 3) := by decide +kernel
theorem dX1_settle_93 : decode cX1_settle 93 = .ok (.iload_n 3, 1) := by decide +kernel
theorem dX1_settle_94 : decode cX1_settle 94 = .ok (.iaload, 1) := by decide +kernel
theorem dX1_settle_95 : decode cX1_settle 95 = .ok (.iconst (-1), 1) := by decide +kernel
theorem dX1_settle_96 : decode cX1_settle 96 = .ok (.ixor, 1) := by decide +kernel
theorem dX1_settle_97 : decode cX1_settle 97 = .ok (.iand, 1) := by decide +kernel
theorem dX1_settle_98 : decode cX1_settle 98 = .ok (.ior, 1) := by decide +kernel
theorem dX1_settle_99 : decode cX1_settle 99 = .ok (.istore 4, 2) := by decide +kernel
theorem dX1_settle_101 : decode cX1_settle 101 = .ok (.iload_n 1, 1) := by decide +kernel
theorem dX1_settle_102 : decode cX1_settle 102 = .ok (.ifCond .ne 14, 3) := by decide +kernel
theorem dX1_settle_105 : decode cX1_settle 105 = .ok (.iload 4, 2) := by decide +kernel
theorem dX1_settle_107 : decode cX1_settle 107 = .ok (.aload_n 0, 1) := by decide +kernel
theorem dX1_settle_108 : decode cX1_settle 108 = .ok (.getfield 45, 3) := by decide +kernel
theorem dX1_settle_111 : decode cX1_settle 111 = .ok (.iload_n 3, 1) := by decide +kernel
theorem dX1_settle_112 : decode cX1_settle 112 = .ok (.iaload, 1) := by decide +kernel
theorem dX1_settle_113 : decode cX1_settle 113 = .ok (.if_icmp .eq 7, 3) := by decide +kernel
theorem dX1_settle_116 : decode cX1_settle 116 = .ok (.iconst 1, 1) := by decide +kernel
theorem dX1_settle_117 : decode cX1_settle 117 = .ok (.goto 4, 3) := by decide +kernel
theorem dX1_settle_120 : decode cX1_settle 120 = .ok (.iconst 0, 1) := by decide +kernel
theorem dX1_settle_121 : decode cX1_settle 121 = .ok (.istore_n 1, 1) := by decide +kernel
theorem dX1_settle_122 : decode cX1_settle 122 = .ok (.aload_n 0, 1) := by decide +kernel
theorem dX1_settle_123 : decode cX1_settle 123 = .ok (.getfield 45, 3) := by decide +kernel
theorem dX1_settle_126 : decode cX1_settle 126 = .ok (.iload_n 3, 1) := by decide +kernel
theorem dX1_settle_127 : decode cX1_settle 127 = .ok (.iload 4, 2) := by decide +kernel
theorem dX1_settle_129 : decode cX1_settle 129 = .ok (.iastore, 1) := by decide +kernel
theorem dX1_settle_130 : decode cX1_settle 130 = .ok (.iinc 3 (-1), 3) := by decide +kernel
theorem dX1_settle_133 : decode cX1_settle 133 = .ok (.goto (-75), 3) := by decide +kernel
theorem dX1_settle_136 : decode cX1_settle 136 = .ok (.iinc 2 1, 3) := by decide +kernel
theorem dX1_settle_139 : decode cX1_settle 139 = .ok (.goto (-106), 3) := by decide +kernel
theorem dX1_settle_142 : decode cX1_settle 142 = .ok (.return_, 1) := by decide +kernel
theorem dX1_trace_0 : decode cX1_trace 0 = .ok (.aload_n 0, 1) := by decide +kernel
theorem dX1_trace_1 : decode cX1_trace 1 = .ok (.aload_n 1, 1) := by decide +kernel
theorem dX1_trace_2 : decode cX1_trace 2 = .ok (.putfield 14, 3) := by decide +kernel
theorem dX1_trace_5 : decode cX1_trace 5 = .ok (.aload_n 0, 1) := by decide +kernel
theorem dX1_trace_6 : decode cX1_trace 6 = .ok (.invokevirtual 61, 3) := by decide +kernel
theorem dX1_trace_9 : decode cX1_trace 9 = .ok (.aload_n 0, 1) := by decide +kernel
theorem dX1_trace_10 : decode cX1_trace 10 = .ok (.invokevirtual 64, 3) := by decide +kernel
theorem dX1_trace_13 : decode cX1_trace 13 = .ok (.aload_n 0, 1) := by decide +kernel
theorem dX1_trace_14 : decode cX1_trace 14 = .ok (.invokevirtual 67, 3) := by decide +kernel
theorem dX1_trace_17 : decode cX1_trace 17 = .ok (.return_, 1) := by decide +kernel
theorem dX2_compare_0 : decode cX2_compare 0 = .ok (.aload_n 0, 1) := by decide +kernel
theorem dX2_compare_1 : decode cX2_compare 1 = .ok (.iconst (-1), 1) := by decide +kernel
theorem dX2_compare_2 : decode cX2_compare 2 = .ok (.putfield 21, 3) := by decide +kernel
theorem dX2_compare_5 : decode cX2_compare 5 = .ok (.aload_n 0, 1) := by decide +kernel
theorem dX2_compare_6 : decode cX2_compare 6 = .ok (.iconst (-1), 1) := by decide +kernel
theorem dX2_compare_7 : decode cX2_compare 7 = .ok (.putfield 25, 3) := by decide +kernel
theorem dX2_compare_10 : decode cX2_compare 10 = .ok (.aload_n 0, 1) := by decide +kernel
theorem dX2_compare_11 : decode cX2_compare 11 = .ok (.iconst 0, 1) := by decide +kernel
theorem dX2_compare_12 : decode cX2_compare 12 = .ok (.putfield 28, 3) := by decide +kernel
theorem dX2_compare_15 : decode cX2_compare 15 = .ok (.aload_n 0, 1) := by decide +kernel
theorem dX2_compare_16 : decode cX2_compare 16 = .ok (.iconst 0, 1) := by decide +kernel
theorem dX2_compare_17 : decode cX2_compare 17 = .ok (.putfield 31, 3) := by decide +kernel
theorem dX2_compare_20 : decode cX2_compare 20 = .ok (.aload_n 0, 1) := by decide +kernel
theorem dX2_compare_21 : decode cX2_compare 21 = .ok (.getfield 12, 3) := by decide +kernel
theorem dX2_compare_24 : decode cX2_compare 24 = .ok (.getfield 35, 3) := by decide +kernel
theorem dX2_compare_27 : decode cX2_compare 27 = .ok (.aload_n 1, 1) := by decide +kernel
theorem dX2_compare_28 : decode cX2_compare 28 = .ok (.invokevirtual 39, 3) := by decide +kernel
theorem dX2_compare_31 : decode cX2_compare 31 = .ok (.aload_n 0, 1) := by decide +kernel
theorem dX2_compare_32 : decode cX2_compare 32 = .ok (.getfield 18, 3) := by decide +kernel
theorem dX2_compare_35 : decode cX2_compare 35 = .ok (.getfield 35, 3) := by decide +kernel
theorem dX2_compare_38 : decode cX2_compare 38 = .ok (.aload_n 2, 1) := by decide +kernel
theorem dX2_compare_39 : decode cX2_compare 39 = .ok (.invokevirtual 39, 3) := by decide +kernel
theorem dX2_compare_42 : decode cX2_compare 42 = .ok (.aload_n 0, 1) := by decide +kernel
theorem dX2_compare_43 : decode cX2_compare 43 = .ok (.getfield 12, 3) := by decide +kernel
theorem dX2_compare_46 : decode cX2_compare 46 = .ok (.getfield 35, 3) := by decide +kernel
theorem dX2_compare_49 : decode cX2_compare 49 = .ok (.iconst 0, 1) := by decide +kernel
theorem dX2_compare_50 : decode cX2_compare 50 = .ok (.invokevirtual 45, 3) := by decide +kernel
theorem dX2_compare_53 : decode cX2_compare 53 = .ok (.aload_n 0, 1) := by decide +kernel
theorem dX2_compare_54 : decode cX2_compare 54 = .ok (.getfield 18, 3) := by decide +kernel
theorem dX2_compare_57 : decode cX2_compare 57 = .ok (.getfield 35, 3) := by decide +kernel
theorem dX2_compare_60 : decode cX2_compare 60 = .ok (.iconst 0, 1) := by decide +kernel
theorem dX2_compare_61 : decode cX2_compare 61 = .ok (.invokevirtual 45, 3) := by decide +kernel
theorem dX2_compare_64 : decode cX2_compare 64 = .ok (.ior, 1) := by decide +kernel
theorem dX2_compare_65 : decode cX2_compare 65 = .ok (.istore 4, 2) := by decide +kernel
theorem dX2_compare_67 : decode cX2_compare 67 = .ok (.iload 4, 2) := by decide +kernel
theorem dX2_compare_69 : decode cX2_compare 69 = .ok (.iconst 1, 1) := by decide +kernel
theorem dX2_compare_70 : decode cX2_compare 70 = .ok (.iand, 1) := by decide +kernel
theorem dX2_compare_71 : decode cX2_compare 71 = .ok (.ifCond .eq 7, 3) := by decide +kernel
theorem dX2_compare_74 : decode cX2_compare 74 = .ok (.iconst 1, 1) := by decide +kernel
theorem dX2_compare_75 : decode cX2_compare 75 = .ok (.goto 5, 3) := by decide +kernel
theorem dX2_compare_78 : decode cX2_compare 78 = .ok (.bipush 16, 2) := by decide +kernel
theorem dX2_compare_80 : decode cX2_compare 80 = .ok (.istore 5, 2) := by decide +kernel
theorem dX2_compare_82 : decode cX2_compare 82 = .ok (.iload 4, 2) := by decide +kernel
theorem dX2_compare_84 : decode cX2_compare 84 = .ok (.iconst 2, 1) := by decide +kernel
theorem dX2_compare_85 : decode cX2_compare 85 = .ok (.iand, 1) := by decide +kernel
theorem dX2_compare_86 : decode cX2_compare 86 = .ok (.ifCond .eq 7, 3) := by decide +kernel
theorem dX2_compare_89 : decode cX2_compare 89 = .ok (.iconst 1, 1) := by decide +kernel
theorem dX2_compare_90 : decode cX2_compare 90 = .ok (.goto 5, 3) := by decide +kernel
theorem dX2_compare_93 : decode cX2_compare 93 = .ok (.bipush 16, 2) := by decide +kernel
theorem dX2_compare_95 : decode cX2_compare 95 = .ok (.istore 6, 2) := by decide +kernel
theorem dX2_compare_97 : decode cX2_compare 97 = .ok (.iconst 0, 1) := by decide +kernel
theorem dX2_compare_98 : decode cX2_compare 98 = .ok (.istore 7, 2) := by decide +kernel
theorem dX2_compare_100 : decode cX2_compare 100 = .ok (.iload 7, 2) := by decide +kernel
theorem dX2_compare_102 : decode cX2_compare 102 = .ok (.bipush 16, 2) := by decide +kernel
theorem dX2_compare_104 : decode cX2_compare 104 = .ok (.if_icmp .ge 85, 3) := by decide +kernel
theorem dX2_compare_107 : decode cX2_compare 107 = .ok (.iconst 0, 1) := by decide +kernel
theorem dX2_compare_108 : decode cX2_compare 108 = .ok (.istore 8, 2) := by decide +kernel
theorem dX2_compare_110 : decode cX2_compare 110 = .ok (.iload 8, 2) := by decide +kernel
theorem dX2_compare_112 : decode cX2_compare 112 = .ok (.bipush 16, 2) := by decide +kernel
theorem dX2_compare_114 : decode cX2_compare 114 = .ok (.if_icmp .ge 65, 3) := by decide +kernel
theorem dX2_compare_117 : decode cX2_compare 117 = .ok (.aload_n 0, 1) := by decide +kernel
theorem dX2_compare_118 : decode cX2_compare 118 = .ok (.getfield 12, 3) := by decide +kernel
theorem dX2_compare_121 : decode cX2_compare 121 = .ok (.iload 7, 2) := by decide +kernel
theorem dX2_compare_123 : decode cX2_compare 123 = .ok (.iload 8, 2) := by decide +kernel
theorem dX2_compare_125 : decode cX2_compare 125 = .ok (.invokevirtual 49, 3) := by decide +kernel
theorem dX2_compare_128 : decode cX2_compare 128 = .ok (.aload_n 0, 1) := by decide +kernel
theorem dX2_compare_129 : decode cX2_compare 129 = .ok (.getfield 18, 3) := by decide +kernel
theorem dX2_compare_132 : decode cX2_compare 132 = .ok (.iload 7, 2) := by decide +kernel
theorem dX2_compare_134 : decode cX2_compare 134 = .ok (.iload 8, 2) := by decide +kernel
theorem dX2_compare_136 : decode cX2_compare 136 = .ok (.invokevirtual 49, 3) := by decide +kernel
theorem dX2_compare_139 : decode cX2_compare 139 = .ok (.aload_n 0, 1) := by decide +kernel
theorem dX2_compare_140 : decode cX2_compare 140 = .ok (.bipush 16, 2) := by decide +kernel
theorem dX2_compare_142 : decode cX2_compare 142 = .ok (.iload 7, 2) := by decide +kernel
theorem dX2_compare_144 : decode cX2_compare 144 = .ok (.imul, 1) := by decide +kernel
theorem dX2_compare_145 : decode cX2_compare 145 = .ok (.iload 8, 2) := by decide +kernel
theorem dX2_compare_147 : decode cX2_compare 147 = .ok (.iadd, 1) := by decide +kernel
theorem dX2_compare_148 : decode cX2_compare 148 = .ok (.iload 5, 2) := by decide +kernel
theorem dX2_compare_150 : decode cX2_compare 150 = .ok (.iload 6, 2) := by decide +kernel
theorem dX2_compare_152 : decode cX2_compare 152 = .ok (.imul, 1) := by decide +kernel
theorem dX2_compare_153 : decode cX2_compare 153 = .ok (.invokevirtual 53, 3) := by decide +kernel
theorem dX2_compare_156 : decode cX2_compare 156 = .ok (.iload_n 3, 1) := by decide +kernel
theorem dX2_compare_157 : decode cX2_compare 157 = .ok (.ifCond .eq 12, 3) := by decide +kernel
theorem dX2_compare_160 : decode cX2_compare 160 = .ok (.aload_n 0, 1) := by decide +kernel
theorem dX2_compare_161 : decode cX2_compare 161 = .ok (.getfield 28, 3) := by decide +kernel
theorem dX2_compare_164 : decode cX2_compare 164 = .ok (.ifCond .le 5, 3) := by decide +kernel
theorem dX2_compare_167 : decode cX2_compare 167 = .ok (.iconst 1, 1) := by decide +kernel
theorem dX2_compare_168 : decode cX2_compare 168 = .ok (.ireturn, 1) := by decide +kernel
theorem dX2_compare_169 : decode cX2_compare 169 = .ok (.iload 8, 2) := by decide +kernel
theorem dX2_compare_171 : decode cX2_compare 171 = .ok (.iload 6, 2) := by decide +kernel
theorem dX2_compare_173 : decode cX2_compare 173 = .ok (.iadd, 1) := by decide +kernel
theorem dX2_compare_174 : decode cX2_compare 174 = .ok (.istore 8, 2) := by decide +kernel
theorem dX2_compare_176 : decode cX2_compare 176 = .ok (.goto (-66), 3) := by decide +kernel
theorem dX2_compare_179 : decode cX2_compare 179 = .ok (.iload 7, 2) := by decide +kernel
theorem dX2_compare_181 : decode cX2_compare 181 = .ok (.iload 5, 2) := by decide +kernel
theorem dX2_compare_183 : decode cX2_compare 183 = .ok (.iadd, 1) := by decide +kernel
theorem dX2_compare_184 : decode cX2_compare 184 = .ok (.istore 7, 2) := by decide +kernel
theorem dX2_compare_186 : decode cX2_compare 186 = .ok (.goto (-86), 3) := by decide +kernel
theorem dX2_compare_189 : decode cX2_compare 189 = .ok (.aload_n 0, 1) := by decide +kernel
theorem dX2_compare_190 : decode cX2_compare 190 = .ok (.getfield 28, 3) := by decide +kernel
theorem dX2_compare_193 : decode cX2_compare 193 = .ok (.ifCond .le 7, 3) := by decide +kernel
theorem dX2_compare_196 : decode cX2_compare 196 = .ok (.iconst 1, 1) := by decide +kernel
theorem dX2_compare_197 : decode cX2_compare 197 = .ok (.goto 4, 3) := by decide +kernel
theorem dX2_compare_200 : decode cX2_compare 200 = .ok (.iconst 0, 1) := by decide +kernel
theorem dX2_compare_201 : decode cX2_compare 201 = .ok (.ireturn, 1) := by decide +kernel
theorem dX2_note_0 : decode cX2_note 0 = .ok (.aload_n 0, 1) := by decide +kernel
theorem dX2_note_1 : decode cX2_note 1 = .ok (.invokevirtual 56, 3) := by decide +kernel
theorem dX2_note_4 : decode cX2_note 4 = .ok (.istore_n 3, 1) := by decide +kernel
theorem dX2_note_5 : decode cX2_note 5 = .ok (.aload_n 0, 1) := by decide +kernel
theorem dX2_note_6 : decode cX2_note 6 = .ok (.getfield 12, 3) := by decide +kernel
theorem dX2_note_9 : decode cX2_note 9 = .ok (.invokevirtual 60, 3) := by decide +kernel
theorem dX2_note_12 : decode cX2_note 12 = .ok (.ifCond .ne 13, 3) := by decide +kernel
theorem dX2_note_15 : decode cX2_note 15 = .ok (.aload_n 0, 1) := by decide +kernel
theorem dX2_note_16 : decode cX2_note 16 = .ok (.getfield 18, 3) := by decide +kernel
theorem dX2_note_19 : decode cX2_note 19 = .ok (.invokevirtual 60, 3) := by decide +kernel
theorem dX2_note_22 : decode cX2_note 22 = .ok (.ifCond .eq 7, 3) := by decide +kernel
theorem dX2_note_25 : decode cX2_note 25 = .ok (.iconst 1, 1) := by decide +kernel
theorem dX2_note_26 : decode cX2_note 26 = .ok (.goto 4, 3) := by decide +kernel
theorem dX2_note_29 : decode cX2_note 29 = .ok (.iconst 0, 1) := by decide +kernel
theorem dX2_note_30 : decode cX2_note 30 = .ok (.istore 4, 2) := by decide +kernel
theorem dX2_note_32 : decode cX2_note 32 = .ok (.aload_n 0, 1) := by decide +kernel
theorem dX2_note_33 : decode cX2_note 33 = .ok (.getfield 12, 3) := by decide +kernel
theorem dX2_note_36 : decode cX2_note 36 = .ok (.getfield 64, 3) := by decide +kernel
theorem dX2_note_39 : decode cX2_note 39 = .ok (.aload_n 0, 1) := by decide +kernel
theorem dX2_note_40 : decode cX2_note 40 = .ok (.getfield 18, 3) := by decide +kernel
theorem dX2_note_43 : decode cX2_note 43 = .ok (.getfield 64, 3) := by decide +kernel
theorem dX2_note_46 : decode cX2_note 46 = .ok (.if_icmp .ne 20, 3) := by decide +kernel
theorem dX2_note_49 : decode cX2_note 49 = .ok (.aload_n 0, 1) := by decide +kernel
theorem dX2_note_50 : decode cX2_note 50 = .ok (.getfield 12, 3) := by decide +kernel
theorem dX2_note_53 : decode cX2_note 53 = .ok (.getfield 67, 3) := by decide +kernel
theorem dX2_note_56 : decode cX2_note 56 = .ok (.aload_n 0, 1) := by decide +kernel
theorem dX2_note_57 : decode cX2_note 57 = .ok (.getfield 18, 3) := by decide +kernel
theorem dX2_note_60 : decode cX2_note 60 = .ok (.getfield 67, 3) := by decide +kernel
theorem dX2_note_63 : decode cX2_note 63 = .ok (.if_icmp .eq 7, 3) := by decide +kernel
theorem dX2_note_66 : decode cX2_note 66 = .ok (.iconst 1, 1) := by decide +kernel
theorem dX2_note_67 : decode cX2_note 67 = .ok (.goto 4, 3) := by decide +kernel
theorem dX2_note_70 : decode cX2_note 70 = .ok (.iconst 0, 1) := by decide +kernel
theorem dX2_note_71 : decode cX2_note 71 = .ok (.istore 5, 2) := by decide +kernel
theorem dX2_note_73 : decode cX2_note 73 = .ok (.aload_n 0, 1) := by decide +kernel
theorem dX2_note_74 : decode cX2_note 74 = .ok (.aload_n 0, 1) := by decide +kernel
theorem dX2_note_75 : decode cX2_note 75 = .ok (.getfield 31, 3) := by decide +kernel
theorem dX2_note_78 : decode cX2_note 78 = .ok (.ifCond .ne 8, 3) := by decide +kernel
theorem dX2_note_81 : decode cX2_note 81 = .ok (.iload 4, 2) := by decide +kernel
theorem dX2_note_83 : decode cX2_note 83 = .ok (.ifCond .eq 7, 3) := by decide +kernel
theorem dX2_note_86 : decode cX2_note 86 = .ok (.iconst 1, 1) := by decide +kernel
theorem dX2_note_87 : decode cX2_note 87 = .ok (.goto 4, 3) := by decide +kernel
theorem dX2_note_90 : decode cX2_note 90 = .ok (.iconst 0, 1) := by decide +kernel
theorem dX2_note_91 : decode cX2_note 91 = .ok (.putfield 31, 3) := by decide +kernel
theorem dX2_note_94 : decode cX2_note 94 = .ok (.iload_n 3, 1) := by decide +kernel
theorem dX2_note_95 : decode cX2_note 95 = .ok (.iconst (-1), 1) := by decide +kernel
theorem dX2_note_96 : decode cX2_note 96 = .ok (.if_icmp .ne 14, 3) := by decide +kernel
theorem dX2_note_99 : decode cX2_note 99 = .ok (.iload 4, 2) := by decide +kernel
theorem dX2_note_101 : decode cX2_note 101 = .ok (.ifCond .ne 8, 3) := by decide +kernel
theorem dX2_note_104 : decode cX2_note 104 = .ok (.iload 5, 2) := by decide +kernel
theorem dX2_note_106 : decode cX2_note 106 = .ok (.ifCond .ne 4, 3) := by decide +kernel
theorem dX2_note_109 : decode cX2_note 109 = .ok (.return_, 1) := by decide +kernel
theorem dX2_note_110 : decode cX2_note 110 = .ok (.aload_n 0, 1) := by decide +kernel
theorem dX2_note_111 : decode cX2_note 111 = .ok (.getfield 28, 3) := by decide +kernel
theorem dX2_note_114 : decode cX2_note 114 = .ok (.ifCond .ne 13, 3) := by decide +kernel
theorem dX2_note_117 : decode cX2_note 117 = .ok (.aload_n 0, 1) := by decide +kernel
theorem dX2_note_118 : decode cX2_note 118 = .ok (.iload_n 1, 1) := by decide +kernel
theorem dX2_note_119 : decode cX2_note 119 = .ok (.putfield 21, 3) := by decide +kernel
theorem dX2_note_122 : decode cX2_note 122 = .ok (.aload_n 0, 1) := by decide +kernel
theorem dX2_note_123 : decode cX2_note 123 = .ok (.iload_n 3, 1) := by decide +kernel
theorem dX2_note_124 : decode cX2_note 124 = .ok (.putfield 25, 3) := by decide +kernel
theorem dX2_note_127 : decode cX2_note 127 = .ok (.aload_n 0, 1) := by decide +kernel
theorem dX2_note_128 : decode cX2_note 128 = .ok (.dup, 1) := by decide +kernel
theorem dX2_note_129 : decode cX2_note 129 = .ok (.getfield 28, 3) := by decide +kernel
theorem dX2_note_132 : decode cX2_note 132 = .ok (.iload_n 2, 1) := by decide +kernel
theorem dX2_note_133 : decode cX2_note 133 = .ok (.iadd, 1) := by decide +kernel
theorem dX2_note_134 : decode cX2_note 134 = .ok (.putfield 28, 3) := by decide +kernel
theorem dX2_note_137 : decode cX2_note 137 = .ok (.return_, 1) := by decide +kernel
theorem dX2_placeThatDiffers_0 : decode cX2_placeThatDiffers 0 = .ok (.aload_n 0, 1) := by decide +kernel
theorem dX2_placeThatDiffers_1 : decode cX2_placeThatDiffers 1 = .ok (.getfield 12, 3) := by decide +kernel
theorem dX2_placeThatDiffers_4 : decode cX2_placeThatDiffers 4 = .ok (.getfield 64, 3) := by decide +kernel
theorem dX2_placeThatDiffers_7 : decode cX2_placeThatDiffers 7 = .ok (.aload_n 0, 1) := by decide +kernel
theorem dX2_placeThatDiffers_8 : decode cX2_placeThatDiffers 8 = .ok (.getfield 18, 3) := by decide +kernel
theorem dX2_placeThatDiffers_11 : decode cX2_placeThatDiffers 11 = .ok (.getfield 64, 3) := by decide +kernel
theorem dX2_placeThatDiffers_14 : decode cX2_placeThatDiffers 14 = .ok (.invokestatic 70, 3) := by decide +kernel
theorem dX2_placeThatDiffers_17 : decode cX2_placeThatDiffers 17 = .ok (.istore_n 1, 1) := by decide +kernel
theorem dX2_placeThatDiffers_18 : decode cX2_placeThatDiffers 18 = .ok (.iconst 0, 1) := by decide +kernel
theorem dX2_placeThatDiffers_19 : decode cX2_placeThatDiffers 19 = .ok (.istore_n 2, 1) := by decide +kernel
theorem dX2_placeThatDiffers_20 : decode cX2_placeThatDiffers 20 = .ok (.iload_n 2, 1) := by decide +kernel
theorem dX2_placeThatDiffers_21 : decode cX2_placeThatDiffers 21 = .ok (.iload_n 1, 1) := by decide +kernel
theorem dX2_placeThatDiffers_22 : decode cX2_placeThatDiffers 22 = .ok (.if_icmp .ge 30, 3) := by decide +kernel
theorem dX2_placeThatDiffers_25 : decode cX2_placeThatDiffers 25 = .ok (.aload_n 0, 1) := by decide +kernel
theorem dX2_placeThatDiffers_26 : decode cX2_placeThatDiffers 26 = .ok (.getfield 12, 3) := by decide +kernel
theorem dX2_placeThatDiffers_29 : decode cX2_placeThatDiffers 29 = .ok (.iload_n 2, 1) := by decide +kernel
theorem dX2_placeThatDiffers_30 : decode cX2_placeThatDiffers 30 = .ok (.invokevirtual 76, 3) := by decide +kernel
theorem dX2_placeThatDiffers_33 : decode cX2_placeThatDiffers 33 = .ok (.aload_n 0, 1) := by decide +kernel
theorem dX2_placeThatDiffers_34 : decode cX2_placeThatDiffers 34 = .ok (.getfield 18, 3) := by decide +kernel
theorem dX2_placeThatDiffers_37 : decode cX2_placeThatDiffers 37 = .ok (.iload_n 2, 1) := by decide +kernel
theorem dX2_placeThatDiffers_38 : decode cX2_placeThatDiffers 38 = .ok (.invokevirtual 76, 3) := by decide +kernel
theorem dX2_placeThatDiffers_41 : decode cX2_placeThatDiffers 41 = .ok (.if_icmp .eq 5, 3) := by decide +kernel
theorem dX2_placeThatDiffers_44 : decode cX2_placeThatDiffers 44 = .ok (.iload_n 2, 1) := by decide +kernel
theorem dX2_placeThatDiffers_45 : decode cX2_placeThatDiffers 45 = .ok (.ireturn, 1) := by decide +kernel
theorem dX2_placeThatDiffers_46 : decode cX2_placeThatDiffers 46 = .ok (.iinc 2 1, 3) := by decide +kernel
theorem dX2_placeThatDiffers_49 : decode cX2_placeThatDiffers 49 = .ok (.goto (-29), 3) := by decide +kernel
theorem dX2_placeThatDiffers_52 : decode cX2_placeThatDiffers 52 = .ok (.iconst (-1), 1) := by decide +kernel
theorem dX2_placeThatDiffers_53 : decode cX2_placeThatDiffers 53 = .ok (.ireturn, 1) := by decide +kernel
theorem dX2_verdict_0 : decode cX2_verdict 0 = .ok (.aload_n 0, 1) := by decide +kernel
theorem dX2_verdict_1 : decode cX2_verdict 1 = .ok (.getfield 28, 3) := by decide +kernel
theorem dX2_verdict_4 : decode cX2_verdict 4 = .ok (.ifCond .le 7, 3) := by decide +kernel
theorem dX2_verdict_7 : decode cX2_verdict 7 = .ok (.iconst 1, 1) := by decide +kernel
theorem dX2_verdict_8 : decode cX2_verdict 8 = .ok (.goto 15, 3) := by decide +kernel
theorem dX2_verdict_11 : decode cX2_verdict 11 = .ok (.aload_n 0, 1) := by decide +kernel
theorem dX2_verdict_12 : decode cX2_verdict 12 = .ok (.getfield 31, 3) := by decide +kernel
theorem dX2_verdict_15 : decode cX2_verdict 15 = .ok (.ifCond .eq 7, 3) := by decide +kernel
theorem dX2_verdict_18 : decode cX2_verdict 18 = .ok (.iconst 2, 1) := by decide +kernel
theorem dX2_verdict_19 : decode cX2_verdict 19 = .ok (.goto 4, 3) := by decide +kernel
theorem dX2_verdict_22 : decode cX2_verdict 22 = .ok (.iconst 0, 1) := by decide +kernel
theorem dX2_verdict_23 : decode cX2_verdict 23 = .ok (.ireturn, 1) := by decide +kernel
theorem dX3_doStatement_0 : decode cX3_doStatement 0 = .ok (.aload_n 0, 1) := by decide +kernel
theorem dX3_doStatement_1 : decode cX3_doStatement 1 = .ok (.getfield 12, 3) := by decide +kernel
theorem dX3_doStatement_4 : decode cX3_doStatement 4 = .ok (.iload_n 1, 1) := by decide +kernel
theorem dX3_doStatement_5 : decode cX3_doStatement 5 = .ok (.invokevirtual 48, 3) := by decide +kernel
theorem dX3_doStatement_8 : decode cX3_doStatement 8 = .ok (.ifCond .ne 5, 3) := by decide +kernel
theorem dX3_doStatement_11 : decode cX3_doStatement 11 = .ok (.iconst (-1), 1) := by decide +kernel
theorem dX3_doStatement_12 : decode cX3_doStatement 12 = .ok (.ireturn, 1) := by decide +kernel
theorem dX3_doStatement_13 : decode cX3_doStatement 13 = .ok (.aload_n 0, 1) := by decide +kernel
theorem dX3_doStatement_14 : decode cX3_doStatement 14 = .ok (.getfield 12, 3) := by decide +kernel
theorem dX3_doStatement_17 : decode cX3_doStatement 17 = .ok (.getfield 52, 3) := by decide +kernel
theorem dX3_doStatement_20 : decode cX3_doStatement 20 = .ok (.iload_n 1, 1) := by decide +kernel
theorem dX3_doStatement_21 : decode cX3_doStatement 21 = .ok (.iaload, 1) := by decide +kernel
theorem dX3_doStatement_22 : decode cX3_doStatement 22 = .ok (.istore_n 2, 1) := by decide +kernel
theorem dX3_doStatement_23 : decode cX3_doStatement 23 = .ok (.iload_n 2, 1) := by decide +kernel
theorem dX3_doStatement_24 : decode cX3_doStatement 24 = .ok (.bipush 111, 2) := by decide +kernel
theorem dX3_doStatement_26 : decode cX3_doStatement 26 = .ok (.if_icmp .ne 6, 3) := by decide +kernel
theorem dX3_doStatement_29 : decode cX3_doStatement 29 = .ok (.bipush (-2), 2) := by decide +kernel
theorem dX3_doStatement_31 : decode cX3_doStatement 31 = .ok (.ireturn, 1) := by decide +kernel
theorem dX3_doStatement_32 : decode cX3_doStatement 32 = .ok (.aload_n 0, 1) := by decide +kernel
theorem dX3_doStatement_33 : decode cX3_doStatement 33 = .ok (.getfield 12, 3) := by decide +kernel
theorem dX3_doStatement_36 : decode cX3_doStatement 36 = .ok (.getfield 55, 3) := by decide +kernel
theorem dX3_doStatement_39 : decode cX3_doStatement 39 = .ok (.aload_n 0, 1) := by decide +kernel
theorem dX3_doStatement_40 : decode cX3_doStatement 40 = .ok (.getfield 12, 3) := by decide +kernel
theorem dX3_doStatement_43 : decode cX3_doStatement 43 = .ok (.getfield 59, 3) := by decide +kernel
theorem dX3_doStatement_46 : decode cX3_doStatement 46 = .ok (.iload_n 1, 1) := by decide +kernel
theorem dX3_doStatement_47 : decode cX3_doStatement 47 = .ok (.iaload, 1) := by decide +kernel
theorem dX3_doStatement_48 : decode cX3_doStatement 48 = .ok (.aload_n 0, 1) := by decide +kernel
theorem dX3_doStatement_49 : decode cX3_doStatement 49 = .ok (.getfield 12, 3) := by decide +kernel
theorem dX3_doStatement_52 : decode cX3_doStatement 52 = .ok (.getfield 62, 3) := by decide +kernel
theorem dX3_doStatement_55 : decode cX3_doStatement 55 = .ok (.iload_n 1, 1) := by decide +kernel
theorem dX3_doStatement_56 : decode cX3_doStatement 56 = .ok (.iaload, 1) := by decide +kernel
theorem dX3_doStatement_57 : decode cX3_doStatement 57 = .ok (.aload_n 0, 1) := by decide +kernel
theorem dX3_doStatement_58 : decode cX3_doStatement 58 = .ok (.getfield 22, 3) := by decide +kernel
theorem dX3_doStatement_61 : decode cX3_doStatement 61 = .ok (.aload_n 0, 1) := by decide +kernel
theorem dX3_doStatement_62 : decode cX3_doStatement 62 = .ok (.getfield 25, 3) := by decide +kernel
theorem dX3_doStatement_65 : decode cX3_doStatement 65 = .ok (.invokevirtual 65, 3) := by decide +kernel
theorem dX3_doStatement_68 : decode cX3_doStatement 68 = .ok (.iload_n 2, 1) := by decide +kernel
theorem dX3_doStatement_69 : decode cX3_doStatement 69 = .ok (.invokestatic 71, 3) := by decide +kernel
theorem dX3_doStatement_72 : decode cX3_doStatement 72 = .ok (.ifCond .eq 66, 3) := by decide +kernel
theorem dX3_doStatement_75 : decode cX3_doStatement 75 = .ok (.aload_n 0, 1) := by decide +kernel
theorem dX3_doStatement_76 : decode cX3_doStatement 76 = .ok (.getfield 12, 3) := by decide +kernel
theorem dX3_doStatement_79 : decode cX3_doStatement 79 = .ok (.getfield 55, 3) := by decide +kernel
theorem dX3_doStatement_82 : decode cX3_doStatement 82 = .ok (.aload_n 0, 1) := by decide +kernel
theorem dX3_doStatement_83 : decode cX3_doStatement 83 = .ok (.getfield 12, 3) := by decide +kernel
theorem dX3_doStatement_86 : decode cX3_doStatement 86 = .ok (.getfield 74, 3) := by decide +kernel
theorem dX3_doStatement_89 : decode cX3_doStatement 89 = .ok (.iload_n 1, 1) := by decide +kernel
theorem dX3_doStatement_90 : decode cX3_doStatement 90 = .ok (.iaload, 1) := by decide +kernel
theorem dX3_doStatement_91 : decode cX3_doStatement 91 = .ok (.iconst 1, 1) := by decide +kernel
theorem dX3_doStatement_92 : decode cX3_doStatement 92 = .ok (.iadd, 1) := by decide +kernel
theorem dX3_doStatement_93 : decode cX3_doStatement 93 = .ok (.invokevirtual 77, 3) := by decide +kernel
theorem dX3_doStatement_96 : decode cX3_doStatement 96 = .ok (.aload_n 0, 1) := by decide +kernel
theorem dX3_doStatement_97 : decode cX3_doStatement 97 = .ok (.getfield 25, 3) := by decide +kernel
theorem dX3_doStatement_100 : decode cX3_doStatement 100 = .ok (.iconst 1, 1) := by decide +kernel
theorem dX3_doStatement_101 : decode cX3_doStatement 101 = .ok (.iaload, 1) := by decide +kernel
theorem dX3_doStatement_102 : decode cX3_doStatement 102 = .ok (.aload_n 0, 1) := by decide +kernel
theorem dX3_doStatement_103 : decode cX3_doStatement 103 = .ok (.getfield 25, 3) := by decide +kernel
theorem dX3_doStatement_106 : decode cX3_doStatement 106 = .ok (.iconst 0, 1) := by decide +kernel
theorem dX3_doStatement_107 : decode cX3_doStatement 107 = .ok (.iaload, 1) := by decide +kernel
theorem dX3_doStatement_108 : decode cX3_doStatement 108 = .ok (.invokestatic 80, 3) := by decide +kernel
theorem dX3_doStatement_111 : decode cX3_doStatement 111 = .ok (.istore_n 3, 1) := by decide +kernel
theorem dX3_doStatement_112 : decode cX3_doStatement 112 = .ok (.iload_n 3, 1) := by decide +kernel
theorem dX3_doStatement_113 : decode cX3_doStatement 113 = .ok (.ifCond .eq 15, 3) := by decide +kernel
theorem dX3_doStatement_116 : decode cX3_doStatement 116 = .ok (.aload_n 0, 1) := by decide +kernel
theorem dX3_doStatement_117 : decode cX3_doStatement 117 = .ok (.getfield 12, 3) := by decide +kernel
theorem dX3_doStatement_120 : decode cX3_doStatement 120 = .ok (.getfield 84, 3) := by decide +kernel
theorem dX3_doStatement_123 : decode cX3_doStatement 123 = .ok (.iload_n 1, 1) := by decide +kernel
theorem dX3_doStatement_124 : decode cX3_doStatement 124 = .ok (.iaload, 1) := by decide +kernel
theorem dX3_doStatement_125 : decode cX3_doStatement 125 = .ok (.goto 12, 3) := by decide +kernel
theorem dX3_doStatement_128 : decode cX3_doStatement 128 = .ok (.aload_n 0, 1) := by decide +kernel
theorem dX3_doStatement_129 : decode cX3_doStatement 129 = .ok (.getfield 12, 3) := by decide +kernel
theorem dX3_doStatement_132 : decode cX3_doStatement 132 = .ok (.getfield 87, 3) := by decide +kernel
theorem dX3_doStatement_135 : decode cX3_doStatement 135 = .ok (.iload_n 1, 1) := by decide +kernel
theorem dX3_doStatement_136 : decode cX3_doStatement 136 = .ok (.iaload, 1) := by decide +kernel
theorem dX3_doStatement_137 : decode cX3_doStatement 137 = .ok (.ireturn, 1) := by decide +kernel
theorem dX3_doStatement_138 : decode cX3_doStatement 138 = .ok (.iload_n 2, 1) := by decide +kernel
theorem dX3_doStatement_139 : decode cX3_doStatement 139 = .ok (.bipush 110, 2) := by decide +kernel
theorem dX3_doStatement_141 : decode cX3_doStatement 141 = .ok (.if_icmp .ne 43, 3) := by decide +kernel
theorem dX3_doStatement_144 : decode cX3_doStatement 144 = .ok (.aload_n 0, 1) := by decide +kernel
theorem dX3_doStatement_145 : decode cX3_doStatement 145 = .ok (.getfield 28, 3) := by decide +kernel
theorem dX3_doStatement_148 : decode cX3_doStatement 148 = .ok (.aload_n 0, 1) := by decide +kernel
theorem dX3_doStatement_149 : decode cX3_doStatement 149 = .ok (.getfield 18, 3) := by decide +kernel
theorem dX3_doStatement_152 : decode cX3_doStatement 152 = .ok (.arraylength, 1) := by decide +kernel
theorem dX3_doStatement_153 : decode cX3_doStatement 153 = .ok (.if_icmp .ge 31, 3) := by decide +kernel
theorem dX3_doStatement_156 : decode cX3_doStatement 156 = .ok (.aload_n 0, 1) := by decide +kernel
theorem dX3_doStatement_157 : decode cX3_doStatement 157 = .ok (.getfield 18, 3) := by decide +kernel
theorem dX3_doStatement_160 : decode cX3_doStatement 160 = .ok (.aload_n 0, 1) := by decide +kernel
theorem dX3_doStatement_161 : decode cX3_doStatement 161 = .ok (.getfield 28, 3) := by decide +kernel
theorem dX3_doStatement_164 : decode cX3_doStatement 164 = .ok (.aload_n 0, 1) := by decide +kernel
theorem dX3_doStatement_165 : decode cX3_doStatement 165 = .ok (.getfield 25, 3) := by decide +kernel
theorem dX3_doStatement_168 : decode cX3_doStatement 168 = .ok (.iconst 0, 1) := by decide +kernel
theorem dX3_doStatement_169 : decode cX3_doStatement 169 = .ok (.iaload, 1) := by decide +kernel
theorem dX3_doStatement_170 : decode cX3_doStatement 170 = .ok (.iastore, 1) := by decide +kernel
theorem dX3_doStatement_171 : decode cX3_doStatement 171 = .ok (.aload_n 0, 1) := by decide +kernel
theorem dX3_doStatement_172 : decode cX3_doStatement 172 = .ok (.dup, 1) := by decide +kernel
theorem dX3_doStatement_173 : decode cX3_doStatement 173 = .ok (.getfield 28, 3) := by decide +kernel
theorem dX3_doStatement_176 : decode cX3_doStatement 176 = .ok (.iconst 1, 1) := by decide +kernel
theorem dX3_doStatement_177 : decode cX3_doStatement 177 = .ok (.iadd, 1) := by decide +kernel
theorem dX3_doStatement_178 : decode cX3_doStatement 178 = .ok (.putfield 28, 3) := by decide +kernel
theorem dX3_doStatement_181 : decode cX3_doStatement 181 = .ok (.goto 25, 3) := by decide +kernel
theorem dX3_doStatement_184 : decode cX3_doStatement 184 = .ok (.iload_n 2, 1) := by decide +kernel
theorem dX3_doStatement_185 : decode cX3_doStatement 185 = .ok (.invokestatic 90, 3) := by decide +kernel
theorem dX3_doStatement_188 : decode cX3_doStatement 188 = .ok (.ifCond .eq 18, 3) := by decide +kernel
theorem dX3_doStatement_191 : decode cX3_doStatement 191 = .ok (.aload_n 0, 1) := by decide +kernel
theorem dX3_doStatement_192 : decode cX3_doStatement 192 = .ok (.getfield 22, 3) := by decide +kernel
theorem dX3_doStatement_195 : decode cX3_doStatement 195 = .ok (.iload_n 2, 1) := by decide +kernel
theorem dX3_doStatement_196 : decode cX3_doStatement 196 = .ok (.bipush 100, 2) := by decide +kernel
theorem dX3_doStatement_198 : decode cX3_doStatement 198 = .ok (.isub, 1) := by decide +kernel
theorem dX3_doStatement_199 : decode cX3_doStatement 199 = .ok (.aload_n 0, 1) := by decide +kernel
theorem dX3_doStatement_200 : decode cX3_doStatement 200 = .ok (.getfield 25, 3) := by decide +kernel
theorem dX3_doStatement_203 : decode cX3_doStatement 203 = .ok (.iconst 0, 1) := by decide +kernel
theorem dX3_doStatement_204 : decode cX3_doStatement 204 = .ok (.iaload, 1) := by decide +kernel
theorem dX3_doStatement_205 : decode cX3_doStatement 205 = .ok (.iastore, 1) := by decide +kernel
theorem dX3_doStatement_206 : decode cX3_doStatement 206 = .ok (.aload_n 0, 1) := by decide +kernel
theorem dX3_doStatement_207 : decode cX3_doStatement 207 = .ok (.getfield 12, 3) := by decide +kernel
theorem dX3_doStatement_210 : decode cX3_doStatement 210 = .ok (.getfield 84, 3) := by decide +kernel
theorem dX3_doStatement_213 : decode cX3_doStatement 213 = .ok (.iload_n 1, 1) := by decide +kernel
theorem dX3_doStatement_214 : decode cX3_doStatement 214 = .ok (.iaload, 1) := by decide +kernel
theorem dX3_doStatement_215 : decode cX3_doStatement 215 = .ok (.ireturn, 1) := by decide +kernel
theorem dX3_go_0 : decode cX3_go 0 = .ok (.iconst 0, 1) := by decide +kernel
theorem dX3_go_1 : decode cX3_go 1 = .ok (.istore_n 3, 1) := by decide +kernel
theorem dX3_go_2 : decode cX3_go 2 = .ok (.iload_n 3, 1) := by decide +kernel
theorem dX3_go_3 : decode cX3_go 3 = .ok (.aload_n 0, 1) := by decide +kernel
theorem dX3_go_4 : decode cX3_go 4 = .ok (.getfield 22, 3) := by decide +kernel
theorem dX3_go_7 : decode cX3_go 7 = .ok (.arraylength, 1) := by decide +kernel
theorem dX3_go_8 : decode cX3_go 8 = .ok (.if_icmp .ge 33, 3) := by decide +kernel
theorem dX3_go_11 : decode cX3_go 11 = .ok (.aload_n 0, 1) := by decide +kernel
theorem dX3_go_12 : decode cX3_go 12 = .ok (.getfield 22, 3) := by decide +kernel
theorem dX3_go_15 : decode cX3_go 15 = .ok (.iload_n 3, 1) := by decide +kernel
theorem dX3_go_16 : decode cX3_go 16 = .ok (.iload_n 3, 1) := by decide +kernel
theorem dX3_go_17 : decode cX3_go 17 = .ok (.ifCond .ne 7, 3) := by decide +kernel
theorem dX3_go_20 : decode cX3_go 20 = .ok (.iload_n 1, 1) := by decide +kernel
theorem dX3_go_21 : decode cX3_go 21 = .ok (.goto 13, 3) := by decide +kernel
theorem dX3_go_24 : decode cX3_go 24 = .ok (.iload_n 3, 1) := by decide +kernel
theorem dX3_go_25 : decode cX3_go 25 = .ok (.iconst 1, 1) := by decide +kernel
theorem dX3_go_26 : decode cX3_go 26 = .ok (.if_icmp .ne 7, 3) := by decide +kernel
theorem dX3_go_29 : decode cX3_go 29 = .ok (.iload_n 2, 1) := by decide +kernel
theorem dX3_go_30 : decode cX3_go 30 = .ok (.goto 4, 3) := by decide +kernel
theorem dX3_go_33 : decode cX3_go 33 = .ok (.iconst 0, 1) := by decide +kernel
theorem dX3_go_34 : decode cX3_go 34 = .ok (.iastore, 1) := by decide +kernel
theorem dX3_go_35 : decode cX3_go 35 = .ok (.iinc 3 1, 3) := by decide +kernel
theorem dX3_go_38 : decode cX3_go 38 = .ok (.goto (-36), 3) := by decide +kernel
theorem dX3_go_41 : decode cX3_go 41 = .ok (.aload_n 0, 1) := by decide +kernel
theorem dX3_go_42 : decode cX3_go 42 = .ok (.iconst 0, 1) := by decide +kernel
theorem dX3_go_43 : decode cX3_go 43 = .ok (.putfield 28, 3) := by decide +kernel
theorem dX3_go_46 : decode cX3_go 46 = .ok (.aload_n 0, 1) := by decide +kernel
theorem dX3_go_47 : decode cX3_go 47 = .ok (.getfield 12, 3) := by decide +kernel
theorem dX3_go_50 : decode cX3_go 50 = .ok (.getfield 32, 3) := by decide +kernel
theorem dX3_go_53 : decode cX3_go 53 = .ok (.ifCond .le 7, 3) := by decide +kernel
theorem dX3_go_56 : decode cX3_go 56 = .ok (.iconst 0, 1) := by decide +kernel
theorem dX3_go_57 : decode cX3_go 57 = .ok (.goto 4, 3) := by decide +kernel
theorem dX3_go_60 : decode cX3_go 60 = .ok (.iconst (-1), 1) := by decide +kernel
theorem dX3_go_61 : decode cX3_go 61 = .ok (.istore_n 3, 1) := by decide +kernel
theorem dX3_go_62 : decode cX3_go 62 = .ok (.aload_n 0, 1) := by decide +kernel
theorem dX3_go_63 : decode cX3_go 63 = .ok (.iconst 0, 1) := by decide +kernel
theorem dX3_go_64 : decode cX3_go 64 = .ok (.putfield 35, 3) := by decide +kernel
theorem dX3_go_67 : decode cX3_go 67 = .ok (.aload_n 0, 1) := by decide +kernel
theorem dX3_go_68 : decode cX3_go 68 = .ok (.getfield 35, 3) := by decide +kernel
theorem dX3_go_71 : decode cX3_go 71 = .ok (.bipush 100, 2) := by decide +kernel
theorem dX3_go_73 : decode cX3_go 73 = .ok (.if_icmp .ge 26, 3) := by decide +kernel
theorem dX3_go_76 : decode cX3_go 76 = .ok (.iload_n 3, 1) := by decide +kernel
theorem dX3_go_77 : decode cX3_go 77 = .ok (.ifCond .lt 22, 3) := by decide +kernel
theorem dX3_go_80 : decode cX3_go 80 = .ok (.aload_n 0, 1) := by decide +kernel
theorem dX3_go_81 : decode cX3_go 81 = .ok (.iload_n 3, 1) := by decide +kernel
theorem dX3_go_82 : decode cX3_go 82 = .ok (.invokevirtual 38, 3) := by decide +kernel
theorem dX3_go_85 : decode cX3_go 85 = .ok (.istore_n 3, 1) := by decide +kernel
theorem dX3_go_86 : decode cX3_go 86 = .ok (.aload_n 0, 1) := by decide +kernel
theorem dX3_go_87 : decode cX3_go 87 = .ok (.dup, 1) := by decide +kernel
theorem dX3_go_88 : decode cX3_go 88 = .ok (.getfield 35, 3) := by decide +kernel
theorem dX3_go_91 : decode cX3_go 91 = .ok (.iconst 1, 1) := by decide +kernel
theorem dX3_go_92 : decode cX3_go 92 = .ok (.iadd, 1) := by decide +kernel
theorem dX3_go_93 : decode cX3_go 93 = .ok (.putfield 35, 3) := by decide +kernel
theorem dX3_go_96 : decode cX3_go 96 = .ok (.goto (-29), 3) := by decide +kernel
theorem dX3_go_99 : decode cX3_go 99 = .ok (.aload_n 0, 1) := by decide +kernel
theorem dX3_go_100 : decode cX3_go 100 = .ok (.iload_n 3, 1) := by decide +kernel
theorem dX3_go_101 : decode cX3_go 101 = .ok (.bipush (-2), 2) := by decide +kernel
theorem dX3_go_103 : decode cX3_go 103 = .ok (.if_icmp .ne 7, 3) := by decide +kernel
theorem dX3_go_106 : decode cX3_go 106 = .ok (.iconst 1, 1) := by decide +kernel
theorem dX3_go_107 : decode cX3_go 107 = .ok (.goto 12, 3) := by decide +kernel
theorem dX3_go_110 : decode cX3_go 110 = .ok (.iload_n 3, 1) := by decide +kernel
theorem dX3_go_111 : decode cX3_go 111 = .ok (.ifCond .lt 7, 3) := by decide +kernel
theorem dX3_go_114 : decode cX3_go 114 = .ok (.iconst 2, 1) := by decide +kernel
theorem dX3_go_115 : decode cX3_go 115 = .ok (.goto 4, 3) := by decide +kernel
theorem dX3_go_118 : decode cX3_go 118 = .ok (.iconst 0, 1) := by decide +kernel
theorem dX3_go_119 : decode cX3_go 119 = .ok (.putfield 42, 3) := by decide +kernel
theorem dX3_go_122 : decode cX3_go 122 = .ok (.return_, 1) := by decide +kernel
theorem dX3_isTired_0 : decode cX3_isTired 0 = .ok (.aload_n 0, 1) := by decide +kernel
theorem dX3_isTired_1 : decode cX3_isTired 1 = .ok (.getfield 42, 3) := by decide +kernel
theorem dX3_isTired_4 : decode cX3_isTired 4 = .ok (.iconst 2, 1) := by decide +kernel
theorem dX3_isTired_5 : decode cX3_isTired 5 = .ok (.if_icmp .ne 7, 3) := by decide +kernel
theorem dX3_isTired_8 : decode cX3_isTired 8 = .ok (.iconst 1, 1) := by decide +kernel
theorem dX3_isTired_9 : decode cX3_isTired 9 = .ok (.goto 4, 3) := by decide +kernel
theorem dX3_isTired_12 : decode cX3_isTired 12 = .ok (.iconst 0, 1) := by decide +kernel
theorem dX3_isTired_13 : decode cX3_isTired 13 = .ok (.ireturn, 1) := by decide +kernel
theorem dX3_output_0 : decode cX3_output 0 = .ok (.iload_n 1, 1) := by decide +kernel
theorem dX3_output_1 : decode cX3_output 1 = .ok (.ifCond .lt 29, 3) := by decide +kernel
theorem dX3_output_4 : decode cX3_output 4 = .ok (.iload_n 1, 1) := by decide +kernel
theorem dX3_output_5 : decode cX3_output 5 = .ok (.aload_n 0, 1) := by decide +kernel
theorem dX3_output_6 : decode cX3_output 6 = .ok (.getfield 28, 3) := by decide +kernel
theorem dX3_output_9 : decode cX3_output 9 = .ok (.if_icmp .ge 21, 3) := by decide +kernel
theorem dX3_output_12 : decode cX3_output 12 = .ok (.iload_n 1, 1) := by decide +kernel
theorem dX3_output_13 : decode cX3_output 13 = .ok (.aload_n 0, 1) := by decide +kernel
theorem dX3_output_14 : decode cX3_output 14 = .ok (.getfield 18, 3) := by decide +kernel
theorem dX3_output_17 : decode cX3_output 17 = .ok (.arraylength, 1) := by decide +kernel
theorem dX3_output_18 : decode cX3_output 18 = .ok (.if_icmp .ge 12, 3) := by decide +kernel
theorem dX3_output_21 : decode cX3_output 21 = .ok (.aload_n 0, 1) := by decide +kernel
theorem dX3_output_22 : decode cX3_output 22 = .ok (.getfield 18, 3) := by decide +kernel
theorem dX3_output_25 : decode cX3_output 25 = .ok (.iload_n 1, 1) := by decide +kernel
theorem dX3_output_26 : decode cX3_output 26 = .ok (.iaload, 1) := by decide +kernel
theorem dX3_output_27 : decode cX3_output 27 = .ok (.goto 4, 3) := by decide +kernel
theorem dX3_output_30 : decode cX3_output 30 = .ok (.iconst (-1), 1) := by decide +kernel
theorem dX3_output_31 : decode cX3_output 31 = .ok (.ireturn, 1) := by decide +kernel
theorem dX3_tell_0 : decode cX3_tell 0 = .ok (.iload_n 1, 1) := by decide +kernel
theorem dX3_tell_1 : decode cX3_tell 1 = .ok (.ifCond .ne 8, 3) := by decide +kernel
theorem dX3_tell_4 : decode cX3_tell 4 = .ok (.aload_n 0, 1) := by decide +kernel
theorem dX3_tell_5 : decode cX3_tell 5 = .ok (.getfield 42, 3) := by decide +kernel
theorem dX3_tell_8 : decode cX3_tell 8 = .ok (.ireturn, 1) := by decide +kernel
theorem dX3_tell_9 : decode cX3_tell 9 = .ok (.iload_n 1, 1) := by decide +kernel
theorem dX3_tell_10 : decode cX3_tell 10 = .ok (.iconst 1, 1) := by decide +kernel
theorem dX3_tell_11 : decode cX3_tell 11 = .ok (.if_icmp .ne 8, 3) := by decide +kernel
theorem dX3_tell_14 : decode cX3_tell 14 = .ok (.aload_n 0, 1) := by decide +kernel
theorem dX3_tell_15 : decode cX3_tell 15 = .ok (.getfield 35, 3) := by decide +kernel
theorem dX3_tell_18 : decode cX3_tell 18 = .ok (.ireturn, 1) := by decide +kernel
theorem dX3_tell_19 : decode cX3_tell 19 = .ok (.iload_n 1, 1) := by decide +kernel
theorem dX3_tell_20 : decode cX3_tell 20 = .ok (.iconst 2, 1) := by decide +kernel
theorem dX3_tell_21 : decode cX3_tell 21 = .ok (.if_icmp .ne 8, 3) := by decide +kernel
theorem dX3_tell_24 : decode cX3_tell 24 = .ok (.aload_n 0, 1) := by decide +kernel
theorem dX3_tell_25 : decode cX3_tell 25 = .ok (.getfield 28, 3) := by decide +kernel
theorem dX3_tell_28 : decode cX3_tell 28 = .ok (.ireturn, 1) := by decide +kernel
theorem dX3_tell_29 : decode cX3_tell 29 = .ok (.iload_n 1, 1) := by decide +kernel
theorem dX3_tell_30 : decode cX3_tell 30 = .ok (.bipush 10, 2) := by decide +kernel
theorem dX3_tell_32 : decode cX3_tell 32 = .ok (.if_icmp .lt 19, 3) := by decide +kernel
theorem dX3_tell_35 : decode cX3_tell 35 = .ok (.iload_n 1, 1) := by decide +kernel
theorem dX3_tell_36 : decode cX3_tell 36 = .ok (.bipush 16, 2) := by decide +kernel
theorem dX3_tell_38 : decode cX3_tell 38 = .ok (.if_icmp .ge 13, 3) := by decide +kernel
theorem dX3_tell_41 : decode cX3_tell 41 = .ok (.aload_n 0, 1) := by decide +kernel
theorem dX3_tell_42 : decode cX3_tell 42 = .ok (.getfield 22, 3) := by decide +kernel
theorem dX3_tell_45 : decode cX3_tell 45 = .ok (.iload_n 1, 1) := by decide +kernel
theorem dX3_tell_46 : decode cX3_tell 46 = .ok (.bipush 10, 2) := by decide +kernel
theorem dX3_tell_48 : decode cX3_tell 48 = .ok (.isub, 1) := by decide +kernel
theorem dX3_tell_49 : decode cX3_tell 49 = .ok (.iaload, 1) := by decide +kernel
theorem dX3_tell_50 : decode cX3_tell 50 = .ok (.ireturn, 1) := by decide +kernel
theorem dX3_tell_51 : decode cX3_tell 51 = .ok (.iload_n 1, 1) := by decide +kernel
theorem dX3_tell_52 : decode cX3_tell 52 = .ok (.bipush 100, 2) := by decide +kernel
theorem dX3_tell_54 : decode cX3_tell 54 = .ok (.if_icmp .lt 14, 3) := by decide +kernel
theorem dX3_tell_57 : decode cX3_tell 57 = .ok (.aload_n 0, 1) := by decide +kernel
theorem dX3_tell_58 : decode cX3_tell 58 = .ok (.iload_n 1, 1) := by decide +kernel
theorem dX3_tell_59 : decode cX3_tell 59 = .ok (.bipush 100, 2) := by decide +kernel
theorem dX3_tell_61 : decode cX3_tell 61 = .ok (.isub, 1) := by decide +kernel
theorem dX3_tell_62 : decode cX3_tell 62 = .ok (.invokevirtual 45, 3) := by decide +kernel
theorem dX3_tell_65 : decode cX3_tell 65 = .ok (.goto 4, 3) := by decide +kernel
theorem dX3_tell_68 : decode cX3_tell 68 = .ok (.iconst (-1), 1) := by decide +kernel
theorem dX3_tell_69 : decode cX3_tell 69 = .ok (.ireturn, 1) := by decide +kernel
theorem dX4_addItem_0 : decode cX4_addItem 0 = .ok (.iload_n 1, 1) := by decide +kernel
theorem dX4_addItem_1 : decode cX4_addItem 1 = .ok (.invokestatic 63, 3) := by decide +kernel
theorem dX4_addItem_4 : decode cX4_addItem 4 = .ok (.ifCond .eq 14, 3) := by decide +kernel
theorem dX4_addItem_7 : decode cX4_addItem 7 = .ok (.aload_n 0, 1) := by decide +kernel
theorem dX4_addItem_8 : decode cX4_addItem 8 = .ok (.getfield 23, 3) := by decide +kernel
theorem dX4_addItem_11 : decode cX4_addItem 11 = .ok (.iload_n 1, 1) := by decide +kernel
theorem dX4_addItem_12 : decode cX4_addItem 12 = .ok (.iaload, 1) := by decide +kernel
theorem dX4_addItem_13 : decode cX4_addItem 13 = .ok (.bipush 8, 2) := by decide +kernel
theorem dX4_addItem_15 : decode cX4_addItem 15 = .ok (.if_icmp .lt 5, 3) := by decide +kernel
theorem dX4_addItem_20 : decode cX4_addItem 20 = .ok (.aload_n 0, 1) := by decide +kernel
theorem dX4_addItem_21 : decode cX4_addItem 21 = .ok (.getfield 20, 3) := by decide +kernel
theorem dX4_addItem_24 : decode cX4_addItem 24 = .ok (.iload_n 1, 1) := by decide +kernel
theorem dX4_applyRule_0 : decode cX4_applyRule 0 = .ok (.aload_n 1, 1) := by decide +kernel
theorem dX4_applyRule_1 : decode cX4_applyRule 1 = .ok (.ifnonnull 5, 3) := by decide +kernel
theorem dX4_applyRule_6 : decode cX4_applyRule 6 = .ok (.iconst 0, 1) := by decide +kernel
theorem dX4_applyRule_7 : decode cX4_applyRule 7 = .ok (.istore_n 2, 1) := by decide +kernel
theorem dX4_applyRule_8 : decode cX4_applyRule 8 = .ok (.iload_n 2, 1) := by decide +kernel
theorem dX4_applyRule_9 : decode cX4_applyRule 9 = .ok (.bipush 50, 2) := by decide +kernel
theorem dX4_applyRule_11 : decode cX4_applyRule 11 = .ok (.if_icmp .ge 61, 3) := by decide +kernel
theorem dX4_applyRule_14 : decode cX4_applyRule 14 = .ok (.aload_n 1, 1) := by decide +kernel
theorem dX4_applyRule_15 : decode cX4_applyRule 15 = .ok (.aload_n 0, 1) := by decide +kernel
theorem dX4_applyRule_16 : decode cX4_applyRule 16 = .ok (.getfield 39, 3) := by decide +kernel
theorem dX4_applyRule_19 : decode cX4_applyRule 19 = .ok (.iconst 0, 1) := by decide +kernel
theorem dX4_applyRule_20 : decode cX4_applyRule 20 = .ok (.invokevirtual 98, 3) := by decide +kernel
theorem dX4_applyRule_23 : decode cX4_applyRule 23 = .ok (.istore_n 3, 1) := by decide +kernel
theorem dX4_applyRule_24 : decode cX4_applyRule 24 = .ok (.iload_n 3, 1) := by decide +kernel
theorem dX4_applyRule_25 : decode cX4_applyRule 25 = .ok (.iconst (-1), 1) := by decide +kernel
theorem dX4_applyRule_26 : decode cX4_applyRule 26 = .ok (.if_icmp .ne 5, 3) := by decide +kernel
theorem dX4_applyRule_29 : decode cX4_applyRule 29 = .ok (.iconst 1, 1) := by decide +kernel
theorem dX4_applyRule_30 : decode cX4_applyRule 30 = .ok (.ireturn, 1) := by decide +kernel
theorem dX4_applyRule_31 : decode cX4_applyRule 31 = .ok (.aload_n 1, 1) := by decide +kernel
theorem dX4_applyRule_32 : decode cX4_applyRule 32 = .ok (.aload_n 0, 1) := by decide +kernel
theorem dX4_applyRule_33 : decode cX4_applyRule 33 = .ok (.getfield 39, 3) := by decide +kernel
theorem dX4_applyRule_36 : decode cX4_applyRule 36 = .ok (.iload_n 3, 1) := by decide +kernel
theorem dX4_applyRule_37 : decode cX4_applyRule 37 = .ok (.aload_n 0, 1) := by decide +kernel
theorem dX4_applyRule_38 : decode cX4_applyRule 38 = .ok (.getfield 30, 3) := by decide +kernel
theorem dX4_applyRule_41 : decode cX4_applyRule 41 = .ok (.getfield 102, 3) := by decide +kernel
theorem dX4_applyRule_44 : decode cX4_applyRule 44 = .ok (.invokevirtual 105, 3) := by decide +kernel
theorem dX4_applyRule_47 : decode cX4_applyRule 47 = .ok (.ifCond .ne 5, 3) := by decide +kernel
theorem dX4_applyRule_50 : decode cX4_applyRule 50 = .ok (.iconst 0, 1) := by decide +kernel
theorem dX4_applyRule_51 : decode cX4_applyRule 51 = .ok (.ireturn, 1) := by decide +kernel
theorem dX4_applyRule_52 : decode cX4_applyRule 52 = .ok (.aload_n 0, 1) := by decide +kernel
theorem dX4_applyRule_53 : decode cX4_applyRule 53 = .ok (.getfield 39, 3) := by decide +kernel
theorem dX4_applyRule_56 : decode cX4_applyRule 56 = .ok (.aload_n 0, 1) := by decide +kernel
theorem dX4_applyRule_57 : decode cX4_applyRule 57 = .ok (.getfield 30, 3) := by decide +kernel
theorem dX4_applyRule_60 : decode cX4_applyRule 60 = .ok (.getfield 102, 3) := by decide +kernel
theorem dX4_applyRule_63 : decode cX4_applyRule 63 = .ok (.invokevirtual 67, 3) := by decide +kernel
theorem dX4_applyRule_66 : decode cX4_applyRule 66 = .ok (.iinc 2 1, 3) := by decide +kernel
theorem dX4_applyRule_69 : decode cX4_applyRule 69 = .ok (.goto (-61), 3) := by decide +kernel
theorem dX4_applyRule_72 : decode cX4_applyRule 72 = .ok (.iconst 1, 1) := by decide +kernel
theorem dX4_applyRule_73 : decode cX4_applyRule 73 = .ok (.ireturn, 1) := by decide +kernel
theorem dX4_cutDown_0 : decode cX4_cutDown 0 = .ok (.aload_n 2, 1) := by decide +kernel
theorem dX4_cutDown_1 : decode cX4_cutDown 1 = .ok (.invokevirtual 127, 3) := by decide +kernel
theorem dX4_cutDown_4 : decode cX4_cutDown 4 = .ok (.istore_n 3, 1) := by decide +kernel
theorem dX4_cutDown_5 : decode cX4_cutDown 5 = .ok (.iload_n 3, 1) := by decide +kernel
theorem dX4_cutDown_6 : decode cX4_cutDown 6 = .ok (.iconst 1, 1) := by decide +kernel
theorem dX4_cutDown_7 : decode cX4_cutDown 7 = .ok (.if_icmp .lt 26, 3) := by decide +kernel
theorem dX4_cutDown_10 : decode cX4_cutDown 10 = .ok (.iload_n 3, 1) := by decide +kernel
theorem dX4_cutDown_11 : decode cX4_cutDown 11 = .ok (.bipush 12, 2) := by decide +kernel
theorem dX4_cutDown_13 : decode cX4_cutDown 13 = .ok (.if_icmp .gt 20, 3) := by decide +kernel
theorem dX4_cutDown_16 : decode cX4_cutDown 16 = .ok (.aload_n 0, 1) := by decide +kernel
theorem dX4_cutDown_17 : decode cX4_cutDown 17 = .ok (.iload_n 1, 1) := by decide +kernel
theorem dX4_cutDown_18 : decode cX4_cutDown 18 = .ok (.aload_n 2, 1) := by decide +kernel
theorem dX4_dropItems_0 : decode cX4_dropItems 0 = .ok (.iload_n 1, 1) := by decide +kernel
theorem dX4_dropItems_1 : decode cX4_dropItems 1 = .ok (.invokestatic 63, 3) := by decide +kernel
theorem dX4_dropItems_4 : decode cX4_dropItems 4 = .ok (.ifCond .ne 5, 3) := by decide +kernel
theorem dX4_dropItems_7 : decode cX4_dropItems 7 = .ok (.iconst 0, 1) := by decide +kernel
theorem dX4_dropItems_8 : decode cX4_dropItems 8 = .ok (.ireturn, 1) := by decide +kernel
theorem dX4_dropItems_9 : decode cX4_dropItems 9 = .ok (.aload_n 0, 1) := by decide +kernel
theorem dX4_dropItems_10 : decode cX4_dropItems 10 = .ok (.getfield 23, 3) := by decide +kernel
theorem dX4_dropItems_13 : decode cX4_dropItems 13 = .ok (.iload_n 1, 1) := by decide +kernel
theorem dX4_dropItems_14 : decode cX4_dropItems 14 = .ok (.iconst 0, 1) := by decide +kernel
theorem dX4_dropItems_15 : decode cX4_dropItems 15 = .ok (.iastore, 1) := by decide +kernel
theorem dX4_dropItems_16 : decode cX4_dropItems 16 = .ok (.iconst 1, 1) := by decide +kernel
theorem dX4_dropItems_17 : decode cX4_dropItems 17 = .ok (.ireturn, 1) := by decide +kernel
theorem dX4_findBad_0 : decode cX4_findBad 0 = .ok (.aload_n 0, 1) := by decide +kernel
theorem dX4_findBad_1 : decode cX4_findBad 1 = .ok (.iconst (-1), 1) := by decide +kernel
theorem dX4_findBad_2 : decode cX4_findBad 2 = .ok (.putfield 56, 3) := by decide +kernel
theorem dX4_findBad_5 : decode cX4_findBad 5 = .ok (.aload_n 0, 1) := by decide +kernel
theorem dX4_findBad_6 : decode cX4_findBad 6 = .ok (.iconst (-1), 1) := by decide +kernel
theorem dX4_findBad_7 : decode cX4_findBad 7 = .ok (.putfield 60, 3) := by decide +kernel
theorem dX4_findBad_10 : decode cX4_findBad 10 = .ok (.aload_n 0, 1) := by decide +kernel
theorem dX4_findBad_11 : decode cX4_findBad 11 = .ok (.getfield 43, 3) := by decide +kernel
theorem dX4_findBad_14 : decode cX4_findBad 14 = .ok (.aload_n 1, 1) := by decide +kernel
theorem dX4_findBad_15 : decode cX4_findBad 15 = .ok (.invokevirtual 67, 3) := by decide +kernel
theorem dX4_findBad_18 : decode cX4_findBad 18 = .ok (.iconst 0, 1) := by decide +kernel
theorem dX4_findBad_19 : decode cX4_findBad 19 = .ok (.istore_n 2, 1) := by decide +kernel
theorem dX4_findBad_20 : decode cX4_findBad 20 = .ok (.iload_n 2, 1) := by decide +kernel
theorem dX4_findBad_21 : decode cX4_findBad 21 = .ok (.bipush 6, 2) := by decide +kernel
theorem dX4_findBad_23 : decode cX4_findBad 23 = .ok (.if_icmp .ge 78, 3) := by decide +kernel
theorem dX4_findBad_26 : decode cX4_findBad 26 = .ok (.aload_n 0, 1) := by decide +kernel
theorem dX4_findBad_27 : decode cX4_findBad 27 = .ok (.getfield 56, 3) := by decide +kernel
theorem dX4_findBad_30 : decode cX4_findBad 30 = .ok (.iconst (-1), 1) := by decide +kernel
theorem dX4_findBad_31 : decode cX4_findBad 31 = .ok (.if_icmp .ne 70, 3) := by decide +kernel
theorem dX4_findBad_34 : decode cX4_findBad 34 = .ok (.aload_n 0, 1) := by decide +kernel
theorem dX4_findBad_35 : decode cX4_findBad 35 = .ok (.iload_n 2, 1) := by decide +kernel
theorem dX4_findBad_36 : decode cX4_findBad 36 = .ok (.aload_n 0, 1) := by decide +kernel
theorem dX4_findBad_37 : decode cX4_findBad 37 = .ok (.getfield 43, 3) := by decide +kernel
theorem dX4_isPass_0 : decode cX4_isPass 0 = .ok (.iload_n 0, 1) := by decide +kernel
theorem dX4_isPass_1 : decode cX4_isPass 1 = .ok (.ifCond .lt 13, 3) := by decide +kernel
theorem dX4_isPass_4 : decode cX4_isPass 4 = .ok (.iload_n 0, 1) := by decide +kernel
theorem dX4_isPass_5 : decode cX4_isPass 5 = .ok (.bipush 6, 2) := by decide +kernel
theorem dX4_isPass_7 : decode cX4_isPass 7 = .ok (.if_icmp .ge 7, 3) := by decide +kernel
theorem dX4_isPass_10 : decode cX4_isPass 10 = .ok (.iconst 1, 1) := by decide +kernel
theorem dX4_isPass_11 : decode cX4_isPass 11 = .ok (.goto 4, 3) := by decide +kernel
theorem dX4_isPass_14 : decode cX4_isPass 14 = .ok (.iconst 0, 1) := by decide +kernel
theorem dX4_isPass_15 : decode cX4_isPass 15 = .ok (.ireturn, 1) := by decide +kernel
theorem dX4_madeWrong_0 : decode cX4_madeWrong 0 = .ok (.aload_n 1, 1) := by decide +kernel
theorem dX4_madeWrong_1 : decode cX4_madeWrong 1 = .ok (.aload_n 0, 1) := by decide +kernel
theorem dX4_madeWrong_2 : decode cX4_madeWrong 2 = .ok (.getfield 39, 3) := by decide +kernel
theorem dX4_madeWrong_5 : decode cX4_madeWrong 5 = .ok (.invokevirtual 120, 3) := by decide +kernel
theorem dX4_madeWrong_8 : decode cX4_madeWrong 8 = .ok (.ifCond .ne 23, 3) := by decide +kernel
theorem dX4_madeWrong_11 : decode cX4_madeWrong 11 = .ok (.aload_n 0, 1) := by decide +kernel
theorem dX4_madeWrong_12 : decode cX4_madeWrong 12 = .ok (.getfield 52, 3) := by decide +kernel
theorem dX4_madeWrong_15 : decode cX4_madeWrong 15 = .ok (.aload_n 1, 1) := by decide +kernel
theorem dX4_madeWrong_16 : decode cX4_madeWrong 16 = .ok (.aload_n 0, 1) := by decide +kernel
theorem dX4_madeWrong_17 : decode cX4_madeWrong 17 = .ok (.getfield 39, 3) := by decide +kernel
theorem dX4_madeWrong_20 : decode cX4_madeWrong 20 = .ok (.iconst 1, 1) := by decide +kernel
theorem dX4_madeWrong_21 : decode cX4_madeWrong 21 = .ok (.invokevirtual 123, 3) := by decide +kernel
theorem dX4_madeWrong_24 : decode cX4_madeWrong 24 = .ok (.ifCond .eq 7, 3) := by decide +kernel
theorem dX4_madeWrong_27 : decode cX4_madeWrong 27 = .ok (.iconst 1, 1) := by decide +kernel
theorem dX4_madeWrong_28 : decode cX4_madeWrong 28 = .ok (.goto 4, 3) := by decide +kernel
theorem dX4_madeWrong_31 : decode cX4_madeWrong 31 = .ok (.iconst 0, 1) := by decide +kernel
theorem dX4_madeWrong_32 : decode cX4_madeWrong 32 = .ok (.ireturn, 1) := by decide +kernel
theorem dX4_makeOf_0 : decode cX4_makeOf 0 = .ok (.iload_n 1, 1) := by decide +kernel
theorem dX4_makeOf_1 : decode cX4_makeOf 1 = .ok (.invokestatic 63, 3) := by decide +kernel
theorem dX4_makeOf_4 : decode cX4_makeOf 4 = .ok (.ifCond .ne 5, 3) := by decide +kernel
theorem dX4_makeOf_7 : decode cX4_makeOf 7 = .ok (.iconst 0, 1) := by decide +kernel
theorem dX4_makeOf_9 : decode cX4_makeOf 9 = .ok (.aload_n 0, 1) := by decide +kernel
theorem dX4_makeOf_10 : decode cX4_makeOf 10 = .ok (.getfield 39, 3) := by decide +kernel
theorem dX4_makeOf_13 : decode cX4_makeOf 13 = .ok (.aload_n 2, 1) := by decide +kernel
theorem dX4_makeOf_14 : decode cX4_makeOf 14 = .ok (.invokevirtual 67, 3) := by decide +kernel
theorem dX4_makeOf_17 : decode cX4_makeOf 17 = .ok (.iconst 0, 1) := by decide +kernel
theorem dX4_makeOf_18 : decode cX4_makeOf 18 = .ok (.istore_n 3, 1) := by decide +kernel
theorem dX4_makeOf_19 : decode cX4_makeOf 19 = .ok (.iload_n 3, 1) := by decide +kernel
theorem dX4_makeOf_20 : decode cX4_makeOf 20 = .ok (.aload_n 0, 1) := by decide +kernel
theorem dX4_makeOf_21 : decode cX4_makeOf 21 = .ok (.getfield 23, 3) := by decide +kernel
theorem dX4_makeOf_24 : decode cX4_makeOf 24 = .ok (.iload_n 1, 1) := by decide +kernel
theorem dX4_makeOf_25 : decode cX4_makeOf 25 = .ok (.iaload, 1) := by decide +kernel
theorem dX4_makeOf_26 : decode cX4_makeOf 26 = .ok (.if_icmp .ge 165, 3) := by decide +kernel
theorem dX4_makeOf_29 : decode cX4_makeOf 29 = .ok (.iload_n 3, 1) := by decide +kernel
theorem dX4_makeOf_30 : decode cX4_makeOf 30 = .ok (.bipush 8, 2) := by decide +kernel
theorem dX4_makeOf_32 : decode cX4_makeOf 32 = .ok (.if_icmp .ge 159, 3) := by decide +kernel
theorem dX4_makeOf_35 : decode cX4_makeOf 35 = .ok (.iconst 1, 1) := by decide +kernel
theorem dX4_makeOf_36 : decode cX4_makeOf 36 = .ok (.istore 4, 2) := by decide +kernel
theorem dX4_makeOf_38 : decode cX4_makeOf 38 = .ok (.aload_n 0, 1) := by decide +kernel
theorem dX4_makeOf_39 : decode cX4_makeOf 39 = .ok (.getfield 20, 3) := by decide +kernel
theorem dX4_makeOf_42 : decode cX4_makeOf 42 = .ok (.iload_n 1, 1) := by decide +kernel
theorem dX4_ruleAt_0 : decode cX4_ruleAt 0 = .ok (.iload_n 1, 1) := by decide +kernel
theorem dX4_ruleAt_1 : decode cX4_ruleAt 1 = .ok (.ifCond .lt 21, 3) := by decide +kernel
theorem dX4_ruleAt_4 : decode cX4_ruleAt 4 = .ok (.iload_n 1, 1) := by decide +kernel
theorem dX4_ruleAt_5 : decode cX4_ruleAt 5 = .ok (.aload_n 0, 1) := by decide +kernel
theorem dX4_ruleAt_6 : decode cX4_ruleAt 6 = .ok (.getfield 11, 3) := by decide +kernel
theorem dX4_ruleAt_9 : decode cX4_ruleAt 9 = .ok (.arraylength, 1) := by decide +kernel
theorem dX4_ruleAt_10 : decode cX4_ruleAt 10 = .ok (.if_icmp .ge 12, 3) := by decide +kernel
theorem dX4_ruleAt_13 : decode cX4_ruleAt 13 = .ok (.aload_n 0, 1) := by decide +kernel
theorem dX4_ruleAt_14 : decode cX4_ruleAt 14 = .ok (.getfield 11, 3) := by decide +kernel
theorem dX4_ruleAt_17 : decode cX4_ruleAt 17 = .ok (.iload_n 1, 1) := by decide +kernel
theorem dX5_addMultiple_0 : decode cX5_addMultiple 0 = .ok (.iconst 0, 1) := by decide +kernel
theorem dX5_addMultiple_1 : decode cX5_addMultiple 1 = .ok (.istore 4, 2) := by decide +kernel
theorem dX5_addMultiple_3 : decode cX5_addMultiple 3 = .ok (.iload 4, 2) := by decide +kernel
theorem dX5_addMultiple_5 : decode cX5_addMultiple 5 = .ok (.aload_n 3, 1) := by decide +kernel
theorem dX5_addMultiple_6 : decode cX5_addMultiple 6 = .ok (.arraylength, 1) := by decide +kernel
theorem dX5_addMultiple_7 : decode cX5_addMultiple 7 = .ok (.if_icmp .ge 47, 3) := by decide +kernel
theorem dX5_addMultiple_10 : decode cX5_addMultiple 10 = .ok (.iload_n 1, 1) := by decide +kernel
theorem dX5_addMultiple_11 : decode cX5_addMultiple 11 = .ok (.iload 4, 2) := by decide +kernel
theorem dX5_addMultiple_13 : decode cX5_addMultiple 13 = .ok (.iadd, 1) := by decide +kernel
theorem dX5_addMultiple_14 : decode cX5_addMultiple 14 = .ok (.sipush 512, 3) := by decide +kernel
theorem dX5_addMultiple_17 : decode cX5_addMultiple 17 = .ok (.if_icmp .ge 37, 3) := by decide +kernel
theorem dX5_addMultiple_20 : decode cX5_addMultiple 20 = .ok (.aload_n 0, 1) := by decide +kernel
theorem dX5_addMultiple_21 : decode cX5_addMultiple 21 = .ok (.getfield 26, 3) := by decide +kernel
theorem dX5_addMultiple_24 : decode cX5_addMultiple 24 = .ok (.iload_n 1, 1) := by decide +kernel
theorem dX5_addMultiple_25 : decode cX5_addMultiple 25 = .ok (.iload 4, 2) := by decide +kernel
theorem dX5_addMultiple_27 : decode cX5_addMultiple 27 = .ok (.iadd, 1) := by decide +kernel
theorem dX5_addMultiple_28 : decode cX5_addMultiple 28 = .ok (.aload_n 0, 1) := by decide +kernel
theorem dX5_addMultiple_29 : decode cX5_addMultiple 29 = .ok (.getfield 26, 3) := by decide +kernel
theorem dX5_addMultiple_32 : decode cX5_addMultiple 32 = .ok (.iload_n 1, 1) := by decide +kernel
theorem dX5_addMultiple_33 : decode cX5_addMultiple 33 = .ok (.iload 4, 2) := by decide +kernel
theorem dX5_addMultiple_35 : decode cX5_addMultiple 35 = .ok (.iadd, 1) := by decide +kernel
theorem dX5_addMultiple_36 : decode cX5_addMultiple 36 = .ok (.iaload, 1) := by decide +kernel
theorem dX5_addMultiple_37 : decode cX5_addMultiple 37 = .ok (.iload_n 2, 1) := by decide +kernel
theorem dX5_addMultiple_38 : decode cX5_addMultiple 38 = .ok (.aload_n 3, 1) := by decide +kernel
theorem dX5_addMultiple_39 : decode cX5_addMultiple 39 = .ok (.iload 4, 2) := by decide +kernel
theorem dX5_addMultiple_41 : decode cX5_addMultiple 41 = .ok (.iaload, 1) := by decide +kernel
theorem dX5_addMultiple_42 : decode cX5_addMultiple 42 = .ok (.imul, 1) := by decide +kernel
theorem dX5_addMultiple_43 : decode cX5_addMultiple 43 = .ok (.iadd, 1) := by decide +kernel
theorem dX5_addMultiple_44 : decode cX5_addMultiple 44 = .ok (.bipush 15, 2) := by decide +kernel
theorem dX5_addMultiple_46 : decode cX5_addMultiple 46 = .ok (.iand, 1) := by decide +kernel
theorem dX5_addMultiple_47 : decode cX5_addMultiple 47 = .ok (.iastore, 1) := by decide +kernel
theorem dX5_addMultiple_48 : decode cX5_addMultiple 48 = .ok (.iinc 4 1, 3) := by decide +kernel
theorem dX5_addMultiple_51 : decode cX5_addMultiple 51 = .ok (.goto (-48), 3) := by decide +kernel
theorem dX5_addMultiple_54 : decode cX5_addMultiple 54 = .ok (.return_, 1) := by decide +kernel
theorem dX5_addUp_0 : decode cX5_addUp 0 = .ok (.iconst 0, 1) := by decide +kernel
theorem dX5_addUp_1 : decode cX5_addUp 1 = .ok (.istore 4, 2) := by decide +kernel
theorem dX5_addUp_3 : decode cX5_addUp 3 = .ok (.iload 4, 2) := by decide +kernel
theorem dX5_addUp_5 : decode cX5_addUp 5 = .ok (.aload_n 1, 1) := by decide +kernel
theorem dX5_addUp_6 : decode cX5_addUp 6 = .ok (.arraylength, 1) := by decide +kernel
theorem dX5_addUp_7 : decode cX5_addUp 7 = .ok (.if_icmp .ge 32, 3) := by decide +kernel
theorem dX5_addUp_10 : decode cX5_addUp 10 = .ok (.iload 4, 2) := by decide +kernel
theorem dX5_addUp_12 : decode cX5_addUp 12 = .ok (.aload_n 2, 1) := by decide +kernel
theorem dX5_addUp_13 : decode cX5_addUp 13 = .ok (.arraylength, 1) := by decide +kernel
theorem dX5_addUp_14 : decode cX5_addUp 14 = .ok (.if_icmp .ge 25, 3) := by decide +kernel
theorem dX5_addUp_17 : decode cX5_addUp 17 = .ok (.aload_n 2, 1) := by decide +kernel
theorem dX5_addUp_18 : decode cX5_addUp 18 = .ok (.iload 4, 2) := by decide +kernel
theorem dX5_addUp_20 : decode cX5_addUp 20 = .ok (.iload_n 3, 1) := by decide +kernel
theorem dX5_addUp_21 : decode cX5_addUp 21 = .ok (.aload_n 1, 1) := by decide +kernel
theorem dX5_addUp_22 : decode cX5_addUp 22 = .ok (.iload 4, 2) := by decide +kernel
theorem dX5_addUp_24 : decode cX5_addUp 24 = .ok (.iaload, 1) := by decide +kernel
theorem dX5_addUp_25 : decode cX5_addUp 25 = .ok (.aload_n 2, 1) := by decide +kernel
theorem dX5_addUp_26 : decode cX5_addUp 26 = .ok (.iload 4, 2) := by decide +kernel
theorem dX5_addUp_28 : decode cX5_addUp 28 = .ok (.iaload, 1) := by decide +kernel
theorem dX5_addUp_29 : decode cX5_addUp 29 = .ok (.invokestatic 112, 3) := by decide +kernel
theorem dX5_addUp_32 : decode cX5_addUp 32 = .ok (.iastore, 1) := by decide +kernel
theorem dX5_addUp_33 : decode cX5_addUp 33 = .ok (.iinc 4 1, 3) := by decide +kernel
theorem dX5_addUp_36 : decode cX5_addUp 36 = .ok (.goto (-33), 3) := by decide +kernel
theorem dX5_addUp_39 : decode cX5_addUp 39 = .ok (.return_, 1) := by decide +kernel
theorem dX5_beginForm_0 : decode cX5_beginForm 0 = .ok (.iconst 0, 1) := by decide +kernel
theorem dX5_beginForm_1 : decode cX5_beginForm 1 = .ok (.istore_n 3, 1) := by decide +kernel
theorem dX5_beginForm_2 : decode cX5_beginForm 2 = .ok (.iload_n 3, 1) := by decide +kernel
theorem dX5_beginForm_3 : decode cX5_beginForm 3 = .ok (.aload_n 1, 1) := by decide +kernel
theorem dX5_beginForm_4 : decode cX5_beginForm 4 = .ok (.arraylength, 1) := by decide +kernel
theorem dX5_beginForm_5 : decode cX5_beginForm 5 = .ok (.if_icmp .ge 13, 3) := by decide +kernel
theorem dX5_beginForm_8 : decode cX5_beginForm 8 = .ok (.aload_n 1, 1) := by decide +kernel
theorem dX5_beginForm_9 : decode cX5_beginForm 9 = .ok (.iload_n 3, 1) := by decide +kernel
theorem dX5_beginForm_10 : decode cX5_beginForm 10 = .ok (.iconst 0, 1) := by decide +kernel
theorem dX5_beginForm_11 : decode cX5_beginForm 11 = .ok (.iastore, 1) := by decide +kernel
theorem dX5_beginForm_12 : decode cX5_beginForm 12 = .ok (.iinc 3 1, 3) := by decide +kernel
theorem dX5_beginForm_15 : decode cX5_beginForm 15 = .ok (.goto (-13), 3) := by decide +kernel
theorem dX5_beginForm_18 : decode cX5_beginForm 18 = .ok (.iload_n 2, 1) := by decide +kernel
theorem dX5_beginForm_19 : decode cX5_beginForm 19 = .ok (.invokestatic 109, 3) := by decide +kernel
theorem dX5_beginForm_22 : decode cX5_beginForm 22 = .ok (.istore_n 3, 1) := by decide +kernel
theorem dX5_beginForm_23 : decode cX5_beginForm 23 = .ok (.iload_n 3, 1) := by decide +kernel
theorem dX5_beginForm_24 : decode cX5_beginForm 24 = .ok (.iconst (-1), 1) := by decide +kernel
theorem dX5_beginForm_25 : decode cX5_beginForm 25 = .ok (.if_icmp .ne 7, 3) := by decide +kernel
theorem dX5_beginForm_28 : decode cX5_beginForm 28 = .ok (.iconst 0, 1) := by decide +kernel
theorem dX5_beginForm_29 : decode cX5_beginForm 29 = .ok (.goto 8, 3) := by decide +kernel
theorem dX5_beginForm_32 : decode cX5_beginForm 32 = .ok (.iconst 1, 1) := by decide +kernel
theorem dX5_beginForm_33 : decode cX5_beginForm 33 = .ok (.iconst 3, 1) := by decide +kernel
theorem dX5_beginForm_34 : decode cX5_beginForm 34 = .ok (.iload_n 3, 1) := by decide +kernel
theorem dX5_beginForm_35 : decode cX5_beginForm 35 = .ok (.imul, 1) := by decide +kernel
theorem dX5_beginForm_36 : decode cX5_beginForm 36 = .ok (.ishl, 1) := by decide +kernel
theorem dX5_beginForm_37 : decode cX5_beginForm 37 = .ok (.istore 4, 2) := by decide +kernel
theorem dX5_beginForm_39 : decode cX5_beginForm 39 = .ok (.iload 4, 2) := by decide +kernel
theorem dX5_beginForm_41 : decode cX5_beginForm 41 = .ok (.aload_n 1, 1) := by decide +kernel
theorem dX5_beginForm_42 : decode cX5_beginForm 42 = .ok (.arraylength, 1) := by decide +kernel
theorem dX5_beginForm_43 : decode cX5_beginForm 43 = .ok (.if_icmp .ge 20, 3) := by decide +kernel
theorem dX5_beginForm_46 : decode cX5_beginForm 46 = .ok (.aload_n 1, 1) := by decide +kernel
theorem dX5_beginForm_47 : decode cX5_beginForm 47 = .ok (.iload 4, 2) := by decide +kernel
theorem dX5_beginForm_49 : decode cX5_beginForm 49 = .ok (.iload_n 3, 1) := by decide +kernel
theorem dX5_beginForm_50 : decode cX5_beginForm 50 = .ok (.iconst (-1), 1) := by decide +kernel
theorem dX5_beginForm_51 : decode cX5_beginForm 51 = .ok (.if_icmp .ne 10, 3) := by decide +kernel
theorem dX5_beginForm_54 : decode cX5_beginForm 54 = .ok (.iload_n 2, 1) := by decide +kernel
theorem dX5_beginForm_55 : decode cX5_beginForm 55 = .ok (.bipush 15, 2) := by decide +kernel
theorem dX5_beginForm_57 : decode cX5_beginForm 57 = .ok (.iand, 1) := by decide +kernel
theorem dX5_beginForm_58 : decode cX5_beginForm 58 = .ok (.goto 4, 3) := by decide +kernel
theorem dX5_beginForm_61 : decode cX5_beginForm 61 = .ok (.iconst 1, 1) := by decide +kernel
theorem dX5_beginForm_62 : decode cX5_beginForm 62 = .ok (.iastore, 1) := by decide +kernel
theorem dX5_beginForm_63 : decode cX5_beginForm 63 = .ok (.return_, 1) := by decide +kernel
theorem dX5_compareForms_0 : decode cX5_compareForms 0 = .ok (.aload_n 0, 1) := by decide +kernel
theorem dX5_compareForms_1 : decode cX5_compareForms 1 = .ok (.aload_n 1, 1) := by decide +kernel
theorem dX5_compareForms_2 : decode cX5_compareForms 2 = .ok (.getfield 46, 3) := by decide +kernel
theorem dX5_compareForms_5 : decode cX5_compareForms 5 = .ok (.invokevirtual 66, 3) := by decide +kernel
theorem dX5_compareForms_8 : decode cX5_compareForms 8 = .ok (.ifCond .eq 14, 3) := by decide +kernel
theorem dX5_compareForms_11 : decode cX5_compareForms 11 = .ok (.aload_n 0, 1) := by decide +kernel
theorem dX5_compareForms_12 : decode cX5_compareForms 12 = .ok (.aload_n 1, 1) := by decide +kernel
theorem dX5_compareForms_13 : decode cX5_compareForms 13 = .ok (.getfield 54, 3) := by decide +kernel
theorem dX5_compareForms_16 : decode cX5_compareForms 16 = .ok (.invokevirtual 66, 3) := by decide +kernel
theorem dX5_compareForms_19 : decode cX5_compareForms 19 = .ok (.ifCond .ne 5, 3) := by decide +kernel
theorem dX5_compareForms_24 : decode cX5_compareForms 24 = .ok (.aload_n 0, 1) := by decide +kernel
theorem dX5_compareForms_25 : decode cX5_compareForms 25 = .ok (.aload_n 1, 1) := by decide +kernel
theorem dX5_compareForms_26 : decode cX5_compareForms 26 = .ok (.getfield 46, 3) := by decide +kernel
theorem dX5_hasForm_0 : decode cX5_hasForm 0 = .ok (.iconst 0, 1) := by decide +kernel
theorem dX5_hasForm_1 : decode cX5_hasForm 1 = .ok (.istore_n 2, 1) := by decide +kernel
theorem dX5_hasForm_2 : decode cX5_hasForm 2 = .ok (.iload_n 2, 1) := by decide +kernel
theorem dX5_hasForm_3 : decode cX5_hasForm 3 = .ok (.iconst 3, 1) := by decide +kernel
theorem dX5_hasForm_4 : decode cX5_hasForm 4 = .ok (.if_icmp .ge 22, 3) := by decide +kernel
theorem dX5_hasForm_7 : decode cX5_hasForm 7 = .ok (.aload_n 0, 1) := by decide +kernel
theorem dX5_hasForm_8 : decode cX5_hasForm 8 = .ok (.aload_n 1, 1) := by decide +kernel
theorem dX5_hasForm_9 : decode cX5_hasForm 9 = .ok (.iload_n 2, 1) := by decide +kernel
theorem dX5_hasForm_10 : decode cX5_hasForm 10 = .ok (.invokevirtual 80, 3) := by decide +kernel
theorem dX5_hasForm_13 : decode cX5_hasForm 13 = .ok (.bipush 7, 2) := by decide +kernel
theorem dX5_hasForm_15 : decode cX5_hasForm 15 = .ok (.if_icmp .le 5, 3) := by decide +kernel
theorem dX5_hasForm_18 : decode cX5_hasForm 18 = .ok (.iconst 0, 1) := by decide +kernel
theorem dX5_hasForm_19 : decode cX5_hasForm 19 = .ok (.ireturn, 1) := by decide +kernel
theorem dX5_hasForm_20 : decode cX5_hasForm 20 = .ok (.iinc 2 1, 3) := by decide +kernel
theorem dX5_hasForm_23 : decode cX5_hasForm 23 = .ok (.goto (-21), 3) := by decide +kernel
theorem dX5_hasForm_26 : decode cX5_hasForm 26 = .ok (.iconst 1, 1) := by decide +kernel
theorem dX5_hasForm_27 : decode cX5_hasForm 27 = .ok (.ireturn, 1) := by decide +kernel
theorem dX5_mostTimes_0 : decode cX5_mostTimes 0 = .ok (.iconst 0, 1) := by decide +kernel
theorem dX5_mostTimes_1 : decode cX5_mostTimes 1 = .ok (.istore_n 3, 1) := by decide +kernel
theorem dX5_mostTimes_2 : decode cX5_mostTimes 2 = .ok (.aload_n 1, 1) := by decide +kernel
theorem dX5_mostTimes_3 : decode cX5_mostTimes 3 = .ok (.getfield 57, 3) := by decide +kernel
theorem dX5_mostTimes_6 : decode cX5_mostTimes 6 = .ok (.iconst 1, 1) := by decide +kernel
theorem dX5_mostTimes_7 : decode cX5_mostTimes 7 = .ok (.isub, 1) := by decide +kernel
theorem dX5_mostTimes_8 : decode cX5_mostTimes 8 = .ok (.istore 4, 2) := by decide +kernel
theorem dX5_mostTimes_10 : decode cX5_mostTimes 10 = .ok (.iload 4, 2) := by decide +kernel
theorem dX5_mostTimes_12 : decode cX5_mostTimes 12 = .ok (.ifCond .lt 127, 3) := by decide +kernel
theorem dX5_mostTimes_15 : decode cX5_mostTimes 15 = .ok (.aload_n 1, 1) := by decide +kernel
theorem dX5_mostTimes_16 : decode cX5_mostTimes 16 = .ok (.iload 4, 2) := by decide +kernel
theorem dX5_mostTimes_18 : decode cX5_mostTimes 18 = .ok (.invokevirtual 84, 3) := by decide +kernel
theorem dX5_mostTimes_21 : decode cX5_mostTimes 21 = .ok (.istore 5, 2) := by decide +kernel
theorem dX5_mostTimes_23 : decode cX5_mostTimes 23 = .ok (.iload 5, 2) := by decide +kernel
theorem dX5_mostTimes_25 : decode cX5_mostTimes 25 = .ok (.invokestatic 88, 3) := by decide +kernel
theorem dX5_mostTimes_28 : decode cX5_mostTimes 28 = .ok (.ifCond .ne 38, 3) := by decide +kernel
theorem dX5_mostTimes_31 : decode cX5_mostTimes 31 = .ok (.iload_n 3, 1) := by decide +kernel
theorem dX5_mostTimes_32 : decode cX5_mostTimes 32 = .ok (.aload_n 0, 1) := by decide +kernel
theorem dX5_mostTimes_33 : decode cX5_mostTimes 33 = .ok (.getfield 15, 3) := by decide +kernel
theorem dX5_mostTimes_36 : decode cX5_mostTimes 36 = .ok (.arraylength, 1) := by decide +kernel
theorem dX5_mostTimes_37 : decode cX5_mostTimes 37 = .ok (.if_icmp .ge 29, 3) := by decide +kernel
theorem dX5_mostTimes_40 : decode cX5_mostTimes 40 = .ok (.aload_n 0, 1) := by decide +kernel
theorem dX5_mostTimes_41 : decode cX5_mostTimes 41 = .ok (.getfield 15, 3) := by decide +kernel
theorem dX5_mostTimes_44 : decode cX5_mostTimes 44 = .ok (.iload_n 3, 1) := by decide +kernel
theorem dX5_mostTimes_45 : decode cX5_mostTimes 45 = .ok (.iload 5, 2) := by decide +kernel
theorem dX5_mostTimes_47 : decode cX5_mostTimes 47 = .ok (.bipush 20, 2) := by decide +kernel
theorem dX5_mostTimes_49 : decode cX5_mostTimes 49 = .ok (.iload_n 2, 1) := by decide +kernel
theorem dX5_mostTimes_50 : decode cX5_mostTimes 50 = .ok (.iadd, 1) := by decide +kernel
theorem dX5_mostTimes_51 : decode cX5_mostTimes 51 = .ok (.if_icmp .ne 7, 3) := by decide +kernel
theorem dX5_mostTimes_54 : decode cX5_mostTimes 54 = .ok (.iconst 1, 1) := by decide +kernel
theorem dX5_mostTimes_55 : decode cX5_mostTimes 55 = .ok (.goto 4, 3) := by decide +kernel
theorem dX5_mostTimes_58 : decode cX5_mostTimes 58 = .ok (.iconst 0, 1) := by decide +kernel
theorem dX5_mostTimes_59 : decode cX5_mostTimes 59 = .ok (.iastore, 1) := by decide +kernel
theorem dX5_mostTimes_60 : decode cX5_mostTimes 60 = .ok (.iinc 3 1, 3) := by decide +kernel
theorem dX5_mostTimes_63 : decode cX5_mostTimes 63 = .ok (.goto 70, 3) := by decide +kernel
theorem dX5_mostTimes_66 : decode cX5_mostTimes 66 = .ok (.iload_n 3, 1) := by decide +kernel
theorem dX5_mostTimes_67 : decode cX5_mostTimes 67 = .ok (.iconst 2, 1) := by decide +kernel
theorem dX5_mostTimes_68 : decode cX5_mostTimes 68 = .ok (.if_icmp .lt 65, 3) := by decide +kernel
theorem dX5_mostTimes_71 : decode cX5_mostTimes 71 = .ok (.iload_n 3, 1) := by decide +kernel
theorem dX5_mostTimes_72 : decode cX5_mostTimes 72 = .ok (.aload_n 0, 1) := by decide +kernel
theorem dX5_mostTimes_73 : decode cX5_mostTimes 73 = .ok (.getfield 15, 3) := by decide +kernel
theorem dX5_mostTimes_76 : decode cX5_mostTimes 76 = .ok (.arraylength, 1) := by decide +kernel
theorem dX5_mostTimes_77 : decode cX5_mostTimes 77 = .ok (.if_icmp .gt 56, 3) := by decide +kernel
theorem dX5_mostTimes_80 : decode cX5_mostTimes 80 = .ok (.aload_n 0, 1) := by decide +kernel
theorem dX5_mostTimes_81 : decode cX5_mostTimes 81 = .ok (.getfield 15, 3) := by decide +kernel
theorem dX5_mostTimes_84 : decode cX5_mostTimes 84 = .ok (.iload_n 3, 1) := by decide +kernel
theorem dX5_mostTimes_85 : decode cX5_mostTimes 85 = .ok (.iconst 1, 1) := by decide +kernel
theorem dX5_mostTimes_86 : decode cX5_mostTimes 86 = .ok (.isub, 1) := by decide +kernel
theorem dX5_mostTimes_87 : decode cX5_mostTimes 87 = .ok (.iaload, 1) := by decide +kernel
theorem dX5_mostTimes_88 : decode cX5_mostTimes 88 = .ok (.istore 6, 2) := by decide +kernel
theorem dX5_mostTimes_90 : decode cX5_mostTimes 90 = .ok (.aload_n 0, 1) := by decide +kernel
theorem dX5_mostTimes_91 : decode cX5_mostTimes 91 = .ok (.getfield 15, 3) := by decide +kernel
theorem dX5_mostTimes_94 : decode cX5_mostTimes 94 = .ok (.iload_n 3, 1) := by decide +kernel
theorem dX5_mostTimes_95 : decode cX5_mostTimes 95 = .ok (.iconst 2, 1) := by decide +kernel
theorem dX5_mostTimes_96 : decode cX5_mostTimes 96 = .ok (.isub, 1) := by decide +kernel
theorem dX5_mostTimes_97 : decode cX5_mostTimes 97 = .ok (.iaload, 1) := by decide +kernel
theorem dX5_mostTimes_98 : decode cX5_mostTimes 98 = .ok (.istore 7, 2) := by decide +kernel
theorem dX5_mostTimes_100 : decode cX5_mostTimes 100 = .ok (.aload_n 0, 1) := by decide +kernel
theorem dX5_mostTimes_101 : decode cX5_mostTimes 101 = .ok (.getfield 15, 3) := by decide +kernel
theorem dX5_mostTimes_104 : decode cX5_mostTimes 104 = .ok (.iload_n 3, 1) := by decide +kernel
theorem dX5_mostTimes_105 : decode cX5_mostTimes 105 = .ok (.iconst 2, 1) := by decide +kernel
theorem dX5_mostTimes_106 : decode cX5_mostTimes 106 = .ok (.isub, 1) := by decide +kernel
theorem dX5_mostTimes_107 : decode cX5_mostTimes 107 = .ok (.iload 5, 2) := by decide +kernel
theorem dX5_mostTimes_109 : decode cX5_mostTimes 109 = .ok (.bipush 122, 2) := by decide +kernel
theorem dX5_mostTimes_111 : decode cX5_mostTimes 111 = .ok (.if_icmp .ne 11, 3) := by decide +kernel
theorem dX5_mostTimes_114 : decode cX5_mostTimes 114 = .ok (.iload 6, 2) := by decide +kernel
theorem dX5_mostTimes_116 : decode cX5_mostTimes 116 = .ok (.iload 7, 2) := by decide +kernel
theorem dX5_mostTimes_118 : decode cX5_mostTimes 118 = .ok (.iadd, 1) := by decide +kernel
theorem dX5_mostTimes_119 : decode cX5_mostTimes 119 = .ok (.goto 10, 3) := by decide +kernel
theorem dX5_mostTimes_122 : decode cX5_mostTimes 122 = .ok (.iload 6, 2) := by decide +kernel
theorem dX5_mostTimes_124 : decode cX5_mostTimes 124 = .ok (.iload 7, 2) := by decide +kernel
theorem dX5_mostTimes_126 : decode cX5_mostTimes 126 = .ok (.invokestatic 91, 3) := by decide +kernel
theorem dX5_mostTimes_129 : decode cX5_mostTimes 129 = .ok (.iastore, 1) := by decide +kernel
theorem dX5_mostTimes_130 : decode cX5_mostTimes 130 = .ok (.iinc 3 (-1), 3) := by decide +kernel
theorem dX5_mostTimes_133 : decode cX5_mostTimes 133 = .ok (.iinc 4 (-1), 3) := by decide +kernel
theorem dX5_mostTimes_136 : decode cX5_mostTimes 136 = .ok (.goto (-126), 3) := by decide +kernel
theorem dX5_mostTimes_139 : decode cX5_mostTimes 139 = .ok (.iload_n 3, 1) := by decide +kernel
theorem dX5_mostTimes_140 : decode cX5_mostTimes 140 = .ok (.ifCond .le 12, 3) := by decide +kernel
theorem dX5_mostTimes_143 : decode cX5_mostTimes 143 = .ok (.aload_n 0, 1) := by decide +kernel
theorem dX5_mostTimes_144 : decode cX5_mostTimes 144 = .ok (.getfield 15, 3) := by decide +kernel
theorem dX5_mostTimes_147 : decode cX5_mostTimes 147 = .ok (.iconst 0, 1) := by decide +kernel
theorem dX5_mostTimes_148 : decode cX5_mostTimes 148 = .ok (.iaload, 1) := by decide +kernel
theorem dX5_mostTimes_149 : decode cX5_mostTimes 149 = .ok (.goto 4, 3) := by decide +kernel
theorem dX5_mostTimes_152 : decode cX5_mostTimes 152 = .ok (.iconst 0, 1) := by decide +kernel
theorem dX5_mostTimes_153 : decode cX5_mostTimes 153 = .ok (.ireturn, 1) := by decide +kernel
theorem dX5_multiply_0 : decode cX5_multiply 0 = .ok (.iconst 0, 1) := by decide +kernel
theorem dX5_multiply_1 : decode cX5_multiply 1 = .ok (.istore_n 3, 1) := by decide +kernel
theorem dX5_multiply_2 : decode cX5_multiply 2 = .ok (.iload_n 3, 1) := by decide +kernel
theorem dX5_multiply_3 : decode cX5_multiply 3 = .ok (.sipush 512, 3) := by decide +kernel
theorem dX5_multiply_6 : decode cX5_multiply 6 = .ok (.if_icmp .ge 16, 3) := by decide +kernel
theorem dX5_multiply_9 : decode cX5_multiply 9 = .ok (.aload_n 0, 1) := by decide +kernel
theorem dX5_multiply_10 : decode cX5_multiply 10 = .ok (.getfield 26, 3) := by decide +kernel
theorem dX5_multiply_13 : decode cX5_multiply 13 = .ok (.iload_n 3, 1) := by decide +kernel
theorem dX5_multiply_14 : decode cX5_multiply 14 = .ok (.iconst 0, 1) := by decide +kernel
theorem dX5_multiply_15 : decode cX5_multiply 15 = .ok (.iastore, 1) := by decide +kernel
theorem dX5_multiply_16 : decode cX5_multiply 16 = .ok (.iinc 3 1, 3) := by decide +kernel
theorem dX5_multiply_19 : decode cX5_multiply 19 = .ok (.goto (-17), 3) := by decide +kernel
theorem dX5_multiply_22 : decode cX5_multiply 22 = .ok (.iconst 0, 1) := by decide +kernel
theorem dX5_multiply_23 : decode cX5_multiply 23 = .ok (.istore_n 3, 1) := by decide +kernel
theorem dX5_multiply_24 : decode cX5_multiply 24 = .ok (.iload_n 3, 1) := by decide +kernel
theorem dX5_multiply_25 : decode cX5_multiply 25 = .ok (.aload_n 1, 1) := by decide +kernel
theorem dX5_multiply_26 : decode cX5_multiply 26 = .ok (.arraylength, 1) := by decide +kernel
theorem dX5_multiply_27 : decode cX5_multiply 27 = .ok (.if_icmp .ge 24, 3) := by decide +kernel
theorem dX5_multiply_30 : decode cX5_multiply 30 = .ok (.aload_n 1, 1) := by decide +kernel
theorem dX5_multiply_31 : decode cX5_multiply 31 = .ok (.iload_n 3, 1) := by decide +kernel
theorem dX5_multiply_32 : decode cX5_multiply 32 = .ok (.iaload, 1) := by decide +kernel
theorem dX5_multiply_33 : decode cX5_multiply 33 = .ok (.ifCond .eq 12, 3) := by decide +kernel
theorem dX5_multiply_36 : decode cX5_multiply 36 = .ok (.aload_n 0, 1) := by decide +kernel
theorem dX5_multiply_37 : decode cX5_multiply 37 = .ok (.iload_n 3, 1) := by decide +kernel
theorem dX5_multiply_38 : decode cX5_multiply 38 = .ok (.aload_n 1, 1) := by decide +kernel
theorem dX5_multiply_39 : decode cX5_multiply 39 = .ok (.iload_n 3, 1) := by decide +kernel
theorem dX5_multiply_40 : decode cX5_multiply 40 = .ok (.iaload, 1) := by decide +kernel
theorem dX5_multiply_41 : decode cX5_multiply 41 = .ok (.aload_n 2, 1) := by decide +kernel
theorem dX5_multiply_42 : decode cX5_multiply 42 = .ok (.invokevirtual 116, 3) := by decide +kernel
theorem dX5_multiply_45 : decode cX5_multiply 45 = .ok (.iinc 3 1, 3) := by decide +kernel
theorem dX5_multiply_48 : decode cX5_multiply 48 = .ok (.goto (-24), 3) := by decide +kernel
theorem dX5_multiply_51 : decode cX5_multiply 51 = .ok (.aload_n 0, 1) := by decide +kernel
theorem dX5_multiply_52 : decode cX5_multiply 52 = .ok (.getfield 26, 3) := by decide +kernel
theorem dX5_multiply_55 : decode cX5_multiply 55 = .ok (.iconst 0, 1) := by decide +kernel
theorem dX5_multiply_56 : decode cX5_multiply 56 = .ok (.aload_n 2, 1) := by decide +kernel
theorem dX5_multiply_57 : decode cX5_multiply 57 = .ok (.iconst 0, 1) := by decide +kernel
theorem dX5_multiply_58 : decode cX5_multiply 58 = .ok (.sipush 512, 3) := by decide +kernel
theorem dX5_multiply_61 : decode cX5_multiply 61 = .ok (.aload_n 2, 1) := by decide +kernel
theorem dX5_multiply_62 : decode cX5_multiply 62 = .ok (.arraylength, 1) := by decide +kernel
theorem dX5_multiply_63 : decode cX5_multiply 63 = .ok (.invokestatic 120, 3) := by decide +kernel
theorem dX5_multiply_66 : decode cX5_multiply 66 = .ok (.invokestatic 74, 3) := by decide +kernel
theorem dX5_multiply_69 : decode cX5_multiply 69 = .ok (.return_, 1) := by decide +kernel
theorem dX5_multiplyOut_0 : decode cX5_multiplyOut 0 = .ok (.iconst 0, 1) := by decide +kernel
theorem dX5_multiplyOut_1 : decode cX5_multiplyOut 1 = .ok (.istore_n 2, 1) := by decide +kernel
theorem dX5_multiplyOut_2 : decode cX5_multiplyOut 2 = .ok (.aload_n 1, 1) := by decide +kernel
theorem dX5_multiplyOut_3 : decode cX5_multiplyOut 3 = .ok (.getfield 57, 3) := by decide +kernel
theorem dX5_multiplyOut_6 : decode cX5_multiplyOut 6 = .ok (.iconst 1, 1) := by decide +kernel
theorem dX5_multiplyOut_7 : decode cX5_multiplyOut 7 = .ok (.isub, 1) := by decide +kernel
theorem dX5_multiplyOut_8 : decode cX5_multiplyOut 8 = .ok (.istore_n 3, 1) := by decide +kernel
theorem dX5_multiplyOut_9 : decode cX5_multiplyOut 9 = .ok (.iload_n 3, 1) := by decide +kernel
theorem dX5_multiplyOut_10 : decode cX5_multiplyOut 10 = .ok (.ifCond .lt 114, 3) := by decide +kernel
theorem dX5_multiplyOut_13 : decode cX5_multiplyOut 13 = .ok (.aload_n 1, 1) := by decide +kernel
theorem dX5_multiplyOut_14 : decode cX5_multiplyOut 14 = .ok (.iload_n 3, 1) := by decide +kernel
theorem dX5_multiplyOut_15 : decode cX5_multiplyOut 15 = .ok (.invokevirtual 84, 3) := by decide +kernel
theorem dX5_multiplyOut_18 : decode cX5_multiplyOut 18 = .ok (.istore 4, 2) := by decide +kernel
theorem dX5_multiplyOut_20 : decode cX5_multiplyOut 20 = .ok (.iload 4, 2) := by decide +kernel
theorem dX5_multiplyOut_22 : decode cX5_multiplyOut 22 = .ok (.invokestatic 88, 3) := by decide +kernel
theorem dX5_multiplyOut_25 : decode cX5_multiplyOut 25 = .ok (.ifCond .ne 27, 3) := by decide +kernel
theorem dX5_multiplyOut_28 : decode cX5_multiplyOut 28 = .ok (.iload_n 2, 1) := by decide +kernel
theorem dX5_multiplyOut_29 : decode cX5_multiplyOut 29 = .ok (.bipush 20, 2) := by decide +kernel
theorem dX5_multiplyOut_31 : decode cX5_multiplyOut 31 = .ok (.if_icmp .ge 21, 3) := by decide +kernel
theorem dX5_multiplyOut_34 : decode cX5_multiplyOut 34 = .ok (.aload_n 0, 1) := by decide +kernel
theorem dX5_multiplyOut_35 : decode cX5_multiplyOut 35 = .ok (.aload_n 0, 1) := by decide +kernel
theorem dX5_multiplyOut_36 : decode cX5_multiplyOut 36 = .ok (.getfield 20, 3) := by decide +kernel
theorem dX5_multiplyOut_39 : decode cX5_multiplyOut 39 = .ok (.iload_n 2, 1) := by decide +kernel
theorem dX5_tryAll_0 : decode cX5_tryAll 0 = .ok (.aload_n 0, 1) := by decide +kernel
theorem dX5_tryAll_1 : decode cX5_tryAll 1 = .ok (.iconst (-1), 1) := by decide +kernel
theorem dX5_tryAll_2 : decode cX5_tryAll 2 = .ok (.putfield 29, 3) := by decide +kernel
theorem dX5_tryAll_5 : decode cX5_tryAll 5 = .ok (.aload_n 0, 1) := by decide +kernel
theorem dX5_tryAll_6 : decode cX5_tryAll 6 = .ok (.iconst 0, 1) := by decide +kernel
theorem dX5_tryAll_7 : decode cX5_tryAll 7 = .ok (.putfield 33, 3) := by decide +kernel
theorem dX5_tryAll_10 : decode cX5_tryAll 10 = .ok (.aload_n 1, 1) := by decide +kernel
theorem dX5_tryAll_11 : decode cX5_tryAll 11 = .ok (.iconst 0, 1) := by decide +kernel
theorem dX5_tryAll_12 : decode cX5_tryAll 12 = .ok (.invokevirtual 36, 3) := by decide +kernel
theorem dX5_tryAll_15 : decode cX5_tryAll 15 = .ok (.ifCond .eq 8, 3) := by decide +kernel
theorem dX5_tryAll_18 : decode cX5_tryAll 18 = .ok (.bipush 16, 2) := by decide +kernel
theorem dX5_tryAll_20 : decode cX5_tryAll 20 = .ok (.goto 4, 3) := by decide +kernel
theorem dX5_tryAll_23 : decode cX5_tryAll 23 = .ok (.iconst 1, 1) := by decide +kernel
theorem dX5_tryAll_24 : decode cX5_tryAll 24 = .ok (.istore_n 2, 1) := by decide +kernel
theorem dX5_tryAll_25 : decode cX5_tryAll 25 = .ok (.aload_n 1, 1) := by decide +kernel
theorem dX5_tryAll_26 : decode cX5_tryAll 26 = .ok (.iconst 1, 1) := by decide +kernel
theorem dX5_tryAll_27 : decode cX5_tryAll 27 = .ok (.invokevirtual 36, 3) := by decide +kernel
theorem dX5_tryAll_30 : decode cX5_tryAll 30 = .ok (.ifCond .eq 8, 3) := by decide +kernel
theorem dX5_tryAll_33 : decode cX5_tryAll 33 = .ok (.bipush 16, 2) := by decide +kernel
theorem dX5_tryAll_35 : decode cX5_tryAll 35 = .ok (.goto 4, 3) := by decide +kernel
theorem dX5_tryAll_38 : decode cX5_tryAll 38 = .ok (.iconst 1, 1) := by decide +kernel
theorem dX5_tryAll_39 : decode cX5_tryAll 39 = .ok (.istore_n 3, 1) := by decide +kernel
theorem dX5_tryAll_40 : decode cX5_tryAll 40 = .ok (.aload_n 1, 1) := by decide +kernel
theorem dX5_tryAll_41 : decode cX5_tryAll 41 = .ok (.iconst 2, 1) := by decide +kernel
theorem dX5_tryAll_42 : decode cX5_tryAll 42 = .ok (.invokevirtual 36, 3) := by decide +kernel
theorem dX5_tryAll_45 : decode cX5_tryAll 45 = .ok (.ifCond .eq 8, 3) := by decide +kernel
theorem dX5_tryAll_48 : decode cX5_tryAll 48 = .ok (.bipush 16, 2) := by decide +kernel
theorem dX5_tryAll_50 : decode cX5_tryAll 50 = .ok (.goto 4, 3) := by decide +kernel
theorem dX5_tryAll_53 : decode cX5_tryAll 53 = .ok (.iconst 1, 1) := by decide +kernel
theorem dX5_tryAll_54 : decode cX5_tryAll 54 = .ok (.istore 4, 2) := by decide +kernel
theorem dX5_tryAll_56 : decode cX5_tryAll 56 = .ok (.iconst 0, 1) := by decide +kernel
theorem dX5_tryAll_57 : decode cX5_tryAll 57 = .ok (.istore 5, 2) := by decide +kernel
theorem dX5_tryAll_59 : decode cX5_tryAll 59 = .ok (.iload 5, 2) := by decide +kernel
theorem dX5_tryAll_61 : decode cX5_tryAll 61 = .ok (.iload_n 2, 1) := by decide +kernel
theorem dX5_tryAll_62 : decode cX5_tryAll 62 = .ok (.if_icmp .ge 51, 3) := by decide +kernel
theorem dX5_tryAll_65 : decode cX5_tryAll 65 = .ok (.iconst 0, 1) := by decide +kernel
theorem dX5_tryAll_66 : decode cX5_tryAll 66 = .ok (.istore 6, 2) := by decide +kernel
theorem dX5_tryAll_68 : decode cX5_tryAll 68 = .ok (.iload 6, 2) := by decide +kernel
theorem dX5_tryAll_70 : decode cX5_tryAll 70 = .ok (.iload_n 3, 1) := by decide +kernel
theorem dX5_tryAll_71 : decode cX5_tryAll 71 = .ok (.if_icmp .ge 36, 3) := by decide +kernel
theorem dX5_tryAll_74 : decode cX5_tryAll 74 = .ok (.iconst 0, 1) := by decide +kernel
theorem dX5_tryAll_75 : decode cX5_tryAll 75 = .ok (.istore 7, 2) := by decide +kernel
theorem dX5_tryAll_77 : decode cX5_tryAll 77 = .ok (.iload 7, 2) := by decide +kernel
theorem dX5_tryAll_79 : decode cX5_tryAll 79 = .ok (.iload 4, 2) := by decide +kernel
theorem dX5_tryAll_81 : decode cX5_tryAll 81 = .ok (.if_icmp .ge 20, 3) := by decide +kernel
theorem dX5_tryAll_84 : decode cX5_tryAll 84 = .ok (.aload_n 0, 1) := by decide +kernel
theorem dX5_tryAll_85 : decode cX5_tryAll 85 = .ok (.aload_n 1, 1) := by decide +kernel
theorem dX5_tryAll_86 : decode cX5_tryAll 86 = .ok (.iload 5, 2) := by decide +kernel
theorem dX5_tryAll_88 : decode cX5_tryAll 88 = .ok (.iload 6, 2) := by decide +kernel
theorem dX5_tryAll_90 : decode cX5_tryAll 90 = .ok (.iload 7, 2) := by decide +kernel
theorem dX5_tryAll_92 : decode cX5_tryAll 92 = .ok (.invokevirtual 42, 3) := by decide +kernel
theorem dX5_tryAll_95 : decode cX5_tryAll 95 = .ok (.iinc 7 1, 3) := by decide +kernel
theorem dX5_tryAll_98 : decode cX5_tryAll 98 = .ok (.goto (-21), 3) := by decide +kernel
theorem dX5_tryAll_101 : decode cX5_tryAll 101 = .ok (.iinc 6 1, 3) := by decide +kernel
theorem dX5_tryAll_104 : decode cX5_tryAll 104 = .ok (.goto (-36), 3) := by decide +kernel
theorem dX5_tryAll_107 : decode cX5_tryAll 107 = .ok (.iinc 5 1, 3) := by decide +kernel
theorem dX5_tryAll_110 : decode cX5_tryAll 110 = .ok (.goto (-51), 3) := by decide +kernel
theorem dX5_tryAll_113 : decode cX5_tryAll 113 = .ok (.return_, 1) := by decide +kernel
theorem dX5_tryOne_0 : decode cX5_tryOne 0 = .ok (.aload_n 0, 1) := by decide +kernel
theorem dX5_tryOne_1 : decode cX5_tryOne 1 = .ok (.getfield 9, 3) := by decide +kernel
theorem dX5_tryOne_4 : decode cX5_tryOne 4 = .ok (.iconst 0, 1) := by decide +kernel
theorem dX5_tryOne_5 : decode cX5_tryOne 5 = .ok (.iload_n 2, 1) := by decide +kernel
theorem dX5_tryOne_6 : decode cX5_tryOne 6 = .ok (.iastore, 1) := by decide +kernel
theorem dX5_tryOne_7 : decode cX5_tryOne 7 = .ok (.aload_n 0, 1) := by decide +kernel
theorem dX5_tryOne_8 : decode cX5_tryOne 8 = .ok (.getfield 9, 3) := by decide +kernel
theorem dX5_tryOne_11 : decode cX5_tryOne 11 = .ok (.iconst 1, 1) := by decide +kernel
theorem dX5_tryOne_12 : decode cX5_tryOne 12 = .ok (.iload_n 3, 1) := by decide +kernel
theorem dX5_tryOne_13 : decode cX5_tryOne 13 = .ok (.iastore, 1) := by decide +kernel
theorem dX5_tryOne_14 : decode cX5_tryOne 14 = .ok (.aload_n 0, 1) := by decide +kernel
theorem dX5_tryOne_15 : decode cX5_tryOne 15 = .ok (.getfield 9, 3) := by decide +kernel
theorem dX5_tryOne_18 : decode cX5_tryOne 18 = .ok (.iconst 2, 1) := by decide +kernel
theorem dX5_tryOne_19 : decode cX5_tryOne 19 = .ok (.iload 4, 2) := by decide +kernel
theorem dX5_tryOne_21 : decode cX5_tryOne 21 = .ok (.iastore, 1) := by decide +kernel
theorem dX5_tryOne_22 : decode cX5_tryOne 22 = .ok (.aload_n 0, 1) := by decide +kernel
theorem dX5_tryOne_23 : decode cX5_tryOne 23 = .ok (.aload_n 1, 1) := by decide +kernel
theorem dX5_tryOne_24 : decode cX5_tryOne 24 = .ok (.getfield 46, 3) := by decide +kernel
theorem dX5_tryOne_27 : decode cX5_tryOne 27 = .ok (.invokevirtual 50, 3) := by decide +kernel
theorem dX5_tryOne_30 : decode cX5_tryOne 30 = .ok (.aload_n 0, 1) := by decide +kernel
theorem dX5_tryOne_31 : decode cX5_tryOne 31 = .ok (.aload_n 1, 1) := by decide +kernel
theorem dX5_tryOne_32 : decode cX5_tryOne 32 = .ok (.getfield 54, 3) := by decide +kernel
theorem dX5_tryOne_35 : decode cX5_tryOne 35 = .ok (.invokevirtual 50, 3) := by decide +kernel
theorem dX5_tryOne_38 : decode cX5_tryOne 38 = .ok (.if_icmp .ne 4, 3) := by decide +kernel
theorem dX5_tryOne_41 : decode cX5_tryOne 41 = .ok (.return_, 1) := by decide +kernel
theorem dX5_tryOne_42 : decode cX5_tryOne 42 = .ok (.aload_n 0, 1) := by decide +kernel
theorem dX5_tryOne_43 : decode cX5_tryOne 43 = .ok (.getfield 33, 3) := by decide +kernel
theorem dX5_tryOne_46 : decode cX5_tryOne 46 = .ok (.ifCond .ne 19, 3) := by decide +kernel
theorem dX5_tryOne_49 : decode cX5_tryOne 49 = .ok (.aload_n 0, 1) := by decide +kernel
theorem dX5_tryOne_50 : decode cX5_tryOne 50 = .ok (.iload_n 2, 1) := by decide +kernel
theorem dX5_tryOne_51 : decode cX5_tryOne 51 = .ok (.bipush 16, 2) := by decide +kernel
theorem dX5_tryOne_53 : decode cX5_tryOne 53 = .ok (.imul, 1) := by decide +kernel
theorem dX5_tryOne_54 : decode cX5_tryOne 54 = .ok (.iload_n 3, 1) := by decide +kernel
theorem dX5_tryOne_55 : decode cX5_tryOne 55 = .ok (.iadd, 1) := by decide +kernel
theorem dX5_tryOne_56 : decode cX5_tryOne 56 = .ok (.bipush 16, 2) := by decide +kernel
theorem dX5_tryOne_58 : decode cX5_tryOne 58 = .ok (.imul, 1) := by decide +kernel
theorem dX5_tryOne_59 : decode cX5_tryOne 59 = .ok (.iload 4, 2) := by decide +kernel
theorem dX5_tryOne_61 : decode cX5_tryOne 61 = .ok (.iadd, 1) := by decide +kernel
theorem dX5_tryOne_62 : decode cX5_tryOne 62 = .ok (.putfield 29, 3) := by decide +kernel
theorem dX5_tryOne_65 : decode cX5_tryOne 65 = .ok (.aload_n 0, 1) := by decide +kernel
theorem dX5_tryOne_66 : decode cX5_tryOne 66 = .ok (.dup, 1) := by decide +kernel
theorem dX5_tryOne_67 : decode cX5_tryOne 67 = .ok (.getfield 33, 3) := by decide +kernel
theorem dX5_tryOne_70 : decode cX5_tryOne 70 = .ok (.iconst 1, 1) := by decide +kernel
theorem dX5_tryOne_71 : decode cX5_tryOne 71 = .ok (.iadd, 1) := by decide +kernel
theorem dX5_tryOne_72 : decode cX5_tryOne 72 = .ok (.putfield 33, 3) := by decide +kernel
theorem dX5_tryOne_75 : decode cX5_tryOne 75 = .ok (.return_, 1) := by decide +kernel
theorem dX5_valueOf_0 : decode cX5_valueOf 0 = .ok (.aload_n 1, 1) := by decide +kernel
theorem dX5_valueOf_1 : decode cX5_valueOf 1 = .ok (.iconst 0, 1) := by decide +kernel
theorem dX5_valueOf_2 : decode cX5_valueOf 2 = .ok (.aload_n 1, 1) := by decide +kernel
theorem dX5_valueOf_3 : decode cX5_valueOf 3 = .ok (.getfield 57, 3) := by decide +kernel
theorem dX5_valueOf_6 : decode cX5_valueOf 6 = .ok (.aload_n 0, 1) := by decide +kernel
theorem dX5_valueOf_7 : decode cX5_valueOf 7 = .ok (.getfield 9, 3) := by decide +kernel
theorem dX5_valueOf_10 : decode cX5_valueOf 10 = .ok (.aload_n 0, 1) := by decide +kernel
theorem dX5_valueOf_11 : decode cX5_valueOf 11 = .ok (.getfield 15, 3) := by decide +kernel
theorem dX5_valueOf_14 : decode cX5_valueOf 14 = .ok (.invokevirtual 62, 3) := by decide +kernel
theorem dX5_valueOf_17 : decode cX5_valueOf 17 = .ok (.aload_n 0, 1) := by decide +kernel
theorem dX5_valueOf_18 : decode cX5_valueOf 18 = .ok (.getfield 15, 3) := by decide +kernel
theorem dX5_valueOf_21 : decode cX5_valueOf 21 = .ok (.iconst 0, 1) := by decide +kernel
theorem dX5_valueOf_22 : decode cX5_valueOf 22 = .ok (.iaload, 1) := by decide +kernel
theorem dX5_valueOf_23 : decode cX5_valueOf 23 = .ok (.ireturn, 1) := by decide +kernel
theorem dX6_begin_0 : decode cX6_begin 0 = .ok (.aload_n 0, 1) := by decide +kernel
theorem dX6_begin_1 : decode cX6_begin 1 = .ok (.iconst 0, 1) := by decide +kernel
theorem dX6_begin_2 : decode cX6_begin 2 = .ok (.putfield 37, 3) := by decide +kernel
theorem dX6_begin_5 : decode cX6_begin 5 = .ok (.aload_n 0, 1) := by decide +kernel
theorem dX6_begin_6 : decode cX6_begin 6 = .ok (.iconst (-1), 1) := by decide +kernel
theorem dX6_begin_7 : decode cX6_begin 7 = .ok (.putfield 41, 3) := by decide +kernel
theorem dX6_begin_10 : decode cX6_begin 10 = .ok (.aload_n 0, 1) := by decide +kernel
