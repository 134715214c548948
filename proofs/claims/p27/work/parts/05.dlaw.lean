theorem dL_cell_0 : decode cL_cell 0 = .ok (.iload_n 1, 1) := by decide +kernel
theorem dL_cell_1 : decode cL_cell 1 = .ok (.aload_n 0, 1) := by decide +kernel
theorem dL_cell_2 : decode cL_cell 2 = .ok (.arraylength, 1) := by decide +kernel
theorem dL_cell_3 : decode cL_cell 3 = .ok (.if_icmp .ge 9, 3) := by decide +kernel
theorem dL_cell_6 : decode cL_cell 6 = .ok (.aload_n 0, 1) := by decide +kernel
theorem dL_cell_7 : decode cL_cell 7 = .ok (.iload_n 1, 1) := by decide +kernel
theorem dL_cell_8 : decode cL_cell 8 = .ok (.iaload, 1) := by decide +kernel
theorem dL_cell_9 : decode cL_cell 9 = .ok (.goto 15, 3) := by decide +kernel
theorem dL_cell_12 : decode cL_cell 12 = .ok (.sipush 7919, 3) := by decide +kernel
theorem dL_cell_15 : decode cL_cell 15 = .ok (.iload_n 1, 1) := by decide +kernel
theorem dL_cell_16 : decode cL_cell 16 = .ok (.iconst 3, 1) := by decide +kernel
theorem dL_cell_17 : decode cL_cell 17 = .ok (.iadd, 1) := by decide +kernel
theorem dL_cell_18 : decode cL_cell 18 = .ok (.imul, 1) := by decide +kernel
theorem dL_cell_19 : decode cL_cell 19 = .ok (.iload_n 1, 1) := by decide +kernel
theorem dL_cell_20 : decode cL_cell 20 = .ok (.bipush 11, 2) := by decide +kernel
theorem dL_cell_22 : decode cL_cell 22 = .ok (.iadd, 1) := by decide +kernel
theorem dL_cell_23 : decode cL_cell 23 = .ok (.imul, 1) := by decide +kernel
theorem dL_cell_24 : decode cL_cell 24 = .ok (.ireturn, 1) := by decide +kernel
theorem dL_low_0 : decode cL_low 0 = .ok (.iload_n 0, 1) := by decide +kernel
theorem dL_low_1 : decode cL_low 1 = .ok (.ldc 7, 2) := by decide +kernel
theorem dL_low_3 : decode cL_low 3 = .ok (.iand, 1) := by decide +kernel
theorem dL_low_4 : decode cL_low 4 = .ok (.iload_n 1, 1) := by decide +kernel
theorem dL_low_5 : decode cL_low 5 = .ok (.irem, 1) := by decide +kernel
theorem dL_low_6 : decode cL_low 6 = .ok (.ireturn, 1) := by decide +kernel
theorem dL_told_0 : decode cL_told 0 = .ok (.ldc2_w 8, 3) := by decide +kernel
theorem dL_told_3 : decode cL_told 3 = .ok (.lstore_n 2, 1) := by decide +kernel
theorem dL_told_4 : decode cL_told 4 = .ok (.iconst 0, 1) := by decide +kernel
theorem dL_told_5 : decode cL_told 5 = .ok (.istore 4, 2) := by decide +kernel
theorem dL_told_7 : decode cL_told 7 = .ok (.iload 4, 2) := by decide +kernel
theorem dL_told_9 : decode cL_told 9 = .ok (.sipush 256, 3) := by decide +kernel
theorem dL_told_12 : decode cL_told 12 = .ok (.if_icmp .ge 32, 3) := by decide +kernel
theorem dL_told_15 : decode cL_told 15 = .ok (.ldc2_w 10, 3) := by decide +kernel
theorem dL_told_18 : decode cL_told 18 = .ok (.lload_n 2, 1) := by decide +kernel
theorem dL_told_19 : decode cL_told 19 = .ok (.lmul, 1) := by decide +kernel
theorem dL_told_20 : decode cL_told 20 = .ok (.aload_n 0, 1) := by decide +kernel
theorem dL_told_21 : decode cL_told 21 = .ok (.iload_n 1, 1) := by decide +kernel
theorem dL_told_22 : decode cL_told 22 = .ok (.iload 4, 2) := by decide +kernel
theorem dL_told_24 : decode cL_told 24 = .ok (.bipush 16, 2) := by decide +kernel
theorem dL_told_26 : decode cL_told 26 = .ok (.idiv, 1) := by decide +kernel
theorem dL_told_27 : decode cL_told 27 = .ok (.iload 4, 2) := by decide +kernel
theorem dL_told_29 : decode cL_told 29 = .ok (.bipush 16, 2) := by decide +kernel
theorem dL_told_31 : decode cL_told 31 = .ok (.irem, 1) := by decide +kernel
theorem dL_told_32 : decode cL_told 32 = .ok (.invokevirtual 12, 3) := by decide +kernel
theorem dL_told_35 : decode cL_told 35 = .ok (.i2l, 1) := by decide +kernel
theorem dL_told_36 : decode cL_told 36 = .ok (.ladd, 1) := by decide +kernel
theorem dL_told_37 : decode cL_told 37 = .ok (.lstore_n 2, 1) := by decide +kernel
theorem dL_told_38 : decode cL_told 38 = .ok (.iinc 4 1, 3) := by decide +kernel
theorem dL_told_41 : decode cL_told 41 = .ok (.goto (-34), 3) := by decide +kernel
theorem dL_told_44 : decode cL_told 44 = .ok (.iconst 0, 1) := by decide +kernel
theorem dL_told_45 : decode cL_told 45 = .ok (.istore 4, 2) := by decide +kernel
theorem dL_told_47 : decode cL_told 47 = .ok (.iload 4, 2) := by decide +kernel
theorem dL_told_49 : decode cL_told 49 = .ok (.bipush 11, 2) := by decide +kernel
theorem dL_told_51 : decode cL_told 51 = .ok (.if_icmp .ge 24, 3) := by decide +kernel
theorem dL_told_54 : decode cL_told 54 = .ok (.ldc2_w 10, 3) := by decide +kernel
theorem dL_told_57 : decode cL_told 57 = .ok (.lload_n 2, 1) := by decide +kernel
theorem dL_told_58 : decode cL_told 58 = .ok (.lmul, 1) := by decide +kernel
theorem dL_told_59 : decode cL_told 59 = .ok (.aload_n 0, 1) := by decide +kernel
theorem dL_told_60 : decode cL_told 60 = .ok (.iload_n 1, 1) := by decide +kernel
theorem dL_told_61 : decode cL_told 61 = .ok (.iload 4, 2) := by decide +kernel
theorem dL_told_63 : decode cL_told 63 = .ok (.invokevirtual 18, 3) := by decide +kernel
theorem dL_told_66 : decode cL_told 66 = .ok (.i2l, 1) := by decide +kernel
theorem dL_told_67 : decode cL_told 67 = .ok (.ladd, 1) := by decide +kernel
theorem dL_told_68 : decode cL_told 68 = .ok (.lstore_n 2, 1) := by decide +kernel
theorem dL_told_69 : decode cL_told 69 = .ok (.iinc 4 1, 3) := by decide +kernel
theorem dL_told_72 : decode cL_told 72 = .ok (.goto (-25), 3) := by decide +kernel
theorem dL_told_75 : decode cL_told 75 = .ok (.lload_n 2, 1) := by decide +kernel
theorem dL_told_76 : decode cL_told 76 = .ok (.lreturn, 1) := by decide +kernel
theorem dL_all_0 : decode cL_all 0 = .ok (.ldc2_w 10, 3) := by decide +kernel
theorem dL_all_3 : decode cL_all 3 = .ok (.ldc2_w 10, 3) := by decide +kernel
theorem dL_all_6 : decode cL_all 6 = .ok (.aload_n 0, 1) := by decide +kernel
theorem dL_all_7 : decode cL_all 7 = .ok (.iconst 0, 1) := by decide +kernel
theorem dL_all_8 : decode cL_all 8 = .ok (.invokestatic 22, 3) := by decide +kernel
theorem dL_all_11 : decode cL_all 11 = .ok (.lmul, 1) := by decide +kernel
theorem dL_all_12 : decode cL_all 12 = .ok (.aload_n 0, 1) := by decide +kernel
theorem dL_all_13 : decode cL_all 13 = .ok (.iconst 1, 1) := by decide +kernel
theorem dL_all_14 : decode cL_all 14 = .ok (.invokestatic 22, 3) := by decide +kernel
theorem dL_all_17 : decode cL_all 17 = .ok (.ladd, 1) := by decide +kernel
theorem dL_all_18 : decode cL_all 18 = .ok (.lmul, 1) := by decide +kernel
theorem dL_all_19 : decode cL_all 19 = .ok (.aload_n 0, 1) := by decide +kernel
theorem dL_all_20 : decode cL_all 20 = .ok (.iconst 0, 1) := by decide +kernel
theorem dL_all_21 : decode cL_all 21 = .ok (.invokevirtual 28, 3) := by decide +kernel
theorem dL_all_24 : decode cL_all 24 = .ok (.i2l, 1) := by decide +kernel
theorem dL_all_25 : decode cL_all 25 = .ok (.ladd, 1) := by decide +kernel
theorem dL_all_26 : decode cL_all 26 = .ok (.ldc2_w 32, 3) := by decide +kernel
theorem dL_all_29 : decode cL_all 29 = .ok (.aload_n 0, 1) := by decide +kernel
theorem dL_all_30 : decode cL_all 30 = .ok (.iconst 2, 1) := by decide +kernel
theorem dL_all_31 : decode cL_all 31 = .ok (.invokevirtual 28, 3) := by decide +kernel
theorem dL_all_34 : decode cL_all 34 = .ok (.i2l, 1) := by decide +kernel
theorem dL_all_35 : decode cL_all 35 = .ok (.lmul, 1) := by decide +kernel
theorem dL_all_36 : decode cL_all 36 = .ok (.ladd, 1) := by decide +kernel
theorem dL_all_37 : decode cL_all 37 = .ok (.lreturn, 1) := by decide +kernel
theorem dL_act_0 : decode cL_act 0 = .ok (.iload_n 1, 1) := by decide +kernel
theorem dL_act_1 : decode cL_act 1 = .ok (.iconst 4, 1) := by decide +kernel
theorem dL_act_2 : decode cL_act 2 = .ok (.ishr, 1) := by decide +kernel
theorem dL_act_3 : decode cL_act 3 = .ok (.iload_n 1, 1) := by decide +kernel
theorem dL_act_4 : decode cL_act 4 = .ok (.bipush 20, 2) := by decide +kernel
theorem dL_act_6 : decode cL_act 6 = .ok (.ishr, 1) := by decide +kernel
theorem dL_act_7 : decode cL_act 7 = .ok (.bipush 7, 2) := by decide +kernel
theorem dL_act_9 : decode cL_act 9 = .ok (.iand, 1) := by decide +kernel
theorem dL_act_10 : decode cL_act 10 = .ok (.ifCond .ne 7, 3) := by decide +kernel
theorem dL_act_13 : decode cL_act 13 = .ok (.iconst 5, 1) := by decide +kernel
theorem dL_act_14 : decode cL_act 14 = .ok (.goto 4, 3) := by decide +kernel
theorem dL_act_17 : decode cL_act 17 = .ok (.iconst 2, 1) := by decide +kernel
theorem dL_act_18 : decode cL_act 18 = .ok (.invokestatic 34, 3) := by decide +kernel
theorem dL_act_21 : decode cL_act 21 = .ok (.istore_n 3, 1) := by decide +kernel
theorem dL_act_22 : decode cL_act 22 = .ok (.iload_n 1, 1) := by decide +kernel
theorem dL_act_23 : decode cL_act 23 = .ok (.bipush 6, 2) := by decide +kernel
theorem dL_act_25 : decode cL_act 25 = .ok (.ishr, 1) := by decide +kernel
theorem dL_act_26 : decode cL_act 26 = .ok (.iload_n 1, 1) := by decide +kernel
theorem dL_act_27 : decode cL_act 27 = .ok (.bipush 20, 2) := by decide +kernel
theorem dL_act_29 : decode cL_act 29 = .ok (.ishr, 1) := by decide +kernel
theorem dL_act_30 : decode cL_act 30 = .ok (.bipush 7, 2) := by decide +kernel
theorem dL_act_32 : decode cL_act 32 = .ok (.iand, 1) := by decide +kernel
theorem dL_act_33 : decode cL_act 33 = .ok (.iconst 1, 1) := by decide +kernel
theorem dL_act_34 : decode cL_act 34 = .ok (.if_icmp .ne 8, 3) := by decide +kernel
theorem dL_act_37 : decode cL_act 37 = .ok (.bipush 17, 2) := by decide +kernel
theorem dL_act_39 : decode cL_act 39 = .ok (.goto 5, 3) := by decide +kernel
theorem dL_act_42 : decode cL_act 42 = .ok (.bipush 6, 2) := by decide +kernel
theorem dL_act_44 : decode cL_act 44 = .ok (.invokestatic 34, 3) := by decide +kernel
theorem dL_act_47 : decode cL_act 47 = .ok (.istore 4, 2) := by decide +kernel
theorem dL_act_49 : decode cL_act 49 = .ok (.iload_n 1, 1) := by decide +kernel
theorem dL_act_50 : decode cL_act 50 = .ok (.bipush 9, 2) := by decide +kernel
theorem dL_act_52 : decode cL_act 52 = .ok (.ishr, 1) := by decide +kernel
theorem dL_act_53 : decode cL_act 53 = .ok (.bipush 6, 2) := by decide +kernel
theorem dL_act_55 : decode cL_act 55 = .ok (.invokestatic 34, 3) := by decide +kernel
theorem dL_act_58 : decode cL_act 58 = .ok (.istore 5, 2) := by decide +kernel
theorem dL_act_60 : decode cL_act 60 = .ok (.iload_n 1, 1) := by decide +kernel
theorem dL_act_61 : decode cL_act 61 = .ok (.bipush 15, 2) := by decide +kernel
theorem dL_act_63 : decode cL_act 63 = .ok (.iand, 1) := by decide +kernel
theorem dL_act_64 : decode cL_act 64 = .ok (.tableswitch 185 0 7 #[48, 54, 64, 70, 93, 104, 112, 112], 48) := by decide +kernel
theorem dL_act_112 : decode cL_act 112 = .ok (.aload_n 0, 1) := by decide +kernel
theorem dL_act_113 : decode cL_act 113 = .ok (.iload_n 3, 1) := by decide +kernel
theorem dL_act_114 : decode cL_act 114 = .ok (.invokevirtual 37, 3) := by decide +kernel
theorem dL_act_117 : decode cL_act 117 = .ok (.ireturn, 1) := by decide +kernel
theorem dL_act_118 : decode cL_act 118 = .ok (.aload_n 0, 1) := by decide +kernel
theorem dL_act_119 : decode cL_act 119 = .ok (.iload_n 3, 1) := by decide +kernel
theorem dL_act_120 : decode cL_act 120 = .ok (.iload 4, 2) := by decide +kernel
theorem dL_act_122 : decode cL_act 122 = .ok (.iload 5, 2) := by decide +kernel
theorem dL_act_124 : decode cL_act 124 = .ok (.invokevirtual 40, 3) := by decide +kernel
theorem dL_act_127 : decode cL_act 127 = .ok (.ireturn, 1) := by decide +kernel
theorem dL_act_128 : decode cL_act 128 = .ok (.aload_n 0, 1) := by decide +kernel
theorem dL_act_129 : decode cL_act 129 = .ok (.iload_n 3, 1) := by decide +kernel
theorem dL_act_130 : decode cL_act 130 = .ok (.invokevirtual 43, 3) := by decide +kernel
theorem dL_act_133 : decode cL_act 133 = .ok (.ireturn, 1) := by decide +kernel
theorem dL_act_134 : decode cL_act 134 = .ok (.aload_n 0, 1) := by decide +kernel
theorem dL_act_135 : decode cL_act 135 = .ok (.iload_n 3, 1) := by decide +kernel
theorem dL_act_136 : decode cL_act 136 = .ok (.iload_n 2, 1) := by decide +kernel
theorem dL_act_137 : decode cL_act 137 = .ok (.iconst 3, 1) := by decide +kernel
theorem dL_act_138 : decode cL_act 138 = .ok (.invokestatic 34, 3) := by decide +kernel
theorem dL_act_141 : decode cL_act 141 = .ok (.iload_n 2, 1) := by decide +kernel
theorem dL_act_142 : decode cL_act 142 = .ok (.iconst 2, 1) := by decide +kernel
theorem dL_act_143 : decode cL_act 143 = .ok (.ishr, 1) := by decide +kernel
theorem dL_act_144 : decode cL_act 144 = .ok (.sipush 201, 3) := by decide +kernel
theorem dL_act_147 : decode cL_act 147 = .ok (.invokestatic 34, 3) := by decide +kernel
theorem dL_act_150 : decode cL_act 150 = .ok (.bipush 100, 2) := by decide +kernel
theorem dL_act_152 : decode cL_act 152 = .ok (.isub, 1) := by decide +kernel
theorem dL_act_153 : decode cL_act 153 = .ok (.invokevirtual 46, 3) := by decide +kernel
theorem dL_act_156 : decode cL_act 156 = .ok (.ireturn, 1) := by decide +kernel
theorem dL_act_157 : decode cL_act 157 = .ok (.aload_n 0, 1) := by decide +kernel
theorem dL_act_158 : decode cL_act 158 = .ok (.iload_n 3, 1) := by decide +kernel
theorem dL_act_159 : decode cL_act 159 = .ok (.iload_n 2, 1) := by decide +kernel
theorem dL_act_160 : decode cL_act 160 = .ok (.iconst 3, 1) := by decide +kernel
theorem dL_act_161 : decode cL_act 161 = .ok (.invokestatic 34, 3) := by decide +kernel
theorem dL_act_164 : decode cL_act 164 = .ok (.invokevirtual 49, 3) := by decide +kernel
theorem dL_act_167 : decode cL_act 167 = .ok (.ireturn, 1) := by decide +kernel
theorem dL_act_168 : decode cL_act 168 = .ok (.aload_n 0, 1) := by decide +kernel
theorem dL_act_169 : decode cL_act 169 = .ok (.iload_n 2, 1) := by decide +kernel
theorem dL_act_170 : decode cL_act 170 = .ok (.iconst 1, 1) := by decide +kernel
theorem dL_act_171 : decode cL_act 171 = .ok (.iand, 1) := by decide +kernel
theorem dL_act_172 : decode cL_act 172 = .ok (.invokevirtual 52, 3) := by decide +kernel
theorem dL_act_175 : decode cL_act 175 = .ok (.ireturn, 1) := by decide +kernel
theorem dL_act_176 : decode cL_act 176 = .ok (.aload_n 0, 1) := by decide +kernel
theorem dL_act_177 : decode cL_act 177 = .ok (.invokevirtual 55, 3) := by decide +kernel
theorem dL_act_180 : decode cL_act 180 = .ok (.pop, 1) := by decide +kernel
theorem dL_act_181 : decode cL_act 181 = .ok (.aload_n 0, 1) := by decide +kernel
theorem dL_act_182 : decode cL_act 182 = .ok (.iload_n 2, 1) := by decide +kernel
theorem dL_act_183 : decode cL_act 183 = .ok (.iconst 1, 1) := by decide +kernel
theorem dL_act_184 : decode cL_act 184 = .ok (.iand, 1) := by decide +kernel
theorem dL_act_185 : decode cL_act 185 = .ok (.ifCond .ne 9, 3) := by decide +kernel
theorem dL_act_188 : decode cL_act 188 = .ok (.ldc2_w 59, 3) := by decide +kernel
theorem dL_act_191 : decode cL_act 191 = .ok (.goto 6, 3) := by decide +kernel
theorem dL_act_194 : decode cL_act 194 = .ok (.ldc2_w 61, 3) := by decide +kernel
theorem dL_act_197 : decode cL_act 197 = .ok (.invokevirtual 63, 3) := by decide +kernel
theorem dL_act_200 : decode cL_act 200 = .ok (.pop, 1) := by decide +kernel
theorem dL_act_201 : decode cL_act 201 = .ok (.aload_n 0, 1) := by decide +kernel
theorem dL_act_202 : decode cL_act 202 = .ok (.bipush 49, 2) := by decide +kernel
theorem dL_act_204 : decode cL_act 204 = .ok (.iload_n 2, 1) := by decide +kernel
theorem dL_act_205 : decode cL_act 205 = .ok (.iconst 1, 1) := by decide +kernel
theorem dL_act_206 : decode cL_act 206 = .ok (.ishr, 1) := by decide +kernel
theorem dL_act_207 : decode cL_act 207 = .ok (.bipush 9, 2) := by decide +kernel
theorem dL_act_209 : decode cL_act 209 = .ok (.invokestatic 34, 3) := by decide +kernel
theorem dL_act_212 : decode cL_act 212 = .ok (.iadd, 1) := by decide +kernel
theorem dL_act_213 : decode cL_act 213 = .ok (.i2l, 1) := by decide +kernel
theorem dL_act_214 : decode cL_act 214 = .ok (.invokevirtual 63, 3) := by decide +kernel
theorem dL_act_217 : decode cL_act 217 = .ok (.pop, 1) := by decide +kernel
theorem dL_act_218 : decode cL_act 218 = .ok (.aload_n 0, 1) := by decide +kernel
theorem dL_act_219 : decode cL_act 219 = .ok (.ldc2_w 67, 3) := by decide +kernel
theorem dL_act_222 : decode cL_act 222 = .ok (.invokevirtual 63, 3) := by decide +kernel
theorem dL_act_225 : decode cL_act 225 = .ok (.pop, 1) := by decide +kernel
theorem dL_act_226 : decode cL_act 226 = .ok (.aload_n 0, 1) := by decide +kernel
theorem dL_act_227 : decode cL_act 227 = .ok (.bipush 48, 2) := by decide +kernel
theorem dL_act_229 : decode cL_act 229 = .ok (.iload_n 2, 1) := by decide +kernel
theorem dL_act_230 : decode cL_act 230 = .ok (.iconst 5, 1) := by decide +kernel
theorem dL_act_231 : decode cL_act 231 = .ok (.ishr, 1) := by decide +kernel
theorem dL_act_232 : decode cL_act 232 = .ok (.bipush 10, 2) := by decide +kernel
theorem dL_act_234 : decode cL_act 234 = .ok (.invokestatic 34, 3) := by decide +kernel
theorem dL_act_237 : decode cL_act 237 = .ok (.iadd, 1) := by decide +kernel
theorem dL_act_238 : decode cL_act 238 = .ok (.i2l, 1) := by decide +kernel
theorem dL_act_239 : decode cL_act 239 = .ok (.invokevirtual 63, 3) := by decide +kernel
theorem dL_act_242 : decode cL_act 242 = .ok (.pop, 1) := by decide +kernel
theorem dL_act_243 : decode cL_act 243 = .ok (.aload_n 0, 1) := by decide +kernel
theorem dL_act_244 : decode cL_act 244 = .ok (.iload_n 3, 1) := by decide +kernel
theorem dL_act_245 : decode cL_act 245 = .ok (.invokevirtual 69, 3) := by decide +kernel
theorem dL_act_248 : decode cL_act 248 = .ok (.ireturn, 1) := by decide +kernel
theorem dL_act_249 : decode cL_act 249 = .ok (.aload_n 0, 1) := by decide +kernel
theorem dL_act_250 : decode cL_act 250 = .ok (.iload_n 3, 1) := by decide +kernel
theorem dL_act_251 : decode cL_act 251 = .ok (.iload 4, 2) := by decide +kernel
theorem dL_act_253 : decode cL_act 253 = .ok (.iload 5, 2) := by decide +kernel
theorem dL_act_255 : decode cL_act 255 = .ok (.iload_n 2, 1) := by decide +kernel
theorem dL_act_256 : decode cL_act 256 = .ok (.bipush 20, 2) := by decide +kernel
theorem dL_act_258 : decode cL_act 258 = .ok (.ishr, 1) := by decide +kernel
theorem dL_act_259 : decode cL_act 259 = .ok (.iconst 1, 1) := by decide +kernel
theorem dL_act_260 : decode cL_act 260 = .ok (.iand, 1) := by decide +kernel
theorem dL_act_261 : decode cL_act 261 = .ok (.ifCond .ne 14, 3) := by decide +kernel
theorem dL_act_264 : decode cL_act 264 = .ok (.iload_n 2, 1) := by decide +kernel
theorem dL_act_265 : decode cL_act 265 = .ok (.bipush 7, 2) := by decide +kernel
theorem dL_act_267 : decode cL_act 267 = .ok (.invokestatic 34, 3) := by decide +kernel
theorem dL_act_270 : decode cL_act 270 = .ok (.iconst 3, 1) := by decide +kernel
theorem dL_act_271 : decode cL_act 271 = .ok (.isub, 1) := by decide +kernel
theorem dL_act_272 : decode cL_act 272 = .ok (.goto 12, 3) := by decide +kernel
theorem dL_act_275 : decode cL_act 275 = .ok (.iload_n 2, 1) := by decide +kernel
theorem dL_act_276 : decode cL_act 276 = .ok (.ldc 72, 2) := by decide +kernel
theorem dL_act_278 : decode cL_act 278 = .ok (.invokestatic 34, 3) := by decide +kernel
theorem dL_act_281 : decode cL_act 281 = .ok (.ldc 73, 2) := by decide +kernel
theorem dL_act_283 : decode cL_act 283 = .ok (.isub, 1) := by decide +kernel
theorem dL_act_284 : decode cL_act 284 = .ok (.invokevirtual 74, 3) := by decide +kernel
theorem dL_act_287 : decode cL_act 287 = .ok (.ireturn, 1) := by decide +kernel
theorem dL_holds_0 : decode cL_holds 0 = .ok (.aload_n 0, 1) := by decide +kernel
theorem dL_holds_1 : decode cL_holds 1 = .ok (.iload_n 1, 1) := by decide +kernel
theorem dL_holds_2 : decode cL_holds 2 = .ok (.iconst 5, 1) := by decide +kernel
theorem dL_holds_3 : decode cL_holds 3 = .ok (.invokevirtual 18, 3) := by decide +kernel
theorem dL_holds_6 : decode cL_holds 6 = .ok (.istore_n 2, 1) := by decide +kernel
theorem dL_holds_7 : decode cL_holds 7 = .ok (.iconst 0, 1) := by decide +kernel
theorem dL_holds_8 : decode cL_holds 8 = .ok (.istore_n 3, 1) := by decide +kernel
theorem dL_holds_9 : decode cL_holds 9 = .ok (.iconst 0, 1) := by decide +kernel
theorem dL_holds_10 : decode cL_holds 10 = .ok (.istore 4, 2) := by decide +kernel
theorem dL_holds_12 : decode cL_holds 12 = .ok (.iconst 0, 1) := by decide +kernel
theorem dL_holds_13 : decode cL_holds 13 = .ok (.istore 5, 2) := by decide +kernel
theorem dL_holds_15 : decode cL_holds 15 = .ok (.iload 5, 2) := by decide +kernel
theorem dL_holds_17 : decode cL_holds 17 = .ok (.sipush 256, 3) := by decide +kernel
theorem dL_holds_20 : decode cL_holds 20 = .ok (.if_icmp .ge 231, 3) := by decide +kernel
theorem dL_holds_23 : decode cL_holds 23 = .ok (.iload 5, 2) := by decide +kernel
theorem dL_holds_25 : decode cL_holds 25 = .ok (.bipush 16, 2) := by decide +kernel
theorem dL_holds_27 : decode cL_holds 27 = .ok (.idiv, 1) := by decide +kernel
theorem dL_holds_28 : decode cL_holds 28 = .ok (.istore 6, 2) := by decide +kernel
theorem dL_holds_30 : decode cL_holds 30 = .ok (.iload 5, 2) := by decide +kernel
theorem dL_holds_32 : decode cL_holds 32 = .ok (.bipush 16, 2) := by decide +kernel
theorem dL_holds_34 : decode cL_holds 34 = .ok (.irem, 1) := by decide +kernel
theorem dL_holds_35 : decode cL_holds 35 = .ok (.istore 7, 2) := by decide +kernel
theorem dL_holds_37 : decode cL_holds 37 = .ok (.aload_n 0, 1) := by decide +kernel
theorem dL_holds_38 : decode cL_holds 38 = .ok (.iload_n 1, 1) := by decide +kernel
theorem dL_holds_39 : decode cL_holds 39 = .ok (.iload 6, 2) := by decide +kernel
theorem dL_holds_41 : decode cL_holds 41 = .ok (.iload 7, 2) := by decide +kernel
theorem dL_holds_43 : decode cL_holds 43 = .ok (.iconst 1, 1) := by decide +kernel
theorem dL_holds_44 : decode cL_holds 44 = .ok (.invokevirtual 78, 3) := by decide +kernel
theorem dL_holds_47 : decode cL_holds 47 = .ok (.istore 8, 2) := by decide +kernel
theorem dL_holds_49 : decode cL_holds 49 = .ok (.aload_n 0, 1) := by decide +kernel
theorem dL_holds_50 : decode cL_holds 50 = .ok (.iload_n 1, 1) := by decide +kernel
theorem dL_holds_51 : decode cL_holds 51 = .ok (.iload 6, 2) := by decide +kernel
theorem dL_holds_53 : decode cL_holds 53 = .ok (.iload 7, 2) := by decide +kernel
theorem dL_holds_55 : decode cL_holds 55 = .ok (.iconst 2, 1) := by decide +kernel
theorem dL_holds_56 : decode cL_holds 56 = .ok (.invokevirtual 78, 3) := by decide +kernel
theorem dL_holds_59 : decode cL_holds 59 = .ok (.istore 9, 2) := by decide +kernel
theorem dL_holds_61 : decode cL_holds 61 = .ok (.aload_n 0, 1) := by decide +kernel
theorem dL_holds_62 : decode cL_holds 62 = .ok (.iload_n 1, 1) := by decide +kernel
theorem dL_holds_63 : decode cL_holds 63 = .ok (.iload 6, 2) := by decide +kernel
theorem dL_holds_65 : decode cL_holds 65 = .ok (.iload 7, 2) := by decide +kernel
theorem dL_holds_67 : decode cL_holds 67 = .ok (.iconst 3, 1) := by decide +kernel
theorem dL_holds_68 : decode cL_holds 68 = .ok (.invokevirtual 78, 3) := by decide +kernel
theorem dL_holds_71 : decode cL_holds 71 = .ok (.istore 10, 2) := by decide +kernel
theorem dL_holds_73 : decode cL_holds 73 = .ok (.iload 9, 2) := by decide +kernel
theorem dL_holds_75 : decode cL_holds 75 = .ok (.iload 6, 2) := by decide +kernel
theorem dL_holds_77 : decode cL_holds 77 = .ok (.if_icmp .ne 14, 3) := by decide +kernel
theorem dL_holds_80 : decode cL_holds 80 = .ok (.iload 10, 2) := by decide +kernel
theorem dL_holds_82 : decode cL_holds 82 = .ok (.iload 7, 2) := by decide +kernel
theorem dL_holds_84 : decode cL_holds 84 = .ok (.if_icmp .ne 7, 3) := by decide +kernel
theorem dL_holds_87 : decode cL_holds 87 = .ok (.iconst 1, 1) := by decide +kernel
theorem dL_holds_88 : decode cL_holds 88 = .ok (.goto 4, 3) := by decide +kernel
theorem dL_holds_91 : decode cL_holds 91 = .ok (.iconst 0, 1) := by decide +kernel
theorem dL_holds_92 : decode cL_holds 92 = .ok (.istore 11, 2) := by decide +kernel
theorem dL_holds_94 : decode cL_holds 94 = .ok (.aload_n 0, 1) := by decide +kernel
theorem dL_holds_95 : decode cL_holds 95 = .ok (.iload_n 1, 1) := by decide +kernel
theorem dL_holds_96 : decode cL_holds 96 = .ok (.iload 6, 2) := by decide +kernel
theorem dL_holds_98 : decode cL_holds 98 = .ok (.iload 7, 2) := by decide +kernel
theorem dL_holds_100 : decode cL_holds 100 = .ok (.invokevirtual 12, 3) := by decide +kernel
theorem dL_holds_103 : decode cL_holds 103 = .ok (.istore 12, 2) := by decide +kernel
theorem dL_holds_105 : decode cL_holds 105 = .ok (.iload_n 3, 1) := by decide +kernel
theorem dL_holds_106 : decode cL_holds 106 = .ok (.iload 11, 2) := by decide +kernel
theorem dL_holds_108 : decode cL_holds 108 = .ok (.ifCond .eq 11, 3) := by decide +kernel
theorem dL_holds_111 : decode cL_holds 111 = .ok (.iload 8, 2) := by decide +kernel
theorem dL_holds_113 : decode cL_holds 113 = .ok (.iload 8, 2) := by decide +kernel
theorem dL_holds_115 : decode cL_holds 115 = .ok (.imul, 1) := by decide +kernel
theorem dL_holds_116 : decode cL_holds 116 = .ok (.goto 4, 3) := by decide +kernel
theorem dL_holds_119 : decode cL_holds 119 = .ok (.iconst 0, 1) := by decide +kernel
theorem dL_holds_120 : decode cL_holds 120 = .ok (.iadd, 1) := by decide +kernel
theorem dL_holds_121 : decode cL_holds 121 = .ok (.istore_n 3, 1) := by decide +kernel
theorem dL_holds_122 : decode cL_holds 122 = .ok (.iload_n 2, 1) := by decide +kernel
theorem dL_holds_123 : decode cL_holds 123 = .ok (.iload 11, 2) := by decide +kernel
theorem dL_holds_125 : decode cL_holds 125 = .ok (.ifCond .eq 16, 3) := by decide +kernel
theorem dL_holds_128 : decode cL_holds 128 = .ok (.aload_n 0, 1) := by decide +kernel
theorem dL_holds_129 : decode cL_holds 129 = .ok (.iload_n 1, 1) := by decide +kernel
theorem dL_holds_130 : decode cL_holds 130 = .ok (.iload 6, 2) := by decide +kernel
theorem dL_holds_132 : decode cL_holds 132 = .ok (.iload 7, 2) := by decide +kernel
theorem dL_holds_134 : decode cL_holds 134 = .ok (.iconst 4, 1) := by decide +kernel
theorem dL_holds_135 : decode cL_holds 135 = .ok (.invokevirtual 78, 3) := by decide +kernel
theorem dL_holds_138 : decode cL_holds 138 = .ok (.goto 4, 3) := by decide +kernel
theorem dL_holds_141 : decode cL_holds 141 = .ok (.iconst 0, 1) := by decide +kernel
theorem dL_holds_142 : decode cL_holds 142 = .ok (.iadd, 1) := by decide +kernel
theorem dL_holds_143 : decode cL_holds 143 = .ok (.istore_n 2, 1) := by decide +kernel
theorem dL_holds_144 : decode cL_holds 144 = .ok (.iload 4, 2) := by decide +kernel
theorem dL_holds_146 : decode cL_holds 146 = .ok (.iload 11, 2) := by decide +kernel
theorem dL_holds_148 : decode cL_holds 148 = .ok (.ifCond .eq 7, 3) := by decide +kernel
theorem dL_holds_151 : decode cL_holds 151 = .ok (.iconst 1, 1) := by decide +kernel
theorem dL_holds_152 : decode cL_holds 152 = .ok (.goto 4, 3) := by decide +kernel
theorem dL_holds_155 : decode cL_holds 155 = .ok (.iconst 0, 1) := by decide +kernel
theorem dL_holds_156 : decode cL_holds 156 = .ok (.iadd, 1) := by decide +kernel
theorem dL_holds_157 : decode cL_holds 157 = .ok (.istore 4, 2) := by decide +kernel
theorem dL_holds_159 : decode cL_holds 159 = .ok (.iload 12, 2) := by decide +kernel
theorem dL_holds_161 : decode cL_holds 161 = .ok (.ifCond .lt 82, 3) := by decide +kernel
theorem dL_holds_164 : decode cL_holds 164 = .ok (.iload 12, 2) := by decide +kernel
theorem dL_holds_166 : decode cL_holds 166 = .ok (.ldc 81, 2) := by decide +kernel
theorem dL_holds_168 : decode cL_holds 168 = .ok (.if_icmp .gt 75, 3) := by decide +kernel
theorem dL_holds_171 : decode cL_holds 171 = .ok (.iload 6, 2) := by decide +kernel
theorem dL_holds_173 : decode cL_holds 173 = .ok (.iload 9, 2) := by decide +kernel
theorem dL_holds_175 : decode cL_holds 175 = .ok (.if_icmp .lt 68, 3) := by decide +kernel
theorem dL_holds_178 : decode cL_holds 178 = .ok (.iload 6, 2) := by decide +kernel
theorem dL_holds_180 : decode cL_holds 180 = .ok (.iload 9, 2) := by decide +kernel
theorem dL_holds_182 : decode cL_holds 182 = .ok (.iload 8, 2) := by decide +kernel
theorem dL_holds_184 : decode cL_holds 184 = .ok (.iadd, 1) := by decide +kernel
theorem dL_holds_185 : decode cL_holds 185 = .ok (.if_icmp .ge 58, 3) := by decide +kernel
theorem dL_holds_188 : decode cL_holds 188 = .ok (.iload 7, 2) := by decide +kernel
theorem dL_holds_190 : decode cL_holds 190 = .ok (.iload 10, 2) := by decide +kernel
theorem dL_holds_192 : decode cL_holds 192 = .ok (.if_icmp .lt 51, 3) := by decide +kernel
theorem dL_holds_195 : decode cL_holds 195 = .ok (.iload 7, 2) := by decide +kernel
theorem dL_holds_197 : decode cL_holds 197 = .ok (.iload 10, 2) := by decide +kernel
theorem dL_holds_199 : decode cL_holds 199 = .ok (.iload 8, 2) := by decide +kernel
theorem dL_holds_201 : decode cL_holds 201 = .ok (.iadd, 1) := by decide +kernel
theorem dL_holds_202 : decode cL_holds 202 = .ok (.if_icmp .ge 41, 3) := by decide +kernel
theorem dL_holds_205 : decode cL_holds 205 = .ok (.iload 8, 2) := by decide +kernel
theorem dL_holds_207 : decode cL_holds 207 = .ok (.aload_n 0, 1) := by decide +kernel
theorem dL_holds_208 : decode cL_holds 208 = .ok (.iload_n 1, 1) := by decide +kernel
theorem dL_holds_209 : decode cL_holds 209 = .ok (.iload 6, 2) := by decide +kernel
theorem dL_holds_211 : decode cL_holds 211 = .ok (.iload 7, 2) := by decide +kernel
theorem dL_holds_213 : decode cL_holds 213 = .ok (.iconst 5, 1) := by decide +kernel
theorem dL_holds_214 : decode cL_holds 214 = .ok (.invokevirtual 78, 3) := by decide +kernel
theorem dL_holds_217 : decode cL_holds 217 = .ok (.ishl, 1) := by decide +kernel
theorem dL_holds_218 : decode cL_holds 218 = .ok (.bipush 16, 2) := by decide +kernel
theorem dL_holds_220 : decode cL_holds 220 = .ok (.if_icmp .ne 23, 3) := by decide +kernel
theorem dL_holds_223 : decode cL_holds 223 = .ok (.aload_n 0, 1) := by decide +kernel
theorem dL_holds_224 : decode cL_holds 224 = .ok (.iload_n 1, 1) := by decide +kernel
theorem dL_holds_225 : decode cL_holds 225 = .ok (.iload 6, 2) := by decide +kernel
theorem dL_holds_227 : decode cL_holds 227 = .ok (.iload 7, 2) := by decide +kernel
theorem dL_holds_229 : decode cL_holds 229 = .ok (.iconst 0, 1) := by decide +kernel
theorem dL_holds_230 : decode cL_holds 230 = .ok (.invokevirtual 78, 3) := by decide +kernel
theorem dL_holds_233 : decode cL_holds 233 = .ok (.ifCond .ne 12, 3) := by decide +kernel
theorem dL_holds_236 : decode cL_holds 236 = .ok (.iload 12, 2) := by decide +kernel
theorem dL_holds_238 : decode cL_holds 238 = .ok (.ldc 82, 2) := by decide +kernel
theorem dL_holds_240 : decode cL_holds 240 = .ok (.if_icmp .eq 5, 3) := by decide +kernel
theorem dL_holds_243 : decode cL_holds 243 = .ok (.iconst 0, 1) := by decide +kernel
theorem dL_holds_244 : decode cL_holds 244 = .ok (.ireturn, 1) := by decide +kernel
theorem dL_holds_245 : decode cL_holds 245 = .ok (.iinc 5 1, 3) := by decide +kernel
theorem dL_holds_248 : decode cL_holds 248 = .ok (.goto (-233), 3) := by decide +kernel
theorem dL_holds_251 : decode cL_holds 251 = .ok (.iload_n 3, 1) := by decide +kernel
theorem dL_holds_252 : decode cL_holds 252 = .ok (.sipush 256, 3) := by decide +kernel
theorem dL_holds_255 : decode cL_holds 255 = .ok (.if_icmp .ne 66, 3) := by decide +kernel
theorem dL_holds_258 : decode cL_holds 258 = .ok (.iload_n 2, 1) := by decide +kernel
theorem dL_holds_259 : decode cL_holds 259 = .ok (.aload_n 0, 1) := by decide +kernel
theorem dL_holds_260 : decode cL_holds 260 = .ok (.iload_n 1, 1) := by decide +kernel
theorem dL_holds_261 : decode cL_holds 261 = .ok (.iconst 0, 1) := by decide +kernel
theorem dL_holds_262 : decode cL_holds 262 = .ok (.invokevirtual 18, 3) := by decide +kernel
theorem dL_holds_265 : decode cL_holds 265 = .ok (.if_icmp .ne 56, 3) := by decide +kernel
theorem dL_holds_268 : decode cL_holds 268 = .ok (.iload 4, 2) := by decide +kernel
theorem dL_holds_270 : decode cL_holds 270 = .ok (.aload_n 0, 1) := by decide +kernel
theorem dL_holds_271 : decode cL_holds 271 = .ok (.iload_n 1, 1) := by decide +kernel
theorem dL_holds_272 : decode cL_holds 272 = .ok (.iconst 2, 1) := by decide +kernel
theorem dL_holds_273 : decode cL_holds 273 = .ok (.invokevirtual 18, 3) := by decide +kernel
theorem dL_holds_276 : decode cL_holds 276 = .ok (.aload_n 0, 1) := by decide +kernel
theorem dL_holds_277 : decode cL_holds 277 = .ok (.iload_n 1, 1) := by decide +kernel
theorem dL_holds_278 : decode cL_holds 278 = .ok (.iconst 3, 1) := by decide +kernel
theorem dL_holds_279 : decode cL_holds 279 = .ok (.invokevirtual 18, 3) := by decide +kernel
theorem dL_holds_282 : decode cL_holds 282 = .ok (.iadd, 1) := by decide +kernel
theorem dL_holds_283 : decode cL_holds 283 = .ok (.aload_n 0, 1) := by decide +kernel
theorem dL_holds_284 : decode cL_holds 284 = .ok (.iload_n 1, 1) := by decide +kernel
theorem dL_holds_285 : decode cL_holds 285 = .ok (.iconst 4, 1) := by decide +kernel
theorem dL_holds_286 : decode cL_holds 286 = .ok (.invokevirtual 18, 3) := by decide +kernel
theorem dL_holds_289 : decode cL_holds 289 = .ok (.iadd, 1) := by decide +kernel
theorem dL_holds_290 : decode cL_holds 290 = .ok (.if_icmp .ne 31, 3) := by decide +kernel
theorem dL_holds_293 : decode cL_holds 293 = .ok (.iload 4, 2) := by decide +kernel
theorem dL_holds_295 : decode cL_holds 295 = .ok (.iconst 1, 1) := by decide +kernel
theorem dL_holds_296 : decode cL_holds 296 = .ok (.iconst 3, 1) := by decide +kernel
theorem dL_holds_297 : decode cL_holds 297 = .ok (.aload_n 0, 1) := by decide +kernel
theorem dL_holds_298 : decode cL_holds 298 = .ok (.iload_n 1, 1) := by decide +kernel
theorem dL_holds_299 : decode cL_holds 299 = .ok (.iconst 5, 1) := by decide +kernel
theorem dL_holds_300 : decode cL_holds 300 = .ok (.invokevirtual 18, 3) := by decide +kernel
theorem dL_holds_303 : decode cL_holds 303 = .ok (.imul, 1) := by decide +kernel
theorem dL_holds_304 : decode cL_holds 304 = .ok (.iadd, 1) := by decide +kernel
theorem dL_holds_305 : decode cL_holds 305 = .ok (.if_icmp .ne 16, 3) := by decide +kernel
theorem dL_holds_308 : decode cL_holds 308 = .ok (.aload_n 0, 1) := by decide +kernel
theorem dL_holds_309 : decode cL_holds 309 = .ok (.iload_n 1, 1) := by decide +kernel
theorem dL_holds_310 : decode cL_holds 310 = .ok (.invokevirtual 83, 3) := by decide +kernel
theorem dL_holds_313 : decode cL_holds 313 = .ok (.iload_n 2, 1) := by decide +kernel
theorem dL_holds_314 : decode cL_holds 314 = .ok (.if_icmp .gt 7, 3) := by decide +kernel
theorem dL_holds_317 : decode cL_holds 317 = .ok (.iconst 1, 1) := by decide +kernel
theorem dL_holds_318 : decode cL_holds 318 = .ok (.goto 4, 3) := by decide +kernel
theorem dL_holds_321 : decode cL_holds 321 = .ok (.iconst 0, 1) := by decide +kernel
theorem dL_holds_322 : decode cL_holds 322 = .ok (.ireturn, 1) := by decide +kernel
theorem dL_law_0 : decode cL_law 0 = .ok (.new 13, 3) := by decide +kernel
theorem dL_law_3 : decode cL_law 3 = .ok (.dup, 1) := by decide +kernel
theorem dL_law_4 : decode cL_law 4 = .ok (.invokespecial 86, 3) := by decide +kernel
theorem dL_law_7 : decode cL_law 7 = .ok (.astore_n 1, 1) := by decide +kernel
theorem dL_law_8 : decode cL_law 8 = .ok (.aload_n 1, 1) := by decide +kernel
theorem dL_law_9 : decode cL_law 9 = .ok (.invokevirtual 87, 3) := by decide +kernel
theorem dL_law_12 : decode cL_law 12 = .ok (.bipush (-5), 2) := by decide +kernel
theorem dL_law_14 : decode cL_law 14 = .ok (.if_icmp .ne 21, 3) := by decide +kernel
theorem dL_law_17 : decode cL_law 17 = .ok (.aload_n 1, 1) := by decide +kernel
theorem dL_law_18 : decode cL_law 18 = .ok (.iconst 1, 1) := by decide +kernel
theorem dL_law_19 : decode cL_law 19 = .ok (.invokevirtual 52, 3) := by decide +kernel
theorem dL_law_22 : decode cL_law 22 = .ok (.bipush (-5), 2) := by decide +kernel
theorem dL_law_24 : decode cL_law 24 = .ok (.if_icmp .ne 11, 3) := by decide +kernel
theorem dL_law_27 : decode cL_law 27 = .ok (.aload_n 1, 1) := by decide +kernel
theorem dL_law_28 : decode cL_law 28 = .ok (.iconst 0, 1) := by decide +kernel
theorem dL_law_29 : decode cL_law 29 = .ok (.invokevirtual 90, 3) := by decide +kernel
theorem dL_law_32 : decode cL_law 32 = .ok (.ifCond .eq 5, 3) := by decide +kernel
theorem dL_law_35 : decode cL_law 35 = .ok (.iconst 0, 1) := by decide +kernel
theorem dL_law_36 : decode cL_law 36 = .ok (.ireturn, 1) := by decide +kernel
theorem dL_law_37 : decode cL_law 37 = .ok (.aload_n 1, 1) := by decide +kernel
theorem dL_law_38 : decode cL_law 38 = .ok (.invokestatic 93, 3) := by decide +kernel
theorem dL_law_41 : decode cL_law 41 = .ok (.lstore_n 2, 1) := by decide +kernel
theorem dL_law_42 : decode cL_law 42 = .ok (.iconst 0, 1) := by decide +kernel
theorem dL_law_43 : decode cL_law 43 = .ok (.istore 4, 2) := by decide +kernel
theorem dL_law_45 : decode cL_law 45 = .ok (.iload 4, 2) := by decide +kernel
theorem dL_law_47 : decode cL_law 47 = .ok (.bipush 26, 2) := by decide +kernel
theorem dL_law_49 : decode cL_law 49 = .ok (.if_icmp .ge 247, 3) := by decide +kernel
theorem dL_law_52 : decode cL_law 52 = .ok (.aload_n 0, 1) := by decide +kernel
theorem dL_law_53 : decode cL_law 53 = .ok (.iconst 2, 1) := by decide +kernel
theorem dL_law_54 : decode cL_law 54 = .ok (.iload 4, 2) := by decide +kernel
theorem dL_law_56 : decode cL_law 56 = .ok (.imul, 1) := by decide +kernel
theorem dL_law_57 : decode cL_law 57 = .ok (.invokestatic 97, 3) := by decide +kernel
theorem dL_law_60 : decode cL_law 60 = .ok (.istore 5, 2) := by decide +kernel
theorem dL_law_62 : decode cL_law 62 = .ok (.aload_n 0, 1) := by decide +kernel
theorem dL_law_63 : decode cL_law 63 = .ok (.iconst 2, 1) := by decide +kernel
theorem dL_law_64 : decode cL_law 64 = .ok (.iload 4, 2) := by decide +kernel
theorem dL_law_66 : decode cL_law 66 = .ok (.imul, 1) := by decide +kernel
theorem dL_law_67 : decode cL_law 67 = .ok (.iconst 1, 1) := by decide +kernel
theorem dL_law_68 : decode cL_law 68 = .ok (.iadd, 1) := by decide +kernel
theorem dL_law_69 : decode cL_law 69 = .ok (.invokestatic 97, 3) := by decide +kernel
theorem dL_law_72 : decode cL_law 72 = .ok (.istore 6, 2) := by decide +kernel
theorem dL_law_74 : decode cL_law 74 = .ok (.aload_n 1, 1) := by decide +kernel
theorem dL_law_75 : decode cL_law 75 = .ok (.invokestatic 93, 3) := by decide +kernel
theorem dL_law_78 : decode cL_law 78 = .ok (.lstore 7, 2) := by decide +kernel
theorem dL_law_80 : decode cL_law 80 = .ok (.aload_n 1, 1) := by decide +kernel
theorem dL_law_81 : decode cL_law 81 = .ok (.iconst 4, 1) := by decide +kernel
theorem dL_law_82 : decode cL_law 82 = .ok (.invokevirtual 28, 3) := by decide +kernel
theorem dL_law_85 : decode cL_law 85 = .ok (.istore 9, 2) := by decide +kernel
theorem dL_law_87 : decode cL_law 87 = .ok (.aload_n 1, 1) := by decide +kernel
theorem dL_law_88 : decode cL_law 88 = .ok (.iload 5, 2) := by decide +kernel
theorem dL_law_90 : decode cL_law 90 = .ok (.iload 6, 2) := by decide +kernel
theorem dL_law_92 : decode cL_law 92 = .ok (.invokestatic 101, 3) := by decide +kernel
theorem dL_law_95 : decode cL_law 95 = .ok (.istore 10, 2) := by decide +kernel
theorem dL_law_97 : decode cL_law 97 = .ok (.aload_n 1, 1) := by decide +kernel
theorem dL_law_98 : decode cL_law 98 = .ok (.invokestatic 93, 3) := by decide +kernel
theorem dL_law_101 : decode cL_law 101 = .ok (.lstore 11, 2) := by decide +kernel
theorem dL_law_103 : decode cL_law 103 = .ok (.iload 10, 2) := by decide +kernel
theorem dL_law_105 : decode cL_law 105 = .ok (.ifCond .ge 24, 3) := by decide +kernel
theorem dL_law_108 : decode cL_law 108 = .ok (.lload 11, 2) := by decide +kernel
theorem dL_law_110 : decode cL_law 110 = .ok (.lload 7, 2) := by decide +kernel
theorem dL_law_112 : decode cL_law 112 = .ok (.lcmp, 1) := by decide +kernel
theorem dL_law_113 : decode cL_law 113 = .ok (.ifCond .ne 40, 3) := by decide +kernel
theorem dL_law_116 : decode cL_law 116 = .ok (.aload_n 1, 1) := by decide +kernel
theorem dL_law_117 : decode cL_law 117 = .ok (.iconst 4, 1) := by decide +kernel
theorem dL_law_118 : decode cL_law 118 = .ok (.invokevirtual 28, 3) := by decide +kernel
theorem dL_law_121 : decode cL_law 121 = .ok (.iload 9, 2) := by decide +kernel
theorem dL_law_123 : decode cL_law 123 = .ok (.if_icmp .eq 32, 3) := by decide +kernel
theorem dL_law_126 : decode cL_law 126 = .ok (.goto 27, 3) := by decide +kernel
theorem dL_law_129 : decode cL_law 129 = .ok (.aload_n 1, 1) := by decide +kernel
theorem dL_law_130 : decode cL_law 130 = .ok (.iconst 4, 1) := by decide +kernel
theorem dL_law_131 : decode cL_law 131 = .ok (.invokevirtual 28, 3) := by decide +kernel
theorem dL_law_134 : decode cL_law 134 = .ok (.iload 9, 2) := by decide +kernel
theorem dL_law_136 : decode cL_law 136 = .ok (.bipush 6, 2) := by decide +kernel
theorem dL_law_138 : decode cL_law 138 = .ok (.if_icmp .ge 10, 3) := by decide +kernel
theorem dL_law_141 : decode cL_law 141 = .ok (.iload 9, 2) := by decide +kernel
theorem dL_law_143 : decode cL_law 143 = .ok (.iconst 1, 1) := by decide +kernel
theorem dL_law_144 : decode cL_law 144 = .ok (.iadd, 1) := by decide +kernel
theorem dL_law_145 : decode cL_law 145 = .ok (.goto 5, 3) := by decide +kernel
theorem dL_law_148 : decode cL_law 148 = .ok (.bipush 6, 2) := by decide +kernel
theorem dL_law_150 : decode cL_law 150 = .ok (.if_icmp .eq 5, 3) := by decide +kernel
theorem dL_law_153 : decode cL_law 153 = .ok (.iconst 0, 1) := by decide +kernel
theorem dL_law_154 : decode cL_law 154 = .ok (.ireturn, 1) := by decide +kernel
theorem dL_law_155 : decode cL_law 155 = .ok (.iload 10, 2) := by decide +kernel
theorem dL_law_157 : decode cL_law 157 = .ok (.ifCond .lt 21, 3) := by decide +kernel
theorem dL_law_160 : decode cL_law 160 = .ok (.iload 5, 2) := by decide +kernel
theorem dL_law_162 : decode cL_law 162 = .ok (.bipush 15, 2) := by decide +kernel
theorem dL_law_164 : decode cL_law 164 = .ok (.iand, 1) := by decide +kernel
theorem dL_law_165 : decode cL_law 165 = .ok (.iconst 5, 1) := by decide +kernel
theorem dL_law_166 : decode cL_law 166 = .ok (.if_icmp .ne 12, 3) := by decide +kernel
theorem dL_law_169 : decode cL_law 169 = .ok (.lload 11, 2) := by decide +kernel
theorem dL_law_171 : decode cL_law 171 = .ok (.lload_n 2, 1) := by decide +kernel
theorem dL_law_172 : decode cL_law 172 = .ok (.lcmp, 1) := by decide +kernel
theorem dL_law_173 : decode cL_law 173 = .ok (.ifCond .eq 5, 3) := by decide +kernel
theorem dL_law_176 : decode cL_law 176 = .ok (.iconst 0, 1) := by decide +kernel
theorem dL_law_177 : decode cL_law 177 = .ok (.ireturn, 1) := by decide +kernel
theorem dL_law_178 : decode cL_law 178 = .ok (.iload 10, 2) := by decide +kernel
theorem dL_law_180 : decode cL_law 180 = .ok (.ifCond .lt 66, 3) := by decide +kernel
theorem dL_law_183 : decode cL_law 183 = .ok (.iload 5, 2) := by decide +kernel
theorem dL_law_185 : decode cL_law 185 = .ok (.bipush 12, 2) := by decide +kernel
theorem dL_law_187 : decode cL_law 187 = .ok (.ishr, 1) := by decide +kernel
theorem dL_law_188 : decode cL_law 188 = .ok (.iconst 1, 1) := by decide +kernel
theorem dL_law_189 : decode cL_law 189 = .ok (.iand, 1) := by decide +kernel
theorem dL_law_190 : decode cL_law 190 = .ok (.ifCond .ne 56, 3) := by decide +kernel
theorem dL_law_193 : decode cL_law 193 = .ok (.aload_n 1, 1) := by decide +kernel
theorem dL_law_194 : decode cL_law 194 = .ok (.iconst 4, 1) := by decide +kernel
theorem dL_law_195 : decode cL_law 195 = .ok (.invokevirtual 28, 3) := by decide +kernel
theorem dL_law_198 : decode cL_law 198 = .ok (.iconst 1, 1) := by decide +kernel
theorem dL_law_199 : decode cL_law 199 = .ok (.isub, 1) := by decide +kernel
theorem dL_law_200 : decode cL_law 200 = .ok (.istore 13, 2) := by decide +kernel
theorem dL_law_202 : decode cL_law 202 = .ok (.aload_n 1, 1) := by decide +kernel
theorem dL_law_203 : decode cL_law 203 = .ok (.invokevirtual 87, 3) := by decide +kernel
theorem dL_law_206 : decode cL_law 206 = .ok (.iload 13, 2) := by decide +kernel
theorem dL_law_208 : decode cL_law 208 = .ok (.if_icmp .ne 36, 3) := by decide +kernel
theorem dL_law_211 : decode cL_law 211 = .ok (.aload_n 1, 1) := by decide +kernel
theorem dL_law_212 : decode cL_law 212 = .ok (.invokestatic 93, 3) := by decide +kernel
theorem dL_law_215 : decode cL_law 215 = .ok (.lload 7, 2) := by decide +kernel
theorem dL_law_217 : decode cL_law 217 = .ok (.lcmp, 1) := by decide +kernel
theorem dL_law_218 : decode cL_law 218 = .ok (.ifCond .ne 26, 3) := by decide +kernel
theorem dL_law_221 : decode cL_law 221 = .ok (.aload_n 1, 1) := by decide +kernel
theorem dL_law_222 : decode cL_law 222 = .ok (.iload 5, 2) := by decide +kernel
theorem dL_law_224 : decode cL_law 224 = .ok (.iload 6, 2) := by decide +kernel
theorem dL_law_226 : decode cL_law 226 = .ok (.invokestatic 101, 3) := by decide +kernel
theorem dL_law_229 : decode cL_law 229 = .ok (.iload 10, 2) := by decide +kernel
theorem dL_law_231 : decode cL_law 231 = .ok (.if_icmp .ne 13, 3) := by decide +kernel
theorem dL_law_234 : decode cL_law 234 = .ok (.aload_n 1, 1) := by decide +kernel
theorem dL_law_235 : decode cL_law 235 = .ok (.invokestatic 93, 3) := by decide +kernel
theorem dL_law_238 : decode cL_law 238 = .ok (.lload 11, 2) := by decide +kernel
theorem dL_law_240 : decode cL_law 240 = .ok (.lcmp, 1) := by decide +kernel
theorem dL_law_241 : decode cL_law 241 = .ok (.ifCond .eq 5, 3) := by decide +kernel
theorem dL_law_244 : decode cL_law 244 = .ok (.iconst 0, 1) := by decide +kernel
theorem dL_law_245 : decode cL_law 245 = .ok (.ireturn, 1) := by decide +kernel
theorem dL_law_246 : decode cL_law 246 = .ok (.iload 4, 2) := by decide +kernel
theorem dL_law_248 : decode cL_law 248 = .ok (.iconst 5, 1) := by decide +kernel
theorem dL_law_249 : decode cL_law 249 = .ok (.irem, 1) := by decide +kernel
theorem dL_law_250 : decode cL_law 250 = .ok (.iconst 4, 1) := by decide +kernel
theorem dL_law_251 : decode cL_law 251 = .ok (.if_icmp .ne 18, 3) := by decide +kernel
theorem dL_law_254 : decode cL_law 254 = .ok (.aload_n 1, 1) := by decide +kernel
theorem dL_law_255 : decode cL_law 255 = .ok (.iload 6, 2) := by decide +kernel
theorem dL_law_257 : decode cL_law 257 = .ok (.iconst 4, 1) := by decide +kernel
theorem dL_law_258 : decode cL_law 258 = .ok (.invokestatic 34, 3) := by decide +kernel
theorem dL_law_261 : decode cL_law 261 = .ok (.invokestatic 105, 3) := by decide +kernel
theorem dL_law_264 : decode cL_law 264 = .ok (.ifCond .ne 5, 3) := by decide +kernel
theorem dL_law_267 : decode cL_law 267 = .ok (.iconst 0, 1) := by decide +kernel
theorem dL_law_268 : decode cL_law 268 = .ok (.ireturn, 1) := by decide +kernel
theorem dL_law_269 : decode cL_law 269 = .ok (.iload 5, 2) := by decide +kernel
theorem dL_law_271 : decode cL_law 271 = .ok (.bipush 13, 2) := by decide +kernel
theorem dL_law_273 : decode cL_law 273 = .ok (.ishr, 1) := by decide +kernel
theorem dL_law_274 : decode cL_law 274 = .ok (.bipush 7, 2) := by decide +kernel
theorem dL_law_276 : decode cL_law 276 = .ok (.iand, 1) := by decide +kernel
theorem dL_law_277 : decode cL_law 277 = .ok (.iconst 1, 1) := by decide +kernel
theorem dL_law_278 : decode cL_law 278 = .ok (.if_icmp .ne 12, 3) := by decide +kernel
theorem dL_law_281 : decode cL_law 281 = .ok (.aload_n 1, 1) := by decide +kernel
theorem dL_law_282 : decode cL_law 282 = .ok (.iconst 0, 1) := by decide +kernel
theorem dL_law_283 : decode cL_law 283 = .ok (.invokevirtual 90, 3) := by decide +kernel
theorem dL_law_286 : decode cL_law 286 = .ok (.pop, 1) := by decide +kernel
theorem dL_law_287 : decode cL_law 287 = .ok (.lload 11, 2) := by decide +kernel
theorem dL_law_289 : decode cL_law 289 = .ok (.lstore_n 2, 1) := by decide +kernel
theorem dL_law_290 : decode cL_law 290 = .ok (.iinc 4 1, 3) := by decide +kernel
theorem dL_law_293 : decode cL_law 293 = .ok (.goto (-248), 3) := by decide +kernel
theorem dL_law_296 : decode cL_law 296 = .ok (.iconst 1, 1) := by decide +kernel
theorem dL_law_297 : decode cL_law 297 = .ok (.ireturn, 1) := by decide +kernel
