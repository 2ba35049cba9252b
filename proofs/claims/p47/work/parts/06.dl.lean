theorem dL_cell_0 : decode cL_cell 0 = .ok (.aload_n 0, 1) := by decide +kernel
theorem dL_cell_1 : decode cL_cell 1 = .ok (.arraylength, 1) := by decide +kernel
theorem dL_cell_2 : decode cL_cell 2 = .ok (.ifCond .ne 7, 3) := by decide +kernel
theorem dL_cell_5 : decode cL_cell 5 = .ok (.iconst 0, 1) := by decide +kernel
theorem dL_cell_6 : decode cL_cell 6 = .ok (.goto 9, 3) := by decide +kernel
theorem dL_cell_9 : decode cL_cell 9 = .ok (.aload_n 0, 1) := by decide +kernel
theorem dL_cell_10 : decode cL_cell 10 = .ok (.iload_n 1, 1) := by decide +kernel
theorem dL_cell_11 : decode cL_cell 11 = .ok (.aload_n 0, 1) := by decide +kernel
theorem dL_cell_12 : decode cL_cell 12 = .ok (.arraylength, 1) := by decide +kernel
theorem dL_cell_13 : decode cL_cell 13 = .ok (.irem, 1) := by decide +kernel
theorem dL_cell_14 : decode cL_cell 14 = .ok (.iaload, 1) := by decide +kernel
theorem dL_cell_15 : decode cL_cell 15 = .ok (.ireturn, 1) := by decide +kernel
theorem dL_low_0 : decode cL_low 0 = .ok (.iload_n 0, 1) := by decide +kernel
theorem dL_low_1 : decode cL_low 1 = .ok (.iconst 1, 1) := by decide +kernel
theorem dL_low_2 : decode cL_low 2 = .ok (.iushr, 1) := by decide +kernel
theorem dL_low_3 : decode cL_low 3 = .ok (.iload_n 1, 1) := by decide +kernel
theorem dL_low_4 : decode cL_low 4 = .ok (.irem, 1) := by decide +kernel
theorem dL_low_5 : decode cL_low 5 = .ok (.ireturn, 1) := by decide +kernel
theorem dL_letter_0 : decode cL_letter 0 = .ok (.iload_n 0, 1) := by decide +kernel
theorem dL_letter_1 : decode cL_letter 1 = .ok (.ifCond .ne 8, 3) := by decide +kernel
theorem dL_letter_4 : decode cL_letter 4 = .ok (.bipush 104, 2) := by decide +kernel
theorem dL_letter_6 : decode cL_letter 6 = .ok (.goto 45, 3) := by decide +kernel
theorem dL_letter_9 : decode cL_letter 9 = .ok (.iload_n 0, 1) := by decide +kernel
theorem dL_letter_10 : decode cL_letter 10 = .ok (.iconst 1, 1) := by decide +kernel
theorem dL_letter_11 : decode cL_letter 11 = .ok (.if_icmp .ne 8, 3) := by decide +kernel
theorem dL_letter_14 : decode cL_letter 14 = .ok (.bipush 118, 2) := by decide +kernel
theorem dL_letter_16 : decode cL_letter 16 = .ok (.goto 35, 3) := by decide +kernel
theorem dL_letter_19 : decode cL_letter 19 = .ok (.iload_n 0, 1) := by decide +kernel
theorem dL_letter_20 : decode cL_letter 20 = .ok (.iconst 2, 1) := by decide +kernel
theorem dL_letter_21 : decode cL_letter 21 = .ok (.if_icmp .ne 8, 3) := by decide +kernel
theorem dL_letter_24 : decode cL_letter 24 = .ok (.bipush 114, 2) := by decide +kernel
theorem dL_letter_26 : decode cL_letter 26 = .ok (.goto 25, 3) := by decide +kernel
theorem dL_letter_29 : decode cL_letter 29 = .ok (.iload_n 0, 1) := by decide +kernel
theorem dL_letter_30 : decode cL_letter 30 = .ok (.iconst 3, 1) := by decide +kernel
theorem dL_letter_31 : decode cL_letter 31 = .ok (.if_icmp .ne 8, 3) := by decide +kernel
theorem dL_letter_34 : decode cL_letter 34 = .ok (.bipush 100, 2) := by decide +kernel
theorem dL_letter_36 : decode cL_letter 36 = .ok (.goto 15, 3) := by decide +kernel
theorem dL_letter_39 : decode cL_letter 39 = .ok (.iload_n 0, 1) := by decide +kernel
theorem dL_letter_40 : decode cL_letter 40 = .ok (.iconst 4, 1) := by decide +kernel
theorem dL_letter_41 : decode cL_letter 41 = .ok (.if_icmp .ne 8, 3) := by decide +kernel
theorem dL_letter_44 : decode cL_letter 44 = .ok (.bipush 105, 2) := by decide +kernel
theorem dL_letter_46 : decode cL_letter 46 = .ok (.goto 5, 3) := by decide +kernel
theorem dL_letter_49 : decode cL_letter 49 = .ok (.bipush 109, 2) := by decide +kernel
theorem dL_letter_51 : decode cL_letter 51 = .ok (.ireturn, 1) := by decide +kernel
theorem dL_figures_0 : decode cL_figures 0 = .ok (.aload_n 0, 1) := by decide +kernel
theorem dL_figures_1 : decode cL_figures 1 = .ok (.iload_n 1, 1) := by decide +kernel
theorem dL_figures_2 : decode cL_figures 2 = .ok (.iload_n 2, 1) := by decide +kernel
theorem dL_figures_3 : decode cL_figures 3 = .ok (.bipush 48, 2) := by decide +kernel
theorem dL_figures_5 : decode cL_figures 5 = .ok (.iload_n 3, 1) := by decide +kernel
theorem dL_figures_6 : decode cL_figures 6 = .ok (.bipush 10, 2) := by decide +kernel
theorem dL_figures_8 : decode cL_figures 8 = .ok (.idiv, 1) := by decide +kernel
theorem dL_figures_9 : decode cL_figures 9 = .ok (.iadd, 1) := by decide +kernel
theorem dL_figures_10 : decode cL_figures 10 = .ok (.invokevirtual 9, 3) := by decide +kernel
theorem dL_figures_13 : decode cL_figures 13 = .ok (.sipush 1032, 3) := by decide +kernel
theorem dL_figures_16 : decode cL_figures 16 = .ok (.if_icmp .ne 28, 3) := by decide +kernel
theorem dL_figures_19 : decode cL_figures 19 = .ok (.aload_n 0, 1) := by decide +kernel
theorem dL_figures_20 : decode cL_figures 20 = .ok (.iload_n 1, 1) := by decide +kernel
theorem dL_figures_21 : decode cL_figures 21 = .ok (.iload_n 2, 1) := by decide +kernel
theorem dL_figures_22 : decode cL_figures 22 = .ok (.iconst 1, 1) := by decide +kernel
theorem dL_figures_23 : decode cL_figures 23 = .ok (.iadd, 1) := by decide +kernel
theorem dL_figures_24 : decode cL_figures 24 = .ok (.bipush 48, 2) := by decide +kernel
theorem dL_figures_26 : decode cL_figures 26 = .ok (.iload_n 3, 1) := by decide +kernel
theorem dL_figures_27 : decode cL_figures 27 = .ok (.bipush 10, 2) := by decide +kernel
theorem dL_figures_29 : decode cL_figures 29 = .ok (.irem, 1) := by decide +kernel
theorem dL_figures_30 : decode cL_figures 30 = .ok (.iadd, 1) := by decide +kernel
theorem dL_figures_31 : decode cL_figures 31 = .ok (.invokevirtual 9, 3) := by decide +kernel
theorem dL_figures_34 : decode cL_figures 34 = .ok (.sipush 1032, 3) := by decide +kernel
theorem dL_figures_37 : decode cL_figures 37 = .ok (.if_icmp .ne 7, 3) := by decide +kernel
theorem dL_figures_40 : decode cL_figures 40 = .ok (.iconst 1, 1) := by decide +kernel
theorem dL_figures_41 : decode cL_figures 41 = .ok (.goto 4, 3) := by decide +kernel
theorem dL_figures_44 : decode cL_figures 44 = .ok (.iconst 0, 1) := by decide +kernel
theorem dL_figures_45 : decode cL_figures 45 = .ok (.ireturn, 1) := by decide +kernel
theorem dL_built_0 : decode cL_built 0 = .ok (.aload_n 1, 1) := by decide +kernel
theorem dL_built_1 : decode cL_built 1 = .ok (.iload_n 2, 1) := by decide +kernel
theorem dL_built_2 : decode cL_built 2 = .ok (.invokestatic 15, 3) := by decide +kernel
theorem dL_built_5 : decode cL_built 5 = .ok (.istore 6, 2) := by decide +kernel
theorem dL_built_7 : decode cL_built 7 = .ok (.iconst 0, 1) := by decide +kernel
theorem dL_built_8 : decode cL_built 8 = .ok (.istore 7, 2) := by decide +kernel
theorem dL_built_10 : decode cL_built 10 = .ok (.iload 7, 2) := by decide +kernel
theorem dL_built_12 : decode cL_built 12 = .ok (.bipush 23, 2) := by decide +kernel
theorem dL_built_14 : decode cL_built 14 = .ok (.if_icmp .ge 27, 3) := by decide +kernel
theorem dL_built_17 : decode cL_built 17 = .ok (.aload 5, 2) := by decide +kernel
theorem dL_built_19 : decode cL_built 19 = .ok (.iload 7, 2) := by decide +kernel
theorem dL_built_21 : decode cL_built 21 = .ok (.iload 7, 2) := by decide +kernel
theorem dL_built_23 : decode cL_built 23 = .ok (.bipush 17, 2) := by decide +kernel
theorem dL_built_25 : decode cL_built 25 = .ok (.if_icmp .ge 7, 3) := by decide +kernel
theorem dL_built_28 : decode cL_built 28 = .ok (.iconst 0, 1) := by decide +kernel
theorem dL_built_29 : decode cL_built 29 = .ok (.goto 5, 3) := by decide +kernel
theorem dL_built_32 : decode cL_built 32 = .ok (.bipush (-9), 2) := by decide +kernel
theorem dL_built_34 : decode cL_built 34 = .ok (.iastore, 1) := by decide +kernel
theorem dL_built_35 : decode cL_built 35 = .ok (.iinc 7 1, 3) := by decide +kernel
theorem dL_built_38 : decode cL_built 38 = .ok (.goto (-28), 3) := by decide +kernel
theorem dL_built_41 : decode cL_built 41 = .ok (.aload 4, 2) := by decide +kernel
theorem dL_built_43 : decode cL_built 43 = .ok (.iconst 0, 1) := by decide +kernel
theorem dL_built_44 : decode cL_built 44 = .ok (.iload 6, 2) := by decide +kernel
theorem dL_built_46 : decode cL_built 46 = .ok (.iload 6, 2) := by decide +kernel
theorem dL_built_48 : decode cL_built 48 = .ok (.bipush 20, 2) := by decide +kernel
theorem dL_built_50 : decode cL_built 50 = .ok (.ishr, 1) := by decide +kernel
theorem dL_built_51 : decode cL_built 51 = .ok (.iconst 2, 1) := by decide +kernel
theorem dL_built_52 : decode cL_built 52 = .ok (.invokestatic 21, 3) := by decide +kernel
theorem dL_built_55 : decode cL_built 55 = .ok (.ifCond .ne 8, 3) := by decide +kernel
theorem dL_built_58 : decode cL_built 58 = .ok (.bipush 100, 2) := by decide +kernel
theorem dL_built_60 : decode cL_built 60 = .ok (.goto 5, 3) := by decide +kernel
theorem dL_built_63 : decode cL_built 63 = .ok (.bipush 20, 2) := by decide +kernel
theorem dL_built_65 : decode cL_built 65 = .ok (.invokestatic 21, 3) := by decide +kernel
theorem dL_built_68 : decode cL_built 68 = .ok (.iastore, 1) := by decide +kernel
theorem dL_built_69 : decode cL_built 69 = .ok (.aload 4, 2) := by decide +kernel
theorem dL_built_71 : decode cL_built 71 = .ok (.iconst 1, 1) := by decide +kernel
theorem dL_built_72 : decode cL_built 72 = .ok (.iconst 1, 1) := by decide +kernel
theorem dL_built_73 : decode cL_built 73 = .ok (.iload 6, 2) := by decide +kernel
theorem dL_built_75 : decode cL_built 75 = .ok (.bipush 7, 2) := by decide +kernel
theorem dL_built_77 : decode cL_built 77 = .ok (.ishr, 1) := by decide +kernel
theorem dL_built_78 : decode cL_built 78 = .ok (.iload_n 3, 1) := by decide +kernel
theorem dL_built_79 : decode cL_built 79 = .ok (.invokestatic 21, 3) := by decide +kernel
theorem dL_built_82 : decode cL_built 82 = .ok (.iadd, 1) := by decide +kernel
theorem dL_built_83 : decode cL_built 83 = .ok (.iastore, 1) := by decide +kernel
theorem dL_built_84 : decode cL_built 84 = .ok (.aload 5, 2) := by decide +kernel
theorem dL_built_86 : decode cL_built 86 = .ok (.iconst 3, 1) := by decide +kernel
theorem dL_built_87 : decode cL_built 87 = .ok (.iload 6, 2) := by decide +kernel
theorem dL_built_89 : decode cL_built 89 = .ok (.bipush 10, 2) := by decide +kernel
theorem dL_built_91 : decode cL_built 91 = .ok (.ishr, 1) := by decide +kernel
theorem dL_built_92 : decode cL_built 92 = .ok (.iconst 2, 1) := by decide +kernel
theorem dL_built_93 : decode cL_built 93 = .ok (.invokestatic 21, 3) := by decide +kernel
theorem dL_built_96 : decode cL_built 96 = .ok (.iastore, 1) := by decide +kernel
theorem dL_built_97 : decode cL_built 97 = .ok (.aload_n 0, 1) := by decide +kernel
theorem dL_built_98 : decode cL_built 98 = .ok (.iconst 3, 1) := by decide +kernel
theorem dL_built_99 : decode cL_built 99 = .ok (.bipush 50, 2) := by decide +kernel
theorem dL_built_101 : decode cL_built 101 = .ok (.invokevirtual 25, 3) := by decide +kernel
theorem dL_built_104 : decode cL_built 104 = .ok (.bipush 50, 2) := by decide +kernel
theorem dL_built_106 : decode cL_built 106 = .ok (.if_icmp .ne 7, 3) := by decide +kernel
theorem dL_built_109 : decode cL_built 109 = .ok (.iconst 1, 1) := by decide +kernel
theorem dL_built_110 : decode cL_built 110 = .ok (.goto 4, 3) := by decide +kernel
theorem dL_built_113 : decode cL_built 113 = .ok (.iconst 0, 1) := by decide +kernel
theorem dL_built_114 : decode cL_built 114 = .ok (.istore 7, 2) := by decide +kernel
theorem dL_built_116 : decode cL_built 116 = .ok (.iload 6, 2) := by decide +kernel
theorem dL_built_118 : decode cL_built 118 = .ok (.bipush 11, 2) := by decide +kernel
theorem dL_built_120 : decode cL_built 120 = .ok (.ishr, 1) := by decide +kernel
theorem dL_built_121 : decode cL_built 121 = .ok (.iconst 3, 1) := by decide +kernel
theorem dL_built_122 : decode cL_built 122 = .ok (.invokestatic 21, 3) := by decide +kernel
theorem dL_built_125 : decode cL_built 125 = .ok (.istore 8, 2) := by decide +kernel
theorem dL_built_127 : decode cL_built 127 = .ok (.iload 7, 2) := by decide +kernel
theorem dL_built_129 : decode cL_built 129 = .ok (.ifCond .eq 60, 3) := by decide +kernel
theorem dL_built_132 : decode cL_built 132 = .ok (.aload_n 0, 1) := by decide +kernel
theorem dL_built_133 : decode cL_built 133 = .ok (.iconst 3, 1) := by decide +kernel
theorem dL_built_134 : decode cL_built 134 = .ok (.iload 8, 2) := by decide +kernel
theorem dL_built_136 : decode cL_built 136 = .ok (.bipush 115, 2) := by decide +kernel
theorem dL_built_138 : decode cL_built 138 = .ok (.invokevirtual 9, 3) := by decide +kernel
theorem dL_built_141 : decode cL_built 141 = .ok (.sipush 1032, 3) := by decide +kernel
theorem dL_built_144 : decode cL_built 144 = .ok (.if_icmp .ne 45, 3) := by decide +kernel
theorem dL_built_147 : decode cL_built 147 = .ok (.aload_n 0, 1) := by decide +kernel
theorem dL_built_148 : decode cL_built 148 = .ok (.iconst 3, 1) := by decide +kernel
theorem dL_built_149 : decode cL_built 149 = .ok (.iload 8, 2) := by decide +kernel
theorem dL_built_151 : decode cL_built 151 = .ok (.iconst 1, 1) := by decide +kernel
theorem dL_built_152 : decode cL_built 152 = .ok (.iadd, 1) := by decide +kernel
theorem dL_built_153 : decode cL_built 153 = .ok (.bipush 48, 2) := by decide +kernel
theorem dL_built_155 : decode cL_built 155 = .ok (.aload 5, 2) := by decide +kernel
theorem dL_built_157 : decode cL_built 157 = .ok (.iconst 3, 1) := by decide +kernel
theorem dL_built_158 : decode cL_built 158 = .ok (.iaload, 1) := by decide +kernel
theorem dL_built_159 : decode cL_built 159 = .ok (.iadd, 1) := by decide +kernel
theorem dL_built_160 : decode cL_built 160 = .ok (.invokevirtual 9, 3) := by decide +kernel
theorem dL_built_163 : decode cL_built 163 = .ok (.sipush 1032, 3) := by decide +kernel
theorem dL_built_166 : decode cL_built 166 = .ok (.if_icmp .ne 23, 3) := by decide +kernel
theorem dL_built_169 : decode cL_built 169 = .ok (.aload_n 0, 1) := by decide +kernel
theorem dL_built_170 : decode cL_built 170 = .ok (.iconst 3, 1) := by decide +kernel
theorem dL_built_171 : decode cL_built 171 = .ok (.iload 8, 2) := by decide +kernel
theorem dL_built_173 : decode cL_built 173 = .ok (.iconst 2, 1) := by decide +kernel
theorem dL_built_174 : decode cL_built 174 = .ok (.iadd, 1) := by decide +kernel
theorem dL_built_175 : decode cL_built 175 = .ok (.aload 4, 2) := by decide +kernel
theorem dL_built_177 : decode cL_built 177 = .ok (.iconst 0, 1) := by decide +kernel
theorem dL_built_178 : decode cL_built 178 = .ok (.iaload, 1) := by decide +kernel
theorem dL_built_179 : decode cL_built 179 = .ok (.invokestatic 28, 3) := by decide +kernel
theorem dL_built_182 : decode cL_built 182 = .ok (.ifCond .eq 7, 3) := by decide +kernel
theorem dL_built_185 : decode cL_built 185 = .ok (.iconst 1, 1) := by decide +kernel
theorem dL_built_186 : decode cL_built 186 = .ok (.goto 4, 3) := by decide +kernel
theorem dL_built_189 : decode cL_built 189 = .ok (.iconst 0, 1) := by decide +kernel
theorem dL_built_190 : decode cL_built 190 = .ok (.istore 7, 2) := by decide +kernel
theorem dL_built_192 : decode cL_built 192 = .ok (.iinc 8 4, 3) := by decide +kernel
theorem dL_built_195 : decode cL_built 195 = .ok (.iconst 0, 1) := by decide +kernel
theorem dL_built_196 : decode cL_built 196 = .ok (.istore 9, 2) := by decide +kernel
theorem dL_built_198 : decode cL_built 198 = .ok (.iload 9, 2) := by decide +kernel
theorem dL_built_200 : decode cL_built 200 = .ok (.aload 4, 2) := by decide +kernel
theorem dL_built_202 : decode cL_built 202 = .ok (.iconst 1, 1) := by decide +kernel
theorem dL_built_203 : decode cL_built 203 = .ok (.iaload, 1) := by decide +kernel
theorem dL_built_204 : decode cL_built 204 = .ok (.if_icmp .ge 203, 3) := by decide +kernel
theorem dL_built_207 : decode cL_built 207 = .ok (.aload_n 1, 1) := by decide +kernel
theorem dL_built_208 : decode cL_built 208 = .ok (.iload_n 2, 1) := by decide +kernel
theorem dL_built_209 : decode cL_built 209 = .ok (.iconst 1, 1) := by decide +kernel
theorem dL_built_210 : decode cL_built 210 = .ok (.iadd, 1) := by decide +kernel
theorem dL_built_211 : decode cL_built 211 = .ok (.iload 9, 2) := by decide +kernel
theorem dL_built_213 : decode cL_built 213 = .ok (.iadd, 1) := by decide +kernel
theorem dL_built_214 : decode cL_built 214 = .ok (.invokestatic 15, 3) := by decide +kernel
theorem dL_built_217 : decode cL_built 217 = .ok (.istore 10, 2) := by decide +kernel
theorem dL_built_219 : decode cL_built 219 = .ok (.aload 4, 2) := by decide +kernel
theorem dL_built_221 : decode cL_built 221 = .ok (.iconst 2, 1) := by decide +kernel
theorem dL_built_222 : decode cL_built 222 = .ok (.iload 9, 2) := by decide +kernel
theorem dL_built_224 : decode cL_built 224 = .ok (.iadd, 1) := by decide +kernel
theorem dL_built_225 : decode cL_built 225 = .ok (.iload 10, 2) := by decide +kernel
theorem dL_built_227 : decode cL_built 227 = .ok (.bipush 6, 2) := by decide +kernel
theorem dL_built_229 : decode cL_built 229 = .ok (.invokestatic 21, 3) := by decide +kernel
theorem dL_built_232 : decode cL_built 232 = .ok (.iastore, 1) := by decide +kernel
theorem dL_built_233 : decode cL_built 233 = .ok (.aload 5, 2) := by decide +kernel
theorem dL_built_235 : decode cL_built 235 = .ok (.iconst 5, 1) := by decide +kernel
theorem dL_built_236 : decode cL_built 236 = .ok (.iload 9, 2) := by decide +kernel
theorem dL_built_238 : decode cL_built 238 = .ok (.iadd, 1) := by decide +kernel
theorem dL_built_239 : decode cL_built 239 = .ok (.iload 10, 2) := by decide +kernel
theorem dL_built_241 : decode cL_built 241 = .ok (.iconst 3, 1) := by decide +kernel
theorem dL_built_242 : decode cL_built 242 = .ok (.ishr, 1) := by decide +kernel
theorem dL_built_243 : decode cL_built 243 = .ok (.iconst 3, 1) := by decide +kernel
theorem dL_built_244 : decode cL_built 244 = .ok (.invokestatic 21, 3) := by decide +kernel
theorem dL_built_247 : decode cL_built 247 = .ok (.ifCond .ne 18, 3) := by decide +kernel
theorem dL_built_250 : decode cL_built 250 = .ok (.bipush 40, 2) := by decide +kernel
theorem dL_built_252 : decode cL_built 252 = .ok (.iload 10, 2) := by decide +kernel
theorem dL_built_254 : decode cL_built 254 = .ok (.iconst 5, 1) := by decide +kernel
theorem dL_built_255 : decode cL_built 255 = .ok (.ishr, 1) := by decide +kernel
theorem dL_built_256 : decode cL_built 256 = .ok (.bipush 12, 2) := by decide +kernel
theorem dL_built_258 : decode cL_built 258 = .ok (.invokestatic 21, 3) := by decide +kernel
theorem dL_built_261 : decode cL_built 261 = .ok (.iadd, 1) := by decide +kernel
theorem dL_built_262 : decode cL_built 262 = .ok (.goto 12, 3) := by decide +kernel
theorem dL_built_265 : decode cL_built 265 = .ok (.iload 10, 2) := by decide +kernel
theorem dL_built_267 : decode cL_built 267 = .ok (.iconst 5, 1) := by decide +kernel
theorem dL_built_268 : decode cL_built 268 = .ok (.ishr, 1) := by decide +kernel
theorem dL_built_269 : decode cL_built 269 = .ok (.bipush 100, 2) := by decide +kernel
theorem dL_built_271 : decode cL_built 271 = .ok (.invokestatic 21, 3) := by decide +kernel
theorem dL_built_274 : decode cL_built 274 = .ok (.iastore, 1) := by decide +kernel
theorem dL_built_275 : decode cL_built 275 = .ok (.aload 4, 2) := by decide +kernel
theorem dL_built_277 : decode cL_built 277 = .ok (.bipush 8, 2) := by decide +kernel
theorem dL_built_279 : decode cL_built 279 = .ok (.iload 9, 2) := by decide +kernel
theorem dL_built_281 : decode cL_built 281 = .ok (.iadd, 1) := by decide +kernel
theorem dL_built_282 : decode cL_built 282 = .ok (.iload 10, 2) := by decide +kernel
theorem dL_built_284 : decode cL_built 284 = .ok (.bipush 12, 2) := by decide +kernel
theorem dL_built_286 : decode cL_built 286 = .ok (.ishr, 1) := by decide +kernel
theorem dL_built_287 : decode cL_built 287 = .ok (.iload 10, 2) := by decide +kernel
theorem dL_built_289 : decode cL_built 289 = .ok (.bipush 20, 2) := by decide +kernel
theorem dL_built_291 : decode cL_built 291 = .ok (.ishr, 1) := by decide +kernel
theorem dL_built_292 : decode cL_built 292 = .ok (.iconst 2, 1) := by decide +kernel
theorem dL_built_293 : decode cL_built 293 = .ok (.invokestatic 21, 3) := by decide +kernel
theorem dL_built_296 : decode cL_built 296 = .ok (.ifCond .ne 8, 3) := by decide +kernel
theorem dL_built_299 : decode cL_built 299 = .ok (.bipush 100, 2) := by decide +kernel
theorem dL_built_301 : decode cL_built 301 = .ok (.goto 5, 3) := by decide +kernel
theorem dL_built_304 : decode cL_built 304 = .ok (.bipush 25, 2) := by decide +kernel
theorem dL_built_306 : decode cL_built 306 = .ok (.invokestatic 21, 3) := by decide +kernel
theorem dL_built_309 : decode cL_built 309 = .ok (.iastore, 1) := by decide +kernel
theorem dL_built_310 : decode cL_built 310 = .ok (.iload 8, 2) := by decide +kernel
theorem dL_built_312 : decode cL_built 312 = .ok (.iload 10, 2) := by decide +kernel
theorem dL_built_314 : decode cL_built 314 = .ok (.bipush 22, 2) := by decide +kernel
theorem dL_built_316 : decode cL_built 316 = .ok (.ishr, 1) := by decide +kernel
theorem dL_built_317 : decode cL_built 317 = .ok (.iconst 3, 1) := by decide +kernel
theorem dL_built_318 : decode cL_built 318 = .ok (.invokestatic 21, 3) := by decide +kernel
theorem dL_built_321 : decode cL_built 321 = .ok (.iadd, 1) := by decide +kernel
theorem dL_built_322 : decode cL_built 322 = .ok (.istore 8, 2) := by decide +kernel
theorem dL_built_324 : decode cL_built 324 = .ok (.iload 7, 2) := by decide +kernel
theorem dL_built_326 : decode cL_built 326 = .ok (.ifCond .eq 69, 3) := by decide +kernel
theorem dL_built_329 : decode cL_built 329 = .ok (.aload_n 0, 1) := by decide +kernel
theorem dL_built_330 : decode cL_built 330 = .ok (.iconst 3, 1) := by decide +kernel
theorem dL_built_331 : decode cL_built 331 = .ok (.iload 8, 2) := by decide +kernel
theorem dL_built_333 : decode cL_built 333 = .ok (.aload 4, 2) := by decide +kernel
theorem dL_built_335 : decode cL_built 335 = .ok (.iconst 2, 1) := by decide +kernel
theorem dL_built_336 : decode cL_built 336 = .ok (.iload 9, 2) := by decide +kernel
theorem dL_built_338 : decode cL_built 338 = .ok (.iadd, 1) := by decide +kernel
theorem dL_built_339 : decode cL_built 339 = .ok (.iaload, 1) := by decide +kernel
theorem dL_built_340 : decode cL_built 340 = .ok (.invokestatic 32, 3) := by decide +kernel
theorem dL_built_343 : decode cL_built 343 = .ok (.invokevirtual 9, 3) := by decide +kernel
theorem dL_built_346 : decode cL_built 346 = .ok (.sipush 1032, 3) := by decide +kernel
theorem dL_built_349 : decode cL_built 349 = .ok (.if_icmp .ne 46, 3) := by decide +kernel
theorem dL_built_352 : decode cL_built 352 = .ok (.aload_n 0, 1) := by decide +kernel
theorem dL_built_353 : decode cL_built 353 = .ok (.iconst 3, 1) := by decide +kernel
theorem dL_built_354 : decode cL_built 354 = .ok (.iload 8, 2) := by decide +kernel
theorem dL_built_356 : decode cL_built 356 = .ok (.iconst 1, 1) := by decide +kernel
theorem dL_built_357 : decode cL_built 357 = .ok (.iadd, 1) := by decide +kernel
theorem dL_built_358 : decode cL_built 358 = .ok (.aload 5, 2) := by decide +kernel
theorem dL_built_360 : decode cL_built 360 = .ok (.iconst 5, 1) := by decide +kernel
theorem dL_built_361 : decode cL_built 361 = .ok (.iload 9, 2) := by decide +kernel
theorem dL_built_363 : decode cL_built 363 = .ok (.iadd, 1) := by decide +kernel
theorem dL_built_364 : decode cL_built 364 = .ok (.iaload, 1) := by decide +kernel
theorem dL_built_365 : decode cL_built 365 = .ok (.invokestatic 28, 3) := by decide +kernel
theorem dL_built_368 : decode cL_built 368 = .ok (.ifCond .eq 27, 3) := by decide +kernel
theorem dL_built_371 : decode cL_built 371 = .ok (.aload_n 0, 1) := by decide +kernel
theorem dL_built_372 : decode cL_built 372 = .ok (.iconst 3, 1) := by decide +kernel
theorem dL_built_373 : decode cL_built 373 = .ok (.iload 8, 2) := by decide +kernel
theorem dL_built_375 : decode cL_built 375 = .ok (.iconst 3, 1) := by decide +kernel
theorem dL_built_376 : decode cL_built 376 = .ok (.iadd, 1) := by decide +kernel
theorem dL_built_377 : decode cL_built 377 = .ok (.aload 4, 2) := by decide +kernel
theorem dL_built_379 : decode cL_built 379 = .ok (.bipush 8, 2) := by decide +kernel
theorem dL_built_381 : decode cL_built 381 = .ok (.iload 9, 2) := by decide +kernel
theorem dL_built_383 : decode cL_built 383 = .ok (.iadd, 1) := by decide +kernel
theorem dL_built_384 : decode cL_built 384 = .ok (.iaload, 1) := by decide +kernel
theorem dL_built_385 : decode cL_built 385 = .ok (.invokestatic 28, 3) := by decide +kernel
theorem dL_built_388 : decode cL_built 388 = .ok (.ifCond .eq 7, 3) := by decide +kernel
theorem dL_built_391 : decode cL_built 391 = .ok (.iconst 1, 1) := by decide +kernel
theorem dL_built_392 : decode cL_built 392 = .ok (.goto 4, 3) := by decide +kernel
theorem dL_built_395 : decode cL_built 395 = .ok (.iconst 0, 1) := by decide +kernel
theorem dL_built_396 : decode cL_built 396 = .ok (.istore 7, 2) := by decide +kernel
theorem dL_built_398 : decode cL_built 398 = .ok (.iinc 8 5, 3) := by decide +kernel
theorem dL_built_401 : decode cL_built 401 = .ok (.iinc 9 1, 3) := by decide +kernel
theorem dL_built_404 : decode cL_built 404 = .ok (.goto (-206), 3) := by decide +kernel
theorem dL_built_407 : decode cL_built 407 = .ok (.iload 7, 2) := by decide +kernel
theorem dL_built_409 : decode cL_built 409 = .ok (.ifCond .eq 29, 3) := by decide +kernel
theorem dL_built_412 : decode cL_built 412 = .ok (.aload_n 0, 1) := by decide +kernel
theorem dL_built_413 : decode cL_built 413 = .ok (.iconst 3, 1) := by decide +kernel
theorem dL_built_414 : decode cL_built 414 = .ok (.invokevirtual 36, 3) := by decide +kernel
theorem dL_built_417 : decode cL_built 417 = .ok (.bipush (-9), 2) := by decide +kernel
theorem dL_built_419 : decode cL_built 419 = .ok (.if_icmp .ne 19, 3) := by decide +kernel
theorem dL_built_422 : decode cL_built 422 = .ok (.aload_n 0, 1) := by decide +kernel
theorem dL_built_423 : decode cL_built 423 = .ok (.iconst 3, 1) := by decide +kernel
theorem dL_built_424 : decode cL_built 424 = .ok (.invokevirtual 39, 3) := by decide +kernel
theorem dL_built_427 : decode cL_built 427 = .ok (.aload 4, 2) := by decide +kernel
theorem dL_built_429 : decode cL_built 429 = .ok (.iconst 1, 1) := by decide +kernel
theorem dL_built_430 : decode cL_built 430 = .ok (.iaload, 1) := by decide +kernel
theorem dL_built_431 : decode cL_built 431 = .ok (.if_icmp .ne 7, 3) := by decide +kernel
theorem dL_built_434 : decode cL_built 434 = .ok (.iconst 1, 1) := by decide +kernel
theorem dL_built_435 : decode cL_built 435 = .ok (.goto 4, 3) := by decide +kernel
theorem dL_built_438 : decode cL_built 438 = .ok (.iconst 0, 1) := by decide +kernel
theorem dL_built_439 : decode cL_built 439 = .ok (.ireturn, 1) := by decide +kernel
theorem dL_has_0 : decode cL_has 0 = .ok (.iload_n 0, 1) := by decide +kernel
theorem dL_has_1 : decode cL_has 1 = .ok (.iload_n 1, 1) := by decide +kernel
theorem dL_has_2 : decode cL_has 2 = .ok (.ishr, 1) := by decide +kernel
theorem dL_has_3 : decode cL_has 3 = .ok (.iconst 1, 1) := by decide +kernel
theorem dL_has_4 : decode cL_has 4 = .ok (.iand, 1) := by decide +kernel
theorem dL_has_5 : decode cL_has 5 = .ok (.iconst 1, 1) := by decide +kernel
theorem dL_has_6 : decode cL_has 6 = .ok (.if_icmp .ne 7, 3) := by decide +kernel
theorem dL_has_9 : decode cL_has 9 = .ok (.iconst 1, 1) := by decide +kernel
theorem dL_has_10 : decode cL_has 10 = .ok (.goto 4, 3) := by decide +kernel
theorem dL_has_13 : decode cL_has 13 = .ok (.iconst 0, 1) := by decide +kernel
theorem dL_has_14 : decode cL_has 14 = .ok (.ireturn, 1) := by decide +kernel
theorem dL_bits_0 : decode cL_bits 0 = .ok (.iconst 0, 1) := by decide +kernel
theorem dL_bits_1 : decode cL_bits 1 = .ok (.istore_n 1, 1) := by decide +kernel
theorem dL_bits_2 : decode cL_bits 2 = .ok (.iconst 0, 1) := by decide +kernel
theorem dL_bits_3 : decode cL_bits 3 = .ok (.istore_n 2, 1) := by decide +kernel
theorem dL_bits_4 : decode cL_bits 4 = .ok (.iload_n 2, 1) := by decide +kernel
theorem dL_bits_5 : decode cL_bits 5 = .ok (.bipush 6, 2) := by decide +kernel
theorem dL_bits_7 : decode cL_bits 7 = .ok (.if_icmp .ge 17, 3) := by decide +kernel
theorem dL_bits_10 : decode cL_bits 10 = .ok (.iload_n 1, 1) := by decide +kernel
theorem dL_bits_11 : decode cL_bits 11 = .ok (.iload_n 0, 1) := by decide +kernel
theorem dL_bits_12 : decode cL_bits 12 = .ok (.iload_n 2, 1) := by decide +kernel
theorem dL_bits_13 : decode cL_bits 13 = .ok (.ishr, 1) := by decide +kernel
theorem dL_bits_14 : decode cL_bits 14 = .ok (.iconst 1, 1) := by decide +kernel
theorem dL_bits_15 : decode cL_bits 15 = .ok (.iand, 1) := by decide +kernel
theorem dL_bits_16 : decode cL_bits 16 = .ok (.iadd, 1) := by decide +kernel
theorem dL_bits_17 : decode cL_bits 17 = .ok (.istore_n 1, 1) := by decide +kernel
theorem dL_bits_18 : decode cL_bits 18 = .ok (.iinc 2 1, 3) := by decide +kernel
theorem dL_bits_21 : decode cL_bits 21 = .ok (.goto (-17), 3) := by decide +kernel
theorem dL_bits_24 : decode cL_bits 24 = .ok (.iload_n 1, 1) := by decide +kernel
theorem dL_bits_25 : decode cL_bits 25 = .ok (.ireturn, 1) := by decide +kernel
theorem dL_copy_0 : decode cL_copy 0 = .ok (.iconst 0, 1) := by decide +kernel
theorem dL_copy_1 : decode cL_copy 1 = .ok (.istore_n 2, 1) := by decide +kernel
theorem dL_copy_2 : decode cL_copy 2 = .ok (.iload_n 2, 1) := by decide +kernel
theorem dL_copy_3 : decode cL_copy 3 = .ok (.bipush 23, 2) := by decide +kernel
theorem dL_copy_5 : decode cL_copy 5 = .ok (.if_icmp .ge 15, 3) := by decide +kernel
theorem dL_copy_8 : decode cL_copy 8 = .ok (.aload_n 1, 1) := by decide +kernel
theorem dL_copy_9 : decode cL_copy 9 = .ok (.iload_n 2, 1) := by decide +kernel
theorem dL_copy_10 : decode cL_copy 10 = .ok (.aload_n 0, 1) := by decide +kernel
theorem dL_copy_11 : decode cL_copy 11 = .ok (.iload_n 2, 1) := by decide +kernel
theorem dL_copy_12 : decode cL_copy 12 = .ok (.iaload, 1) := by decide +kernel
theorem dL_copy_13 : decode cL_copy 13 = .ok (.iastore, 1) := by decide +kernel
theorem dL_copy_14 : decode cL_copy 14 = .ok (.iinc 2 1, 3) := by decide +kernel
theorem dL_copy_17 : decode cL_copy 17 = .ok (.goto (-15), 3) := by decide +kernel
theorem dL_copy_20 : decode cL_copy 20 = .ok (.return_, 1) := by decide +kernel
theorem dL_takes_0 : decode cL_takes 0 = .ok (.iload_n 0, 1) := by decide +kernel
theorem dL_takes_1 : decode cL_takes 1 = .ok (.iconst 3, 1) := by decide +kernel
theorem dL_takes_2 : decode cL_takes 2 = .ok (.if_icmp .eq 21, 3) := by decide +kernel
theorem dL_takes_5 : decode cL_takes 5 = .ok (.iload_n 2, 1) := by decide +kernel
theorem dL_takes_6 : decode cL_takes 6 = .ok (.iconst 1, 1) := by decide +kernel
theorem dL_takes_7 : decode cL_takes 7 = .ok (.if_icmp .ne 20, 3) := by decide +kernel
theorem dL_takes_10 : decode cL_takes 10 = .ok (.iload_n 1, 1) := by decide +kernel
theorem dL_takes_11 : decode cL_takes 11 = .ok (.bipush 10, 2) := by decide +kernel
theorem dL_takes_13 : decode cL_takes 13 = .ok (.idiv, 1) := by decide +kernel
theorem dL_takes_14 : decode cL_takes 14 = .ok (.iconst 4, 1) := by decide +kernel
theorem dL_takes_15 : decode cL_takes 15 = .ok (.if_icmp .ne 12, 3) := by decide +kernel
theorem dL_takes_18 : decode cL_takes 18 = .ok (.iload_n 0, 1) := by decide +kernel
theorem dL_takes_19 : decode cL_takes 19 = .ok (.iconst 5, 1) := by decide +kernel
theorem dL_takes_20 : decode cL_takes 20 = .ok (.if_icmp .eq 7, 3) := by decide +kernel
theorem dL_takes_23 : decode cL_takes 23 = .ok (.iconst 1, 1) := by decide +kernel
theorem dL_takes_24 : decode cL_takes 24 = .ok (.goto 4, 3) := by decide +kernel
theorem dL_takes_27 : decode cL_takes 27 = .ok (.iconst 0, 1) := by decide +kernel
theorem dL_takes_28 : decode cL_takes 28 = .ok (.istore_n 3, 1) := by decide +kernel
theorem dL_takes_29 : decode cL_takes 29 = .ok (.iload_n 1, 1) := by decide +kernel
theorem dL_takes_30 : decode cL_takes 30 = .ok (.bipush 49, 2) := by decide +kernel
theorem dL_takes_32 : decode cL_takes 32 = .ok (.if_icmp .le 7, 3) := by decide +kernel
theorem dL_takes_35 : decode cL_takes 35 = .ok (.iconst 1, 1) := by decide +kernel
theorem dL_takes_36 : decode cL_takes 36 = .ok (.goto 4, 3) := by decide +kernel
theorem dL_takes_39 : decode cL_takes 39 = .ok (.iconst 2, 1) := by decide +kernel
theorem dL_takes_40 : decode cL_takes 40 = .ok (.istore 4, 2) := by decide +kernel
theorem dL_takes_42 : decode cL_takes 42 = .ok (.iload_n 3, 1) := by decide +kernel
theorem dL_takes_43 : decode cL_takes 43 = .ok (.ifCond .eq 7, 3) := by decide +kernel
theorem dL_takes_46 : decode cL_takes 46 = .ok (.iconst 0, 1) := by decide +kernel
theorem dL_takes_47 : decode cL_takes 47 = .ok (.goto 33, 3) := by decide +kernel
theorem dL_takes_50 : decode cL_takes 50 = .ok (.iload_n 0, 1) := by decide +kernel
theorem dL_takes_51 : decode cL_takes 51 = .ok (.iconst 1, 1) := by decide +kernel
theorem dL_takes_52 : decode cL_takes 52 = .ok (.if_icmp .ne 11, 3) := by decide +kernel
theorem dL_takes_55 : decode cL_takes 55 = .ok (.iload 4, 2) := by decide +kernel
theorem dL_takes_57 : decode cL_takes 57 = .ok (.iload 4, 2) := by decide +kernel
theorem dL_takes_59 : decode cL_takes 59 = .ok (.iadd, 1) := by decide +kernel
theorem dL_takes_60 : decode cL_takes 60 = .ok (.goto 20, 3) := by decide +kernel
theorem dL_takes_63 : decode cL_takes 63 = .ok (.iload_n 0, 1) := by decide +kernel
theorem dL_takes_64 : decode cL_takes 64 = .ok (.iconst 4, 1) := by decide +kernel
theorem dL_takes_65 : decode cL_takes 65 = .ok (.if_icmp .ne 13, 3) := by decide +kernel
theorem dL_takes_68 : decode cL_takes 68 = .ok (.iload 4, 2) := by decide +kernel
theorem dL_takes_70 : decode cL_takes 70 = .ok (.iload 4, 2) := by decide +kernel
theorem dL_takes_72 : decode cL_takes 72 = .ok (.iadd, 1) := by decide +kernel
theorem dL_takes_73 : decode cL_takes 73 = .ok (.iconst 1, 1) := by decide +kernel
theorem dL_takes_74 : decode cL_takes 74 = .ok (.iadd, 1) := by decide +kernel
theorem dL_takes_75 : decode cL_takes 75 = .ok (.goto 5, 3) := by decide +kernel
theorem dL_takes_78 : decode cL_takes 78 = .ok (.iload 4, 2) := by decide +kernel
theorem dL_takes_80 : decode cL_takes 80 = .ok (.ireturn, 1) := by decide +kernel
theorem dL_pays_0 : decode cL_pays 0 = .ok (.iload_n 0, 1) := by decide +kernel
theorem dL_pays_1 : decode cL_pays 1 = .ok (.iconst 3, 1) := by decide +kernel
theorem dL_pays_2 : decode cL_pays 2 = .ok (.if_icmp .ne 7, 3) := by decide +kernel
theorem dL_pays_5 : decode cL_pays 5 = .ok (.iconst 0, 1) := by decide +kernel
theorem dL_pays_6 : decode cL_pays 6 = .ok (.goto 22, 3) := by decide +kernel
theorem dL_pays_9 : decode cL_pays 9 = .ok (.iload_n 0, 1) := by decide +kernel
theorem dL_pays_10 : decode cL_pays 10 = .ok (.iconst 5, 1) := by decide +kernel
theorem dL_pays_11 : decode cL_pays 11 = .ok (.if_icmp .ne 7, 3) := by decide +kernel
theorem dL_pays_14 : decode cL_pays 14 = .ok (.iconst 5, 1) := by decide +kernel
theorem dL_pays_15 : decode cL_pays 15 = .ok (.goto 13, 3) := by decide +kernel
theorem dL_pays_18 : decode cL_pays 18 = .ok (.iload_n 0, 1) := by decide +kernel
theorem dL_pays_19 : decode cL_pays 19 = .ok (.iconst 2, 1) := by decide +kernel
theorem dL_pays_20 : decode cL_pays 20 = .ok (.if_icmp .ne 7, 3) := by decide +kernel
theorem dL_pays_23 : decode cL_pays 23 = .ok (.iconst 2, 1) := by decide +kernel
theorem dL_pays_24 : decode cL_pays 24 = .ok (.goto 4, 3) := by decide +kernel
theorem dL_pays_27 : decode cL_pays 27 = .ok (.iconst 1, 1) := by decide +kernel
theorem dL_pays_28 : decode cL_pays 28 = .ok (.ireturn, 1) := by decide +kernel
theorem dL_more_0 : decode cL_more 0 = .ok (.aload_n 0, 1) := by decide +kernel
theorem dL_more_1 : decode cL_more 1 = .ok (.iconst 2, 1) := by decide +kernel
theorem dL_more_2 : decode cL_more 2 = .ok (.iload_n 2, 1) := by decide +kernel
theorem dL_more_3 : decode cL_more 3 = .ok (.iadd, 1) := by decide +kernel
theorem dL_more_4 : decode cL_more 4 = .ok (.iaload, 1) := by decide +kernel
theorem dL_more_5 : decode cL_more 5 = .ok (.aload_n 1, 1) := by decide +kernel
theorem dL_more_6 : decode cL_more 6 = .ok (.iconst 5, 1) := by decide +kernel
theorem dL_more_7 : decode cL_more 7 = .ok (.iload_n 2, 1) := by decide +kernel
theorem dL_more_8 : decode cL_more 8 = .ok (.iadd, 1) := by decide +kernel
theorem dL_more_9 : decode cL_more 9 = .ok (.iaload, 1) := by decide +kernel
theorem dL_more_10 : decode cL_more 10 = .ok (.aload_n 1, 1) := by decide +kernel
theorem dL_more_11 : decode cL_more 11 = .ok (.iconst 3, 1) := by decide +kernel
theorem dL_more_12 : decode cL_more 12 = .ok (.iaload, 1) := by decide +kernel
theorem dL_more_13 : decode cL_more 13 = .ok (.invokestatic 42, 3) := by decide +kernel
theorem dL_more_16 : decode cL_more 16 = .ok (.istore_n 3, 1) := by decide +kernel
theorem dL_more_17 : decode cL_more 17 = .ok (.aload_n 1, 1) := by decide +kernel
theorem dL_more_18 : decode cL_more 18 = .ok (.bipush 17, 2) := by decide +kernel
theorem dL_more_20 : decode cL_more 20 = .ok (.iload_n 2, 1) := by decide +kernel
theorem dL_more_21 : decode cL_more 21 = .ok (.iadd, 1) := by decide +kernel
theorem dL_more_22 : decode cL_more 22 = .ok (.iaload, 1) := by decide +kernel
theorem dL_more_23 : decode cL_more 23 = .ok (.ifCond .lt 7, 3) := by decide +kernel
theorem dL_more_26 : decode cL_more 26 = .ok (.iconst 0, 1) := by decide +kernel
theorem dL_more_27 : decode cL_more 27 = .ok (.goto 36, 3) := by decide +kernel
theorem dL_more_30 : decode cL_more 30 = .ok (.iload_n 3, 1) := by decide +kernel
theorem dL_more_31 : decode cL_more 31 = .ok (.ifCond .ne 8, 3) := by decide +kernel
theorem dL_more_34 : decode cL_more 34 = .ok (.bipush (-9), 2) := by decide +kernel
theorem dL_more_36 : decode cL_more 36 = .ok (.goto 27, 3) := by decide +kernel
theorem dL_more_39 : decode cL_more 39 = .ok (.iload_n 3, 1) := by decide +kernel
theorem dL_more_40 : decode cL_more 40 = .ok (.aload_n 1, 1) := by decide +kernel
theorem dL_more_41 : decode cL_more 41 = .ok (.bipush 11, 2) := by decide +kernel
theorem dL_more_43 : decode cL_more 43 = .ok (.iload_n 2, 1) := by decide +kernel
theorem dL_more_44 : decode cL_more 44 = .ok (.iadd, 1) := by decide +kernel
theorem dL_more_45 : decode cL_more 45 = .ok (.iaload, 1) := by decide +kernel
theorem dL_more_46 : decode cL_more 46 = .ok (.isub, 1) := by decide +kernel
theorem dL_more_47 : decode cL_more 47 = .ok (.iconst 1, 1) := by decide +kernel
theorem dL_more_48 : decode cL_more 48 = .ok (.if_icmp .ge 7, 3) := by decide +kernel
theorem dL_more_51 : decode cL_more 51 = .ok (.iconst 1, 1) := by decide +kernel
theorem dL_more_52 : decode cL_more 52 = .ok (.goto 11, 3) := by decide +kernel
theorem dL_more_55 : decode cL_more 55 = .ok (.iload_n 3, 1) := by decide +kernel
theorem dL_more_56 : decode cL_more 56 = .ok (.aload_n 1, 1) := by decide +kernel
theorem dL_more_57 : decode cL_more 57 = .ok (.bipush 11, 2) := by decide +kernel
theorem dL_more_59 : decode cL_more 59 = .ok (.iload_n 2, 1) := by decide +kernel
theorem dL_more_60 : decode cL_more 60 = .ok (.iadd, 1) := by decide +kernel
theorem dL_more_61 : decode cL_more 61 = .ok (.iaload, 1) := by decide +kernel
theorem dL_more_62 : decode cL_more 62 = .ok (.isub, 1) := by decide +kernel
theorem dL_more_63 : decode cL_more 63 = .ok (.ireturn, 1) := by decide +kernel
theorem dL_awake_0 : decode cL_awake 0 = .ok (.iconst 0, 1) := by decide +kernel
theorem dL_awake_1 : decode cL_awake 1 = .ok (.istore_n 1, 1) := by decide +kernel
theorem dL_awake_2 : decode cL_awake 2 = .ok (.iconst 0, 1) := by decide +kernel
theorem dL_awake_3 : decode cL_awake 3 = .ok (.istore_n 2, 1) := by decide +kernel
theorem dL_awake_4 : decode cL_awake 4 = .ok (.iload_n 2, 1) := by decide +kernel
theorem dL_awake_5 : decode cL_awake 5 = .ok (.bipush 6, 2) := by decide +kernel
theorem dL_awake_7 : decode cL_awake 7 = .ok (.if_icmp .ge 28, 3) := by decide +kernel
theorem dL_awake_10 : decode cL_awake 10 = .ok (.iload_n 1, 1) := by decide +kernel
theorem dL_awake_11 : decode cL_awake 11 = .ok (.aload_n 0, 1) := by decide +kernel
theorem dL_awake_12 : decode cL_awake 12 = .ok (.bipush 17, 2) := by decide +kernel
theorem dL_awake_14 : decode cL_awake 14 = .ok (.iload_n 2, 1) := by decide +kernel
theorem dL_awake_15 : decode cL_awake 15 = .ok (.iadd, 1) := by decide +kernel
theorem dL_awake_16 : decode cL_awake 16 = .ok (.iaload, 1) := by decide +kernel
theorem dL_awake_17 : decode cL_awake 17 = .ok (.ifCond .lt 9, 3) := by decide +kernel
theorem dL_awake_20 : decode cL_awake 20 = .ok (.iconst 1, 1) := by decide +kernel
theorem dL_awake_21 : decode cL_awake 21 = .ok (.iload_n 2, 1) := by decide +kernel
theorem dL_awake_22 : decode cL_awake 22 = .ok (.ishl, 1) := by decide +kernel
theorem dL_awake_23 : decode cL_awake 23 = .ok (.goto 4, 3) := by decide +kernel
theorem dL_awake_26 : decode cL_awake 26 = .ok (.iconst 0, 1) := by decide +kernel
theorem dL_awake_27 : decode cL_awake 27 = .ok (.ior, 1) := by decide +kernel
theorem dL_awake_28 : decode cL_awake 28 = .ok (.istore_n 1, 1) := by decide +kernel
theorem dL_awake_29 : decode cL_awake 29 = .ok (.iinc 2 1, 3) := by decide +kernel
theorem dL_awake_32 : decode cL_awake 32 = .ok (.goto (-28), 3) := by decide +kernel
theorem dL_awake_35 : decode cL_awake 35 = .ok (.iload_n 1, 1) := by decide +kernel
theorem dL_awake_36 : decode cL_awake 36 = .ok (.ireturn, 1) := by decide +kernel
theorem dL_far_0 : decode cL_far 0 = .ok (.iload_n 0, 1) := by decide +kernel
theorem dL_far_1 : decode cL_far 1 = .ok (.iload_n 1, 1) := by decide +kernel
theorem dL_far_2 : decode cL_far 2 = .ok (.if_icmp .ge 9, 3) := by decide +kernel
theorem dL_far_5 : decode cL_far 5 = .ok (.iload_n 1, 1) := by decide +kernel
theorem dL_far_6 : decode cL_far 6 = .ok (.iload_n 0, 1) := by decide +kernel
theorem dL_far_7 : decode cL_far 7 = .ok (.isub, 1) := by decide +kernel
theorem dL_far_8 : decode cL_far 8 = .ok (.goto 6, 3) := by decide +kernel
theorem dL_far_11 : decode cL_far 11 = .ok (.iload_n 0, 1) := by decide +kernel
theorem dL_far_12 : decode cL_far 12 = .ok (.iload_n 1, 1) := by decide +kernel
theorem dL_far_13 : decode cL_far 13 = .ok (.isub, 1) := by decide +kernel
theorem dL_far_14 : decode cL_far 14 = .ok (.ireturn, 1) := by decide +kernel
theorem dL_walk_0 : decode cL_walk 0 = .ok (.aload_n 0, 1) := by decide +kernel
theorem dL_walk_1 : decode cL_walk 1 = .ok (.iconst 0, 1) := by decide +kernel
theorem dL_walk_2 : decode cL_walk 2 = .ok (.dup2, 1) := by decide +kernel
theorem dL_walk_3 : decode cL_walk 3 = .ok (.iaload, 1) := by decide +kernel
theorem dL_walk_4 : decode cL_walk 4 = .ok (.aload_n 0, 1) := by decide +kernel
theorem dL_walk_5 : decode cL_walk 5 = .ok (.iconst 2, 1) := by decide +kernel
theorem dL_walk_6 : decode cL_walk 6 = .ok (.iaload, 1) := by decide +kernel
theorem dL_walk_7 : decode cL_walk 7 = .ok (.iload_n 1, 1) := by decide +kernel
theorem dL_walk_8 : decode cL_walk 8 = .ok (.invokestatic 45, 3) := by decide +kernel
theorem dL_walk_11 : decode cL_walk 11 = .ok (.iadd, 1) := by decide +kernel
theorem dL_walk_12 : decode cL_walk 12 = .ok (.iastore, 1) := by decide +kernel
theorem dL_walk_13 : decode cL_walk 13 = .ok (.aload_n 0, 1) := by decide +kernel
theorem dL_walk_14 : decode cL_walk 14 = .ok (.iconst 2, 1) := by decide +kernel
theorem dL_walk_15 : decode cL_walk 15 = .ok (.iload_n 1, 1) := by decide +kernel
theorem dL_walk_16 : decode cL_walk 16 = .ok (.iastore, 1) := by decide +kernel
theorem dL_walk_17 : decode cL_walk 17 = .ok (.return_, 1) := by decide +kernel
theorem dL_tap_0 : decode cL_tap 0 = .ok (.aload_n 1, 1) := by decide +kernel
theorem dL_tap_1 : decode cL_tap 1 = .ok (.iconst 2, 1) := by decide +kernel
theorem dL_tap_2 : decode cL_tap 2 = .ok (.iaload, 1) := by decide +kernel
theorem dL_tap_3 : decode cL_tap 3 = .ok (.istore_n 2, 1) := by decide +kernel
theorem dL_tap_4 : decode cL_tap 4 = .ok (.aload_n 1, 1) := by decide +kernel
theorem dL_tap_5 : decode cL_tap 5 = .ok (.iconst 0, 1) := by decide +kernel
theorem dL_tap_6 : decode cL_tap 6 = .ok (.dup2, 1) := by decide +kernel
theorem dL_tap_7 : decode cL_tap 7 = .ok (.iaload, 1) := by decide +kernel
theorem dL_tap_8 : decode cL_tap 8 = .ok (.iconst 1, 1) := by decide +kernel
theorem dL_tap_9 : decode cL_tap 9 = .ok (.iadd, 1) := by decide +kernel
theorem dL_tap_10 : decode cL_tap 10 = .ok (.iastore, 1) := by decide +kernel
theorem dL_tap_11 : decode cL_tap 11 = .ok (.aload_n 0, 1) := by decide +kernel
theorem dL_tap_12 : decode cL_tap 12 = .ok (.aload_n 1, 1) := by decide +kernel
theorem dL_tap_13 : decode cL_tap 13 = .ok (.iload_n 2, 1) := by decide +kernel
theorem dL_tap_14 : decode cL_tap 14 = .ok (.invokestatic 48, 3) := by decide +kernel
theorem dL_tap_17 : decode cL_tap 17 = .ok (.iconst 1, 1) := by decide +kernel
theorem dL_tap_18 : decode cL_tap 18 = .ok (.if_icmp .ne 7, 3) := by decide +kernel
theorem dL_tap_21 : decode cL_tap 21 = .ok (.iconst 1, 1) := by decide +kernel
theorem dL_tap_22 : decode cL_tap 22 = .ok (.goto 4, 3) := by decide +kernel
theorem dL_tap_25 : decode cL_tap 25 = .ok (.iconst 0, 1) := by decide +kernel
theorem dL_tap_26 : decode cL_tap 26 = .ok (.istore_n 3, 1) := by decide +kernel
theorem dL_tap_27 : decode cL_tap 27 = .ok (.aload_n 1, 1) := by decide +kernel
theorem dL_tap_28 : decode cL_tap 28 = .ok (.bipush 11, 2) := by decide +kernel
theorem dL_tap_30 : decode cL_tap 30 = .ok (.iload_n 2, 1) := by decide +kernel
theorem dL_tap_31 : decode cL_tap 31 = .ok (.iadd, 1) := by decide +kernel
theorem dL_tap_32 : decode cL_tap 32 = .ok (.dup2, 1) := by decide +kernel
theorem dL_tap_33 : decode cL_tap 33 = .ok (.iaload, 1) := by decide +kernel
theorem dL_tap_34 : decode cL_tap 34 = .ok (.iconst 1, 1) := by decide +kernel
theorem dL_tap_35 : decode cL_tap 35 = .ok (.iadd, 1) := by decide +kernel
theorem dL_tap_36 : decode cL_tap 36 = .ok (.iastore, 1) := by decide +kernel
theorem dL_tap_37 : decode cL_tap 37 = .ok (.iload_n 3, 1) := by decide +kernel
theorem dL_tap_38 : decode cL_tap 38 = .ok (.ifCond .eq 53, 3) := by decide +kernel
theorem dL_tap_41 : decode cL_tap 41 = .ok (.aload_n 1, 1) := by decide +kernel
theorem dL_tap_42 : decode cL_tap 42 = .ok (.bipush 17, 2) := by decide +kernel
theorem dL_tap_44 : decode cL_tap 44 = .ok (.iload_n 2, 1) := by decide +kernel
theorem dL_tap_45 : decode cL_tap 45 = .ok (.iadd, 1) := by decide +kernel
theorem dL_tap_46 : decode cL_tap 46 = .ok (.aload_n 1, 1) := by decide +kernel
theorem dL_tap_47 : decode cL_tap 47 = .ok (.iconst 5, 1) := by decide +kernel
theorem dL_tap_48 : decode cL_tap 48 = .ok (.iload_n 2, 1) := by decide +kernel
theorem dL_tap_49 : decode cL_tap 49 = .ok (.iadd, 1) := by decide +kernel
theorem dL_tap_50 : decode cL_tap 50 = .ok (.iaload, 1) := by decide +kernel
theorem dL_tap_51 : decode cL_tap 51 = .ok (.iastore, 1) := by decide +kernel
theorem dL_tap_52 : decode cL_tap 52 = .ok (.aload_n 1, 1) := by decide +kernel
theorem dL_tap_53 : decode cL_tap 53 = .ok (.iconst 4, 1) := by decide +kernel
theorem dL_tap_54 : decode cL_tap 54 = .ok (.aload_n 1, 1) := by decide +kernel
theorem dL_tap_55 : decode cL_tap 55 = .ok (.iconst 4, 1) := by decide +kernel
theorem dL_tap_56 : decode cL_tap 56 = .ok (.iaload, 1) := by decide +kernel
theorem dL_tap_57 : decode cL_tap 57 = .ok (.aload_n 0, 1) := by decide +kernel
theorem dL_tap_58 : decode cL_tap 58 = .ok (.iconst 2, 1) := by decide +kernel
theorem dL_tap_59 : decode cL_tap 59 = .ok (.iload_n 2, 1) := by decide +kernel
theorem dL_tap_60 : decode cL_tap 60 = .ok (.iadd, 1) := by decide +kernel
theorem dL_tap_61 : decode cL_tap 61 = .ok (.iaload, 1) := by decide +kernel
theorem dL_tap_62 : decode cL_tap 62 = .ok (.invokestatic 52, 3) := by decide +kernel
theorem dL_tap_65 : decode cL_tap 65 = .ok (.iadd, 1) := by decide +kernel
theorem dL_tap_66 : decode cL_tap 66 = .ok (.sipush 9999, 3) := by decide +kernel
theorem dL_tap_69 : decode cL_tap 69 = .ok (.if_icmp .ge 18, 3) := by decide +kernel
theorem dL_tap_72 : decode cL_tap 72 = .ok (.aload_n 1, 1) := by decide +kernel
theorem dL_tap_73 : decode cL_tap 73 = .ok (.iconst 4, 1) := by decide +kernel
theorem dL_tap_74 : decode cL_tap 74 = .ok (.iaload, 1) := by decide +kernel
theorem dL_tap_75 : decode cL_tap 75 = .ok (.aload_n 0, 1) := by decide +kernel
theorem dL_tap_76 : decode cL_tap 76 = .ok (.iconst 2, 1) := by decide +kernel
theorem dL_tap_77 : decode cL_tap 77 = .ok (.iload_n 2, 1) := by decide +kernel
theorem dL_tap_78 : decode cL_tap 78 = .ok (.iadd, 1) := by decide +kernel
theorem dL_tap_79 : decode cL_tap 79 = .ok (.iaload, 1) := by decide +kernel
theorem dL_tap_80 : decode cL_tap 80 = .ok (.invokestatic 52, 3) := by decide +kernel
theorem dL_tap_83 : decode cL_tap 83 = .ok (.iadd, 1) := by decide +kernel
theorem dL_tap_84 : decode cL_tap 84 = .ok (.goto 6, 3) := by decide +kernel
theorem dL_tap_87 : decode cL_tap 87 = .ok (.sipush 9999, 3) := by decide +kernel
theorem dL_tap_90 : decode cL_tap 90 = .ok (.iastore, 1) := by decide +kernel
theorem dL_tap_91 : decode cL_tap 91 = .ok (.aload_n 1, 1) := by decide +kernel
theorem dL_tap_92 : decode cL_tap 92 = .ok (.bipush 17, 2) := by decide +kernel
theorem dL_tap_94 : decode cL_tap 94 = .ok (.iload_n 2, 1) := by decide +kernel
theorem dL_tap_95 : decode cL_tap 95 = .ok (.iadd, 1) := by decide +kernel
theorem dL_tap_96 : decode cL_tap 96 = .ok (.iaload, 1) := by decide +kernel
theorem dL_tap_97 : decode cL_tap 97 = .ok (.ifCond .lt 7, 3) := by decide +kernel
theorem dL_tap_100 : decode cL_tap 100 = .ok (.iconst 1, 1) := by decide +kernel
theorem dL_tap_101 : decode cL_tap 101 = .ok (.goto 4, 3) := by decide +kernel
theorem dL_tap_104 : decode cL_tap 104 = .ok (.iconst 0, 1) := by decide +kernel
theorem dL_tap_105 : decode cL_tap 105 = .ok (.ireturn, 1) := by decide +kernel
theorem dL_night_0 : decode cL_night 0 = .ok (.aload_n 0, 1) := by decide +kernel
theorem dL_night_1 : decode cL_night 1 = .ok (.invokestatic 55, 3) := by decide +kernel
theorem dL_night_4 : decode cL_night 4 = .ok (.invokestatic 59, 3) := by decide +kernel
theorem dL_night_7 : decode cL_night 7 = .ok (.istore_n 1, 1) := by decide +kernel
theorem dL_night_8 : decode cL_night 8 = .ok (.aload_n 0, 1) := by decide +kernel
theorem dL_night_9 : decode cL_night 9 = .ok (.iconst 0, 1) := by decide +kernel
theorem dL_night_10 : decode cL_night 10 = .ok (.iconst 0, 1) := by decide +kernel
theorem dL_night_11 : decode cL_night 11 = .ok (.iastore, 1) := by decide +kernel
theorem dL_night_12 : decode cL_night 12 = .ok (.aload_n 0, 1) := by decide +kernel
theorem dL_night_13 : decode cL_night 13 = .ok (.iconst 1, 1) := by decide +kernel
theorem dL_night_14 : decode cL_night 14 = .ok (.dup2, 1) := by decide +kernel
theorem dL_night_15 : decode cL_night 15 = .ok (.iaload, 1) := by decide +kernel
theorem dL_night_16 : decode cL_night 16 = .ok (.iconst 1, 1) := by decide +kernel
theorem dL_night_17 : decode cL_night 17 = .ok (.iadd, 1) := by decide +kernel
theorem dL_night_18 : decode cL_night 18 = .ok (.iastore, 1) := by decide +kernel
theorem dL_night_19 : decode cL_night 19 = .ok (.aload_n 0, 1) := by decide +kernel
theorem dL_night_20 : decode cL_night 20 = .ok (.iconst 2, 1) := by decide +kernel
theorem dL_night_21 : decode cL_night 21 = .ok (.iconst 0, 1) := by decide +kernel
theorem dL_night_22 : decode cL_night 22 = .ok (.iastore, 1) := by decide +kernel
theorem dL_night_23 : decode cL_night 23 = .ok (.iconst 0, 1) := by decide +kernel
theorem dL_night_24 : decode cL_night 24 = .ok (.istore_n 2, 1) := by decide +kernel
theorem dL_night_25 : decode cL_night 25 = .ok (.iload_n 2, 1) := by decide +kernel
theorem dL_night_26 : decode cL_night 26 = .ok (.bipush 6, 2) := by decide +kernel
theorem dL_night_28 : decode cL_night 28 = .ok (.if_icmp .ge 24, 3) := by decide +kernel
theorem dL_night_31 : decode cL_night 31 = .ok (.aload_n 0, 1) := by decide +kernel
theorem dL_night_32 : decode cL_night 32 = .ok (.bipush 11, 2) := by decide +kernel
theorem dL_night_34 : decode cL_night 34 = .ok (.iload_n 2, 1) := by decide +kernel
theorem dL_night_35 : decode cL_night 35 = .ok (.iadd, 1) := by decide +kernel
theorem dL_night_36 : decode cL_night 36 = .ok (.iconst 0, 1) := by decide +kernel
theorem dL_night_37 : decode cL_night 37 = .ok (.iastore, 1) := by decide +kernel
theorem dL_night_38 : decode cL_night 38 = .ok (.aload_n 0, 1) := by decide +kernel
theorem dL_night_39 : decode cL_night 39 = .ok (.bipush 17, 2) := by decide +kernel
theorem dL_night_41 : decode cL_night 41 = .ok (.iload_n 2, 1) := by decide +kernel
theorem dL_night_42 : decode cL_night 42 = .ok (.iadd, 1) := by decide +kernel
theorem dL_night_43 : decode cL_night 43 = .ok (.bipush (-9), 2) := by decide +kernel
theorem dL_night_45 : decode cL_night 45 = .ok (.iastore, 1) := by decide +kernel
theorem dL_night_46 : decode cL_night 46 = .ok (.iinc 2 1, 3) := by decide +kernel
theorem dL_night_49 : decode cL_night 49 = .ok (.goto (-24), 3) := by decide +kernel
theorem dL_night_52 : decode cL_night 52 = .ok (.iload_n 1, 1) := by decide +kernel
theorem dL_night_53 : decode cL_night 53 = .ok (.ireturn, 1) := by decide +kernel
theorem dL_deed_0 : decode cL_deed 0 = .ok (.iload_n 1, 1) := by decide +kernel
theorem dL_deed_1 : decode cL_deed 1 = .ok (.bipush 14, 2) := by decide +kernel
theorem dL_deed_3 : decode cL_deed 3 = .ok (.invokestatic 21, 3) := by decide +kernel
theorem dL_deed_6 : decode cL_deed 6 = .ok (.istore 4, 2) := by decide +kernel
theorem dL_deed_8 : decode cL_deed 8 = .ok (.aload_n 0, 1) := by decide +kernel
theorem dL_deed_9 : decode cL_deed 9 = .ok (.iconst 3, 1) := by decide +kernel
theorem dL_deed_10 : decode cL_deed 10 = .ok (.invokevirtual 62, 3) := by decide +kernel
theorem dL_deed_13 : decode cL_deed 13 = .ok (.bipush 40, 2) := by decide +kernel
theorem dL_deed_15 : decode cL_deed 15 = .ok (.if_icmp .ne 7, 3) := by decide +kernel
theorem dL_deed_18 : decode cL_deed 18 = .ok (.iconst 1, 1) := by decide +kernel
theorem dL_deed_19 : decode cL_deed 19 = .ok (.goto 4, 3) := by decide +kernel
theorem dL_deed_22 : decode cL_deed 22 = .ok (.iconst 0, 1) := by decide +kernel
theorem dL_deed_23 : decode cL_deed 23 = .ok (.istore 5, 2) := by decide +kernel
theorem dL_deed_25 : decode cL_deed 25 = .ok (.iload_n 1, 1) := by decide +kernel
theorem dL_deed_26 : decode cL_deed 26 = .ok (.iconst 4, 1) := by decide +kernel
theorem dL_deed_27 : decode cL_deed 27 = .ok (.ishr, 1) := by decide +kernel
theorem dL_deed_28 : decode cL_deed 28 = .ok (.aload_n 2, 1) := by decide +kernel
theorem dL_deed_29 : decode cL_deed 29 = .ok (.iconst 1, 1) := by decide +kernel
theorem dL_deed_30 : decode cL_deed 30 = .ok (.iaload, 1) := by decide +kernel
theorem dL_deed_31 : decode cL_deed 31 = .ok (.invokestatic 21, 3) := by decide +kernel
theorem dL_deed_34 : decode cL_deed 34 = .ok (.istore 6, 2) := by decide +kernel
theorem dL_deed_36 : decode cL_deed 36 = .ok (.iload 4, 2) := by decide +kernel
theorem dL_deed_38 : decode cL_deed 38 = .ok (.iconst 3, 1) := by decide +kernel
theorem dL_deed_39 : decode cL_deed 39 = .ok (.if_icmp .ge 86, 3) := by decide +kernel
theorem dL_deed_42 : decode cL_deed 42 = .ok (.iload 6, 2) := by decide +kernel
theorem dL_deed_44 : decode cL_deed 44 = .ok (.aload_n 3, 1) := by decide +kernel
theorem dL_deed_45 : decode cL_deed 45 = .ok (.iconst 2, 1) := by decide +kernel
theorem dL_deed_46 : decode cL_deed 46 = .ok (.iaload, 1) := by decide +kernel
theorem dL_deed_47 : decode cL_deed 47 = .ok (.if_icmp .ne 7, 3) := by decide +kernel
theorem dL_deed_50 : decode cL_deed 50 = .ok (.iconst 1, 1) := by decide +kernel
theorem dL_deed_51 : decode cL_deed 51 = .ok (.goto 4, 3) := by decide +kernel
theorem dL_deed_54 : decode cL_deed 54 = .ok (.iconst 0, 1) := by decide +kernel
theorem dL_deed_55 : decode cL_deed 55 = .ok (.istore 7, 2) := by decide +kernel
theorem dL_deed_57 : decode cL_deed 57 = .ok (.iload 7, 2) := by decide +kernel
theorem dL_deed_59 : decode cL_deed 59 = .ok (.ifCond .ne 14, 3) := by decide +kernel
theorem dL_deed_62 : decode cL_deed 62 = .ok (.iload 5, 2) := by decide +kernel
theorem dL_deed_64 : decode cL_deed 64 = .ok (.ifCond .ne 9, 3) := by decide +kernel
theorem dL_deed_67 : decode cL_deed 67 = .ok (.aload_n 3, 1) := by decide +kernel
theorem dL_deed_68 : decode cL_deed 68 = .ok (.iload 6, 2) := by decide +kernel
theorem dL_deed_70 : decode cL_deed 70 = .ok (.invokestatic 65, 3) := by decide +kernel
theorem dL_deed_73 : decode cL_deed 73 = .ok (.aload_n 0, 1) := by decide +kernel
theorem dL_deed_74 : decode cL_deed 74 = .ok (.iload 6, 2) := by decide +kernel
theorem dL_deed_76 : decode cL_deed 76 = .ok (.invokevirtual 69, 3) := by decide +kernel
theorem dL_deed_79 : decode cL_deed 79 = .ok (.iload 7, 2) := by decide +kernel
theorem dL_deed_81 : decode cL_deed 81 = .ok (.ifCond .eq 8, 3) := by decide +kernel
theorem dL_deed_84 : decode cL_deed 84 = .ok (.bipush (-4), 2) := by decide +kernel
theorem dL_deed_86 : decode cL_deed 86 = .ok (.goto 16, 3) := by decide +kernel
theorem dL_deed_89 : decode cL_deed 89 = .ok (.iload 5, 2) := by decide +kernel
theorem dL_deed_91 : decode cL_deed 91 = .ok (.ifCond .eq 8, 3) := by decide +kernel
theorem dL_deed_94 : decode cL_deed 94 = .ok (.bipush (-2), 2) := by decide +kernel
theorem dL_deed_96 : decode cL_deed 96 = .ok (.goto 6, 3) := by decide +kernel
theorem dL_deed_99 : decode cL_deed 99 = .ok (.aload_n 3, 1) := by decide +kernel
theorem dL_deed_100 : decode cL_deed 100 = .ok (.iconst 0, 1) := by decide +kernel
theorem dL_deed_101 : decode cL_deed 101 = .ok (.iaload, 1) := by decide +kernel
theorem dL_deed_102 : decode cL_deed 102 = .ok (.if_icmp .ne 21, 3) := by decide +kernel
theorem dL_deed_105 : decode cL_deed 105 = .ok (.iload 7, 2) := by decide +kernel
theorem dL_deed_107 : decode cL_deed 107 = .ok (.ifCond .ne 8, 3) := by decide +kernel
theorem dL_deed_110 : decode cL_deed 110 = .ok (.iload 5, 2) := by decide +kernel
theorem dL_deed_112 : decode cL_deed 112 = .ok (.ifCond .eq 7, 3) := by decide +kernel
theorem dL_deed_115 : decode cL_deed 115 = .ok (.iconst 0, 1) := by decide +kernel
theorem dL_deed_116 : decode cL_deed 116 = .ok (.goto 8, 3) := by decide +kernel
theorem dL_deed_119 : decode cL_deed 119 = .ok (.iconst 1, 1) := by decide +kernel
theorem dL_deed_120 : decode cL_deed 120 = .ok (.goto 4, 3) := by decide +kernel
theorem dL_deed_123 : decode cL_deed 123 = .ok (.iconst (-1), 1) := by decide +kernel
theorem dL_deed_124 : decode cL_deed 124 = .ok (.ireturn, 1) := by decide +kernel
theorem dL_deed_125 : decode cL_deed 125 = .ok (.iload 4, 2) := by decide +kernel
theorem dL_deed_127 : decode cL_deed 127 = .ok (.bipush 9, 2) := by decide +kernel
theorem dL_deed_129 : decode cL_deed 129 = .ok (.if_icmp .ge 44, 3) := by decide +kernel
theorem dL_deed_132 : decode cL_deed 132 = .ok (.iload 5, 2) := by decide +kernel
theorem dL_deed_134 : decode cL_deed 134 = .ok (.ifCond .eq 8, 3) := by decide +kernel
theorem dL_deed_137 : decode cL_deed 137 = .ok (.bipush (-2), 2) := by decide +kernel
theorem dL_deed_139 : decode cL_deed 139 = .ok (.goto 8, 3) := by decide +kernel
theorem dL_deed_142 : decode cL_deed 142 = .ok (.aload_n 2, 1) := by decide +kernel
theorem dL_deed_143 : decode cL_deed 143 = .ok (.aload_n 3, 1) := by decide +kernel
theorem dL_deed_144 : decode cL_deed 144 = .ok (.invokestatic 71, 3) := by decide +kernel
theorem dL_deed_147 : decode cL_deed 147 = .ok (.istore 7, 2) := by decide +kernel
theorem dL_deed_149 : decode cL_deed 149 = .ok (.aload_n 0, 1) := by decide +kernel
theorem dL_deed_150 : decode cL_deed 150 = .ok (.invokevirtual 75, 3) := by decide +kernel
theorem dL_deed_153 : decode cL_deed 153 = .ok (.iload 7, 2) := by decide +kernel
theorem dL_deed_155 : decode cL_deed 155 = .ok (.if_icmp .ne 16, 3) := by decide +kernel
theorem dL_deed_158 : decode cL_deed 158 = .ok (.iload 5, 2) := by decide +kernel
theorem dL_deed_160 : decode cL_deed 160 = .ok (.ifCond .eq 7, 3) := by decide +kernel
theorem dL_deed_163 : decode cL_deed 163 = .ok (.iconst 0, 1) := by decide +kernel
theorem dL_deed_164 : decode cL_deed 164 = .ok (.goto 8, 3) := by decide +kernel
theorem dL_deed_167 : decode cL_deed 167 = .ok (.iconst 1, 1) := by decide +kernel
theorem dL_deed_168 : decode cL_deed 168 = .ok (.goto 4, 3) := by decide +kernel
theorem dL_deed_171 : decode cL_deed 171 = .ok (.iconst (-1), 1) := by decide +kernel
theorem dL_deed_172 : decode cL_deed 172 = .ok (.ireturn, 1) := by decide +kernel
theorem dL_deed_173 : decode cL_deed 173 = .ok (.iload 4, 2) := by decide +kernel
theorem dL_deed_175 : decode cL_deed 175 = .ok (.bipush 11, 2) := by decide +kernel
theorem dL_deed_177 : decode cL_deed 177 = .ok (.if_icmp .ge 175, 3) := by decide +kernel
theorem dL_deed_180 : decode cL_deed 180 = .ok (.iload_n 1, 1) := by decide +kernel
theorem dL_deed_181 : decode cL_deed 181 = .ok (.bipush 7, 2) := by decide +kernel
theorem dL_deed_183 : decode cL_deed 183 = .ok (.ishr, 1) := by decide +kernel
theorem dL_deed_184 : decode cL_deed 184 = .ok (.iload_n 1, 1) := by decide +kernel
theorem dL_deed_185 : decode cL_deed 185 = .ok (.bipush 20, 2) := by decide +kernel
theorem dL_deed_187 : decode cL_deed 187 = .ok (.ishr, 1) := by decide +kernel
theorem dL_deed_188 : decode cL_deed 188 = .ok (.bipush 9, 2) := by decide +kernel
theorem dL_deed_190 : decode cL_deed 190 = .ok (.invokestatic 21, 3) := by decide +kernel
theorem dL_deed_193 : decode cL_deed 193 = .ok (.ifCond .ne 8, 3) := by decide +kernel
theorem dL_deed_196 : decode cL_deed 196 = .ok (.bipush 102, 2) := by decide +kernel
theorem dL_deed_198 : decode cL_deed 198 = .ok (.goto 5, 3) := by decide +kernel
theorem dL_deed_201 : decode cL_deed 201 = .ok (.bipush 100, 2) := by decide +kernel
theorem dL_deed_203 : decode cL_deed 203 = .ok (.invokestatic 21, 3) := by decide +kernel
theorem dL_deed_206 : decode cL_deed 206 = .ok (.istore 7, 2) := by decide +kernel
theorem dL_deed_208 : decode cL_deed 208 = .ok (.iload_n 1, 1) := by decide +kernel
theorem dL_deed_209 : decode cL_deed 209 = .ok (.bipush 21, 2) := by decide +kernel
theorem dL_deed_211 : decode cL_deed 211 = .ok (.ishr, 1) := by decide +kernel
theorem dL_deed_212 : decode cL_deed 212 = .ok (.iconst 3, 1) := by decide +kernel
theorem dL_deed_213 : decode cL_deed 213 = .ok (.invokestatic 21, 3) := by decide +kernel
theorem dL_deed_216 : decode cL_deed 216 = .ok (.ifCond .ne 18, 3) := by decide +kernel
theorem dL_deed_219 : decode cL_deed 219 = .ok (.bipush 40, 2) := by decide +kernel
theorem dL_deed_221 : decode cL_deed 221 = .ok (.iload_n 1, 1) := by decide +kernel
theorem dL_deed_222 : decode cL_deed 222 = .ok (.bipush 7, 2) := by decide +kernel
theorem dL_deed_224 : decode cL_deed 224 = .ok (.ishr, 1) := by decide +kernel
theorem dL_deed_225 : decode cL_deed 225 = .ok (.bipush 10, 2) := by decide +kernel
theorem dL_deed_227 : decode cL_deed 227 = .ok (.invokestatic 21, 3) := by decide +kernel
theorem dL_deed_230 : decode cL_deed 230 = .ok (.iadd, 1) := by decide +kernel
theorem dL_deed_231 : decode cL_deed 231 = .ok (.goto 5, 3) := by decide +kernel
theorem dL_deed_234 : decode cL_deed 234 = .ok (.iload 7, 2) := by decide +kernel
theorem dL_deed_236 : decode cL_deed 236 = .ok (.istore 7, 2) := by decide +kernel
theorem dL_deed_238 : decode cL_deed 238 = .ok (.aload_n 3, 1) := by decide +kernel
theorem dL_deed_239 : decode cL_deed 239 = .ok (.iconst 5, 1) := by decide +kernel
theorem dL_deed_240 : decode cL_deed 240 = .ok (.iload 6, 2) := by decide +kernel
theorem dL_deed_242 : decode cL_deed 242 = .ok (.iadd, 1) := by decide +kernel
theorem dL_deed_243 : decode cL_deed 243 = .ok (.iaload, 1) := by decide +kernel
theorem dL_deed_244 : decode cL_deed 244 = .ok (.istore 8, 2) := by decide +kernel
theorem dL_deed_246 : decode cL_deed 246 = .ok (.iload 7, 2) := by decide +kernel
theorem dL_deed_248 : decode cL_deed 248 = .ok (.bipush 99, 2) := by decide +kernel
theorem dL_deed_250 : decode cL_deed 250 = .ok (.if_icmp .le 7, 3) := by decide +kernel
theorem dL_deed_253 : decode cL_deed 253 = .ok (.iconst (-1), 1) := by decide +kernel
theorem dL_deed_254 : decode cL_deed 254 = .ok (.goto 27, 3) := by decide +kernel
theorem dL_deed_257 : decode cL_deed 257 = .ok (.iload 7, 2) := by decide +kernel
theorem dL_deed_259 : decode cL_deed 259 = .ok (.iload 8, 2) := by decide +kernel
theorem dL_deed_261 : decode cL_deed 261 = .ok (.if_icmp .ne 8, 3) := by decide +kernel
theorem dL_deed_264 : decode cL_deed 264 = .ok (.bipush (-4), 2) := by decide +kernel
theorem dL_deed_266 : decode cL_deed 266 = .ok (.goto 15, 3) := by decide +kernel
theorem dL_deed_269 : decode cL_deed 269 = .ok (.iload 5, 2) := by decide +kernel
theorem dL_deed_271 : decode cL_deed 271 = .ok (.ifCond .eq 8, 3) := by decide +kernel
theorem dL_deed_274 : decode cL_deed 274 = .ok (.bipush (-2), 2) := by decide +kernel
theorem dL_deed_276 : decode cL_deed 276 = .ok (.goto 5, 3) := by decide +kernel
theorem dL_deed_279 : decode cL_deed 279 = .ok (.iload 8, 2) := by decide +kernel
theorem dL_deed_281 : decode cL_deed 281 = .ok (.istore 9, 2) := by decide +kernel
theorem dL_deed_283 : decode cL_deed 283 = .ok (.aload_n 3, 1) := by decide +kernel
theorem dL_deed_284 : decode cL_deed 284 = .ok (.iconst 5, 1) := by decide +kernel
theorem dL_deed_285 : decode cL_deed 285 = .ok (.iload 6, 2) := by decide +kernel
theorem dL_deed_287 : decode cL_deed 287 = .ok (.iadd, 1) := by decide +kernel
theorem dL_deed_288 : decode cL_deed 288 = .ok (.iload 9, 2) := by decide +kernel
theorem dL_deed_290 : decode cL_deed 290 = .ok (.ifCond .ge 8, 3) := by decide +kernel
theorem dL_deed_293 : decode cL_deed 293 = .ok (.iload 8, 2) := by decide +kernel
theorem dL_deed_295 : decode cL_deed 295 = .ok (.goto 5, 3) := by decide +kernel
theorem dL_deed_298 : decode cL_deed 298 = .ok (.iload 7, 2) := by decide +kernel
theorem dL_deed_300 : decode cL_deed 300 = .ok (.iastore, 1) := by decide +kernel
theorem dL_deed_301 : decode cL_deed 301 = .ok (.aload_n 3, 1) := by decide +kernel
theorem dL_deed_302 : decode cL_deed 302 = .ok (.bipush 11, 2) := by decide +kernel
theorem dL_deed_304 : decode cL_deed 304 = .ok (.iload 6, 2) := by decide +kernel
theorem dL_deed_306 : decode cL_deed 306 = .ok (.iadd, 1) := by decide +kernel
theorem dL_deed_307 : decode cL_deed 307 = .ok (.iload 9, 2) := by decide +kernel
theorem dL_deed_309 : decode cL_deed 309 = .ok (.ifCond .ge 13, 3) := by decide +kernel
theorem dL_deed_312 : decode cL_deed 312 = .ok (.aload_n 3, 1) := by decide +kernel
theorem dL_deed_313 : decode cL_deed 313 = .ok (.bipush 11, 2) := by decide +kernel
theorem dL_deed_315 : decode cL_deed 315 = .ok (.iload 6, 2) := by decide +kernel
theorem dL_deed_317 : decode cL_deed 317 = .ok (.iadd, 1) := by decide +kernel
theorem dL_deed_318 : decode cL_deed 318 = .ok (.iaload, 1) := by decide +kernel
theorem dL_deed_319 : decode cL_deed 319 = .ok (.goto 4, 3) := by decide +kernel
theorem dL_deed_322 : decode cL_deed 322 = .ok (.iconst 0, 1) := by decide +kernel
theorem dL_deed_323 : decode cL_deed 323 = .ok (.iastore, 1) := by decide +kernel
theorem dL_deed_324 : decode cL_deed 324 = .ok (.aload_n 0, 1) := by decide +kernel
theorem dL_deed_325 : decode cL_deed 325 = .ok (.iload 6, 2) := by decide +kernel
theorem dL_deed_327 : decode cL_deed 327 = .ok (.iload 7, 2) := by decide +kernel
theorem dL_deed_329 : decode cL_deed 329 = .ok (.invokevirtual 78, 3) := by decide +kernel
theorem dL_deed_332 : decode cL_deed 332 = .ok (.iload 9, 2) := by decide +kernel
theorem dL_deed_334 : decode cL_deed 334 = .ok (.if_icmp .ne 16, 3) := by decide +kernel
theorem dL_deed_337 : decode cL_deed 337 = .ok (.iload 9, 2) := by decide +kernel
theorem dL_deed_339 : decode cL_deed 339 = .ok (.ifCond .ge 7, 3) := by decide +kernel
theorem dL_deed_342 : decode cL_deed 342 = .ok (.iconst 0, 1) := by decide +kernel
theorem dL_deed_343 : decode cL_deed 343 = .ok (.goto 8, 3) := by decide +kernel
theorem dL_deed_346 : decode cL_deed 346 = .ok (.iconst 1, 1) := by decide +kernel
theorem dL_deed_347 : decode cL_deed 347 = .ok (.goto 4, 3) := by decide +kernel
theorem dL_deed_350 : decode cL_deed 350 = .ok (.iconst (-1), 1) := by decide +kernel
theorem dL_deed_351 : decode cL_deed 351 = .ok (.ireturn, 1) := by decide +kernel
theorem dL_deed_352 : decode cL_deed 352 = .ok (.iload 4, 2) := by decide +kernel
theorem dL_deed_354 : decode cL_deed 354 = .ok (.bipush 13, 2) := by decide +kernel
theorem dL_deed_356 : decode cL_deed 356 = .ok (.if_icmp .ge 108, 3) := by decide +kernel
theorem dL_deed_359 : decode cL_deed 359 = .ok (.iload_n 1, 1) := by decide +kernel
theorem dL_deed_360 : decode cL_deed 360 = .ok (.bipush 7, 2) := by decide +kernel
theorem dL_deed_362 : decode cL_deed 362 = .ok (.ishr, 1) := by decide +kernel
theorem dL_deed_363 : decode cL_deed 363 = .ok (.iload_n 1, 1) := by decide +kernel
theorem dL_deed_364 : decode cL_deed 364 = .ok (.bipush 20, 2) := by decide +kernel
theorem dL_deed_366 : decode cL_deed 366 = .ok (.ishr, 1) := by decide +kernel
theorem dL_deed_367 : decode cL_deed 367 = .ok (.bipush 9, 2) := by decide +kernel
theorem dL_deed_369 : decode cL_deed 369 = .ok (.invokestatic 21, 3) := by decide +kernel
theorem dL_deed_372 : decode cL_deed 372 = .ok (.ifCond .ne 7, 3) := by decide +kernel
theorem dL_deed_375 : decode cL_deed 375 = .ok (.iconst 3, 1) := by decide +kernel
theorem dL_deed_376 : decode cL_deed 376 = .ok (.goto 4, 3) := by decide +kernel
theorem dL_deed_379 : decode cL_deed 379 = .ok (.iconst 2, 1) := by decide +kernel
theorem dL_deed_380 : decode cL_deed 380 = .ok (.invokestatic 21, 3) := by decide +kernel
theorem dL_deed_383 : decode cL_deed 383 = .ok (.istore 7, 2) := by decide +kernel
theorem dL_deed_385 : decode cL_deed 385 = .ok (.iload 7, 2) := by decide +kernel
theorem dL_deed_387 : decode cL_deed 387 = .ok (.iconst 1, 1) := by decide +kernel
theorem dL_deed_388 : decode cL_deed 388 = .ok (.if_icmp .le 7, 3) := by decide +kernel
theorem dL_deed_391 : decode cL_deed 391 = .ok (.iconst (-1), 1) := by decide +kernel
theorem dL_deed_392 : decode cL_deed 392 = .ok (.goto 28, 3) := by decide +kernel
theorem dL_deed_395 : decode cL_deed 395 = .ok (.iload 7, 2) := by decide +kernel
theorem dL_deed_397 : decode cL_deed 397 = .ok (.aload_n 3, 1) := by decide +kernel
theorem dL_deed_398 : decode cL_deed 398 = .ok (.iconst 3, 1) := by decide +kernel
theorem dL_deed_399 : decode cL_deed 399 = .ok (.iaload, 1) := by decide +kernel
theorem dL_deed_400 : decode cL_deed 400 = .ok (.if_icmp .ne 8, 3) := by decide +kernel
theorem dL_deed_403 : decode cL_deed 403 = .ok (.bipush (-4), 2) := by decide +kernel
theorem dL_deed_405 : decode cL_deed 405 = .ok (.goto 15, 3) := by decide +kernel
theorem dL_deed_408 : decode cL_deed 408 = .ok (.iload 5, 2) := by decide +kernel
theorem dL_deed_410 : decode cL_deed 410 = .ok (.ifCond .eq 8, 3) := by decide +kernel
theorem dL_deed_413 : decode cL_deed 413 = .ok (.bipush (-2), 2) := by decide +kernel
theorem dL_deed_415 : decode cL_deed 415 = .ok (.goto 5, 3) := by decide +kernel
theorem dL_deed_418 : decode cL_deed 418 = .ok (.iload 7, 2) := by decide +kernel
theorem dL_deed_420 : decode cL_deed 420 = .ok (.istore 8, 2) := by decide +kernel
theorem dL_deed_422 : decode cL_deed 422 = .ok (.aload_n 3, 1) := by decide +kernel
theorem dL_deed_423 : decode cL_deed 423 = .ok (.iconst 3, 1) := by decide +kernel
theorem dL_deed_424 : decode cL_deed 424 = .ok (.iload 8, 2) := by decide +kernel
theorem dL_deed_426 : decode cL_deed 426 = .ok (.ifCond .ge 9, 3) := by decide +kernel
theorem dL_deed_429 : decode cL_deed 429 = .ok (.aload_n 3, 1) := by decide +kernel
theorem dL_deed_430 : decode cL_deed 430 = .ok (.iconst 3, 1) := by decide +kernel
theorem dL_deed_431 : decode cL_deed 431 = .ok (.iaload, 1) := by decide +kernel
theorem dL_deed_432 : decode cL_deed 432 = .ok (.goto 5, 3) := by decide +kernel
theorem dL_deed_435 : decode cL_deed 435 = .ok (.iload 7, 2) := by decide +kernel
theorem dL_deed_437 : decode cL_deed 437 = .ok (.iastore, 1) := by decide +kernel
theorem dL_deed_438 : decode cL_deed 438 = .ok (.aload_n 0, 1) := by decide +kernel
theorem dL_deed_439 : decode cL_deed 439 = .ok (.iload 7, 2) := by decide +kernel
theorem dL_deed_441 : decode cL_deed 441 = .ok (.invokevirtual 81, 3) := by decide +kernel
theorem dL_deed_444 : decode cL_deed 444 = .ok (.iload 8, 2) := by decide +kernel
theorem dL_deed_446 : decode cL_deed 446 = .ok (.if_icmp .ne 16, 3) := by decide +kernel
theorem dL_deed_449 : decode cL_deed 449 = .ok (.iload 8, 2) := by decide +kernel
theorem dL_deed_451 : decode cL_deed 451 = .ok (.ifCond .ge 7, 3) := by decide +kernel
theorem dL_deed_454 : decode cL_deed 454 = .ok (.iconst 0, 1) := by decide +kernel
theorem dL_deed_455 : decode cL_deed 455 = .ok (.goto 8, 3) := by decide +kernel
theorem dL_deed_458 : decode cL_deed 458 = .ok (.iconst 1, 1) := by decide +kernel
theorem dL_deed_459 : decode cL_deed 459 = .ok (.goto 4, 3) := by decide +kernel
theorem dL_deed_462 : decode cL_deed 462 = .ok (.iconst (-1), 1) := by decide +kernel
theorem dL_deed_463 : decode cL_deed 463 = .ok (.ireturn, 1) := by decide +kernel
theorem dL_deed_464 : decode cL_deed 464 = .ok (.iload 5, 2) := by decide +kernel
theorem dL_deed_466 : decode cL_deed 466 = .ok (.ifCond .eq 8, 3) := by decide +kernel
theorem dL_deed_469 : decode cL_deed 469 = .ok (.bipush (-2), 2) := by decide +kernel
theorem dL_deed_471 : decode cL_deed 471 = .ok (.goto 7, 3) := by decide +kernel
theorem dL_deed_474 : decode cL_deed 474 = .ok (.aload_n 3, 1) := by decide +kernel
theorem dL_deed_475 : decode cL_deed 475 = .ok (.invokestatic 84, 3) := by decide +kernel
theorem dL_deed_478 : decode cL_deed 478 = .ok (.istore 7, 2) := by decide +kernel
theorem dL_deed_480 : decode cL_deed 480 = .ok (.aload_n 0, 1) := by decide +kernel
theorem dL_deed_481 : decode cL_deed 481 = .ok (.invokevirtual 87, 3) := by decide +kernel
theorem dL_deed_484 : decode cL_deed 484 = .ok (.iload 7, 2) := by decide +kernel
theorem dL_deed_486 : decode cL_deed 486 = .ok (.if_icmp .ne 16, 3) := by decide +kernel
theorem dL_deed_489 : decode cL_deed 489 = .ok (.iload 5, 2) := by decide +kernel
theorem dL_deed_491 : decode cL_deed 491 = .ok (.ifCond .eq 7, 3) := by decide +kernel
theorem dL_deed_494 : decode cL_deed 494 = .ok (.iconst 0, 1) := by decide +kernel
theorem dL_deed_495 : decode cL_deed 495 = .ok (.goto 8, 3) := by decide +kernel
theorem dL_deed_498 : decode cL_deed 498 = .ok (.iconst 1, 1) := by decide +kernel
theorem dL_deed_499 : decode cL_deed 499 = .ok (.goto 4, 3) := by decide +kernel
theorem dL_deed_502 : decode cL_deed 502 = .ok (.iconst (-1), 1) := by decide +kernel
theorem dL_deed_503 : decode cL_deed 503 = .ok (.ireturn, 1) := by decide +kernel
theorem dL_same_0 : decode cL_same 0 = .ok (.iconst 0, 1) := by decide +kernel
theorem dL_same_1 : decode cL_same 1 = .ok (.istore_n 3, 1) := by decide +kernel
theorem dL_same_2 : decode cL_same 2 = .ok (.iconst 0, 1) := by decide +kernel
theorem dL_same_3 : decode cL_same 3 = .ok (.istore 4, 2) := by decide +kernel
theorem dL_same_5 : decode cL_same 5 = .ok (.aload_n 0, 1) := by decide +kernel
theorem dL_same_6 : decode cL_same 6 = .ok (.iconst 0, 1) := by decide +kernel
theorem dL_same_7 : decode cL_same 7 = .ok (.invokevirtual 62, 3) := by decide +kernel
theorem dL_same_10 : decode cL_same 10 = .ok (.aload_n 1, 1) := by decide +kernel
theorem dL_same_11 : decode cL_same 11 = .ok (.iconst 1, 1) := by decide +kernel
theorem dL_same_12 : decode cL_same 12 = .ok (.iaload, 1) := by decide +kernel
theorem dL_same_13 : decode cL_same 13 = .ok (.if_icmp .ne 88, 3) := by decide +kernel
theorem dL_same_16 : decode cL_same 16 = .ok (.aload_n 0, 1) := by decide +kernel
theorem dL_same_17 : decode cL_same 17 = .ok (.iconst 1, 1) := by decide +kernel
theorem dL_same_18 : decode cL_same 18 = .ok (.invokevirtual 62, 3) := by decide +kernel
theorem dL_same_21 : decode cL_same 21 = .ok (.aload_n 2, 1) := by decide +kernel
theorem dL_same_22 : decode cL_same 22 = .ok (.iconst 0, 1) := by decide +kernel
theorem dL_same_23 : decode cL_same 23 = .ok (.iaload, 1) := by decide +kernel
theorem dL_same_24 : decode cL_same 24 = .ok (.if_icmp .ne 77, 3) := by decide +kernel
theorem dL_same_27 : decode cL_same 27 = .ok (.aload_n 0, 1) := by decide +kernel
theorem dL_same_28 : decode cL_same 28 = .ok (.iconst 2, 1) := by decide +kernel
theorem dL_same_29 : decode cL_same 29 = .ok (.invokevirtual 62, 3) := by decide +kernel
theorem dL_same_32 : decode cL_same 32 = .ok (.aload_n 2, 1) := by decide +kernel
theorem dL_same_33 : decode cL_same 33 = .ok (.iconst 1, 1) := by decide +kernel
theorem dL_same_34 : decode cL_same 34 = .ok (.iaload, 1) := by decide +kernel
theorem dL_same_35 : decode cL_same 35 = .ok (.if_icmp .ne 66, 3) := by decide +kernel
theorem dL_same_38 : decode cL_same 38 = .ok (.aload_n 0, 1) := by decide +kernel
theorem dL_same_39 : decode cL_same 39 = .ok (.iconst 4, 1) := by decide +kernel
theorem dL_same_40 : decode cL_same 40 = .ok (.invokevirtual 62, 3) := by decide +kernel
theorem dL_same_43 : decode cL_same 43 = .ok (.aload_n 2, 1) := by decide +kernel
theorem dL_same_44 : decode cL_same 44 = .ok (.iconst 2, 1) := by decide +kernel
theorem dL_same_45 : decode cL_same 45 = .ok (.iaload, 1) := by decide +kernel
theorem dL_same_46 : decode cL_same 46 = .ok (.if_icmp .ne 55, 3) := by decide +kernel
theorem dL_same_49 : decode cL_same 49 = .ok (.aload_n 0, 1) := by decide +kernel
theorem dL_same_50 : decode cL_same 50 = .ok (.iconst 5, 1) := by decide +kernel
theorem dL_same_51 : decode cL_same 51 = .ok (.invokevirtual 62, 3) := by decide +kernel
theorem dL_same_54 : decode cL_same 54 = .ok (.aload_n 2, 1) := by decide +kernel
theorem dL_same_55 : decode cL_same 55 = .ok (.iconst 3, 1) := by decide +kernel
theorem dL_same_56 : decode cL_same 56 = .ok (.iaload, 1) := by decide +kernel
theorem dL_same_57 : decode cL_same 57 = .ok (.if_icmp .ne 44, 3) := by decide +kernel
theorem dL_same_60 : decode cL_same 60 = .ok (.aload_n 0, 1) := by decide +kernel
theorem dL_same_61 : decode cL_same 61 = .ok (.bipush 6, 2) := by decide +kernel
theorem dL_same_63 : decode cL_same 63 = .ok (.invokevirtual 62, 3) := by decide +kernel
theorem dL_same_66 : decode cL_same 66 = .ok (.aload_n 2, 1) := by decide +kernel
theorem dL_same_67 : decode cL_same 67 = .ok (.invokestatic 55, 3) := by decide +kernel
theorem dL_same_70 : decode cL_same 70 = .ok (.if_icmp .ne 31, 3) := by decide +kernel
theorem dL_same_73 : decode cL_same 73 = .ok (.aload_n 0, 1) := by decide +kernel
theorem dL_same_74 : decode cL_same 74 = .ok (.bipush 7, 2) := by decide +kernel
theorem dL_same_76 : decode cL_same 76 = .ok (.invokevirtual 62, 3) := by decide +kernel
theorem dL_same_79 : decode cL_same 79 = .ok (.aload_n 2, 1) := by decide +kernel
theorem dL_same_80 : decode cL_same 80 = .ok (.iconst 4, 1) := by decide +kernel
theorem dL_same_81 : decode cL_same 81 = .ok (.iaload, 1) := by decide +kernel
theorem dL_same_82 : decode cL_same 82 = .ok (.if_icmp .ne 19, 3) := by decide +kernel
theorem dL_same_85 : decode cL_same 85 = .ok (.aload_n 0, 1) := by decide +kernel
theorem dL_same_86 : decode cL_same 86 = .ok (.bipush 13, 2) := by decide +kernel
theorem dL_same_88 : decode cL_same 88 = .ok (.invokevirtual 62, 3) := by decide +kernel
theorem dL_same_91 : decode cL_same 91 = .ok (.aload_n 1, 1) := by decide +kernel
theorem dL_same_92 : decode cL_same 92 = .ok (.iconst 0, 1) := by decide +kernel
theorem dL_same_93 : decode cL_same 93 = .ok (.iaload, 1) := by decide +kernel
theorem dL_same_94 : decode cL_same 94 = .ok (.if_icmp .ne 7, 3) := by decide +kernel
theorem dL_same_97 : decode cL_same 97 = .ok (.iconst 1, 1) := by decide +kernel
theorem dL_same_98 : decode cL_same 98 = .ok (.goto 4, 3) := by decide +kernel
theorem dL_same_101 : decode cL_same 101 = .ok (.iconst 0, 1) := by decide +kernel
theorem dL_same_102 : decode cL_same 102 = .ok (.istore 5, 2) := by decide +kernel
theorem dL_same_104 : decode cL_same 104 = .ok (.iconst 0, 1) := by decide +kernel
theorem dL_same_105 : decode cL_same 105 = .ok (.istore 6, 2) := by decide +kernel
theorem dL_same_107 : decode cL_same 107 = .ok (.iload 6, 2) := by decide +kernel
theorem dL_same_109 : decode cL_same 109 = .ok (.aload_n 1, 1) := by decide +kernel
theorem dL_same_110 : decode cL_same 110 = .ok (.iconst 1, 1) := by decide +kernel
theorem dL_same_111 : decode cL_same 111 = .ok (.iaload, 1) := by decide +kernel
theorem dL_same_112 : decode cL_same 112 = .ok (.if_icmp .ge 215, 3) := by decide +kernel
theorem dL_same_115 : decode cL_same 115 = .ok (.aload_n 1, 1) := by decide +kernel
theorem dL_same_116 : decode cL_same 116 = .ok (.iconst 2, 1) := by decide +kernel
theorem dL_same_117 : decode cL_same 117 = .ok (.iload 6, 2) := by decide +kernel
theorem dL_same_119 : decode cL_same 119 = .ok (.iadd, 1) := by decide +kernel
theorem dL_same_120 : decode cL_same 120 = .ok (.iaload, 1) := by decide +kernel
theorem dL_same_121 : decode cL_same 121 = .ok (.istore 7, 2) := by decide +kernel
theorem dL_same_123 : decode cL_same 123 = .ok (.iload_n 3, 1) := by decide +kernel
theorem dL_same_124 : decode cL_same 124 = .ok (.iload 7, 2) := by decide +kernel
theorem dL_same_126 : decode cL_same 126 = .ok (.iconst 1, 1) := by decide +kernel
theorem dL_same_127 : decode cL_same 127 = .ok (.if_icmp .eq 9, 3) := by decide +kernel
theorem dL_same_130 : decode cL_same 130 = .ok (.iload 7, 2) := by decide +kernel
theorem dL_same_132 : decode cL_same 132 = .ok (.iconst 4, 1) := by decide +kernel
theorem dL_same_133 : decode cL_same 133 = .ok (.if_icmp .ne 7, 3) := by decide +kernel
theorem dL_same_136 : decode cL_same 136 = .ok (.iconst 1, 1) := by decide +kernel
theorem dL_same_137 : decode cL_same 137 = .ok (.goto 4, 3) := by decide +kernel
theorem dL_same_140 : decode cL_same 140 = .ok (.iconst 0, 1) := by decide +kernel
theorem dL_same_141 : decode cL_same 141 = .ok (.iadd, 1) := by decide +kernel
theorem dL_same_142 : decode cL_same 142 = .ok (.istore_n 3, 1) := by decide +kernel
theorem dL_same_143 : decode cL_same 143 = .ok (.iload 4, 2) := by decide +kernel
theorem dL_same_145 : decode cL_same 145 = .ok (.iload 7, 2) := by decide +kernel
theorem dL_same_147 : decode cL_same 147 = .ok (.iconst 2, 1) := by decide +kernel
theorem dL_same_148 : decode cL_same 148 = .ok (.if_icmp .eq 9, 3) := by decide +kernel
theorem dL_same_151 : decode cL_same 151 = .ok (.iload 7, 2) := by decide +kernel
theorem dL_same_153 : decode cL_same 153 = .ok (.iconst 5, 1) := by decide +kernel
theorem dL_same_154 : decode cL_same 154 = .ok (.if_icmp .ne 7, 3) := by decide +kernel
theorem dL_same_157 : decode cL_same 157 = .ok (.iconst 1, 1) := by decide +kernel
theorem dL_same_158 : decode cL_same 158 = .ok (.goto 4, 3) := by decide +kernel
theorem dL_same_161 : decode cL_same 161 = .ok (.iconst 0, 1) := by decide +kernel
theorem dL_same_162 : decode cL_same 162 = .ok (.iadd, 1) := by decide +kernel
theorem dL_same_163 : decode cL_same 163 = .ok (.istore 4, 2) := by decide +kernel
theorem dL_same_165 : decode cL_same 165 = .ok (.iload 5, 2) := by decide +kernel
theorem dL_same_167 : decode cL_same 167 = .ok (.ifCond .eq 151, 3) := by decide +kernel
theorem dL_same_170 : decode cL_same 170 = .ok (.aload_n 0, 1) := by decide +kernel
theorem dL_same_171 : decode cL_same 171 = .ok (.iload 6, 2) := by decide +kernel
theorem dL_same_173 : decode cL_same 173 = .ok (.iconst 0, 1) := by decide +kernel
theorem dL_same_174 : decode cL_same 174 = .ok (.invokevirtual 89, 3) := by decide +kernel
theorem dL_same_177 : decode cL_same 177 = .ok (.iconst 1, 1) := by decide +kernel
theorem dL_same_178 : decode cL_same 178 = .ok (.if_icmp .ne 140, 3) := by decide +kernel
theorem dL_same_181 : decode cL_same 181 = .ok (.aload_n 0, 1) := by decide +kernel
theorem dL_same_182 : decode cL_same 182 = .ok (.invokevirtual 92, 3) := by decide +kernel
theorem dL_same_185 : decode cL_same 185 = .ok (.iload 7, 2) := by decide +kernel
theorem dL_same_187 : decode cL_same 187 = .ok (.if_icmp .ne 131, 3) := by decide +kernel
theorem dL_same_190 : decode cL_same 190 = .ok (.aload_n 0, 1) := by decide +kernel
theorem dL_same_191 : decode cL_same 191 = .ok (.iload 6, 2) := by decide +kernel
theorem dL_same_193 : decode cL_same 193 = .ok (.iconst 1, 1) := by decide +kernel
theorem dL_same_194 : decode cL_same 194 = .ok (.invokevirtual 89, 3) := by decide +kernel
theorem dL_same_197 : decode cL_same 197 = .ok (.iconst 1, 1) := by decide +kernel
theorem dL_same_198 : decode cL_same 198 = .ok (.if_icmp .ne 120, 3) := by decide +kernel
theorem dL_same_201 : decode cL_same 201 = .ok (.aload_n 0, 1) := by decide +kernel
theorem dL_same_202 : decode cL_same 202 = .ok (.invokevirtual 92, 3) := by decide +kernel
theorem dL_same_205 : decode cL_same 205 = .ok (.aload_n 2, 1) := by decide +kernel
theorem dL_same_206 : decode cL_same 206 = .ok (.iconst 5, 1) := by decide +kernel
theorem dL_same_207 : decode cL_same 207 = .ok (.iload 6, 2) := by decide +kernel
theorem dL_same_209 : decode cL_same 209 = .ok (.iadd, 1) := by decide +kernel
theorem dL_same_210 : decode cL_same 210 = .ok (.iaload, 1) := by decide +kernel
theorem dL_same_211 : decode cL_same 211 = .ok (.if_icmp .ne 107, 3) := by decide +kernel
theorem dL_same_214 : decode cL_same 214 = .ok (.aload_n 0, 1) := by decide +kernel
theorem dL_same_215 : decode cL_same 215 = .ok (.iload 6, 2) := by decide +kernel
theorem dL_same_217 : decode cL_same 217 = .ok (.iconst 2, 1) := by decide +kernel
theorem dL_same_218 : decode cL_same 218 = .ok (.invokevirtual 89, 3) := by decide +kernel
theorem dL_same_221 : decode cL_same 221 = .ok (.iconst 1, 1) := by decide +kernel
theorem dL_same_222 : decode cL_same 222 = .ok (.if_icmp .ne 96, 3) := by decide +kernel
theorem dL_same_225 : decode cL_same 225 = .ok (.aload_n 0, 1) := by decide +kernel
theorem dL_same_226 : decode cL_same 226 = .ok (.invokevirtual 92, 3) := by decide +kernel
theorem dL_same_229 : decode cL_same 229 = .ok (.aload_n 1, 1) := by decide +kernel
theorem dL_same_230 : decode cL_same 230 = .ok (.bipush 8, 2) := by decide +kernel
theorem dL_same_232 : decode cL_same 232 = .ok (.iload 6, 2) := by decide +kernel
theorem dL_same_234 : decode cL_same 234 = .ok (.iadd, 1) := by decide +kernel
theorem dL_same_235 : decode cL_same 235 = .ok (.iaload, 1) := by decide +kernel
theorem dL_same_236 : decode cL_same 236 = .ok (.if_icmp .ne 82, 3) := by decide +kernel
theorem dL_same_239 : decode cL_same 239 = .ok (.aload_n 0, 1) := by decide +kernel
theorem dL_same_240 : decode cL_same 240 = .ok (.iload 6, 2) := by decide +kernel
theorem dL_same_242 : decode cL_same 242 = .ok (.iconst 3, 1) := by decide +kernel
theorem dL_same_243 : decode cL_same 243 = .ok (.invokevirtual 89, 3) := by decide +kernel
theorem dL_same_246 : decode cL_same 246 = .ok (.iconst 1, 1) := by decide +kernel
theorem dL_same_247 : decode cL_same 247 = .ok (.if_icmp .ne 71, 3) := by decide +kernel
theorem dL_same_250 : decode cL_same 250 = .ok (.aload_n 0, 1) := by decide +kernel
theorem dL_same_251 : decode cL_same 251 = .ok (.invokevirtual 92, 3) := by decide +kernel
theorem dL_same_254 : decode cL_same 254 = .ok (.aload_n 2, 1) := by decide +kernel
theorem dL_same_255 : decode cL_same 255 = .ok (.bipush 11, 2) := by decide +kernel
theorem dL_same_257 : decode cL_same 257 = .ok (.iload 6, 2) := by decide +kernel
theorem dL_same_259 : decode cL_same 259 = .ok (.iadd, 1) := by decide +kernel
theorem dL_same_260 : decode cL_same 260 = .ok (.iaload, 1) := by decide +kernel
theorem dL_same_261 : decode cL_same 261 = .ok (.if_icmp .ne 57, 3) := by decide +kernel
theorem dL_same_264 : decode cL_same 264 = .ok (.aload_n 0, 1) := by decide +kernel
theorem dL_same_265 : decode cL_same 265 = .ok (.iload 6, 2) := by decide +kernel
theorem dL_same_267 : decode cL_same 267 = .ok (.iconst 4, 1) := by decide +kernel
theorem dL_same_268 : decode cL_same 268 = .ok (.invokevirtual 89, 3) := by decide +kernel
theorem dL_same_271 : decode cL_same 271 = .ok (.iconst 1, 1) := by decide +kernel
theorem dL_same_272 : decode cL_same 272 = .ok (.if_icmp .ne 46, 3) := by decide +kernel
theorem dL_same_275 : decode cL_same 275 = .ok (.aload_n 0, 1) := by decide +kernel
theorem dL_same_276 : decode cL_same 276 = .ok (.invokevirtual 92, 3) := by decide +kernel
theorem dL_same_279 : decode cL_same 279 = .ok (.aload_n 2, 1) := by decide +kernel
theorem dL_same_280 : decode cL_same 280 = .ok (.bipush 17, 2) := by decide +kernel
theorem dL_same_282 : decode cL_same 282 = .ok (.iload 6, 2) := by decide +kernel
theorem dL_same_284 : decode cL_same 284 = .ok (.iadd, 1) := by decide +kernel
theorem dL_same_285 : decode cL_same 285 = .ok (.iaload, 1) := by decide +kernel
theorem dL_same_286 : decode cL_same 286 = .ok (.if_icmp .ne 32, 3) := by decide +kernel
theorem dL_same_289 : decode cL_same 289 = .ok (.aload_n 0, 1) := by decide +kernel
theorem dL_same_290 : decode cL_same 290 = .ok (.iload 6, 2) := by decide +kernel
theorem dL_same_292 : decode cL_same 292 = .ok (.iconst 5, 1) := by decide +kernel
theorem dL_same_293 : decode cL_same 293 = .ok (.invokevirtual 89, 3) := by decide +kernel
theorem dL_same_296 : decode cL_same 296 = .ok (.iconst 1, 1) := by decide +kernel
theorem dL_same_297 : decode cL_same 297 = .ok (.if_icmp .ne 21, 3) := by decide +kernel
theorem dL_same_300 : decode cL_same 300 = .ok (.aload_n 0, 1) := by decide +kernel
theorem dL_same_301 : decode cL_same 301 = .ok (.invokevirtual 92, 3) := by decide +kernel
theorem dL_same_304 : decode cL_same 304 = .ok (.aload_n 1, 1) := by decide +kernel
theorem dL_same_305 : decode cL_same 305 = .ok (.aload_n 2, 1) := by decide +kernel
theorem dL_same_306 : decode cL_same 306 = .ok (.iload 6, 2) := by decide +kernel
theorem dL_same_308 : decode cL_same 308 = .ok (.invokestatic 48, 3) := by decide +kernel
theorem dL_same_311 : decode cL_same 311 = .ok (.if_icmp .ne 7, 3) := by decide +kernel
theorem dL_same_314 : decode cL_same 314 = .ok (.iconst 1, 1) := by decide +kernel
theorem dL_same_315 : decode cL_same 315 = .ok (.goto 4, 3) := by decide +kernel
theorem dL_same_318 : decode cL_same 318 = .ok (.iconst 0, 1) := by decide +kernel
theorem dL_same_319 : decode cL_same 319 = .ok (.istore 5, 2) := by decide +kernel
theorem dL_same_321 : decode cL_same 321 = .ok (.iinc 6 1, 3) := by decide +kernel
theorem dL_same_324 : decode cL_same 324 = .ok (.goto (-217), 3) := by decide +kernel
theorem dL_same_327 : decode cL_same 327 = .ok (.iload 5, 2) := by decide +kernel
theorem dL_same_329 : decode cL_same 329 = .ok (.ifCond .eq 28, 3) := by decide +kernel
theorem dL_same_332 : decode cL_same 332 = .ok (.aload_n 0, 1) := by decide +kernel
theorem dL_same_333 : decode cL_same 333 = .ok (.bipush 8, 2) := by decide +kernel
theorem dL_same_335 : decode cL_same 335 = .ok (.invokevirtual 62, 3) := by decide +kernel
theorem dL_same_338 : decode cL_same 338 = .ok (.iload_n 3, 1) := by decide +kernel
theorem dL_same_339 : decode cL_same 339 = .ok (.if_icmp .ne 18, 3) := by decide +kernel
theorem dL_same_342 : decode cL_same 342 = .ok (.aload_n 0, 1) := by decide +kernel
theorem dL_same_343 : decode cL_same 343 = .ok (.bipush 9, 2) := by decide +kernel
theorem dL_same_345 : decode cL_same 345 = .ok (.invokevirtual 62, 3) := by decide +kernel
theorem dL_same_348 : decode cL_same 348 = .ok (.iload 4, 2) := by decide +kernel
theorem dL_same_350 : decode cL_same 350 = .ok (.if_icmp .ne 7, 3) := by decide +kernel
theorem dL_same_353 : decode cL_same 353 = .ok (.iconst 1, 1) := by decide +kernel
theorem dL_same_354 : decode cL_same 354 = .ok (.goto 4, 3) := by decide +kernel
theorem dL_same_357 : decode cL_same 357 = .ok (.iconst 0, 1) := by decide +kernel
theorem dL_same_358 : decode cL_same 358 = .ok (.ireturn, 1) := by decide +kernel
theorem dL_law_0 : decode cL_law 0 = .ok (.new 10, 3) := by decide +kernel
theorem dL_law_3 : decode cL_law 3 = .ok (.dup, 1) := by decide +kernel
theorem dL_law_4 : decode cL_law 4 = .ok (.invokespecial 95, 3) := by decide +kernel
theorem dL_law_7 : decode cL_law 7 = .ok (.astore_n 1, 1) := by decide +kernel
theorem dL_law_8 : decode cL_law 8 = .ok (.bipush 14, 2) := by decide +kernel
theorem dL_law_10 : decode cL_law 10 = .ok (.newarray .int, 2) := by decide +kernel
theorem dL_law_12 : decode cL_law 12 = .ok (.astore_n 2, 1) := by decide +kernel
theorem dL_law_13 : decode cL_law 13 = .ok (.bipush 23, 2) := by decide +kernel
theorem dL_law_15 : decode cL_law 15 = .ok (.newarray .int, 2) := by decide +kernel
theorem dL_law_17 : decode cL_law 17 = .ok (.astore_n 3, 1) := by decide +kernel
theorem dL_law_18 : decode cL_law 18 = .ok (.bipush 23, 2) := by decide +kernel
theorem dL_law_20 : decode cL_law 20 = .ok (.newarray .int, 2) := by decide +kernel
theorem dL_law_22 : decode cL_law 22 = .ok (.astore 4, 2) := by decide +kernel
theorem dL_law_24 : decode cL_law 24 = .ok (.aload_n 1, 1) := by decide +kernel
theorem dL_law_25 : decode cL_law 25 = .ok (.aload_n 0, 1) := by decide +kernel
theorem dL_law_26 : decode cL_law 26 = .ok (.iconst 0, 1) := by decide +kernel
theorem dL_law_27 : decode cL_law 27 = .ok (.iconst 5, 1) := by decide +kernel
theorem dL_law_28 : decode cL_law 28 = .ok (.aload_n 2, 1) := by decide +kernel
theorem dL_law_29 : decode cL_law 29 = .ok (.aload_n 3, 1) := by decide +kernel
theorem dL_law_30 : decode cL_law 30 = .ok (.invokestatic 96, 3) := by decide +kernel
theorem dL_law_33 : decode cL_law 33 = .ok (.ifCond .ne 5, 3) := by decide +kernel
theorem dL_law_36 : decode cL_law 36 = .ok (.iconst 0, 1) := by decide +kernel
theorem dL_law_37 : decode cL_law 37 = .ok (.ireturn, 1) := by decide +kernel
theorem dL_law_38 : decode cL_law 38 = .ok (.iconst 0, 1) := by decide +kernel
theorem dL_law_39 : decode cL_law 39 = .ok (.istore 5, 2) := by decide +kernel
theorem dL_law_41 : decode cL_law 41 = .ok (.iload 5, 2) := by decide +kernel
theorem dL_law_43 : decode cL_law 43 = .ok (.bipush 14, 2) := by decide +kernel
theorem dL_law_45 : decode cL_law 45 = .ok (.if_icmp .ge 488, 3) := by decide +kernel
theorem dL_law_48 : decode cL_law 48 = .ok (.aload_n 3, 1) := by decide +kernel
theorem dL_law_49 : decode cL_law 49 = .ok (.aload 4, 2) := by decide +kernel
theorem dL_law_51 : decode cL_law 51 = .ok (.invokestatic 100, 3) := by decide +kernel
theorem dL_law_54 : decode cL_law 54 = .ok (.aload_n 0, 1) := by decide +kernel
theorem dL_law_55 : decode cL_law 55 = .ok (.bipush 7, 2) := by decide +kernel
theorem dL_law_57 : decode cL_law 57 = .ok (.iload 5, 2) := by decide +kernel
theorem dL_law_59 : decode cL_law 59 = .ok (.iadd, 1) := by decide +kernel
theorem dL_law_60 : decode cL_law 60 = .ok (.invokestatic 15, 3) := by decide +kernel
theorem dL_law_63 : decode cL_law 63 = .ok (.istore 6, 2) := by decide +kernel
theorem dL_law_65 : decode cL_law 65 = .ok (.aload_n 1, 1) := by decide +kernel
theorem dL_law_66 : decode cL_law 66 = .ok (.iconst 3, 1) := by decide +kernel
theorem dL_law_67 : decode cL_law 67 = .ok (.invokevirtual 62, 3) := by decide +kernel
theorem dL_law_70 : decode cL_law 70 = .ok (.istore 7, 2) := by decide +kernel
theorem dL_law_72 : decode cL_law 72 = .ok (.iload 6, 2) := by decide +kernel
theorem dL_law_74 : decode cL_law 74 = .ok (.bipush 14, 2) := by decide +kernel
theorem dL_law_76 : decode cL_law 76 = .ok (.invokestatic 21, 3) := by decide +kernel
theorem dL_law_79 : decode cL_law 79 = .ok (.istore 8, 2) := by decide +kernel
theorem dL_law_81 : decode cL_law 81 = .ok (.aload_n 1, 1) := by decide +kernel
theorem dL_law_82 : decode cL_law 82 = .ok (.iload 6, 2) := by decide +kernel
theorem dL_law_84 : decode cL_law 84 = .ok (.aload_n 2, 1) := by decide +kernel
theorem dL_law_85 : decode cL_law 85 = .ok (.aload_n 3, 1) := by decide +kernel
theorem dL_law_86 : decode cL_law 86 = .ok (.invokestatic 104, 3) := by decide +kernel
theorem dL_law_89 : decode cL_law 89 = .ok (.istore 9, 2) := by decide +kernel
theorem dL_law_91 : decode cL_law 91 = .ok (.iload 9, 2) := by decide +kernel
theorem dL_law_93 : decode cL_law 93 = .ok (.ifCond .ge 5, 3) := by decide +kernel
theorem dL_law_96 : decode cL_law 96 = .ok (.iconst 0, 1) := by decide +kernel
theorem dL_law_97 : decode cL_law 97 = .ok (.ireturn, 1) := by decide +kernel
theorem dL_law_98 : decode cL_law 98 = .ok (.aload 4, 2) := by decide +kernel
theorem dL_law_100 : decode cL_law 100 = .ok (.invokestatic 55, 3) := by decide +kernel
theorem dL_law_103 : decode cL_law 103 = .ok (.istore 10, 2) := by decide +kernel
theorem dL_law_105 : decode cL_law 105 = .ok (.aload_n 1, 1) := by decide +kernel
theorem dL_law_106 : decode cL_law 106 = .ok (.bipush 6, 2) := by decide +kernel
theorem dL_law_108 : decode cL_law 108 = .ok (.invokevirtual 62, 3) := by decide +kernel
theorem dL_law_111 : decode cL_law 111 = .ok (.istore 11, 2) := by decide +kernel
theorem dL_law_113 : decode cL_law 113 = .ok (.iconst 0, 1) := by decide +kernel
theorem dL_law_114 : decode cL_law 114 = .ok (.istore 12, 2) := by decide +kernel
theorem dL_law_116 : decode cL_law 116 = .ok (.iconst 0, 1) := by decide +kernel
theorem dL_law_117 : decode cL_law 117 = .ok (.istore 13, 2) := by decide +kernel
theorem dL_law_119 : decode cL_law 119 = .ok (.iload 13, 2) := by decide +kernel
theorem dL_law_121 : decode cL_law 121 = .ok (.aload_n 2, 1) := by decide +kernel
theorem dL_law_122 : decode cL_law 122 = .ok (.iconst 1, 1) := by decide +kernel
theorem dL_law_123 : decode cL_law 123 = .ok (.iaload, 1) := by decide +kernel
theorem dL_law_124 : decode cL_law 124 = .ok (.if_icmp .ge 232, 3) := by decide +kernel
theorem dL_law_127 : decode cL_law 127 = .ok (.aload_n 1, 1) := by decide +kernel
theorem dL_law_128 : decode cL_law 128 = .ok (.iload 13, 2) := by decide +kernel
theorem dL_law_130 : decode cL_law 130 = .ok (.iconst 4, 1) := by decide +kernel
theorem dL_law_131 : decode cL_law 131 = .ok (.invokevirtual 89, 3) := by decide +kernel
theorem dL_law_134 : decode cL_law 134 = .ok (.iconst 1, 1) := by decide +kernel
theorem dL_law_135 : decode cL_law 135 = .ok (.if_icmp .eq 5, 3) := by decide +kernel
theorem dL_law_138 : decode cL_law 138 = .ok (.iconst 0, 1) := by decide +kernel
theorem dL_law_139 : decode cL_law 139 = .ok (.ireturn, 1) := by decide +kernel
theorem dL_law_140 : decode cL_law 140 = .ok (.aload_n 1, 1) := by decide +kernel
theorem dL_law_141 : decode cL_law 141 = .ok (.invokevirtual 92, 3) := by decide +kernel
theorem dL_law_144 : decode cL_law 144 = .ok (.istore 14, 2) := by decide +kernel
theorem dL_law_146 : decode cL_law 146 = .ok (.iload 11, 2) := by decide +kernel
theorem dL_law_148 : decode cL_law 148 = .ok (.iload 13, 2) := by decide +kernel
theorem dL_law_150 : decode cL_law 150 = .ok (.invokestatic 108, 3) := by decide +kernel
theorem dL_law_153 : decode cL_law 153 = .ok (.ifCond .eq 17, 3) := by decide +kernel
theorem dL_law_156 : decode cL_law 156 = .ok (.iload 10, 2) := by decide +kernel
theorem dL_law_158 : decode cL_law 158 = .ok (.iload 13, 2) := by decide +kernel
theorem dL_law_160 : decode cL_law 160 = .ok (.invokestatic 108, 3) := by decide +kernel
theorem dL_law_163 : decode cL_law 163 = .ok (.ifCond .ne 7, 3) := by decide +kernel
theorem dL_law_166 : decode cL_law 166 = .ok (.iconst 1, 1) := by decide +kernel
theorem dL_law_167 : decode cL_law 167 = .ok (.goto 4, 3) := by decide +kernel
theorem dL_law_170 : decode cL_law 170 = .ok (.iconst 0, 1) := by decide +kernel
theorem dL_law_171 : decode cL_law 171 = .ok (.istore 15, 2) := by decide +kernel
theorem dL_law_173 : decode cL_law 173 = .ok (.iload 12, 2) := by decide +kernel
theorem dL_law_175 : decode cL_law 175 = .ok (.iload 15, 2) := by decide +kernel
theorem dL_law_177 : decode cL_law 177 = .ok (.ifCond .eq 12, 3) := by decide +kernel
theorem dL_law_180 : decode cL_law 180 = .ok (.aload_n 1, 1) := by decide +kernel
theorem dL_law_181 : decode cL_law 181 = .ok (.iload 13, 2) := by decide +kernel
theorem dL_law_183 : decode cL_law 183 = .ok (.invokevirtual 112, 3) := by decide +kernel
theorem dL_law_186 : decode cL_law 186 = .ok (.goto 4, 3) := by decide +kernel
theorem dL_law_189 : decode cL_law 189 = .ok (.iconst 0, 1) := by decide +kernel
theorem dL_law_190 : decode cL_law 190 = .ok (.iadd, 1) := by decide +kernel
theorem dL_law_191 : decode cL_law 191 = .ok (.istore 12, 2) := by decide +kernel
theorem dL_law_193 : decode cL_law 193 = .ok (.iload 14, 2) := by decide +kernel
theorem dL_law_195 : decode cL_law 195 = .ok (.ifCond .lt 7, 3) := by decide +kernel
theorem dL_law_198 : decode cL_law 198 = .ok (.iconst 1, 1) := by decide +kernel
theorem dL_law_199 : decode cL_law 199 = .ok (.goto 4, 3) := by decide +kernel
theorem dL_law_202 : decode cL_law 202 = .ok (.iconst 0, 1) := by decide +kernel
theorem dL_law_203 : decode cL_law 203 = .ok (.iload 11, 2) := by decide +kernel
theorem dL_law_205 : decode cL_law 205 = .ok (.iload 13, 2) := by decide +kernel
theorem dL_law_207 : decode cL_law 207 = .ok (.invokestatic 108, 3) := by decide +kernel
theorem dL_law_210 : decode cL_law 210 = .ok (.if_icmp .ne 95, 3) := by decide +kernel
theorem dL_law_213 : decode cL_law 213 = .ok (.iload 15, 2) := by decide +kernel
theorem dL_law_215 : decode cL_law 215 = .ok (.ifCond .eq 37, 3) := by decide +kernel
theorem dL_law_218 : decode cL_law 218 = .ok (.iload 8, 2) := by decide +kernel
theorem dL_law_220 : decode cL_law 220 = .ok (.iconst 3, 1) := by decide +kernel
theorem dL_law_221 : decode cL_law 221 = .ok (.if_icmp .lt 84, 3) := by decide +kernel
theorem dL_law_224 : decode cL_law 224 = .ok (.iload 8, 2) := by decide +kernel
theorem dL_law_226 : decode cL_law 226 = .ok (.bipush 8, 2) := by decide +kernel
theorem dL_law_228 : decode cL_law 228 = .ok (.if_icmp .gt 77, 3) := by decide +kernel
theorem dL_law_231 : decode cL_law 231 = .ok (.iload 14, 2) := by decide +kernel
theorem dL_law_233 : decode cL_law 233 = .ok (.aload 4, 2) := by decide +kernel
theorem dL_law_235 : decode cL_law 235 = .ok (.iconst 5, 1) := by decide +kernel
theorem dL_law_236 : decode cL_law 236 = .ok (.iload 13, 2) := by decide +kernel
theorem dL_law_238 : decode cL_law 238 = .ok (.iadd, 1) := by decide +kernel
theorem dL_law_239 : decode cL_law 239 = .ok (.iaload, 1) := by decide +kernel
theorem dL_law_240 : decode cL_law 240 = .ok (.if_icmp .ne 65, 3) := by decide +kernel
theorem dL_law_243 : decode cL_law 243 = .ok (.iload 13, 2) := by decide +kernel
theorem dL_law_245 : decode cL_law 245 = .ok (.aload 4, 2) := by decide +kernel
theorem dL_law_247 : decode cL_law 247 = .ok (.iconst 2, 1) := by decide +kernel
theorem dL_law_248 : decode cL_law 248 = .ok (.iaload, 1) := by decide +kernel
theorem dL_law_249 : decode cL_law 249 = .ok (.if_icmp .ne 56, 3) := by decide +kernel
theorem dL_law_252 : decode cL_law 252 = .ok (.aload_n 2, 1) := by decide +kernel
theorem dL_law_253 : decode cL_law 253 = .ok (.iconst 2, 1) := by decide +kernel
theorem dL_law_254 : decode cL_law 254 = .ok (.iload 13, 2) := by decide +kernel
theorem dL_law_256 : decode cL_law 256 = .ok (.iadd, 1) := by decide +kernel
theorem dL_law_257 : decode cL_law 257 = .ok (.iaload, 1) := by decide +kernel
theorem dL_law_258 : decode cL_law 258 = .ok (.iconst 3, 1) := by decide +kernel
theorem dL_law_259 : decode cL_law 259 = .ok (.if_icmp .ne 13, 3) := by decide +kernel
theorem dL_law_262 : decode cL_law 262 = .ok (.iload 11, 2) := by decide +kernel
theorem dL_law_264 : decode cL_law 264 = .ok (.iload 13, 2) := by decide +kernel
theorem dL_law_266 : decode cL_law 266 = .ok (.invokestatic 108, 3) := by decide +kernel
theorem dL_law_269 : decode cL_law 269 = .ok (.ifCond .ne 36, 3) := by decide +kernel
theorem dL_law_272 : decode cL_law 272 = .ok (.iload 10, 2) := by decide +kernel
theorem dL_law_274 : decode cL_law 274 = .ok (.iload 13, 2) := by decide +kernel
theorem dL_law_276 : decode cL_law 276 = .ok (.invokestatic 108, 3) := by decide +kernel
theorem dL_law_279 : decode cL_law 279 = .ok (.ifCond .eq 28, 3) := by decide +kernel
theorem dL_law_282 : decode cL_law 282 = .ok (.iload 11, 2) := by decide +kernel
theorem dL_law_284 : decode cL_law 284 = .ok (.iload 13, 2) := by decide +kernel
theorem dL_law_286 : decode cL_law 286 = .ok (.invokestatic 108, 3) := by decide +kernel
theorem dL_law_289 : decode cL_law 289 = .ok (.ifCond .eq 18, 3) := by decide +kernel
theorem dL_law_292 : decode cL_law 292 = .ok (.iload 14, 2) := by decide +kernel
theorem dL_law_294 : decode cL_law 294 = .ok (.aload 4, 2) := by decide +kernel
theorem dL_law_296 : decode cL_law 296 = .ok (.bipush 17, 2) := by decide +kernel
theorem dL_law_298 : decode cL_law 298 = .ok (.iload 13, 2) := by decide +kernel
theorem dL_law_300 : decode cL_law 300 = .ok (.iadd, 1) := by decide +kernel
theorem dL_law_301 : decode cL_law 301 = .ok (.iaload, 1) := by decide +kernel
theorem dL_law_302 : decode cL_law 302 = .ok (.if_icmp .eq 5, 3) := by decide +kernel
theorem dL_law_305 : decode cL_law 305 = .ok (.iconst 0, 1) := by decide +kernel
theorem dL_law_306 : decode cL_law 306 = .ok (.ireturn, 1) := by decide +kernel
theorem dL_law_307 : decode cL_law 307 = .ok (.aload_n 1, 1) := by decide +kernel
theorem dL_law_308 : decode cL_law 308 = .ok (.iload 13, 2) := by decide +kernel
theorem dL_law_310 : decode cL_law 310 = .ok (.iconst 5, 1) := by decide +kernel
theorem dL_law_311 : decode cL_law 311 = .ok (.invokevirtual 89, 3) := by decide +kernel
theorem dL_law_314 : decode cL_law 314 = .ok (.iconst 1, 1) := by decide +kernel
theorem dL_law_315 : decode cL_law 315 = .ok (.if_icmp .ne 33, 3) := by decide +kernel
theorem dL_law_318 : decode cL_law 318 = .ok (.aload_n 1, 1) := by decide +kernel
theorem dL_law_319 : decode cL_law 319 = .ok (.invokevirtual 92, 3) := by decide +kernel
theorem dL_law_322 : decode cL_law 322 = .ok (.ifCond .ne 7, 3) := by decide +kernel
theorem dL_law_325 : decode cL_law 325 = .ok (.iconst 1, 1) := by decide +kernel
theorem dL_law_326 : decode cL_law 326 = .ok (.goto 4, 3) := by decide +kernel
theorem dL_law_329 : decode cL_law 329 = .ok (.iconst 0, 1) := by decide +kernel
theorem dL_law_330 : decode cL_law 330 = .ok (.iload 11, 2) := by decide +kernel
theorem dL_law_332 : decode cL_law 332 = .ok (.iload 13, 2) := by decide +kernel
theorem dL_law_334 : decode cL_law 334 = .ok (.invokestatic 108, 3) := by decide +kernel
theorem dL_law_337 : decode cL_law 337 = .ok (.if_icmp .ne 11, 3) := by decide +kernel
theorem dL_law_340 : decode cL_law 340 = .ok (.aload_n 1, 1) := by decide +kernel
theorem dL_law_341 : decode cL_law 341 = .ok (.invokevirtual 92, 3) := by decide +kernel
theorem dL_law_344 : decode cL_law 344 = .ok (.iconst 5, 1) := by decide +kernel
theorem dL_law_345 : decode cL_law 345 = .ok (.if_icmp .le 5, 3) := by decide +kernel
theorem dL_law_348 : decode cL_law 348 = .ok (.iconst 0, 1) := by decide +kernel
theorem dL_law_349 : decode cL_law 349 = .ok (.ireturn, 1) := by decide +kernel
theorem dL_law_350 : decode cL_law 350 = .ok (.iinc 13 1, 3) := by decide +kernel
theorem dL_law_353 : decode cL_law 353 = .ok (.goto (-234), 3) := by decide +kernel
theorem dL_law_356 : decode cL_law 356 = .ok (.aload_n 1, 1) := by decide +kernel
theorem dL_law_357 : decode cL_law 357 = .ok (.iconst 1, 1) := by decide +kernel
theorem dL_law_358 : decode cL_law 358 = .ok (.invokevirtual 62, 3) := by decide +kernel
theorem dL_law_361 : decode cL_law 361 = .ok (.aload 4, 2) := by decide +kernel
theorem dL_law_363 : decode cL_law 363 = .ok (.iconst 0, 1) := by decide +kernel
theorem dL_law_364 : decode cL_law 364 = .ok (.iaload, 1) := by decide +kernel
theorem dL_law_365 : decode cL_law 365 = .ok (.isub, 1) := by decide +kernel
theorem dL_law_366 : decode cL_law 366 = .ok (.istore 13, 2) := by decide +kernel
theorem dL_law_368 : decode cL_law 368 = .ok (.aload_n 1, 1) := by decide +kernel
theorem dL_law_369 : decode cL_law 369 = .ok (.bipush 7, 2) := by decide +kernel
theorem dL_law_371 : decode cL_law 371 = .ok (.invokevirtual 62, 3) := by decide +kernel
theorem dL_law_374 : decode cL_law 374 = .ok (.aload 4, 2) := by decide +kernel
theorem dL_law_376 : decode cL_law 376 = .ok (.iconst 4, 1) := by decide +kernel
theorem dL_law_377 : decode cL_law 377 = .ok (.iaload, 1) := by decide +kernel
theorem dL_law_378 : decode cL_law 378 = .ok (.iload 12, 2) := by decide +kernel
theorem dL_law_380 : decode cL_law 380 = .ok (.iadd, 1) := by decide +kernel
theorem dL_law_381 : decode cL_law 381 = .ok (.if_icmp .ne 91, 3) := by decide +kernel
theorem dL_law_384 : decode cL_law 384 = .ok (.iload 9, 2) := by decide +kernel
theorem dL_law_386 : decode cL_law 386 = .ok (.iconst 1, 1) := by decide +kernel
theorem dL_law_387 : decode cL_law 387 = .ok (.if_icmp .ne 64, 3) := by decide +kernel
theorem dL_law_390 : decode cL_law 390 = .ok (.iload 8, 2) := by decide +kernel
theorem dL_law_392 : decode cL_law 392 = .ok (.iconst 3, 1) := by decide +kernel
theorem dL_law_393 : decode cL_law 393 = .ok (.if_icmp .ge 20, 3) := by decide +kernel
theorem dL_law_396 : decode cL_law 396 = .ok (.iload 13, 2) := by decide +kernel
theorem dL_law_398 : decode cL_law 398 = .ok (.aload_n 1, 1) := by decide +kernel
theorem dL_law_399 : decode cL_law 399 = .ok (.iconst 4, 1) := by decide +kernel
theorem dL_law_400 : decode cL_law 400 = .ok (.invokevirtual 62, 3) := by decide +kernel
theorem dL_law_403 : decode cL_law 403 = .ok (.aload 4, 2) := by decide +kernel
theorem dL_law_405 : decode cL_law 405 = .ok (.iconst 2, 1) := by decide +kernel
theorem dL_law_406 : decode cL_law 406 = .ok (.iaload, 1) := by decide +kernel
theorem dL_law_407 : decode cL_law 407 = .ok (.invokestatic 45, 3) := by decide +kernel
theorem dL_law_410 : decode cL_law 410 = .ok (.if_icmp .ne 62, 3) := by decide +kernel
theorem dL_law_413 : decode cL_law 413 = .ok (.iload 8, 2) := by decide +kernel
theorem dL_law_415 : decode cL_law 415 = .ok (.iconst 2, 1) := by decide +kernel
theorem dL_law_416 : decode cL_law 416 = .ok (.if_icmp .le 16, 3) := by decide +kernel
theorem dL_law_419 : decode cL_law 419 = .ok (.iload 8, 2) := by decide +kernel
theorem dL_law_421 : decode cL_law 421 = .ok (.bipush 9, 2) := by decide +kernel
theorem dL_law_423 : decode cL_law 423 = .ok (.if_icmp .ge 9, 3) := by decide +kernel
theorem dL_law_426 : decode cL_law 426 = .ok (.iload 13, 2) := by decide +kernel
theorem dL_law_428 : decode cL_law 428 = .ok (.iconst 1, 1) := by decide +kernel
theorem dL_law_429 : decode cL_law 429 = .ok (.if_icmp .ne 43, 3) := by decide +kernel
theorem dL_law_432 : decode cL_law 432 = .ok (.iload 8, 2) := by decide +kernel
theorem dL_law_434 : decode cL_law 434 = .ok (.bipush 8, 2) := by decide +kernel
theorem dL_law_436 : decode cL_law 436 = .ok (.if_icmp .le 15, 3) := by decide +kernel
theorem dL_law_439 : decode cL_law 439 = .ok (.iload 8, 2) := by decide +kernel
theorem dL_law_441 : decode cL_law 441 = .ok (.bipush 13, 2) := by decide +kernel
theorem dL_law_443 : decode cL_law 443 = .ok (.if_icmp .ge 8, 3) := by decide +kernel
theorem dL_law_446 : decode cL_law 446 = .ok (.iload 13, 2) := by decide +kernel
theorem dL_law_448 : decode cL_law 448 = .ok (.ifCond .ne 24, 3) := by decide +kernel
theorem dL_law_451 : decode cL_law 451 = .ok (.iload 9, 2) := by decide +kernel
theorem dL_law_453 : decode cL_law 453 = .ok (.ifCond .ne 8, 3) := by decide +kernel
theorem dL_law_456 : decode cL_law 456 = .ok (.iload 13, 2) := by decide +kernel
theorem dL_law_458 : decode cL_law 458 = .ok (.ifCond .ne 14, 3) := by decide +kernel
theorem dL_law_461 : decode cL_law 461 = .ok (.aload_n 1, 1) := by decide +kernel
theorem dL_law_462 : decode cL_law 462 = .ok (.iconst 4, 1) := by decide +kernel
theorem dL_law_463 : decode cL_law 463 = .ok (.invokevirtual 62, 3) := by decide +kernel
theorem dL_law_466 : decode cL_law 466 = .ok (.aload_n 2, 1) := by decide +kernel
theorem dL_law_467 : decode cL_law 467 = .ok (.iconst 1, 1) := by decide +kernel
theorem dL_law_468 : decode cL_law 468 = .ok (.iaload, 1) := by decide +kernel
theorem dL_law_469 : decode cL_law 469 = .ok (.if_icmp .lt 5, 3) := by decide +kernel
theorem dL_law_472 : decode cL_law 472 = .ok (.iconst 0, 1) := by decide +kernel
theorem dL_law_473 : decode cL_law 473 = .ok (.ireturn, 1) := by decide +kernel
theorem dL_law_474 : decode cL_law 474 = .ok (.iload 9, 2) := by decide +kernel
theorem dL_law_476 : decode cL_law 476 = .ok (.iconst 1, 1) := by decide +kernel
theorem dL_law_477 : decode cL_law 477 = .ok (.if_icmp .ne 50, 3) := by decide +kernel
theorem dL_law_480 : decode cL_law 480 = .ok (.aload_n 1, 1) := by decide +kernel
theorem dL_law_481 : decode cL_law 481 = .ok (.iconst 3, 1) := by decide +kernel
theorem dL_law_482 : decode cL_law 482 = .ok (.invokevirtual 62, 3) := by decide +kernel
theorem dL_law_485 : decode cL_law 485 = .ok (.iload 7, 2) := by decide +kernel
theorem dL_law_487 : decode cL_law 487 = .ok (.iconst 1, 1) := by decide +kernel
theorem dL_law_488 : decode cL_law 488 = .ok (.iadd, 1) := by decide +kernel
theorem dL_law_489 : decode cL_law 489 = .ok (.if_icmp .ne 36, 3) := by decide +kernel
theorem dL_law_492 : decode cL_law 492 = .ok (.aload_n 1, 1) := by decide +kernel
theorem dL_law_493 : decode cL_law 493 = .ok (.iload 7, 2) := by decide +kernel
theorem dL_law_495 : decode cL_law 495 = .ok (.invokevirtual 113, 3) := by decide +kernel
theorem dL_law_498 : decode cL_law 498 = .ok (.iconst 1, 1) := by decide +kernel
theorem dL_law_499 : decode cL_law 499 = .ok (.if_icmp .ne 26, 3) := by decide +kernel
theorem dL_law_502 : decode cL_law 502 = .ok (.aload_n 1, 1) := by decide +kernel
theorem dL_law_503 : decode cL_law 503 = .ok (.aload_n 2, 1) := by decide +kernel
theorem dL_law_504 : decode cL_law 504 = .ok (.aload 4, 2) := by decide +kernel
theorem dL_law_506 : decode cL_law 506 = .ok (.invokestatic 116, 3) := by decide +kernel
theorem dL_law_509 : decode cL_law 509 = .ok (.ifCond .eq 16, 3) := by decide +kernel
theorem dL_law_512 : decode cL_law 512 = .ok (.aload_n 1, 1) := by decide +kernel
theorem dL_law_513 : decode cL_law 513 = .ok (.iload 6, 2) := by decide +kernel
theorem dL_law_515 : decode cL_law 515 = .ok (.aload_n 2, 1) := by decide +kernel
theorem dL_law_516 : decode cL_law 516 = .ok (.aload 4, 2) := by decide +kernel
theorem dL_law_518 : decode cL_law 518 = .ok (.invokestatic 104, 3) := by decide +kernel
theorem dL_law_521 : decode cL_law 521 = .ok (.iconst 1, 1) := by decide +kernel
theorem dL_law_522 : decode cL_law 522 = .ok (.if_icmp .eq 5, 3) := by decide +kernel
theorem dL_law_525 : decode cL_law 525 = .ok (.iconst 0, 1) := by decide +kernel
theorem dL_law_526 : decode cL_law 526 = .ok (.ireturn, 1) := by decide +kernel
theorem dL_law_527 : decode cL_law 527 = .ok (.iinc 5 1, 3) := by decide +kernel
theorem dL_law_530 : decode cL_law 530 = .ok (.goto (-489), 3) := by decide +kernel
theorem dL_law_533 : decode cL_law 533 = .ok (.aload_n 1, 1) := by decide +kernel
theorem dL_law_534 : decode cL_law 534 = .ok (.iconst 1, 1) := by decide +kernel
theorem dL_law_535 : decode cL_law 535 = .ok (.invokevirtual 120, 3) := by decide +kernel
theorem dL_law_538 : decode cL_law 538 = .ok (.aload_n 1, 1) := by decide +kernel
theorem dL_law_539 : decode cL_law 539 = .ok (.iconst 3, 1) := by decide +kernel
theorem dL_law_540 : decode cL_law 540 = .ok (.invokevirtual 62, 3) := by decide +kernel
theorem dL_law_543 : decode cL_law 543 = .ok (.if_icmp .eq 5, 3) := by decide +kernel
theorem dL_law_546 : decode cL_law 546 = .ok (.iconst 0, 1) := by decide +kernel
theorem dL_law_547 : decode cL_law 547 = .ok (.ireturn, 1) := by decide +kernel
theorem dL_law_548 : decode cL_law 548 = .ok (.aload_n 1, 1) := by decide +kernel
theorem dL_law_549 : decode cL_law 549 = .ok (.iconst 3, 1) := by decide +kernel
theorem dL_law_550 : decode cL_law 550 = .ok (.invokevirtual 62, 3) := by decide +kernel
theorem dL_law_553 : decode cL_law 553 = .ok (.istore 5, 2) := by decide +kernel
theorem dL_law_555 : decode cL_law 555 = .ok (.aload_n 0, 1) := by decide +kernel
theorem dL_law_556 : decode cL_law 556 = .ok (.bipush 21, 2) := by decide +kernel
theorem dL_law_558 : decode cL_law 558 = .ok (.invokestatic 15, 3) := by decide +kernel
theorem dL_law_561 : decode cL_law 561 = .ok (.bipush 100, 2) := by decide +kernel
theorem dL_law_563 : decode cL_law 563 = .ok (.invokestatic 21, 3) := by decide +kernel
theorem dL_law_566 : decode cL_law 566 = .ok (.istore 6, 2) := by decide +kernel
theorem dL_law_568 : decode cL_law 568 = .ok (.iconst 0, 1) := by decide +kernel
theorem dL_law_569 : decode cL_law 569 = .ok (.istore 7, 2) := by decide +kernel
theorem dL_law_571 : decode cL_law 571 = .ok (.iload 7, 2) := by decide +kernel
theorem dL_law_573 : decode cL_law 573 = .ok (.aload_n 2, 1) := by decide +kernel
theorem dL_law_574 : decode cL_law 574 = .ok (.iconst 1, 1) := by decide +kernel
theorem dL_law_575 : decode cL_law 575 = .ok (.iaload, 1) := by decide +kernel
theorem dL_law_576 : decode cL_law 576 = .ok (.if_icmp .ge 159, 3) := by decide +kernel
theorem dL_law_579 : decode cL_law 579 = .ok (.aload_n 1, 1) := by decide +kernel
theorem dL_law_580 : decode cL_law 580 = .ok (.iload 7, 2) := by decide +kernel
theorem dL_law_582 : decode cL_law 582 = .ok (.iload 6, 2) := by decide +kernel
theorem dL_law_584 : decode cL_law 584 = .ok (.invokevirtual 123, 3) := by decide +kernel
theorem dL_law_587 : decode cL_law 587 = .ok (.istore 8, 2) := by decide +kernel
theorem dL_law_589 : decode cL_law 589 = .ok (.aload_n 2, 1) := by decide +kernel
theorem dL_law_590 : decode cL_law 590 = .ok (.iconst 2, 1) := by decide +kernel
theorem dL_law_591 : decode cL_law 591 = .ok (.iload 7, 2) := by decide +kernel
theorem dL_law_593 : decode cL_law 593 = .ok (.iadd, 1) := by decide +kernel
theorem dL_law_594 : decode cL_law 594 = .ok (.iaload, 1) := by decide +kernel
theorem dL_law_595 : decode cL_law 595 = .ok (.istore 9, 2) := by decide +kernel
theorem dL_law_597 : decode cL_law 597 = .ok (.iload 8, 2) := by decide +kernel
theorem dL_law_599 : decode cL_law 599 = .ok (.ifCond .eq 128, 3) := by decide +kernel
theorem dL_law_602 : decode cL_law 602 = .ok (.iload 8, 2) := by decide +kernel
theorem dL_law_604 : decode cL_law 604 = .ok (.bipush (-9), 2) := by decide +kernel
theorem dL_law_606 : decode cL_law 606 = .ok (.if_icmp .lt 121, 3) := by decide +kernel
theorem dL_law_609 : decode cL_law 609 = .ok (.iload 8, 2) := by decide +kernel
theorem dL_law_611 : decode cL_law 611 = .ok (.iconst 5, 1) := by decide +kernel
theorem dL_law_612 : decode cL_law 612 = .ok (.if_icmp .gt 115, 3) := by decide +kernel
theorem dL_law_615 : decode cL_law 615 = .ok (.iload 9, 2) := by decide +kernel
theorem dL_law_617 : decode cL_law 617 = .ok (.iconst 3, 1) := by decide +kernel
theorem dL_law_618 : decode cL_law 618 = .ok (.if_icmp .ne 10, 3) := by decide +kernel
theorem dL_law_621 : decode cL_law 621 = .ok (.iload 8, 2) := by decide +kernel
theorem dL_law_623 : decode cL_law 623 = .ok (.bipush (-9), 2) := by decide +kernel
theorem dL_law_625 : decode cL_law 625 = .ok (.if_icmp .ne 102, 3) := by decide +kernel
theorem dL_law_628 : decode cL_law 628 = .ok (.iload 9, 2) := by decide +kernel
theorem dL_law_630 : decode cL_law 630 = .ok (.iconst 5, 1) := by decide +kernel
theorem dL_law_631 : decode cL_law 631 = .ok (.if_icmp .ne 20, 3) := by decide +kernel
theorem dL_law_634 : decode cL_law 634 = .ok (.iload 8, 2) := by decide +kernel
theorem dL_law_636 : decode cL_law 636 = .ok (.iload 6, 2) := by decide +kernel
theorem dL_law_638 : decode cL_law 638 = .ok (.bipush 50, 2) := by decide +kernel
theorem dL_law_640 : decode cL_law 640 = .ok (.if_icmp .ge 7, 3) := by decide +kernel
theorem dL_law_643 : decode cL_law 643 = .ok (.iconst 2, 1) := by decide +kernel
theorem dL_law_644 : decode cL_law 644 = .ok (.goto 4, 3) := by decide +kernel
theorem dL_law_647 : decode cL_law 647 = .ok (.iconst 1, 1) := by decide +kernel
theorem dL_law_648 : decode cL_law 648 = .ok (.if_icmp .ne 79, 3) := by decide +kernel
theorem dL_law_651 : decode cL_law 651 = .ok (.iload 8, 2) := by decide +kernel
theorem dL_law_653 : decode cL_law 653 = .ok (.ifCond .le 19, 3) := by decide +kernel
theorem dL_law_656 : decode cL_law 656 = .ok (.aload_n 1, 1) := by decide +kernel
theorem dL_law_657 : decode cL_law 657 = .ok (.iload 6, 2) := by decide +kernel
theorem dL_law_659 : decode cL_law 659 = .ok (.iload 8, 2) := by decide +kernel
theorem dL_law_661 : decode cL_law 661 = .ok (.invokevirtual 125, 3) := by decide +kernel
theorem dL_law_664 : decode cL_law 664 = .ok (.iload 7, 2) := by decide +kernel
theorem dL_law_666 : decode cL_law 666 = .ok (.ishr, 1) := by decide +kernel
theorem dL_law_667 : decode cL_law 667 = .ok (.iconst 1, 1) := by decide +kernel
theorem dL_law_668 : decode cL_law 668 = .ok (.iand, 1) := by decide +kernel
theorem dL_law_669 : decode cL_law 669 = .ok (.ifCond .eq 58, 3) := by decide +kernel
theorem dL_law_672 : decode cL_law 672 = .ok (.iload 9, 2) := by decide +kernel
theorem dL_law_674 : decode cL_law 674 = .ok (.iconst 4, 1) := by decide +kernel
theorem dL_law_675 : decode cL_law 675 = .ok (.if_icmp .ne 14, 3) := by decide +kernel
theorem dL_law_678 : decode cL_law 678 = .ok (.iload 8, 2) := by decide +kernel
theorem dL_law_680 : decode cL_law 680 = .ok (.ifCond .le 9, 3) := by decide +kernel
theorem dL_law_683 : decode cL_law 683 = .ok (.iload 8, 2) := by decide +kernel
theorem dL_law_685 : decode cL_law 685 = .ok (.iconst 3, 1) := by decide +kernel
theorem dL_law_686 : decode cL_law 686 = .ok (.if_icmp .lt 41, 3) := by decide +kernel
theorem dL_law_689 : decode cL_law 689 = .ok (.aload_n 1, 1) := by decide +kernel
theorem dL_law_690 : decode cL_law 690 = .ok (.iload 7, 2) := by decide +kernel
theorem dL_law_692 : decode cL_law 692 = .ok (.invokevirtual 112, 3) := by decide +kernel
theorem dL_law_695 : decode cL_law 695 = .ok (.iconst 5, 1) := by decide +kernel
theorem dL_law_696 : decode cL_law 696 = .ok (.if_icmp .gt 31, 3) := by decide +kernel
theorem dL_law_699 : decode cL_law 699 = .ok (.iload 9, 2) := by decide +kernel
theorem dL_law_701 : decode cL_law 701 = .ok (.iconst 3, 1) := by decide +kernel
theorem dL_law_702 : decode cL_law 702 = .ok (.if_icmp .ne 7, 3) := by decide +kernel
theorem dL_law_705 : decode cL_law 705 = .ok (.iconst 1, 1) := by decide +kernel
theorem dL_law_706 : decode cL_law 706 = .ok (.goto 4, 3) := by decide +kernel
theorem dL_law_709 : decode cL_law 709 = .ok (.iconst 0, 1) := by decide +kernel
theorem dL_law_710 : decode cL_law 710 = .ok (.aload_n 1, 1) := by decide +kernel
theorem dL_law_711 : decode cL_law 711 = .ok (.iload 7, 2) := by decide +kernel
theorem dL_law_713 : decode cL_law 713 = .ok (.invokevirtual 112, 3) := by decide +kernel
theorem dL_law_716 : decode cL_law 716 = .ok (.ifCond .ne 7, 3) := by decide +kernel
theorem dL_law_719 : decode cL_law 719 = .ok (.iconst 1, 1) := by decide +kernel
theorem dL_law_720 : decode cL_law 720 = .ok (.goto 4, 3) := by decide +kernel
theorem dL_law_723 : decode cL_law 723 = .ok (.iconst 0, 1) := by decide +kernel
theorem dL_law_724 : decode cL_law 724 = .ok (.if_icmp .eq 5, 3) := by decide +kernel
theorem dL_law_727 : decode cL_law 727 = .ok (.iconst 0, 1) := by decide +kernel
theorem dL_law_728 : decode cL_law 728 = .ok (.ireturn, 1) := by decide +kernel
theorem dL_law_729 : decode cL_law 729 = .ok (.iinc 7 1, 3) := by decide +kernel
theorem dL_law_732 : decode cL_law 732 = .ok (.goto (-161), 3) := by decide +kernel
theorem dL_law_735 : decode cL_law 735 = .ok (.iconst 0, 1) := by decide +kernel
theorem dL_law_736 : decode cL_law 736 = .ok (.istore 7, 2) := by decide +kernel
theorem dL_law_738 : decode cL_law 738 = .ok (.iconst 0, 1) := by decide +kernel
theorem dL_law_739 : decode cL_law 739 = .ok (.istore 8, 2) := by decide +kernel
theorem dL_law_741 : decode cL_law 741 = .ok (.iconst 0, 1) := by decide +kernel
theorem dL_law_742 : decode cL_law 742 = .ok (.istore 9, 2) := by decide +kernel
theorem dL_law_744 : decode cL_law 744 = .ok (.iload 9, 2) := by decide +kernel
theorem dL_law_746 : decode cL_law 746 = .ok (.aload_n 2, 1) := by decide +kernel
theorem dL_law_747 : decode cL_law 747 = .ok (.iconst 1, 1) := by decide +kernel
theorem dL_law_748 : decode cL_law 748 = .ok (.iaload, 1) := by decide +kernel
theorem dL_law_749 : decode cL_law 749 = .ok (.if_icmp .ge 53, 3) := by decide +kernel
theorem dL_law_752 : decode cL_law 752 = .ok (.aload_n 1, 1) := by decide +kernel
theorem dL_law_753 : decode cL_law 753 = .ok (.iconst 1, 1) := by decide +kernel
theorem dL_law_754 : decode cL_law 754 = .ok (.iload 9, 2) := by decide +kernel
theorem dL_law_756 : decode cL_law 756 = .ok (.ishl, 1) := by decide +kernel
theorem dL_law_757 : decode cL_law 757 = .ok (.invokevirtual 128, 3) := by decide +kernel
theorem dL_law_760 : decode cL_law 760 = .ok (.ifCond .le 12, 3) := by decide +kernel
theorem dL_law_763 : decode cL_law 763 = .ok (.iload 7, 2) := by decide +kernel
theorem dL_law_765 : decode cL_law 765 = .ok (.iconst 1, 1) := by decide +kernel
theorem dL_law_766 : decode cL_law 766 = .ok (.iload 9, 2) := by decide +kernel
theorem dL_law_768 : decode cL_law 768 = .ok (.ishl, 1) := by decide +kernel
theorem dL_law_769 : decode cL_law 769 = .ok (.ior, 1) := by decide +kernel
theorem dL_law_770 : decode cL_law 770 = .ok (.istore 7, 2) := by decide +kernel
theorem dL_law_772 : decode cL_law 772 = .ok (.aload_n 1, 1) := by decide +kernel
theorem dL_law_773 : decode cL_law 773 = .ok (.iconst 1, 1) := by decide +kernel
theorem dL_law_774 : decode cL_law 774 = .ok (.iload 9, 2) := by decide +kernel
theorem dL_law_776 : decode cL_law 776 = .ok (.ishl, 1) := by decide +kernel
theorem dL_law_777 : decode cL_law 777 = .ok (.iconst 2, 1) := by decide +kernel
theorem dL_law_778 : decode cL_law 778 = .ok (.invokevirtual 131, 3) := by decide +kernel
theorem dL_law_781 : decode cL_law 781 = .ok (.istore 10, 2) := by decide +kernel
theorem dL_law_783 : decode cL_law 783 = .ok (.iload 10, 2) := by decide +kernel
theorem dL_law_785 : decode cL_law 785 = .ok (.ifCond .le 7, 3) := by decide +kernel
theorem dL_law_788 : decode cL_law 788 = .ok (.iconst 1, 1) := by decide +kernel
theorem dL_law_789 : decode cL_law 789 = .ok (.goto 5, 3) := by decide +kernel
theorem dL_law_792 : decode cL_law 792 = .ok (.iload 8, 2) := by decide +kernel
theorem dL_law_794 : decode cL_law 794 = .ok (.istore 8, 2) := by decide +kernel
theorem dL_law_796 : decode cL_law 796 = .ok (.iinc 9 1, 3) := by decide +kernel
theorem dL_law_799 : decode cL_law 799 = .ok (.goto (-55), 3) := by decide +kernel
theorem dL_law_802 : decode cL_law 802 = .ok (.iload 7, 2) := by decide +kernel
theorem dL_law_804 : decode cL_law 804 = .ok (.aload_n 0, 1) := by decide +kernel
theorem dL_law_805 : decode cL_law 805 = .ok (.bipush 22, 2) := by decide +kernel
theorem dL_law_807 : decode cL_law 807 = .ok (.invokestatic 15, 3) := by decide +kernel
theorem dL_law_810 : decode cL_law 810 = .ok (.iconst 1, 1) := by decide +kernel
theorem dL_law_811 : decode cL_law 811 = .ok (.aload_n 2, 1) := by decide +kernel
theorem dL_law_812 : decode cL_law 812 = .ok (.iconst 1, 1) := by decide +kernel
theorem dL_law_813 : decode cL_law 813 = .ok (.iaload, 1) := by decide +kernel
theorem dL_law_814 : decode cL_law 814 = .ok (.ishl, 1) := by decide +kernel
theorem dL_law_815 : decode cL_law 815 = .ok (.invokestatic 21, 3) := by decide +kernel
theorem dL_law_818 : decode cL_law 818 = .ok (.iand, 1) := by decide +kernel
theorem dL_law_819 : decode cL_law 819 = .ok (.istore 9, 2) := by decide +kernel
theorem dL_law_821 : decode cL_law 821 = .ok (.aload_n 1, 1) := by decide +kernel
theorem dL_law_822 : decode cL_law 822 = .ok (.iload 9, 2) := by decide +kernel
theorem dL_law_824 : decode cL_law 824 = .ok (.invokevirtual 128, 3) := by decide +kernel
theorem dL_law_827 : decode cL_law 827 = .ok (.istore 10, 2) := by decide +kernel
theorem dL_law_829 : decode cL_law 829 = .ok (.aload_n 1, 1) := by decide +kernel
theorem dL_law_830 : decode cL_law 830 = .ok (.iload 9, 2) := by decide +kernel
theorem dL_law_832 : decode cL_law 832 = .ok (.iconst 2, 1) := by decide +kernel
theorem dL_law_833 : decode cL_law 833 = .ok (.invokevirtual 131, 3) := by decide +kernel
theorem dL_law_836 : decode cL_law 836 = .ok (.istore 11, 2) := by decide +kernel
theorem dL_law_838 : decode cL_law 838 = .ok (.iload 10, 2) := by decide +kernel
theorem dL_law_840 : decode cL_law 840 = .ok (.ifCond .lt 50, 3) := by decide +kernel
theorem dL_law_843 : decode cL_law 843 = .ok (.iload 9, 2) := by decide +kernel
theorem dL_law_845 : decode cL_law 845 = .ok (.ifCond .ne 7, 3) := by decide +kernel
theorem dL_law_848 : decode cL_law 848 = .ok (.iconst 1, 1) := by decide +kernel
theorem dL_law_849 : decode cL_law 849 = .ok (.goto 4, 3) := by decide +kernel
theorem dL_law_852 : decode cL_law 852 = .ok (.iconst 0, 1) := by decide +kernel
theorem dL_law_853 : decode cL_law 853 = .ok (.iload 10, 2) := by decide +kernel
theorem dL_law_855 : decode cL_law 855 = .ok (.ifCond .ne 7, 3) := by decide +kernel
theorem dL_law_858 : decode cL_law 858 = .ok (.iconst 1, 1) := by decide +kernel
theorem dL_law_859 : decode cL_law 859 = .ok (.goto 4, 3) := by decide +kernel
theorem dL_law_862 : decode cL_law 862 = .ok (.iconst 0, 1) := by decide +kernel
theorem dL_law_863 : decode cL_law 863 = .ok (.if_icmp .ne 27, 3) := by decide +kernel
theorem dL_law_866 : decode cL_law 866 = .ok (.iload 11, 2) := by decide +kernel
theorem dL_law_868 : decode cL_law 868 = .ok (.ifCond .lt 10, 3) := by decide +kernel
theorem dL_law_871 : decode cL_law 871 = .ok (.iload 11, 2) := by decide +kernel
theorem dL_law_873 : decode cL_law 873 = .ok (.iload 10, 2) := by decide +kernel
theorem dL_law_875 : decode cL_law 875 = .ok (.if_icmp .lt 15, 3) := by decide +kernel
theorem dL_law_878 : decode cL_law 878 = .ok (.iload 11, 2) := by decide +kernel
theorem dL_law_880 : decode cL_law 880 = .ok (.ifCond .ge 12, 3) := by decide +kernel
theorem dL_law_883 : decode cL_law 883 = .ok (.iload 11, 2) := by decide +kernel
theorem dL_law_885 : decode cL_law 885 = .ok (.bipush (-9), 2) := by decide +kernel
theorem dL_law_887 : decode cL_law 887 = .ok (.if_icmp .eq 5, 3) := by decide +kernel
theorem dL_law_890 : decode cL_law 890 = .ok (.iconst 0, 1) := by decide +kernel
theorem dL_law_891 : decode cL_law 891 = .ok (.ireturn, 1) := by decide +kernel
theorem dL_law_892 : decode cL_law 892 = .ok (.aload_n 1, 1) := by decide +kernel
theorem dL_law_893 : decode cL_law 893 = .ok (.iconst 1, 1) := by decide +kernel
theorem dL_law_894 : decode cL_law 894 = .ok (.invokevirtual 62, 3) := by decide +kernel
theorem dL_law_897 : decode cL_law 897 = .ok (.istore 12, 2) := by decide +kernel
theorem dL_law_899 : decode cL_law 899 = .ok (.iload 11, 2) := by decide +kernel
theorem dL_law_901 : decode cL_law 901 = .ok (.ifCond .lt 180, 3) := by decide +kernel
theorem dL_law_904 : decode cL_law 904 = .ok (.iload 5, 2) := by decide +kernel
theorem dL_law_906 : decode cL_law 906 = .ok (.bipush 9, 2) := by decide +kernel
theorem dL_law_908 : decode cL_law 908 = .ok (.if_icmp .ge 173, 3) := by decide +kernel
theorem dL_law_911 : decode cL_law 911 = .ok (.iload 9, 2) := by decide +kernel
theorem dL_law_913 : decode cL_law 913 = .ok (.invokestatic 59, 3) := by decide +kernel
theorem dL_law_916 : decode cL_law 916 = .ok (.istore 13, 2) := by decide +kernel
theorem dL_law_918 : decode cL_law 918 = .ok (.iconst 1, 1) := by decide +kernel
theorem dL_law_919 : decode cL_law 919 = .ok (.istore 14, 2) := by decide +kernel
theorem dL_law_921 : decode cL_law 921 = .ok (.iconst 0, 1) := by decide +kernel
theorem dL_law_922 : decode cL_law 922 = .ok (.istore 15, 2) := by decide +kernel
theorem dL_law_924 : decode cL_law 924 = .ok (.iload 15, 2) := by decide +kernel
theorem dL_law_926 : decode cL_law 926 = .ok (.iload 13, 2) := by decide +kernel
theorem dL_law_928 : decode cL_law 928 = .ok (.if_icmp .ge 119, 3) := by decide +kernel
theorem dL_law_931 : decode cL_law 931 = .ok (.iload 14, 2) := by decide +kernel
theorem dL_law_933 : decode cL_law 933 = .ok (.ifCond .eq 114, 3) := by decide +kernel
theorem dL_law_936 : decode cL_law 936 = .ok (.aload_n 1, 1) := by decide +kernel
theorem dL_law_937 : decode cL_law 937 = .ok (.iconst 2, 1) := by decide +kernel
theorem dL_law_938 : decode cL_law 938 = .ok (.iload 15, 2) := by decide +kernel
theorem dL_law_940 : decode cL_law 940 = .ok (.invokevirtual 134, 3) := by decide +kernel
theorem dL_law_943 : decode cL_law 943 = .ok (.iconst 1, 1) := by decide +kernel
theorem dL_law_944 : decode cL_law 944 = .ok (.if_icmp .eq 5, 3) := by decide +kernel
theorem dL_law_947 : decode cL_law 947 = .ok (.iconst 0, 1) := by decide +kernel
theorem dL_law_948 : decode cL_law 948 = .ok (.ireturn, 1) := by decide +kernel
theorem dL_law_949 : decode cL_law 949 = .ok (.aload_n 1, 1) := by decide +kernel
theorem dL_law_950 : decode cL_law 950 = .ok (.invokevirtual 92, 3) := by decide +kernel
theorem dL_law_953 : decode cL_law 953 = .ok (.istore 16, 2) := by decide +kernel
theorem dL_law_955 : decode cL_law 955 = .ok (.iload 16, 2) := by decide +kernel
theorem dL_law_957 : decode cL_law 957 = .ok (.aload_n 1, 1) := by decide +kernel
theorem dL_law_958 : decode cL_law 958 = .ok (.iconst 4, 1) := by decide +kernel
theorem dL_law_959 : decode cL_law 959 = .ok (.invokevirtual 62, 3) := by decide +kernel
theorem dL_law_962 : decode cL_law 962 = .ok (.if_icmp .eq 14, 3) := by decide +kernel
theorem dL_law_965 : decode cL_law 965 = .ok (.aload_n 1, 1) := by decide +kernel
theorem dL_law_966 : decode cL_law 966 = .ok (.iload 16, 2) := by decide +kernel
theorem dL_law_968 : decode cL_law 968 = .ok (.invokevirtual 69, 3) := by decide +kernel
theorem dL_law_971 : decode cL_law 971 = .ok (.ifCond .ge 5, 3) := by decide +kernel
theorem dL_law_974 : decode cL_law 974 = .ok (.iconst 0, 1) := by decide +kernel
theorem dL_law_975 : decode cL_law 975 = .ok (.ireturn, 1) := by decide +kernel
theorem dL_law_976 : decode cL_law 976 = .ok (.iconst 0, 1) := by decide +kernel
theorem dL_law_977 : decode cL_law 977 = .ok (.istore 17, 2) := by decide +kernel
theorem dL_law_979 : decode cL_law 979 = .ok (.iconst 0, 1) := by decide +kernel
theorem dL_law_980 : decode cL_law 980 = .ok (.istore 18, 2) := by decide +kernel
theorem dL_law_982 : decode cL_law 982 = .ok (.iload 18, 2) := by decide +kernel
theorem dL_law_984 : decode cL_law 984 = .ok (.bipush 6, 2) := by decide +kernel
theorem dL_law_986 : decode cL_law 986 = .ok (.if_icmp .ge 27, 3) := by decide +kernel
theorem dL_law_989 : decode cL_law 989 = .ok (.iload 17, 2) := by decide +kernel
theorem dL_law_991 : decode cL_law 991 = .ok (.ifCond .ne 22, 3) := by decide +kernel
theorem dL_law_994 : decode cL_law 994 = .ok (.aload_n 1, 1) := by decide +kernel
theorem dL_law_995 : decode cL_law 995 = .ok (.invokevirtual 75, 3) := by decide +kernel
theorem dL_law_998 : decode cL_law 998 = .ok (.istore 17, 2) := by decide +kernel
theorem dL_law_1000 : decode cL_law 1000 = .ok (.iload 17, 2) := by decide +kernel
theorem dL_law_1002 : decode cL_law 1002 = .ok (.ifCond .ge 5, 3) := by decide +kernel
theorem dL_law_1005 : decode cL_law 1005 = .ok (.iconst 0, 1) := by decide +kernel
theorem dL_law_1006 : decode cL_law 1006 = .ok (.ireturn, 1) := by decide +kernel
theorem dL_law_1007 : decode cL_law 1007 = .ok (.iinc 18 1, 3) := by decide +kernel
theorem dL_law_1010 : decode cL_law 1010 = .ok (.goto (-28), 3) := by decide +kernel
theorem dL_law_1013 : decode cL_law 1013 = .ok (.iload 17, 2) := by decide +kernel
theorem dL_law_1015 : decode cL_law 1015 = .ok (.iconst 1, 1) := by decide +kernel
theorem dL_law_1016 : decode cL_law 1016 = .ok (.if_icmp .ne 22, 3) := by decide +kernel
theorem dL_law_1019 : decode cL_law 1019 = .ok (.aload_n 1, 1) := by decide +kernel
theorem dL_law_1020 : decode cL_law 1020 = .ok (.iconst 1, 1) := by decide +kernel
theorem dL_law_1021 : decode cL_law 1021 = .ok (.invokevirtual 62, 3) := by decide +kernel
theorem dL_law_1024 : decode cL_law 1024 = .ok (.aload_n 2, 1) := by decide +kernel
theorem dL_law_1025 : decode cL_law 1025 = .ok (.bipush 8, 2) := by decide +kernel
theorem dL_law_1027 : decode cL_law 1027 = .ok (.iload 16, 2) := by decide +kernel
theorem dL_law_1029 : decode cL_law 1029 = .ok (.iadd, 1) := by decide +kernel
theorem dL_law_1030 : decode cL_law 1030 = .ok (.iaload, 1) := by decide +kernel
theorem dL_law_1031 : decode cL_law 1031 = .ok (.if_icmp .gt 7, 3) := by decide +kernel
theorem dL_law_1034 : decode cL_law 1034 = .ok (.iconst 1, 1) := by decide +kernel
theorem dL_law_1035 : decode cL_law 1035 = .ok (.goto 4, 3) := by decide +kernel
theorem dL_law_1038 : decode cL_law 1038 = .ok (.iconst 0, 1) := by decide +kernel
theorem dL_law_1039 : decode cL_law 1039 = .ok (.istore 14, 2) := by decide +kernel
theorem dL_law_1041 : decode cL_law 1041 = .ok (.iinc 15 1, 3) := by decide +kernel
theorem dL_law_1044 : decode cL_law 1044 = .ok (.goto (-120), 3) := by decide +kernel
theorem dL_law_1047 : decode cL_law 1047 = .ok (.iload 14, 2) := by decide +kernel
theorem dL_law_1049 : decode cL_law 1049 = .ok (.ifCond .eq 30, 3) := by decide +kernel
theorem dL_law_1052 : decode cL_law 1052 = .ok (.aload_n 1, 1) := by decide +kernel
theorem dL_law_1053 : decode cL_law 1053 = .ok (.iconst 1, 1) := by decide +kernel
theorem dL_law_1054 : decode cL_law 1054 = .ok (.invokevirtual 62, 3) := by decide +kernel
theorem dL_law_1057 : decode cL_law 1057 = .ok (.iload 12, 2) := by decide +kernel
theorem dL_law_1059 : decode cL_law 1059 = .ok (.isub, 1) := by decide +kernel
theorem dL_law_1060 : decode cL_law 1060 = .ok (.iload 11, 2) := by decide +kernel
theorem dL_law_1062 : decode cL_law 1062 = .ok (.if_icmp .ne 17, 3) := by decide +kernel
theorem dL_law_1065 : decode cL_law 1065 = .ok (.iload 9, 2) := by decide +kernel
theorem dL_law_1067 : decode cL_law 1067 = .ok (.aload_n 1, 1) := by decide +kernel
theorem dL_law_1068 : decode cL_law 1068 = .ok (.bipush 6, 2) := by decide +kernel
theorem dL_law_1070 : decode cL_law 1070 = .ok (.invokevirtual 62, 3) := by decide +kernel
theorem dL_law_1073 : decode cL_law 1073 = .ok (.iconst (-1), 1) := by decide +kernel
theorem dL_law_1074 : decode cL_law 1074 = .ok (.ixor, 1) := by decide +kernel
theorem dL_law_1075 : decode cL_law 1075 = .ok (.iand, 1) := by decide +kernel
theorem dL_law_1076 : decode cL_law 1076 = .ok (.ifCond .eq 5, 3) := by decide +kernel
theorem dL_law_1079 : decode cL_law 1079 = .ok (.iconst 0, 1) := by decide +kernel
theorem dL_law_1080 : decode cL_law 1080 = .ok (.ireturn, 1) := by decide +kernel
theorem dL_law_1081 : decode cL_law 1081 = .ok (.aload_n 1, 1) := by decide +kernel
theorem dL_law_1082 : decode cL_law 1082 = .ok (.iconst 1, 1) := by decide +kernel
theorem dL_law_1083 : decode cL_law 1083 = .ok (.invokevirtual 137, 3) := by decide +kernel
theorem dL_law_1086 : decode cL_law 1086 = .ok (.iload 5, 2) := by decide +kernel
theorem dL_law_1088 : decode cL_law 1088 = .ok (.if_icmp .eq 5, 3) := by decide +kernel
theorem dL_law_1091 : decode cL_law 1091 = .ok (.iconst 0, 1) := by decide +kernel
theorem dL_law_1092 : decode cL_law 1092 = .ok (.ireturn, 1) := by decide +kernel
theorem dL_law_1093 : decode cL_law 1093 = .ok (.aload_n 1, 1) := by decide +kernel
theorem dL_law_1094 : decode cL_law 1094 = .ok (.invokevirtual 140, 3) := by decide +kernel
theorem dL_law_1097 : decode cL_law 1097 = .ok (.istore 13, 2) := by decide +kernel
theorem dL_law_1099 : decode cL_law 1099 = .ok (.aload_n 1, 1) := by decide +kernel
theorem dL_law_1100 : decode cL_law 1100 = .ok (.invokevirtual 92, 3) := by decide +kernel
theorem dL_law_1103 : decode cL_law 1103 = .ok (.istore 14, 2) := by decide +kernel
theorem dL_law_1105 : decode cL_law 1105 = .ok (.iload 13, 2) := by decide +kernel
theorem dL_law_1107 : decode cL_law 1107 = .ok (.iload 8, 2) := by decide +kernel
theorem dL_law_1109 : decode cL_law 1109 = .ok (.if_icmp .lt 48, 3) := by decide +kernel
theorem dL_law_1112 : decode cL_law 1112 = .ok (.iload 13, 2) := by decide +kernel
theorem dL_law_1114 : decode cL_law 1114 = .ok (.iload 14, 2) := by decide +kernel
theorem dL_law_1116 : decode cL_law 1116 = .ok (.invokestatic 59, 3) := by decide +kernel
theorem dL_law_1119 : decode cL_law 1119 = .ok (.if_icmp .ne 38, 3) := by decide +kernel
theorem dL_law_1122 : decode cL_law 1122 = .ok (.iload 14, 2) := by decide +kernel
theorem dL_law_1124 : decode cL_law 1124 = .ok (.iload 7, 2) := by decide +kernel
theorem dL_law_1126 : decode cL_law 1126 = .ok (.iconst (-1), 1) := by decide +kernel
theorem dL_law_1127 : decode cL_law 1127 = .ok (.ixor, 1) := by decide +kernel
theorem dL_law_1128 : decode cL_law 1128 = .ok (.iand, 1) := by decide +kernel
theorem dL_law_1129 : decode cL_law 1129 = .ok (.ifCond .ne 28, 3) := by decide +kernel
theorem dL_law_1132 : decode cL_law 1132 = .ok (.aload_n 1, 1) := by decide +kernel
theorem dL_law_1133 : decode cL_law 1133 = .ok (.iload 14, 2) := by decide +kernel
theorem dL_law_1135 : decode cL_law 1135 = .ok (.iconst 2, 1) := by decide +kernel
theorem dL_law_1136 : decode cL_law 1136 = .ok (.invokevirtual 131, 3) := by decide +kernel
theorem dL_law_1139 : decode cL_law 1139 = .ok (.ifCond .lt 18, 3) := by decide +kernel
theorem dL_law_1142 : decode cL_law 1142 = .ok (.iload 13, 2) := by decide +kernel
theorem dL_law_1144 : decode cL_law 1144 = .ok (.iload 9, 2) := by decide +kernel
theorem dL_law_1146 : decode cL_law 1146 = .ok (.invokestatic 59, 3) := by decide +kernel
theorem dL_law_1149 : decode cL_law 1149 = .ok (.if_icmp .ge 10, 3) := by decide +kernel
theorem dL_law_1152 : decode cL_law 1152 = .ok (.iload 11, 2) := by decide +kernel
theorem dL_law_1154 : decode cL_law 1154 = .ok (.ifCond .lt 5, 3) := by decide +kernel
theorem dL_law_1157 : decode cL_law 1157 = .ok (.iconst 0, 1) := by decide +kernel
theorem dL_law_1158 : decode cL_law 1158 = .ok (.ireturn, 1) := by decide +kernel
theorem dL_law_1159 : decode cL_law 1159 = .ok (.iconst 0, 1) := by decide +kernel
theorem dL_law_1160 : decode cL_law 1160 = .ok (.istore 15, 2) := by decide +kernel
theorem dL_law_1162 : decode cL_law 1162 = .ok (.iconst 0, 1) := by decide +kernel
theorem dL_law_1163 : decode cL_law 1163 = .ok (.istore 16, 2) := by decide +kernel
theorem dL_law_1165 : decode cL_law 1165 = .ok (.iload 16, 2) := by decide +kernel
theorem dL_law_1167 : decode cL_law 1167 = .ok (.iconst 1, 1) := by decide +kernel
theorem dL_law_1168 : decode cL_law 1168 = .ok (.iadd, 1) := by decide +kernel
theorem dL_law_1169 : decode cL_law 1169 = .ok (.aload_n 2, 1) := by decide +kernel
theorem dL_law_1170 : decode cL_law 1170 = .ok (.iconst 1, 1) := by decide +kernel
theorem dL_law_1171 : decode cL_law 1171 = .ok (.iaload, 1) := by decide +kernel
theorem dL_law_1172 : decode cL_law 1172 = .ok (.if_icmp .ge 30, 3) := by decide +kernel
theorem dL_law_1175 : decode cL_law 1175 = .ok (.iload 15, 2) := by decide +kernel
theorem dL_law_1177 : decode cL_law 1177 = .ok (.aload_n 3, 1) := by decide +kernel
theorem dL_law_1178 : decode cL_law 1178 = .ok (.iconst 5, 1) := by decide +kernel
theorem dL_law_1179 : decode cL_law 1179 = .ok (.iload 16, 2) := by decide +kernel
theorem dL_law_1181 : decode cL_law 1181 = .ok (.iadd, 1) := by decide +kernel
theorem dL_law_1182 : decode cL_law 1182 = .ok (.iaload, 1) := by decide +kernel
theorem dL_law_1183 : decode cL_law 1183 = .ok (.aload_n 3, 1) := by decide +kernel
theorem dL_law_1184 : decode cL_law 1184 = .ok (.bipush 6, 2) := by decide +kernel
theorem dL_law_1186 : decode cL_law 1186 = .ok (.iload 16, 2) := by decide +kernel
theorem dL_law_1188 : decode cL_law 1188 = .ok (.iadd, 1) := by decide +kernel
theorem dL_law_1189 : decode cL_law 1189 = .ok (.iaload, 1) := by decide +kernel
theorem dL_law_1190 : decode cL_law 1190 = .ok (.invokestatic 45, 3) := by decide +kernel
theorem dL_law_1193 : decode cL_law 1193 = .ok (.iadd, 1) := by decide +kernel
theorem dL_law_1194 : decode cL_law 1194 = .ok (.istore 15, 2) := by decide +kernel
theorem dL_law_1196 : decode cL_law 1196 = .ok (.iinc 16 1, 3) := by decide +kernel
theorem dL_law_1199 : decode cL_law 1199 = .ok (.goto (-34), 3) := by decide +kernel
theorem dL_law_1202 : decode cL_law 1202 = .ok (.aload_n 1, 1) := by decide +kernel
theorem dL_law_1203 : decode cL_law 1203 = .ok (.iconst 3, 1) := by decide +kernel
theorem dL_law_1204 : decode cL_law 1204 = .ok (.invokevirtual 143, 3) := by decide +kernel
theorem dL_law_1207 : decode cL_law 1207 = .ok (.istore 16, 2) := by decide +kernel
theorem dL_law_1209 : decode cL_law 1209 = .ok (.iconst 0, 1) := by decide +kernel
theorem dL_law_1210 : decode cL_law 1210 = .ok (.istore 17, 2) := by decide +kernel
theorem dL_law_1212 : decode cL_law 1212 = .ok (.iconst 0, 1) := by decide +kernel
theorem dL_law_1213 : decode cL_law 1213 = .ok (.istore 18, 2) := by decide +kernel
theorem dL_law_1215 : decode cL_law 1215 = .ok (.iconst (-1), 1) := by decide +kernel
theorem dL_law_1216 : decode cL_law 1216 = .ok (.istore 19, 2) := by decide +kernel
theorem dL_law_1218 : decode cL_law 1218 = .ok (.iconst 0, 1) := by decide +kernel
theorem dL_law_1219 : decode cL_law 1219 = .ok (.istore 20, 2) := by decide +kernel
theorem dL_law_1221 : decode cL_law 1221 = .ok (.iload 20, 2) := by decide +kernel
theorem dL_law_1223 : decode cL_law 1223 = .ok (.aload_n 2, 1) := by decide +kernel
theorem dL_law_1224 : decode cL_law 1224 = .ok (.iconst 1, 1) := by decide +kernel
theorem dL_law_1225 : decode cL_law 1225 = .ok (.iaload, 1) := by decide +kernel
theorem dL_law_1226 : decode cL_law 1226 = .ok (.if_icmp .ge 70, 3) := by decide +kernel
theorem dL_law_1229 : decode cL_law 1229 = .ok (.aload_n 1, 1) := by decide +kernel
theorem dL_law_1230 : decode cL_law 1230 = .ok (.iconst 3, 1) := by decide +kernel
theorem dL_law_1231 : decode cL_law 1231 = .ok (.iload 20, 2) := by decide +kernel
theorem dL_law_1233 : decode cL_law 1233 = .ok (.invokevirtual 134, 3) := by decide +kernel
theorem dL_law_1236 : decode cL_law 1236 = .ok (.iconst 1, 1) := by decide +kernel
theorem dL_law_1237 : decode cL_law 1237 = .ok (.if_icmp .eq 5, 3) := by decide +kernel
theorem dL_law_1240 : decode cL_law 1240 = .ok (.iconst 0, 1) := by decide +kernel
theorem dL_law_1241 : decode cL_law 1241 = .ok (.ireturn, 1) := by decide +kernel
theorem dL_law_1242 : decode cL_law 1242 = .ok (.aload_n 1, 1) := by decide +kernel
theorem dL_law_1243 : decode cL_law 1243 = .ok (.invokevirtual 92, 3) := by decide +kernel
theorem dL_law_1246 : decode cL_law 1246 = .ok (.istore 21, 2) := by decide +kernel
theorem dL_law_1248 : decode cL_law 1248 = .ok (.iload 17, 2) := by decide +kernel
theorem dL_law_1250 : decode cL_law 1250 = .ok (.iload 19, 2) := by decide +kernel
theorem dL_law_1252 : decode cL_law 1252 = .ok (.ifCond .ge 7, 3) := by decide +kernel
theorem dL_law_1255 : decode cL_law 1255 = .ok (.iconst 0, 1) := by decide +kernel
theorem dL_law_1256 : decode cL_law 1256 = .ok (.goto 18, 3) := by decide +kernel
theorem dL_law_1259 : decode cL_law 1259 = .ok (.aload_n 3, 1) := by decide +kernel
theorem dL_law_1260 : decode cL_law 1260 = .ok (.iconst 5, 1) := by decide +kernel
theorem dL_law_1261 : decode cL_law 1261 = .ok (.iload 19, 2) := by decide +kernel
theorem dL_law_1263 : decode cL_law 1263 = .ok (.iadd, 1) := by decide +kernel
theorem dL_law_1264 : decode cL_law 1264 = .ok (.iaload, 1) := by decide +kernel
theorem dL_law_1265 : decode cL_law 1265 = .ok (.aload_n 3, 1) := by decide +kernel
theorem dL_law_1266 : decode cL_law 1266 = .ok (.iconst 5, 1) := by decide +kernel
theorem dL_law_1267 : decode cL_law 1267 = .ok (.iload 21, 2) := by decide +kernel
theorem dL_law_1269 : decode cL_law 1269 = .ok (.iadd, 1) := by decide +kernel
theorem dL_law_1270 : decode cL_law 1270 = .ok (.iaload, 1) := by decide +kernel
theorem dL_law_1271 : decode cL_law 1271 = .ok (.invokestatic 45, 3) := by decide +kernel
theorem dL_law_1274 : decode cL_law 1274 = .ok (.iadd, 1) := by decide +kernel
theorem dL_law_1275 : decode cL_law 1275 = .ok (.istore 17, 2) := by decide +kernel
theorem dL_law_1277 : decode cL_law 1277 = .ok (.iload 21, 2) := by decide +kernel
theorem dL_law_1279 : decode cL_law 1279 = .ok (.istore 19, 2) := by decide +kernel
theorem dL_law_1281 : decode cL_law 1281 = .ok (.iload 18, 2) := by decide +kernel
theorem dL_law_1283 : decode cL_law 1283 = .ok (.iconst 1, 1) := by decide +kernel
theorem dL_law_1284 : decode cL_law 1284 = .ok (.iload 21, 2) := by decide +kernel
theorem dL_law_1286 : decode cL_law 1286 = .ok (.ishl, 1) := by decide +kernel
theorem dL_law_1287 : decode cL_law 1287 = .ok (.ior, 1) := by decide +kernel
theorem dL_law_1288 : decode cL_law 1288 = .ok (.istore 18, 2) := by decide +kernel
theorem dL_law_1290 : decode cL_law 1290 = .ok (.iinc 20 1, 3) := by decide +kernel
theorem dL_law_1293 : decode cL_law 1293 = .ok (.goto (-72), 3) := by decide +kernel
theorem dL_law_1296 : decode cL_law 1296 = .ok (.iload 16, 2) := by decide +kernel
theorem dL_law_1298 : decode cL_law 1298 = .ok (.iload 15, 2) := by decide +kernel
theorem dL_law_1300 : decode cL_law 1300 = .ok (.if_icmp .gt 22, 3) := by decide +kernel
theorem dL_law_1303 : decode cL_law 1303 = .ok (.iload 17, 2) := by decide +kernel
theorem dL_law_1305 : decode cL_law 1305 = .ok (.iload 16, 2) := by decide +kernel
theorem dL_law_1307 : decode cL_law 1307 = .ok (.if_icmp .ne 15, 3) := by decide +kernel
theorem dL_law_1310 : decode cL_law 1310 = .ok (.iload 18, 2) := by decide +kernel
theorem dL_law_1312 : decode cL_law 1312 = .ok (.iconst 1, 1) := by decide +kernel
theorem dL_law_1313 : decode cL_law 1313 = .ok (.aload_n 2, 1) := by decide +kernel
theorem dL_law_1314 : decode cL_law 1314 = .ok (.iconst 1, 1) := by decide +kernel
theorem dL_law_1315 : decode cL_law 1315 = .ok (.iaload, 1) := by decide +kernel
theorem dL_law_1316 : decode cL_law 1316 = .ok (.ishl, 1) := by decide +kernel
theorem dL_law_1317 : decode cL_law 1317 = .ok (.iconst 1, 1) := by decide +kernel
theorem dL_law_1318 : decode cL_law 1318 = .ok (.isub, 1) := by decide +kernel
theorem dL_law_1319 : decode cL_law 1319 = .ok (.if_icmp .eq 5, 3) := by decide +kernel
theorem dL_law_1322 : decode cL_law 1322 = .ok (.iconst 0, 1) := by decide +kernel
theorem dL_law_1323 : decode cL_law 1323 = .ok (.ireturn, 1) := by decide +kernel
theorem dL_law_1324 : decode cL_law 1324 = .ok (.iconst 0, 1) := by decide +kernel
theorem dL_law_1325 : decode cL_law 1325 = .ok (.istore 20, 2) := by decide +kernel
theorem dL_law_1327 : decode cL_law 1327 = .ok (.aload_n 0, 1) := by decide +kernel
theorem dL_law_1328 : decode cL_law 1328 = .ok (.bipush 23, 2) := by decide +kernel
theorem dL_law_1330 : decode cL_law 1330 = .ok (.invokestatic 15, 3) := by decide +kernel
theorem dL_law_1333 : decode cL_law 1333 = .ok (.iconst 1, 1) := by decide +kernel
theorem dL_law_1334 : decode cL_law 1334 = .ok (.aload_n 2, 1) := by decide +kernel
theorem dL_law_1335 : decode cL_law 1335 = .ok (.iconst 1, 1) := by decide +kernel
theorem dL_law_1336 : decode cL_law 1336 = .ok (.iaload, 1) := by decide +kernel
theorem dL_law_1337 : decode cL_law 1337 = .ok (.ishl, 1) := by decide +kernel
theorem dL_law_1338 : decode cL_law 1338 = .ok (.invokestatic 21, 3) := by decide +kernel
theorem dL_law_1341 : decode cL_law 1341 = .ok (.istore 21, 2) := by decide +kernel
theorem dL_law_1343 : decode cL_law 1343 = .ok (.iconst 0, 1) := by decide +kernel
theorem dL_law_1344 : decode cL_law 1344 = .ok (.istore 22, 2) := by decide +kernel
theorem dL_law_1346 : decode cL_law 1346 = .ok (.iload 22, 2) := by decide +kernel
theorem dL_law_1348 : decode cL_law 1348 = .ok (.aload_n 2, 1) := by decide +kernel
theorem dL_law_1349 : decode cL_law 1349 = .ok (.iconst 1, 1) := by decide +kernel
theorem dL_law_1350 : decode cL_law 1350 = .ok (.iaload, 1) := by decide +kernel
theorem dL_law_1351 : decode cL_law 1351 = .ok (.if_icmp .ge 34, 3) := by decide +kernel
theorem dL_law_1354 : decode cL_law 1354 = .ok (.iload 20, 2) := by decide +kernel
theorem dL_law_1356 : decode cL_law 1356 = .ok (.iload 21, 2) := by decide +kernel
theorem dL_law_1358 : decode cL_law 1358 = .ok (.iload 22, 2) := by decide +kernel
theorem dL_law_1360 : decode cL_law 1360 = .ok (.invokestatic 108, 3) := by decide +kernel
theorem dL_law_1363 : decode cL_law 1363 = .ok (.ifCond .eq 12, 3) := by decide +kernel
theorem dL_law_1366 : decode cL_law 1366 = .ok (.aload_n 1, 1) := by decide +kernel
theorem dL_law_1367 : decode cL_law 1367 = .ok (.iload 22, 2) := by decide +kernel
theorem dL_law_1369 : decode cL_law 1369 = .ok (.invokevirtual 112, 3) := by decide +kernel
theorem dL_law_1372 : decode cL_law 1372 = .ok (.goto 4, 3) := by decide +kernel
theorem dL_law_1375 : decode cL_law 1375 = .ok (.iconst 0, 1) := by decide +kernel
theorem dL_law_1376 : decode cL_law 1376 = .ok (.iadd, 1) := by decide +kernel
theorem dL_law_1377 : decode cL_law 1377 = .ok (.istore 20, 2) := by decide +kernel
theorem dL_law_1379 : decode cL_law 1379 = .ok (.iinc 22 1, 3) := by decide +kernel
theorem dL_law_1382 : decode cL_law 1382 = .ok (.goto (-36), 3) := by decide +kernel
theorem dL_law_1385 : decode cL_law 1385 = .ok (.aload_n 1, 1) := by decide +kernel
theorem dL_law_1386 : decode cL_law 1386 = .ok (.iload 20, 2) := by decide +kernel
theorem dL_law_1388 : decode cL_law 1388 = .ok (.invokevirtual 146, 3) := by decide +kernel
theorem dL_law_1391 : decode cL_law 1391 = .ok (.iconst 1, 1) := by decide +kernel
theorem dL_law_1392 : decode cL_law 1392 = .ok (.if_icmp .ne 21, 3) := by decide +kernel
theorem dL_law_1395 : decode cL_law 1395 = .ok (.aload_n 1, 1) := by decide +kernel
theorem dL_law_1396 : decode cL_law 1396 = .ok (.invokevirtual 149, 3) := by decide +kernel
theorem dL_law_1399 : decode cL_law 1399 = .ok (.lconst 1, 1) := by decide +kernel
theorem dL_law_1400 : decode cL_law 1400 = .ok (.lcmp, 1) := by decide +kernel
theorem dL_law_1401 : decode cL_law 1401 = .ok (.ifCond .lt 12, 3) := by decide +kernel
theorem dL_law_1404 : decode cL_law 1404 = .ok (.aload_n 1, 1) := by decide +kernel
theorem dL_law_1405 : decode cL_law 1405 = .ok (.invokevirtual 92, 3) := by decide +kernel
theorem dL_law_1408 : decode cL_law 1408 = .ok (.iload 21, 2) := by decide +kernel
theorem dL_law_1410 : decode cL_law 1410 = .ok (.if_icmp .le 5, 3) := by decide +kernel
theorem dL_law_1413 : decode cL_law 1413 = .ok (.iconst 0, 1) := by decide +kernel
theorem dL_law_1414 : decode cL_law 1414 = .ok (.ireturn, 1) := by decide +kernel
theorem dL_law_1415 : decode cL_law 1415 = .ok (.aload_n 1, 1) := by decide +kernel
theorem dL_law_1416 : decode cL_law 1416 = .ok (.invokevirtual 92, 3) := by decide +kernel
theorem dL_law_1419 : decode cL_law 1419 = .ok (.istore 22, 2) := by decide +kernel
theorem dL_law_1421 : decode cL_law 1421 = .ok (.aload_n 1, 1) := by decide +kernel
theorem dL_law_1422 : decode cL_law 1422 = .ok (.iload 20, 2) := by decide +kernel
theorem dL_law_1424 : decode cL_law 1424 = .ok (.invokevirtual 153, 3) := by decide +kernel
theorem dL_law_1427 : decode cL_law 1427 = .ok (.istore 23, 2) := by decide +kernel
theorem dL_law_1429 : decode cL_law 1429 = .ok (.aload_n 1, 1) := by decide +kernel
theorem dL_law_1430 : decode cL_law 1430 = .ok (.invokevirtual 92, 3) := by decide +kernel
theorem dL_law_1433 : decode cL_law 1433 = .ok (.istore 24, 2) := by decide +kernel
theorem dL_law_1435 : decode cL_law 1435 = .ok (.iload 23, 2) := by decide +kernel
theorem dL_law_1437 : decode cL_law 1437 = .ok (.iload 21, 2) := by decide +kernel
theorem dL_law_1439 : decode cL_law 1439 = .ok (.iconst (-1), 1) := by decide +kernel
theorem dL_law_1440 : decode cL_law 1440 = .ok (.ixor, 1) := by decide +kernel
theorem dL_law_1441 : decode cL_law 1441 = .ok (.iand, 1) := by decide +kernel
theorem dL_law_1442 : decode cL_law 1442 = .ok (.ifCond .ne 29, 3) := by decide +kernel
theorem dL_law_1445 : decode cL_law 1445 = .ok (.iload 23, 2) := by decide +kernel
theorem dL_law_1447 : decode cL_law 1447 = .ok (.iload 22, 2) := by decide +kernel
theorem dL_law_1449 : decode cL_law 1449 = .ok (.iconst (-1), 1) := by decide +kernel
theorem dL_law_1450 : decode cL_law 1450 = .ok (.ixor, 1) := by decide +kernel
theorem dL_law_1451 : decode cL_law 1451 = .ok (.iand, 1) := by decide +kernel
theorem dL_law_1452 : decode cL_law 1452 = .ok (.ifCond .ne 19, 3) := by decide +kernel
theorem dL_law_1455 : decode cL_law 1455 = .ok (.iload 24, 2) := by decide +kernel
theorem dL_law_1457 : decode cL_law 1457 = .ok (.iload 21, 2) := by decide +kernel
theorem dL_law_1459 : decode cL_law 1459 = .ok (.iand, 1) := by decide +kernel
theorem dL_law_1460 : decode cL_law 1460 = .ok (.ifCond .ne 11, 3) := by decide +kernel
theorem dL_law_1463 : decode cL_law 1463 = .ok (.iload 24, 2) := by decide +kernel
theorem dL_law_1465 : decode cL_law 1465 = .ok (.iload 23, 2) := by decide +kernel
theorem dL_law_1467 : decode cL_law 1467 = .ok (.iand, 1) := by decide +kernel
theorem dL_law_1468 : decode cL_law 1468 = .ok (.ifCond .eq 5, 3) := by decide +kernel
theorem dL_law_1471 : decode cL_law 1471 = .ok (.iconst 0, 1) := by decide +kernel
theorem dL_law_1472 : decode cL_law 1472 = .ok (.ireturn, 1) := by decide +kernel
theorem dL_law_1473 : decode cL_law 1473 = .ok (.aload_n 1, 1) := by decide +kernel
theorem dL_law_1474 : decode cL_law 1474 = .ok (.iconst 2, 1) := by decide +kernel
theorem dL_law_1475 : decode cL_law 1475 = .ok (.invokevirtual 156, 3) := by decide +kernel
theorem dL_law_1478 : decode cL_law 1478 = .ok (.iconst 1, 1) := by decide +kernel
theorem dL_law_1479 : decode cL_law 1479 = .ok (.if_icmp .ne 29, 3) := by decide +kernel
theorem dL_law_1482 : decode cL_law 1482 = .ok (.aload_n 1, 1) := by decide +kernel
theorem dL_law_1483 : decode cL_law 1483 = .ok (.invokevirtual 92, 3) := by decide +kernel
theorem dL_law_1486 : decode cL_law 1486 = .ok (.iconst 3, 1) := by decide +kernel
theorem dL_law_1487 : decode cL_law 1487 = .ok (.if_icmp .gt 21, 3) := by decide +kernel
theorem dL_law_1490 : decode cL_law 1490 = .ok (.aload_n 1, 1) := by decide +kernel
theorem dL_law_1491 : decode cL_law 1491 = .ok (.invokevirtual 92, 3) := by decide +kernel
theorem dL_law_1494 : decode cL_law 1494 = .ok (.bipush (-3), 2) := by decide +kernel
theorem dL_law_1496 : decode cL_law 1496 = .ok (.if_icmp .lt 12, 3) := by decide +kernel
theorem dL_law_1499 : decode cL_law 1499 = .ok (.aload_n 1, 1) := by decide +kernel
theorem dL_law_1500 : decode cL_law 1500 = .ok (.iconst 0, 1) := by decide +kernel
theorem dL_law_1501 : decode cL_law 1501 = .ok (.invokevirtual 156, 3) := by decide +kernel
theorem dL_law_1504 : decode cL_law 1504 = .ok (.iconst 1, 1) := by decide +kernel
theorem dL_law_1505 : decode cL_law 1505 = .ok (.if_icmp .eq 5, 3) := by decide +kernel
theorem dL_law_1508 : decode cL_law 1508 = .ok (.iconst 0, 1) := by decide +kernel
theorem dL_law_1509 : decode cL_law 1509 = .ok (.ireturn, 1) := by decide +kernel
theorem dL_law_1510 : decode cL_law 1510 = .ok (.aload_n 0, 1) := by decide +kernel
theorem dL_law_1511 : decode cL_law 1511 = .ok (.bipush 24, 2) := by decide +kernel
theorem dL_law_1513 : decode cL_law 1513 = .ok (.invokestatic 15, 3) := by decide +kernel
theorem dL_law_1516 : decode cL_law 1516 = .ok (.aload_n 2, 1) := by decide +kernel
theorem dL_law_1517 : decode cL_law 1517 = .ok (.iconst 1, 1) := by decide +kernel
theorem dL_law_1518 : decode cL_law 1518 = .ok (.iaload, 1) := by decide +kernel
theorem dL_law_1519 : decode cL_law 1519 = .ok (.invokestatic 21, 3) := by decide +kernel
theorem dL_law_1522 : decode cL_law 1522 = .ok (.istore 25, 2) := by decide +kernel
theorem dL_law_1524 : decode cL_law 1524 = .ok (.aload_n 0, 1) := by decide +kernel
theorem dL_law_1525 : decode cL_law 1525 = .ok (.bipush 25, 2) := by decide +kernel
theorem dL_law_1527 : decode cL_law 1527 = .ok (.invokestatic 15, 3) := by decide +kernel
theorem dL_law_1530 : decode cL_law 1530 = .ok (.bipush 13, 2) := by decide +kernel
theorem dL_law_1532 : decode cL_law 1532 = .ok (.invokestatic 21, 3) := by decide +kernel
theorem dL_law_1535 : decode cL_law 1535 = .ok (.istore 26, 2) := by decide +kernel
theorem dL_law_1537 : decode cL_law 1537 = .ok (.lconst 0, 1) := by decide +kernel
theorem dL_law_1538 : decode cL_law 1538 = .ok (.lstore 27, 2) := by decide +kernel
theorem dL_law_1540 : decode cL_law 1540 = .ok (.lconst 1, 1) := by decide +kernel
theorem dL_law_1541 : decode cL_law 1541 = .ok (.lstore 29, 2) := by decide +kernel
theorem dL_law_1543 : decode cL_law 1543 = .ok (.iconst 0, 1) := by decide +kernel
theorem dL_law_1544 : decode cL_law 1544 = .ok (.istore 31, 2) := by decide +kernel
theorem dL_law_1546 : decode cL_law 1546 = .ok (.iload 31, 2) := by decide +kernel
theorem dL_law_1548 : decode cL_law 1548 = .ok (.bipush 9, 2) := by decide +kernel
theorem dL_law_1550 : decode cL_law 1550 = .ok (.if_icmp .ge 150, 3) := by decide +kernel
theorem dL_law_1553 : decode cL_law 1553 = .ok (.aload_n 1, 1) := by decide +kernel
theorem dL_law_1554 : decode cL_law 1554 = .ok (.iload 25, 2) := by decide +kernel
theorem dL_law_1556 : decode cL_law 1556 = .ok (.iload 31, 2) := by decide +kernel
theorem dL_law_1558 : decode cL_law 1558 = .ok (.iload 26, 2) := by decide +kernel
theorem dL_law_1560 : decode cL_law 1560 = .ok (.invokevirtual 159, 3) := by decide +kernel
theorem dL_law_1563 : decode cL_law 1563 = .ok (.iconst 1, 1) := by decide +kernel
theorem dL_law_1564 : decode cL_law 1564 = .ok (.if_icmp .ne 51, 3) := by decide +kernel
theorem dL_law_1567 : decode cL_law 1567 = .ok (.aload_n 1, 1) := by decide +kernel
theorem dL_law_1568 : decode cL_law 1568 = .ok (.invokevirtual 149, 3) := by decide +kernel
theorem dL_law_1571 : decode cL_law 1571 = .ok (.lconst 0, 1) := by decide +kernel
theorem dL_law_1572 : decode cL_law 1572 = .ok (.lcmp, 1) := by decide +kernel
theorem dL_law_1573 : decode cL_law 1573 = .ok (.ifCond .lt 42, 3) := by decide +kernel
theorem dL_law_1576 : decode cL_law 1576 = .ok (.aload_n 1, 1) := by decide +kernel
theorem dL_law_1577 : decode cL_law 1577 = .ok (.invokevirtual 162, 3) := by decide +kernel
theorem dL_law_1580 : decode cL_law 1580 = .ok (.lconst 1, 1) := by decide +kernel
theorem dL_law_1581 : decode cL_law 1581 = .ok (.lcmp, 1) := by decide +kernel
theorem dL_law_1582 : decode cL_law 1582 = .ok (.ifCond .lt 33, 3) := by decide +kernel
theorem dL_law_1585 : decode cL_law 1585 = .ok (.aload_n 1, 1) := by decide +kernel
theorem dL_law_1586 : decode cL_law 1586 = .ok (.invokevirtual 149, 3) := by decide +kernel
theorem dL_law_1589 : decode cL_law 1589 = .ok (.aload_n 1, 1) := by decide +kernel
theorem dL_law_1590 : decode cL_law 1590 = .ok (.invokevirtual 162, 3) := by decide +kernel
theorem dL_law_1593 : decode cL_law 1593 = .ok (.lcmp, 1) := by decide +kernel
theorem dL_law_1594 : decode cL_law 1594 = .ok (.ifCond .gt 21, 3) := by decide +kernel
theorem dL_law_1597 : decode cL_law 1597 = .ok (.aload_n 1, 1) := by decide +kernel
theorem dL_law_1598 : decode cL_law 1598 = .ok (.invokevirtual 149, 3) := by decide +kernel
theorem dL_law_1601 : decode cL_law 1601 = .ok (.lload 29, 2) := by decide +kernel
theorem dL_law_1603 : decode cL_law 1603 = .ok (.lmul, 1) := by decide +kernel
theorem dL_law_1604 : decode cL_law 1604 = .ok (.lload 27, 2) := by decide +kernel
theorem dL_law_1606 : decode cL_law 1606 = .ok (.aload_n 1, 1) := by decide +kernel
theorem dL_law_1607 : decode cL_law 1607 = .ok (.invokevirtual 162, 3) := by decide +kernel
theorem dL_law_1610 : decode cL_law 1610 = .ok (.lmul, 1) := by decide +kernel
theorem dL_law_1611 : decode cL_law 1611 = .ok (.lcmp, 1) := by decide +kernel
theorem dL_law_1612 : decode cL_law 1612 = .ok (.ifCond .ge 5, 3) := by decide +kernel
theorem dL_law_1615 : decode cL_law 1615 = .ok (.iconst 0, 1) := by decide +kernel
theorem dL_law_1616 : decode cL_law 1616 = .ok (.ireturn, 1) := by decide +kernel
theorem dL_law_1617 : decode cL_law 1617 = .ok (.aload_n 1, 1) := by decide +kernel
theorem dL_law_1618 : decode cL_law 1618 = .ok (.invokevirtual 149, 3) := by decide +kernel
theorem dL_law_1621 : decode cL_law 1621 = .ok (.lstore 27, 2) := by decide +kernel
theorem dL_law_1623 : decode cL_law 1623 = .ok (.aload_n 1, 1) := by decide +kernel
theorem dL_law_1624 : decode cL_law 1624 = .ok (.invokevirtual 162, 3) := by decide +kernel
theorem dL_law_1627 : decode cL_law 1627 = .ok (.lstore 29, 2) := by decide +kernel
theorem dL_law_1629 : decode cL_law 1629 = .ok (.aload_n 1, 1) := by decide +kernel
theorem dL_law_1630 : decode cL_law 1630 = .ok (.iload 25, 2) := by decide +kernel
theorem dL_law_1632 : decode cL_law 1632 = .ok (.iload 31, 2) := by decide +kernel
theorem dL_law_1634 : decode cL_law 1634 = .ok (.iload 26, 2) := by decide +kernel
theorem dL_law_1636 : decode cL_law 1636 = .ok (.invokevirtual 165, 3) := by decide +kernel
theorem dL_law_1639 : decode cL_law 1639 = .ok (.istore 32, 2) := by decide +kernel
theorem dL_law_1641 : decode cL_law 1641 = .ok (.iload 32, 2) := by decide +kernel
theorem dL_law_1643 : decode cL_law 1643 = .ok (.iconst 1, 1) := by decide +kernel
theorem dL_law_1644 : decode cL_law 1644 = .ok (.if_icmp .ne 28, 3) := by decide +kernel
theorem dL_law_1647 : decode cL_law 1647 = .ok (.aload_n 1, 1) := by decide +kernel
theorem dL_law_1648 : decode cL_law 1648 = .ok (.invokevirtual 149, 3) := by decide +kernel
theorem dL_law_1651 : decode cL_law 1651 = .ok (.lconst 0, 1) := by decide +kernel
theorem dL_law_1652 : decode cL_law 1652 = .ok (.lcmp, 1) := by decide +kernel
theorem dL_law_1653 : decode cL_law 1653 = .ok (.ifCond .lt 39, 3) := by decide +kernel
theorem dL_law_1656 : decode cL_law 1656 = .ok (.aload_n 1, 1) := by decide +kernel
theorem dL_law_1657 : decode cL_law 1657 = .ok (.invokevirtual 149, 3) := by decide +kernel
theorem dL_law_1660 : decode cL_law 1660 = .ok (.ldc2_w 168, 3) := by decide +kernel
theorem dL_law_1663 : decode cL_law 1663 = .ok (.aload_n 1, 1) := by decide +kernel
theorem dL_law_1664 : decode cL_law 1664 = .ok (.invokevirtual 162, 3) := by decide +kernel
theorem dL_law_1667 : decode cL_law 1667 = .ok (.lmul, 1) := by decide +kernel
theorem dL_law_1668 : decode cL_law 1668 = .ok (.lcmp, 1) := by decide +kernel
theorem dL_law_1669 : decode cL_law 1669 = .ok (.ifCond .gt 23, 3) := by decide +kernel
theorem dL_law_1672 : decode cL_law 1672 = .ok (.iload 32, 2) := by decide +kernel
theorem dL_law_1674 : decode cL_law 1674 = .ok (.iconst 1, 1) := by decide +kernel
theorem dL_law_1675 : decode cL_law 1675 = .ok (.if_icmp .eq 19, 3) := by decide +kernel
theorem dL_law_1678 : decode cL_law 1678 = .ok (.iload 32, 2) := by decide +kernel
theorem dL_law_1680 : decode cL_law 1680 = .ok (.bipush (-3), 2) := by decide +kernel
theorem dL_law_1682 : decode cL_law 1682 = .ok (.if_icmp .ne 10, 3) := by decide +kernel
theorem dL_law_1685 : decode cL_law 1685 = .ok (.lload 27, 2) := by decide +kernel
theorem dL_law_1687 : decode cL_law 1687 = .ok (.lconst 0, 1) := by decide +kernel
theorem dL_law_1688 : decode cL_law 1688 = .ok (.lcmp, 1) := by decide +kernel
theorem dL_law_1689 : decode cL_law 1689 = .ok (.ifCond .eq 5, 3) := by decide +kernel
theorem dL_law_1692 : decode cL_law 1692 = .ok (.iconst 0, 1) := by decide +kernel
theorem dL_law_1693 : decode cL_law 1693 = .ok (.ireturn, 1) := by decide +kernel
theorem dL_law_1694 : decode cL_law 1694 = .ok (.iinc 31 1, 3) := by decide +kernel
theorem dL_law_1697 : decode cL_law 1697 = .ok (.goto (-151), 3) := by decide +kernel
theorem dL_law_1700 : decode cL_law 1700 = .ok (.aload_n 1, 1) := by decide +kernel
theorem dL_law_1701 : decode cL_law 1701 = .ok (.iconst 5, 1) := by decide +kernel
theorem dL_law_1702 : decode cL_law 1702 = .ok (.bipush 8, 2) := by decide +kernel
theorem dL_law_1704 : decode cL_law 1704 = .ok (.invokevirtual 170, 3) := by decide +kernel
theorem dL_law_1707 : decode cL_law 1707 = .ok (.bipush 8, 2) := by decide +kernel
theorem dL_law_1709 : decode cL_law 1709 = .ok (.if_icmp .eq 5, 3) := by decide +kernel
theorem dL_law_1712 : decode cL_law 1712 = .ok (.iconst 0, 1) := by decide +kernel
theorem dL_law_1713 : decode cL_law 1713 = .ok (.ireturn, 1) := by decide +kernel
theorem dL_law_1714 : decode cL_law 1714 = .ok (.iconst 0, 1) := by decide +kernel
theorem dL_law_1715 : decode cL_law 1715 = .ok (.istore 31, 2) := by decide +kernel
theorem dL_law_1717 : decode cL_law 1717 = .ok (.iload 31, 2) := by decide +kernel
theorem dL_law_1719 : decode cL_law 1719 = .ok (.iconst 4, 1) := by decide +kernel
theorem dL_law_1720 : decode cL_law 1720 = .ok (.if_icmp .ge 78, 3) := by decide +kernel
theorem dL_law_1723 : decode cL_law 1723 = .ok (.aload_n 0, 1) := by decide +kernel
theorem dL_law_1724 : decode cL_law 1724 = .ok (.bipush 26, 2) := by decide +kernel
theorem dL_law_1726 : decode cL_law 1726 = .ok (.iload 31, 2) := by decide +kernel
theorem dL_law_1728 : decode cL_law 1728 = .ok (.iadd, 1) := by decide +kernel
theorem dL_law_1729 : decode cL_law 1729 = .ok (.invokestatic 15, 3) := by decide +kernel
theorem dL_law_1732 : decode cL_law 1732 = .ok (.bipush 100, 2) := by decide +kernel
theorem dL_law_1734 : decode cL_law 1734 = .ok (.invokestatic 21, 3) := by decide +kernel
theorem dL_law_1737 : decode cL_law 1737 = .ok (.istore 32, 2) := by decide +kernel
theorem dL_law_1739 : decode cL_law 1739 = .ok (.aload_n 1, 1) := by decide +kernel
theorem dL_law_1740 : decode cL_law 1740 = .ok (.iload 25, 2) := by decide +kernel
theorem dL_law_1742 : decode cL_law 1742 = .ok (.iload 32, 2) := by decide +kernel
theorem dL_law_1744 : decode cL_law 1744 = .ok (.invokevirtual 123, 3) := by decide +kernel
theorem dL_law_1747 : decode cL_law 1747 = .ok (.istore 33, 2) := by decide +kernel
theorem dL_law_1749 : decode cL_law 1749 = .ok (.aload_n 1, 1) := by decide +kernel
theorem dL_law_1750 : decode cL_law 1750 = .ok (.iconst 5, 1) := by decide +kernel
theorem dL_law_1751 : decode cL_law 1751 = .ok (.iconst 2, 1) := by decide +kernel
theorem dL_law_1752 : decode cL_law 1752 = .ok (.iload 31, 2) := by decide +kernel
theorem dL_law_1754 : decode cL_law 1754 = .ok (.imul, 1) := by decide +kernel
theorem dL_law_1755 : decode cL_law 1755 = .ok (.iload 32, 2) := by decide +kernel
theorem dL_law_1757 : decode cL_law 1757 = .ok (.invokevirtual 173, 3) := by decide +kernel
theorem dL_law_1760 : decode cL_law 1760 = .ok (.iconst 1, 1) := by decide +kernel
theorem dL_law_1761 : decode cL_law 1761 = .ok (.if_icmp .ne 29, 3) := by decide +kernel
theorem dL_law_1764 : decode cL_law 1764 = .ok (.aload_n 1, 1) := by decide +kernel
theorem dL_law_1765 : decode cL_law 1765 = .ok (.iconst 5, 1) := by decide +kernel
theorem dL_law_1766 : decode cL_law 1766 = .ok (.iconst 2, 1) := by decide +kernel
theorem dL_law_1767 : decode cL_law 1767 = .ok (.iload 31, 2) := by decide +kernel
theorem dL_law_1769 : decode cL_law 1769 = .ok (.imul, 1) := by decide +kernel
theorem dL_law_1770 : decode cL_law 1770 = .ok (.iconst 1, 1) := by decide +kernel
theorem dL_law_1771 : decode cL_law 1771 = .ok (.iadd, 1) := by decide +kernel
theorem dL_law_1772 : decode cL_law 1772 = .ok (.iload 33, 2) := by decide +kernel
theorem dL_law_1774 : decode cL_law 1774 = .ok (.ifCond .ge 7, 3) := by decide +kernel
theorem dL_law_1777 : decode cL_law 1777 = .ok (.iconst 0, 1) := by decide +kernel
theorem dL_law_1778 : decode cL_law 1778 = .ok (.goto 5, 3) := by decide +kernel
theorem dL_law_1781 : decode cL_law 1781 = .ok (.iload 33, 2) := by decide +kernel
theorem dL_law_1783 : decode cL_law 1783 = .ok (.invokevirtual 173, 3) := by decide +kernel
theorem dL_law_1786 : decode cL_law 1786 = .ok (.iconst 1, 1) := by decide +kernel
theorem dL_law_1787 : decode cL_law 1787 = .ok (.if_icmp .eq 5, 3) := by decide +kernel
theorem dL_law_1790 : decode cL_law 1790 = .ok (.iconst 0, 1) := by decide +kernel
theorem dL_law_1791 : decode cL_law 1791 = .ok (.ireturn, 1) := by decide +kernel
theorem dL_law_1792 : decode cL_law 1792 = .ok (.iinc 31 1, 3) := by decide +kernel
theorem dL_law_1795 : decode cL_law 1795 = .ok (.goto (-78), 3) := by decide +kernel
theorem dL_law_1798 : decode cL_law 1798 = .ok (.aload_n 1, 1) := by decide +kernel
theorem dL_law_1799 : decode cL_law 1799 = .ok (.iconst 5, 1) := by decide +kernel
theorem dL_law_1800 : decode cL_law 1800 = .ok (.invokevirtual 176, 3) := by decide +kernel
theorem dL_law_1803 : decode cL_law 1803 = .ok (.iload 25, 2) := by decide +kernel
theorem dL_law_1805 : decode cL_law 1805 = .ok (.invokestatic 108, 3) := by decide +kernel
theorem dL_law_1808 : decode cL_law 1808 = .ok (.ifCond .eq 67, 3) := by decide +kernel
theorem dL_law_1811 : decode cL_law 1811 = .ok (.aload_n 1, 1) := by decide +kernel
theorem dL_law_1812 : decode cL_law 1812 = .ok (.iconst 5, 1) := by decide +kernel
theorem dL_law_1813 : decode cL_law 1813 = .ok (.invokevirtual 179, 3) := by decide +kernel
theorem dL_law_1816 : decode cL_law 1816 = .ok (.aload_n 2, 1) := by decide +kernel
theorem dL_law_1817 : decode cL_law 1817 = .ok (.iconst 2, 1) := by decide +kernel
theorem dL_law_1818 : decode cL_law 1818 = .ok (.iload 25, 2) := by decide +kernel
theorem dL_law_1820 : decode cL_law 1820 = .ok (.iadd, 1) := by decide +kernel
theorem dL_law_1821 : decode cL_law 1821 = .ok (.iaload, 1) := by decide +kernel
theorem dL_law_1822 : decode cL_law 1822 = .ok (.invokestatic 108, 3) := by decide +kernel
theorem dL_law_1825 : decode cL_law 1825 = .ok (.ifCond .eq 50, 3) := by decide +kernel
theorem dL_law_1828 : decode cL_law 1828 = .ok (.aload_n 1, 1) := by decide +kernel
theorem dL_law_1829 : decode cL_law 1829 = .ok (.iconst 5, 1) := by decide +kernel
theorem dL_law_1830 : decode cL_law 1830 = .ok (.invokevirtual 182, 3) := by decide +kernel
theorem dL_law_1833 : decode cL_law 1833 = .ok (.ifCond .lt 42, 3) := by decide +kernel
theorem dL_law_1836 : decode cL_law 1836 = .ok (.aload_n 1, 1) := by decide +kernel
theorem dL_law_1837 : decode cL_law 1837 = .ok (.invokevirtual 92, 3) := by decide +kernel
theorem dL_law_1840 : decode cL_law 1840 = .ok (.ifCond .le 35, 3) := by decide +kernel
theorem dL_law_1843 : decode cL_law 1843 = .ok (.aload_n 1, 1) := by decide +kernel
theorem dL_law_1844 : decode cL_law 1844 = .ok (.invokevirtual 92, 3) := by decide +kernel
theorem dL_law_1847 : decode cL_law 1847 = .ok (.bipush 7, 2) := by decide +kernel
theorem dL_law_1849 : decode cL_law 1849 = .ok (.if_icmp .ge 26, 3) := by decide +kernel
theorem dL_law_1852 : decode cL_law 1852 = .ok (.aload_n 1, 1) := by decide +kernel
theorem dL_law_1853 : decode cL_law 1853 = .ok (.iconst 1, 1) := by decide +kernel
theorem dL_law_1854 : decode cL_law 1854 = .ok (.invokevirtual 137, 3) := by decide +kernel
theorem dL_law_1857 : decode cL_law 1857 = .ok (.iload 5, 2) := by decide +kernel
theorem dL_law_1859 : decode cL_law 1859 = .ok (.if_icmp .ne 16, 3) := by decide +kernel
theorem dL_law_1862 : decode cL_law 1862 = .ok (.aload_n 1, 1) := by decide +kernel
theorem dL_law_1863 : decode cL_law 1863 = .ok (.aload_n 2, 1) := by decide +kernel
theorem dL_law_1864 : decode cL_law 1864 = .ok (.aload_n 3, 1) := by decide +kernel
theorem dL_law_1865 : decode cL_law 1865 = .ok (.invokestatic 116, 3) := by decide +kernel
theorem dL_law_1868 : decode cL_law 1868 = .ok (.ifCond .eq 7, 3) := by decide +kernel
theorem dL_law_1871 : decode cL_law 1871 = .ok (.iconst 1, 1) := by decide +kernel
theorem dL_law_1872 : decode cL_law 1872 = .ok (.goto 4, 3) := by decide +kernel
theorem dL_law_1875 : decode cL_law 1875 = .ok (.iconst 0, 1) := by decide +kernel
theorem dL_law_1876 : decode cL_law 1876 = .ok (.ireturn, 1) := by decide +kernel
