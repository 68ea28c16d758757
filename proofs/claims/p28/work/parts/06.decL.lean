theorem dL_cell_0 : decode cL_cell 0 = .ok (.iload_n 1, 1) := by decide +kernel
theorem dL_cell_1 : decode cL_cell 1 = .ok (.aload_n 0, 1) := by decide +kernel
theorem dL_cell_2 : decode cL_cell 2 = .ok (.arraylength, 1) := by decide +kernel
theorem dL_cell_3 : decode cL_cell 3 = .ok (.if_icmp .ge 9, 3) := by decide +kernel
theorem dL_cell_6 : decode cL_cell 6 = .ok (.aload_n 0, 1) := by decide +kernel
theorem dL_cell_7 : decode cL_cell 7 = .ok (.iload_n 1, 1) := by decide +kernel
theorem dL_cell_8 : decode cL_cell 8 = .ok (.iaload, 1) := by decide +kernel
theorem dL_cell_9 : decode cL_cell 9 = .ok (.goto 13, 3) := by decide +kernel
theorem dL_cell_12 : decode cL_cell 12 = .ok (.ldc 7, 2) := by decide +kernel
theorem dL_cell_14 : decode cL_cell 14 = .ok (.iload_n 1, 1) := by decide +kernel
theorem dL_cell_15 : decode cL_cell 15 = .ok (.iconst 3, 1) := by decide +kernel
theorem dL_cell_16 : decode cL_cell 16 = .ok (.iadd, 1) := by decide +kernel
theorem dL_cell_17 : decode cL_cell 17 = .ok (.imul, 1) := by decide +kernel
theorem dL_cell_18 : decode cL_cell 18 = .ok (.sipush 10513, 3) := by decide +kernel
theorem dL_cell_21 : decode cL_cell 21 = .ok (.iadd, 1) := by decide +kernel
theorem dL_cell_22 : decode cL_cell 22 = .ok (.ldc 8, 2) := by decide +kernel
theorem dL_cell_24 : decode cL_cell 24 = .ok (.iand, 1) := by decide +kernel
theorem dL_cell_25 : decode cL_cell 25 = .ok (.ireturn, 1) := by decide +kernel
theorem dL_refuses_0 : decode cL_refuses 0 = .ok (.aload_n 0, 1) := by decide +kernel
theorem dL_refuses_1 : decode cL_refuses 1 = .ok (.iconst 0, 1) := by decide +kernel
theorem dL_refuses_2 : decode cL_refuses 2 = .ok (.invokevirtual 9, 3) := by decide +kernel
theorem dL_refuses_5 : decode cL_refuses 5 = .ok (.istore_n 2, 1) := by decide +kernel
theorem dL_refuses_6 : decode cL_refuses 6 = .ok (.aload_n 0, 1) := by decide +kernel
theorem dL_refuses_7 : decode cL_refuses 7 = .ok (.iconst 2, 1) := by decide +kernel
theorem dL_refuses_8 : decode cL_refuses 8 = .ok (.iload_n 1, 1) := by decide +kernel
theorem dL_refuses_9 : decode cL_refuses 9 = .ok (.bipush 9, 2) := by decide +kernel
theorem dL_refuses_11 : decode cL_refuses 11 = .ok (.irem, 1) := by decide +kernel
theorem dL_refuses_12 : decode cL_refuses 12 = .ok (.iadd, 1) := by decide +kernel
theorem dL_refuses_13 : decode cL_refuses 13 = .ok (.iconst 1, 1) := by decide +kernel
theorem dL_refuses_14 : decode cL_refuses 14 = .ok (.invokevirtual 15, 3) := by decide +kernel
theorem dL_refuses_17 : decode cL_refuses 17 = .ok (.bipush (-2), 2) := by decide +kernel
theorem dL_refuses_19 : decode cL_refuses 19 = .ok (.if_icmp .ne 126, 3) := by decide +kernel
theorem dL_refuses_22 : decode cL_refuses 22 = .ok (.aload_n 0, 1) := by decide +kernel
theorem dL_refuses_23 : decode cL_refuses 23 = .ok (.iconst 1, 1) := by decide +kernel
theorem dL_refuses_24 : decode cL_refuses 24 = .ok (.bipush 7, 2) := by decide +kernel
theorem dL_refuses_26 : decode cL_refuses 26 = .ok (.iload_n 1, 1) := by decide +kernel
theorem dL_refuses_27 : decode cL_refuses 27 = .ok (.bipush 9, 2) := by decide +kernel
theorem dL_refuses_29 : decode cL_refuses 29 = .ok (.irem, 1) := by decide +kernel
theorem dL_refuses_30 : decode cL_refuses 30 = .ok (.iadd, 1) := by decide +kernel
theorem dL_refuses_31 : decode cL_refuses 31 = .ok (.invokevirtual 15, 3) := by decide +kernel
theorem dL_refuses_34 : decode cL_refuses 34 = .ok (.bipush (-2), 2) := by decide +kernel
theorem dL_refuses_36 : decode cL_refuses 36 = .ok (.if_icmp .ne 109, 3) := by decide +kernel
theorem dL_refuses_39 : decode cL_refuses 39 = .ok (.aload_n 0, 1) := by decide +kernel
theorem dL_refuses_40 : decode cL_refuses 40 = .ok (.iconst 0, 1) := by decide +kernel
theorem dL_refuses_41 : decode cL_refuses 41 = .ok (.bipush 13, 2) := by decide +kernel
theorem dL_refuses_43 : decode cL_refuses 43 = .ok (.invokevirtual 15, 3) := by decide +kernel
theorem dL_refuses_46 : decode cL_refuses 46 = .ok (.bipush (-2), 2) := by decide +kernel
theorem dL_refuses_48 : decode cL_refuses 48 = .ok (.if_icmp .ne 97, 3) := by decide +kernel
theorem dL_refuses_51 : decode cL_refuses 51 = .ok (.aload_n 0, 1) := by decide +kernel
theorem dL_refuses_52 : decode cL_refuses 52 = .ok (.iconst 0, 1) := by decide +kernel
theorem dL_refuses_53 : decode cL_refuses 53 = .ok (.invokevirtual 21, 3) := by decide +kernel
theorem dL_refuses_56 : decode cL_refuses 56 = .ok (.bipush (-2), 2) := by decide +kernel
theorem dL_refuses_58 : decode cL_refuses 58 = .ok (.if_icmp .ne 87, 3) := by decide +kernel
theorem dL_refuses_61 : decode cL_refuses 61 = .ok (.aload_n 0, 1) := by decide +kernel
theorem dL_refuses_62 : decode cL_refuses 62 = .ok (.sipush 401, 3) := by decide +kernel
theorem dL_refuses_65 : decode cL_refuses 65 = .ok (.iload_n 1, 1) := by decide +kernel
theorem dL_refuses_66 : decode cL_refuses 66 = .ok (.bipush 9, 2) := by decide +kernel
theorem dL_refuses_68 : decode cL_refuses 68 = .ok (.irem, 1) := by decide +kernel
theorem dL_refuses_69 : decode cL_refuses 69 = .ok (.iadd, 1) := by decide +kernel
theorem dL_refuses_70 : decode cL_refuses 70 = .ok (.invokevirtual 21, 3) := by decide +kernel
theorem dL_refuses_73 : decode cL_refuses 73 = .ok (.bipush (-2), 2) := by decide +kernel
theorem dL_refuses_75 : decode cL_refuses 75 = .ok (.if_icmp .ne 70, 3) := by decide +kernel
theorem dL_refuses_78 : decode cL_refuses 78 = .ok (.aload_n 0, 1) := by decide +kernel
theorem dL_refuses_79 : decode cL_refuses 79 = .ok (.bipush 16, 2) := by decide +kernel
theorem dL_refuses_81 : decode cL_refuses 81 = .ok (.iload_n 1, 1) := by decide +kernel
theorem dL_refuses_82 : decode cL_refuses 82 = .ok (.bipush 9, 2) := by decide +kernel
theorem dL_refuses_84 : decode cL_refuses 84 = .ok (.irem, 1) := by decide +kernel
theorem dL_refuses_85 : decode cL_refuses 85 = .ok (.iadd, 1) := by decide +kernel
theorem dL_refuses_86 : decode cL_refuses 86 = .ok (.iconst 0, 1) := by decide +kernel
theorem dL_refuses_87 : decode cL_refuses 87 = .ok (.iconst 0, 1) := by decide +kernel
theorem dL_refuses_88 : decode cL_refuses 88 = .ok (.invokevirtual 24, 3) := by decide +kernel
theorem dL_refuses_91 : decode cL_refuses 91 = .ok (.iconst (-1), 1) := by decide +kernel
theorem dL_refuses_92 : decode cL_refuses 92 = .ok (.if_icmp .ne 53, 3) := by decide +kernel
theorem dL_refuses_95 : decode cL_refuses 95 = .ok (.aload_n 0, 1) := by decide +kernel
theorem dL_refuses_96 : decode cL_refuses 96 = .ok (.iconst (-1), 1) := by decide +kernel
theorem dL_refuses_97 : decode cL_refuses 97 = .ok (.iconst 0, 1) := by decide +kernel
theorem dL_refuses_98 : decode cL_refuses 98 = .ok (.iconst 0, 1) := by decide +kernel
theorem dL_refuses_99 : decode cL_refuses 99 = .ok (.invokevirtual 24, 3) := by decide +kernel
theorem dL_refuses_102 : decode cL_refuses 102 = .ok (.iconst (-1), 1) := by decide +kernel
theorem dL_refuses_103 : decode cL_refuses 103 = .ok (.if_icmp .ne 42, 3) := by decide +kernel
theorem dL_refuses_106 : decode cL_refuses 106 = .ok (.aload_n 0, 1) := by decide +kernel
theorem dL_refuses_107 : decode cL_refuses 107 = .ok (.iload_n 1, 1) := by decide +kernel
theorem dL_refuses_108 : decode cL_refuses 108 = .ok (.bipush 16, 2) := by decide +kernel
theorem dL_refuses_110 : decode cL_refuses 110 = .ok (.irem, 1) := by decide +kernel
theorem dL_refuses_111 : decode cL_refuses 111 = .ok (.sipush 3650, 3) := by decide +kernel
theorem dL_refuses_114 : decode cL_refuses 114 = .ok (.iconst 0, 1) := by decide +kernel
theorem dL_refuses_115 : decode cL_refuses 115 = .ok (.invokevirtual 24, 3) := by decide +kernel
theorem dL_refuses_118 : decode cL_refuses 118 = .ok (.iconst (-1), 1) := by decide +kernel
theorem dL_refuses_119 : decode cL_refuses 119 = .ok (.if_icmp .ne 26, 3) := by decide +kernel
theorem dL_refuses_122 : decode cL_refuses 122 = .ok (.aload_n 0, 1) := by decide +kernel
theorem dL_refuses_123 : decode cL_refuses 123 = .ok (.iload_n 1, 1) := by decide +kernel
theorem dL_refuses_124 : decode cL_refuses 124 = .ok (.bipush 16, 2) := by decide +kernel
theorem dL_refuses_126 : decode cL_refuses 126 = .ok (.irem, 1) := by decide +kernel
theorem dL_refuses_127 : decode cL_refuses 127 = .ok (.iconst 0, 1) := by decide +kernel
theorem dL_refuses_128 : decode cL_refuses 128 = .ok (.iconst (-1), 1) := by decide +kernel
theorem dL_refuses_129 : decode cL_refuses 129 = .ok (.iload_n 1, 1) := by decide +kernel
theorem dL_refuses_130 : decode cL_refuses 130 = .ok (.bipush 9, 2) := by decide +kernel
theorem dL_refuses_132 : decode cL_refuses 132 = .ok (.irem, 1) := by decide +kernel
theorem dL_refuses_133 : decode cL_refuses 133 = .ok (.isub, 1) := by decide +kernel
theorem dL_refuses_134 : decode cL_refuses 134 = .ok (.invokevirtual 28, 3) := by decide +kernel
theorem dL_refuses_137 : decode cL_refuses 137 = .ok (.iconst (-1), 1) := by decide +kernel
theorem dL_refuses_138 : decode cL_refuses 138 = .ok (.if_icmp .ne 7, 3) := by decide +kernel
theorem dL_refuses_141 : decode cL_refuses 141 = .ok (.iconst 1, 1) := by decide +kernel
theorem dL_refuses_142 : decode cL_refuses 142 = .ok (.goto 4, 3) := by decide +kernel
theorem dL_refuses_145 : decode cL_refuses 145 = .ok (.iconst 0, 1) := by decide +kernel
theorem dL_refuses_146 : decode cL_refuses 146 = .ok (.istore_n 3, 1) := by decide +kernel
theorem dL_refuses_147 : decode cL_refuses 147 = .ok (.iload_n 3, 1) := by decide +kernel
theorem dL_refuses_148 : decode cL_refuses 148 = .ok (.ifCond .eq 125, 3) := by decide +kernel
theorem dL_refuses_151 : decode cL_refuses 151 = .ok (.aload_n 0, 1) := by decide +kernel
theorem dL_refuses_152 : decode cL_refuses 152 = .ok (.iload_n 1, 1) := by decide +kernel
theorem dL_refuses_153 : decode cL_refuses 153 = .ok (.bipush 16, 2) := by decide +kernel
theorem dL_refuses_155 : decode cL_refuses 155 = .ok (.irem, 1) := by decide +kernel
theorem dL_refuses_156 : decode cL_refuses 156 = .ok (.iconst 5, 1) := by decide +kernel
theorem dL_refuses_157 : decode cL_refuses 157 = .ok (.iconst 4, 1) := by decide +kernel
theorem dL_refuses_158 : decode cL_refuses 158 = .ok (.invokevirtual 24, 3) := by decide +kernel
theorem dL_refuses_161 : decode cL_refuses 161 = .ok (.bipush (-2), 2) := by decide +kernel
theorem dL_refuses_163 : decode cL_refuses 163 = .ok (.if_icmp .ne 110, 3) := by decide +kernel
theorem dL_refuses_166 : decode cL_refuses 166 = .ok (.aload_n 0, 1) := by decide +kernel
theorem dL_refuses_167 : decode cL_refuses 167 = .ok (.iload_n 1, 1) := by decide +kernel
theorem dL_refuses_168 : decode cL_refuses 168 = .ok (.bipush 16, 2) := by decide +kernel
theorem dL_refuses_170 : decode cL_refuses 170 = .ok (.irem, 1) := by decide +kernel
theorem dL_refuses_171 : decode cL_refuses 171 = .ok (.sipush 3649, 3) := by decide +kernel
theorem dL_refuses_174 : decode cL_refuses 174 = .ok (.iconst 0, 1) := by decide +kernel
theorem dL_refuses_175 : decode cL_refuses 175 = .ok (.invokevirtual 28, 3) := by decide +kernel
theorem dL_refuses_178 : decode cL_refuses 178 = .ok (.bipush (-2), 2) := by decide +kernel
theorem dL_refuses_180 : decode cL_refuses 180 = .ok (.if_icmp .ne 93, 3) := by decide +kernel
theorem dL_refuses_183 : decode cL_refuses 183 = .ok (.aload_n 0, 1) := by decide +kernel
theorem dL_refuses_184 : decode cL_refuses 184 = .ok (.bipush 16, 2) := by decide +kernel
theorem dL_refuses_186 : decode cL_refuses 186 = .ok (.iconst 0, 1) := by decide +kernel
theorem dL_refuses_187 : decode cL_refuses 187 = .ok (.iconst 0, 1) := by decide +kernel
theorem dL_refuses_188 : decode cL_refuses 188 = .ok (.invokevirtual 31, 3) := by decide +kernel
theorem dL_refuses_191 : decode cL_refuses 191 = .ok (.iconst (-1), 1) := by decide +kernel
theorem dL_refuses_192 : decode cL_refuses 192 = .ok (.if_icmp .ne 81, 3) := by decide +kernel
theorem dL_refuses_195 : decode cL_refuses 195 = .ok (.aload_n 0, 1) := by decide +kernel
theorem dL_refuses_196 : decode cL_refuses 196 = .ok (.iload_n 1, 1) := by decide +kernel
theorem dL_refuses_197 : decode cL_refuses 197 = .ok (.bipush 16, 2) := by decide +kernel
theorem dL_refuses_199 : decode cL_refuses 199 = .ok (.irem, 1) := by decide +kernel
theorem dL_refuses_200 : decode cL_refuses 200 = .ok (.bipush 7, 2) := by decide +kernel
theorem dL_refuses_202 : decode cL_refuses 202 = .ok (.bipush 6, 2) := by decide +kernel
theorem dL_refuses_204 : decode cL_refuses 204 = .ok (.invokevirtual 31, 3) := by decide +kernel
theorem dL_refuses_207 : decode cL_refuses 207 = .ok (.bipush (-2), 2) := by decide +kernel
theorem dL_refuses_209 : decode cL_refuses 209 = .ok (.if_icmp .ne 64, 3) := by decide +kernel
theorem dL_refuses_212 : decode cL_refuses 212 = .ok (.aload_n 0, 1) := by decide +kernel
theorem dL_refuses_213 : decode cL_refuses 213 = .ok (.iload_n 1, 1) := by decide +kernel
theorem dL_refuses_214 : decode cL_refuses 214 = .ok (.bipush 16, 2) := by decide +kernel
theorem dL_refuses_216 : decode cL_refuses 216 = .ok (.irem, 1) := by decide +kernel
theorem dL_refuses_217 : decode cL_refuses 217 = .ok (.sipush 3650, 3) := by decide +kernel
theorem dL_refuses_220 : decode cL_refuses 220 = .ok (.invokevirtual 34, 3) := by decide +kernel
theorem dL_refuses_223 : decode cL_refuses 223 = .ok (.iconst (-1), 1) := by decide +kernel
theorem dL_refuses_224 : decode cL_refuses 224 = .ok (.if_icmp .ne 49, 3) := by decide +kernel
theorem dL_refuses_227 : decode cL_refuses 227 = .ok (.aload_n 0, 1) := by decide +kernel
theorem dL_refuses_228 : decode cL_refuses 228 = .ok (.iload_n 1, 1) := by decide +kernel
theorem dL_refuses_229 : decode cL_refuses 229 = .ok (.bipush 16, 2) := by decide +kernel
theorem dL_refuses_231 : decode cL_refuses 231 = .ok (.irem, 1) := by decide +kernel
theorem dL_refuses_232 : decode cL_refuses 232 = .ok (.bipush 16, 2) := by decide +kernel
theorem dL_refuses_234 : decode cL_refuses 234 = .ok (.iconst 0, 1) := by decide +kernel
theorem dL_refuses_235 : decode cL_refuses 235 = .ok (.iconst 0, 1) := by decide +kernel
theorem dL_refuses_236 : decode cL_refuses 236 = .ok (.invokevirtual 37, 3) := by decide +kernel
theorem dL_refuses_239 : decode cL_refuses 239 = .ok (.iconst (-1), 1) := by decide +kernel
theorem dL_refuses_240 : decode cL_refuses 240 = .ok (.if_icmp .ne 33, 3) := by decide +kernel
theorem dL_refuses_243 : decode cL_refuses 243 = .ok (.aload_n 0, 1) := by decide +kernel
theorem dL_refuses_244 : decode cL_refuses 244 = .ok (.iconst 0, 1) := by decide +kernel
theorem dL_refuses_245 : decode cL_refuses 245 = .ok (.iconst 0, 1) := by decide +kernel
theorem dL_refuses_246 : decode cL_refuses 246 = .ok (.iconst 0, 1) := by decide +kernel
theorem dL_refuses_247 : decode cL_refuses 247 = .ok (.invokevirtual 41, 3) := by decide +kernel
theorem dL_refuses_250 : decode cL_refuses 250 = .ok (.bipush (-2), 2) := by decide +kernel
theorem dL_refuses_252 : decode cL_refuses 252 = .ok (.if_icmp .ne 21, 3) := by decide +kernel
theorem dL_refuses_255 : decode cL_refuses 255 = .ok (.aload_n 0, 1) := by decide +kernel
theorem dL_refuses_256 : decode cL_refuses 256 = .ok (.bipush 17, 2) := by decide +kernel
theorem dL_refuses_258 : decode cL_refuses 258 = .ok (.sipush 3650, 3) := by decide +kernel
theorem dL_refuses_261 : decode cL_refuses 261 = .ok (.iconst 0, 1) := by decide +kernel
theorem dL_refuses_262 : decode cL_refuses 262 = .ok (.invokevirtual 41, 3) := by decide +kernel
theorem dL_refuses_265 : decode cL_refuses 265 = .ok (.iconst (-1), 1) := by decide +kernel
theorem dL_refuses_266 : decode cL_refuses 266 = .ok (.if_icmp .ne 7, 3) := by decide +kernel
theorem dL_refuses_269 : decode cL_refuses 269 = .ok (.iconst 1, 1) := by decide +kernel
theorem dL_refuses_270 : decode cL_refuses 270 = .ok (.goto 4, 3) := by decide +kernel
theorem dL_refuses_273 : decode cL_refuses 273 = .ok (.iconst 0, 1) := by decide +kernel
theorem dL_refuses_274 : decode cL_refuses 274 = .ok (.istore_n 3, 1) := by decide +kernel
theorem dL_refuses_275 : decode cL_refuses 275 = .ok (.iload_n 3, 1) := by decide +kernel
theorem dL_refuses_276 : decode cL_refuses 276 = .ok (.ifCond .eq 128, 3) := by decide +kernel
theorem dL_refuses_279 : decode cL_refuses 279 = .ok (.aload_n 0, 1) := by decide +kernel
theorem dL_refuses_280 : decode cL_refuses 280 = .ok (.iload_n 1, 1) := by decide +kernel
theorem dL_refuses_281 : decode cL_refuses 281 = .ok (.bipush 16, 2) := by decide +kernel
theorem dL_refuses_283 : decode cL_refuses 283 = .ok (.irem, 1) := by decide +kernel
theorem dL_refuses_284 : decode cL_refuses 284 = .ok (.iconst 0, 1) := by decide +kernel
theorem dL_refuses_285 : decode cL_refuses 285 = .ok (.iconst 0, 1) := by decide +kernel
theorem dL_refuses_286 : decode cL_refuses 286 = .ok (.iconst 2, 1) := by decide +kernel
theorem dL_refuses_287 : decode cL_refuses 287 = .ok (.invokevirtual 44, 3) := by decide +kernel
theorem dL_refuses_290 : decode cL_refuses 290 = .ok (.bipush (-2), 2) := by decide +kernel
theorem dL_refuses_292 : decode cL_refuses 292 = .ok (.if_icmp .ne 112, 3) := by decide +kernel
theorem dL_refuses_295 : decode cL_refuses 295 = .ok (.aload_n 0, 1) := by decide +kernel
theorem dL_refuses_296 : decode cL_refuses 296 = .ok (.bipush 16, 2) := by decide +kernel
theorem dL_refuses_298 : decode cL_refuses 298 = .ok (.iconst 0, 1) := by decide +kernel
theorem dL_refuses_299 : decode cL_refuses 299 = .ok (.iconst 0, 1) := by decide +kernel
theorem dL_refuses_300 : decode cL_refuses 300 = .ok (.bipush 9, 2) := by decide +kernel
theorem dL_refuses_302 : decode cL_refuses 302 = .ok (.invokevirtual 44, 3) := by decide +kernel
theorem dL_refuses_305 : decode cL_refuses 305 = .ok (.iconst (-1), 1) := by decide +kernel
theorem dL_refuses_306 : decode cL_refuses 306 = .ok (.if_icmp .ne 98, 3) := by decide +kernel
theorem dL_refuses_309 : decode cL_refuses 309 = .ok (.aload_n 0, 1) := by decide +kernel
theorem dL_refuses_310 : decode cL_refuses 310 = .ok (.iload_n 1, 1) := by decide +kernel
theorem dL_refuses_311 : decode cL_refuses 311 = .ok (.bipush 16, 2) := by decide +kernel
theorem dL_refuses_313 : decode cL_refuses 313 = .ok (.irem, 1) := by decide +kernel
theorem dL_refuses_314 : decode cL_refuses 314 = .ok (.iconst (-1), 1) := by decide +kernel
theorem dL_refuses_315 : decode cL_refuses 315 = .ok (.invokevirtual 47, 3) := by decide +kernel
theorem dL_refuses_318 : decode cL_refuses 318 = .ok (.iconst (-1), 1) := by decide +kernel
theorem dL_refuses_319 : decode cL_refuses 319 = .ok (.if_icmp .ne 85, 3) := by decide +kernel
theorem dL_refuses_322 : decode cL_refuses 322 = .ok (.aload_n 0, 1) := by decide +kernel
theorem dL_refuses_323 : decode cL_refuses 323 = .ok (.bipush 120, 2) := by decide +kernel
theorem dL_refuses_325 : decode cL_refuses 325 = .ok (.iload_n 1, 1) := by decide +kernel
theorem dL_refuses_326 : decode cL_refuses 326 = .ok (.bipush 9, 2) := by decide +kernel
theorem dL_refuses_328 : decode cL_refuses 328 = .ok (.irem, 1) := by decide +kernel
theorem dL_refuses_329 : decode cL_refuses 329 = .ok (.iadd, 1) := by decide +kernel
theorem dL_refuses_330 : decode cL_refuses 330 = .ok (.iconst 0, 1) := by decide +kernel
theorem dL_refuses_331 : decode cL_refuses 331 = .ok (.invokevirtual 50, 3) := by decide +kernel
theorem dL_refuses_334 : decode cL_refuses 334 = .ok (.iconst (-1), 1) := by decide +kernel
theorem dL_refuses_335 : decode cL_refuses 335 = .ok (.if_icmp .ne 69, 3) := by decide +kernel
theorem dL_refuses_338 : decode cL_refuses 338 = .ok (.aload_n 0, 1) := by decide +kernel
theorem dL_refuses_339 : decode cL_refuses 339 = .ok (.iload_n 1, 1) := by decide +kernel
theorem dL_refuses_340 : decode cL_refuses 340 = .ok (.bipush 120, 2) := by decide +kernel
theorem dL_refuses_342 : decode cL_refuses 342 = .ok (.irem, 1) := by decide +kernel
theorem dL_refuses_343 : decode cL_refuses 343 = .ok (.bipush 10, 2) := by decide +kernel
theorem dL_refuses_345 : decode cL_refuses 345 = .ok (.iload_n 1, 1) := by decide +kernel
theorem dL_refuses_346 : decode cL_refuses 346 = .ok (.bipush 9, 2) := by decide +kernel
theorem dL_refuses_348 : decode cL_refuses 348 = .ok (.irem, 1) := by decide +kernel
theorem dL_refuses_349 : decode cL_refuses 349 = .ok (.iadd, 1) := by decide +kernel
theorem dL_refuses_350 : decode cL_refuses 350 = .ok (.invokevirtual 50, 3) := by decide +kernel
theorem dL_refuses_353 : decode cL_refuses 353 = .ok (.bipush (-2), 2) := by decide +kernel
theorem dL_refuses_355 : decode cL_refuses 355 = .ok (.if_icmp .ne 49, 3) := by decide +kernel
theorem dL_refuses_358 : decode cL_refuses 358 = .ok (.aload_n 0, 1) := by decide +kernel
theorem dL_refuses_359 : decode cL_refuses 359 = .ok (.bipush 16, 2) := by decide +kernel
theorem dL_refuses_361 : decode cL_refuses 361 = .ok (.iconst 0, 1) := by decide +kernel
theorem dL_refuses_362 : decode cL_refuses 362 = .ok (.invokevirtual 53, 3) := by decide +kernel
theorem dL_refuses_365 : decode cL_refuses 365 = .ok (.iconst (-1), 1) := by decide +kernel
theorem dL_refuses_366 : decode cL_refuses 366 = .ok (.if_icmp .ne 38, 3) := by decide +kernel
theorem dL_refuses_369 : decode cL_refuses 369 = .ok (.aload_n 0, 1) := by decide +kernel
theorem dL_refuses_370 : decode cL_refuses 370 = .ok (.iconst 0, 1) := by decide +kernel
theorem dL_refuses_371 : decode cL_refuses 371 = .ok (.bipush 120, 2) := by decide +kernel
theorem dL_refuses_373 : decode cL_refuses 373 = .ok (.invokevirtual 53, 3) := by decide +kernel
theorem dL_refuses_376 : decode cL_refuses 376 = .ok (.iconst (-1), 1) := by decide +kernel
theorem dL_refuses_377 : decode cL_refuses 377 = .ok (.if_icmp .ne 27, 3) := by decide +kernel
theorem dL_refuses_380 : decode cL_refuses 380 = .ok (.aload_n 0, 1) := by decide +kernel
theorem dL_refuses_381 : decode cL_refuses 381 = .ok (.iload_n 1, 1) := by decide +kernel
theorem dL_refuses_382 : decode cL_refuses 382 = .ok (.bipush 10, 2) := by decide +kernel
theorem dL_refuses_384 : decode cL_refuses 384 = .ok (.irem, 1) := by decide +kernel
theorem dL_refuses_385 : decode cL_refuses 385 = .ok (.iconst 1, 1) := by decide +kernel
theorem dL_refuses_386 : decode cL_refuses 386 = .ok (.iload_n 1, 1) := by decide +kernel
theorem dL_refuses_387 : decode cL_refuses 387 = .ok (.bipush 12, 2) := by decide +kernel
theorem dL_refuses_389 : decode cL_refuses 389 = .ok (.irem, 1) := by decide +kernel
theorem dL_refuses_390 : decode cL_refuses 390 = .ok (.iadd, 1) := by decide +kernel
theorem dL_refuses_391 : decode cL_refuses 391 = .ok (.bipush 32, 2) := by decide +kernel
theorem dL_refuses_393 : decode cL_refuses 393 = .ok (.invokevirtual 56, 3) := by decide +kernel
theorem dL_refuses_396 : decode cL_refuses 396 = .ok (.iconst (-1), 1) := by decide +kernel
theorem dL_refuses_397 : decode cL_refuses 397 = .ok (.if_icmp .ne 7, 3) := by decide +kernel
theorem dL_refuses_400 : decode cL_refuses 400 = .ok (.iconst 1, 1) := by decide +kernel
theorem dL_refuses_401 : decode cL_refuses 401 = .ok (.goto 4, 3) := by decide +kernel
theorem dL_refuses_404 : decode cL_refuses 404 = .ok (.iconst 0, 1) := by decide +kernel
theorem dL_refuses_405 : decode cL_refuses 405 = .ok (.istore_n 3, 1) := by decide +kernel
theorem dL_refuses_406 : decode cL_refuses 406 = .ok (.iload_n 3, 1) := by decide +kernel
theorem dL_refuses_407 : decode cL_refuses 407 = .ok (.ifCond .eq 132, 3) := by decide +kernel
theorem dL_refuses_410 : decode cL_refuses 410 = .ok (.aload_n 0, 1) := by decide +kernel
theorem dL_refuses_411 : decode cL_refuses 411 = .ok (.iload_n 1, 1) := by decide +kernel
theorem dL_refuses_412 : decode cL_refuses 412 = .ok (.sipush 3650, 3) := by decide +kernel
theorem dL_refuses_415 : decode cL_refuses 415 = .ok (.irem, 1) := by decide +kernel
theorem dL_refuses_416 : decode cL_refuses 416 = .ok (.iconst 4, 1) := by decide +kernel
theorem dL_refuses_417 : decode cL_refuses 417 = .ok (.iload_n 1, 1) := by decide +kernel
theorem dL_refuses_418 : decode cL_refuses 418 = .ok (.bipush 9, 2) := by decide +kernel
theorem dL_refuses_420 : decode cL_refuses 420 = .ok (.irem, 1) := by decide +kernel
theorem dL_refuses_421 : decode cL_refuses 421 = .ok (.iadd, 1) := by decide +kernel
theorem dL_refuses_422 : decode cL_refuses 422 = .ok (.invokevirtual 59, 3) := by decide +kernel
theorem dL_refuses_425 : decode cL_refuses 425 = .ok (.bipush (-2), 2) := by decide +kernel
theorem dL_refuses_427 : decode cL_refuses 427 = .ok (.if_icmp .ne 112, 3) := by decide +kernel
theorem dL_refuses_430 : decode cL_refuses 430 = .ok (.aload_n 0, 1) := by decide +kernel
theorem dL_refuses_431 : decode cL_refuses 431 = .ok (.bipush 13, 2) := by decide +kernel
theorem dL_refuses_433 : decode cL_refuses 433 = .ok (.iload_n 1, 1) := by decide +kernel
theorem dL_refuses_434 : decode cL_refuses 434 = .ok (.bipush 9, 2) := by decide +kernel
theorem dL_refuses_436 : decode cL_refuses 436 = .ok (.irem, 1) := by decide +kernel
theorem dL_refuses_437 : decode cL_refuses 437 = .ok (.iadd, 1) := by decide +kernel
theorem dL_refuses_438 : decode cL_refuses 438 = .ok (.invokevirtual 9, 3) := by decide +kernel
theorem dL_refuses_441 : decode cL_refuses 441 = .ok (.bipush (-2), 2) := by decide +kernel
theorem dL_refuses_443 : decode cL_refuses 443 = .ok (.if_icmp .ne 96, 3) := by decide +kernel
theorem dL_refuses_446 : decode cL_refuses 446 = .ok (.aload_n 0, 1) := by decide +kernel
theorem dL_refuses_447 : decode cL_refuses 447 = .ok (.iload_n 1, 1) := by decide +kernel
theorem dL_refuses_448 : decode cL_refuses 448 = .ok (.bipush 120, 2) := by decide +kernel
theorem dL_refuses_450 : decode cL_refuses 450 = .ok (.irem, 1) := by decide +kernel
theorem dL_refuses_451 : decode cL_refuses 451 = .ok (.iconst 5, 1) := by decide +kernel
theorem dL_refuses_452 : decode cL_refuses 452 = .ok (.invokevirtual 62, 3) := by decide +kernel
theorem dL_refuses_455 : decode cL_refuses 455 = .ok (.bipush (-2), 2) := by decide +kernel
theorem dL_refuses_457 : decode cL_refuses 457 = .ok (.if_icmp .ne 82, 3) := by decide +kernel
theorem dL_refuses_460 : decode cL_refuses 460 = .ok (.aload_n 0, 1) := by decide +kernel
theorem dL_refuses_461 : decode cL_refuses 461 = .ok (.iconst (-1), 1) := by decide +kernel
theorem dL_refuses_462 : decode cL_refuses 462 = .ok (.bipush 9, 2) := by decide +kernel
theorem dL_refuses_464 : decode cL_refuses 464 = .ok (.invokevirtual 62, 3) := by decide +kernel
theorem dL_refuses_467 : decode cL_refuses 467 = .ok (.iconst (-1), 1) := by decide +kernel
theorem dL_refuses_468 : decode cL_refuses 468 = .ok (.if_icmp .ne 71, 3) := by decide +kernel
theorem dL_refuses_471 : decode cL_refuses 471 = .ok (.aload_n 0, 1) := by decide +kernel
theorem dL_refuses_472 : decode cL_refuses 472 = .ok (.sipush 3650, 3) := by decide +kernel
theorem dL_refuses_475 : decode cL_refuses 475 = .ok (.iconst 0, 1) := by decide +kernel
theorem dL_refuses_476 : decode cL_refuses 476 = .ok (.invokevirtual 65, 3) := by decide +kernel
theorem dL_refuses_479 : decode cL_refuses 479 = .ok (.iconst (-1), 1) := by decide +kernel
theorem dL_refuses_480 : decode cL_refuses 480 = .ok (.if_icmp .ne 59, 3) := by decide +kernel
theorem dL_refuses_483 : decode cL_refuses 483 = .ok (.aload_n 0, 1) := by decide +kernel
theorem dL_refuses_484 : decode cL_refuses 484 = .ok (.bipush 9, 2) := by decide +kernel
theorem dL_refuses_486 : decode cL_refuses 486 = .ok (.bipush 8, 2) := by decide +kernel
theorem dL_refuses_488 : decode cL_refuses 488 = .ok (.invokevirtual 65, 3) := by decide +kernel
theorem dL_refuses_491 : decode cL_refuses 491 = .ok (.bipush (-2), 2) := by decide +kernel
theorem dL_refuses_493 : decode cL_refuses 493 = .ok (.if_icmp .ne 46, 3) := by decide +kernel
theorem dL_refuses_496 : decode cL_refuses 496 = .ok (.aload_n 0, 1) := by decide +kernel
theorem dL_refuses_497 : decode cL_refuses 497 = .ok (.bipush 9, 2) := by decide +kernel
theorem dL_refuses_499 : decode cL_refuses 499 = .ok (.bipush 8, 2) := by decide +kernel
theorem dL_refuses_501 : decode cL_refuses 501 = .ok (.invokevirtual 68, 3) := by decide +kernel
theorem dL_refuses_504 : decode cL_refuses 504 = .ok (.bipush (-2), 2) := by decide +kernel
theorem dL_refuses_506 : decode cL_refuses 506 = .ok (.if_icmp .ne 33, 3) := by decide +kernel
theorem dL_refuses_509 : decode cL_refuses 509 = .ok (.aload_n 0, 1) := by decide +kernel
theorem dL_refuses_510 : decode cL_refuses 510 = .ok (.iload_n 1, 1) := by decide +kernel
theorem dL_refuses_511 : decode cL_refuses 511 = .ok (.bipush 33, 2) := by decide +kernel
theorem dL_refuses_513 : decode cL_refuses 513 = .ok (.irem, 1) := by decide +kernel
theorem dL_refuses_514 : decode cL_refuses 514 = .ok (.i2l, 1) := by decide +kernel
theorem dL_refuses_515 : decode cL_refuses 515 = .ok (.invokevirtual 71, 3) := by decide +kernel
theorem dL_refuses_518 : decode cL_refuses 518 = .ok (.bipush (-2), 2) := by decide +kernel
theorem dL_refuses_520 : decode cL_refuses 520 = .ok (.if_icmp .ne 19, 3) := by decide +kernel
theorem dL_refuses_523 : decode cL_refuses 523 = .ok (.aload_n 0, 1) := by decide +kernel
theorem dL_refuses_524 : decode cL_refuses 524 = .ok (.ldc2_w 75, 3) := by decide +kernel
theorem dL_refuses_527 : decode cL_refuses 527 = .ok (.invokevirtual 71, 3) := by decide +kernel
theorem dL_refuses_530 : decode cL_refuses 530 = .ok (.bipush (-2), 2) := by decide +kernel
theorem dL_refuses_532 : decode cL_refuses 532 = .ok (.if_icmp .ne 7, 3) := by decide +kernel
theorem dL_refuses_535 : decode cL_refuses 535 = .ok (.iconst 1, 1) := by decide +kernel
theorem dL_refuses_536 : decode cL_refuses 536 = .ok (.goto 4, 3) := by decide +kernel
theorem dL_refuses_539 : decode cL_refuses 539 = .ok (.iconst 0, 1) := by decide +kernel
theorem dL_refuses_540 : decode cL_refuses 540 = .ok (.istore_n 3, 1) := by decide +kernel
theorem dL_refuses_541 : decode cL_refuses 541 = .ok (.iload_n 3, 1) := by decide +kernel
theorem dL_refuses_542 : decode cL_refuses 542 = .ok (.ifCond .eq 81, 3) := by decide +kernel
theorem dL_refuses_545 : decode cL_refuses 545 = .ok (.aload_n 0, 1) := by decide +kernel
theorem dL_refuses_546 : decode cL_refuses 546 = .ok (.iconst 2, 1) := by decide +kernel
theorem dL_refuses_547 : decode cL_refuses 547 = .ok (.iload_n 1, 1) := by decide +kernel
theorem dL_refuses_548 : decode cL_refuses 548 = .ok (.bipush 9, 2) := by decide +kernel
theorem dL_refuses_550 : decode cL_refuses 550 = .ok (.irem, 1) := by decide +kernel
theorem dL_refuses_551 : decode cL_refuses 551 = .ok (.iadd, 1) := by decide +kernel
theorem dL_refuses_552 : decode cL_refuses 552 = .ok (.invokevirtual 77, 3) := by decide +kernel
theorem dL_refuses_555 : decode cL_refuses 555 = .ok (.bipush (-2), 2) := by decide +kernel
theorem dL_refuses_557 : decode cL_refuses 557 = .ok (.if_icmp .ne 66, 3) := by decide +kernel
theorem dL_refuses_560 : decode cL_refuses 560 = .ok (.aload_n 0, 1) := by decide +kernel
theorem dL_refuses_561 : decode cL_refuses 561 = .ok (.iconst (-1), 1) := by decide +kernel
theorem dL_refuses_562 : decode cL_refuses 562 = .ok (.iload_n 1, 1) := by decide +kernel
theorem dL_refuses_563 : decode cL_refuses 563 = .ok (.bipush 9, 2) := by decide +kernel
theorem dL_refuses_565 : decode cL_refuses 565 = .ok (.irem, 1) := by decide +kernel
theorem dL_refuses_566 : decode cL_refuses 566 = .ok (.isub, 1) := by decide +kernel
theorem dL_refuses_567 : decode cL_refuses 567 = .ok (.invokevirtual 80, 3) := by decide +kernel
theorem dL_refuses_570 : decode cL_refuses 570 = .ok (.bipush (-2), 2) := by decide +kernel
theorem dL_refuses_572 : decode cL_refuses 572 = .ok (.if_icmp .ne 51, 3) := by decide +kernel
theorem dL_refuses_575 : decode cL_refuses 575 = .ok (.iload_n 2, 1) := by decide +kernel
theorem dL_refuses_576 : decode cL_refuses 576 = .ok (.ifCond .eq 19, 3) := by decide +kernel
theorem dL_refuses_579 : decode cL_refuses 579 = .ok (.aload_n 0, 1) := by decide +kernel
theorem dL_refuses_580 : decode cL_refuses 580 = .ok (.iconst 0, 1) := by decide +kernel
theorem dL_refuses_581 : decode cL_refuses 581 = .ok (.iconst 1, 1) := by decide +kernel
theorem dL_refuses_582 : decode cL_refuses 582 = .ok (.iload_n 1, 1) := by decide +kernel
theorem dL_refuses_583 : decode cL_refuses 583 = .ok (.bipush 12, 2) := by decide +kernel
theorem dL_refuses_585 : decode cL_refuses 585 = .ok (.irem, 1) := by decide +kernel
theorem dL_refuses_586 : decode cL_refuses 586 = .ok (.iadd, 1) := by decide +kernel
theorem dL_refuses_587 : decode cL_refuses 587 = .ok (.invokevirtual 15, 3) := by decide +kernel
theorem dL_refuses_590 : decode cL_refuses 590 = .ok (.bipush (-5), 2) := by decide +kernel
theorem dL_refuses_592 : decode cL_refuses 592 = .ok (.if_icmp .ne 31, 3) := by decide +kernel
theorem dL_refuses_595 : decode cL_refuses 595 = .ok (.iload_n 2, 1) := by decide +kernel
theorem dL_refuses_596 : decode cL_refuses 596 = .ok (.sipush 3649, 3) := by decide +kernel
theorem dL_refuses_599 : decode cL_refuses 599 = .ok (.if_icmp .eq 20, 3) := by decide +kernel
theorem dL_refuses_602 : decode cL_refuses 602 = .ok (.aload_n 0, 1) := by decide +kernel
theorem dL_refuses_603 : decode cL_refuses 603 = .ok (.iload_n 1, 1) := by decide +kernel
theorem dL_refuses_604 : decode cL_refuses 604 = .ok (.bipush 16, 2) := by decide +kernel
theorem dL_refuses_606 : decode cL_refuses 606 = .ok (.irem, 1) := by decide +kernel
theorem dL_refuses_607 : decode cL_refuses 607 = .ok (.iconst 0, 1) := by decide +kernel
theorem dL_refuses_608 : decode cL_refuses 608 = .ok (.iload_n 2, 1) := by decide +kernel
theorem dL_refuses_609 : decode cL_refuses 609 = .ok (.iconst 1, 1) := by decide +kernel
theorem dL_refuses_610 : decode cL_refuses 610 = .ok (.iadd, 1) := by decide +kernel
theorem dL_refuses_611 : decode cL_refuses 611 = .ok (.invokevirtual 24, 3) := by decide +kernel
theorem dL_refuses_614 : decode cL_refuses 614 = .ok (.bipush (-5), 2) := by decide +kernel
theorem dL_refuses_616 : decode cL_refuses 616 = .ok (.if_icmp .ne 7, 3) := by decide +kernel
theorem dL_refuses_619 : decode cL_refuses 619 = .ok (.iconst 1, 1) := by decide +kernel
theorem dL_refuses_620 : decode cL_refuses 620 = .ok (.goto 4, 3) := by decide +kernel
theorem dL_refuses_623 : decode cL_refuses 623 = .ok (.iconst 0, 1) := by decide +kernel
theorem dL_refuses_624 : decode cL_refuses 624 = .ok (.istore_n 3, 1) := by decide +kernel
theorem dL_refuses_625 : decode cL_refuses 625 = .ok (.iload_n 3, 1) := by decide +kernel
theorem dL_refuses_626 : decode cL_refuses 626 = .ok (.ifCond .eq 25, 3) := by decide +kernel
theorem dL_refuses_629 : decode cL_refuses 629 = .ok (.aload_n 0, 1) := by decide +kernel
theorem dL_refuses_630 : decode cL_refuses 630 = .ok (.invokevirtual 83, 3) := by decide +kernel
theorem dL_refuses_633 : decode cL_refuses 633 = .ok (.bipush (-6), 2) := by decide +kernel
theorem dL_refuses_635 : decode cL_refuses 635 = .ok (.if_icmp .eq 12, 3) := by decide +kernel
theorem dL_refuses_638 : decode cL_refuses 638 = .ok (.aload_n 0, 1) := by decide +kernel
theorem dL_refuses_639 : decode cL_refuses 639 = .ok (.invokevirtual 87, 3) := by decide +kernel
theorem dL_refuses_642 : decode cL_refuses 642 = .ok (.bipush (-3), 2) := by decide +kernel
theorem dL_refuses_644 : decode cL_refuses 644 = .ok (.if_icmp .ne 7, 3) := by decide +kernel
theorem dL_refuses_647 : decode cL_refuses 647 = .ok (.iconst 1, 1) := by decide +kernel
theorem dL_refuses_648 : decode cL_refuses 648 = .ok (.goto 4, 3) := by decide +kernel
theorem dL_refuses_651 : decode cL_refuses 651 = .ok (.iconst 0, 1) := by decide +kernel
theorem dL_refuses_652 : decode cL_refuses 652 = .ok (.ireturn, 1) := by decide +kernel
theorem dL_alike_0 : decode cL_alike 0 = .ok (.aload_n 0, 1) := by decide +kernel
theorem dL_alike_1 : decode cL_alike 1 = .ok (.invokevirtual 83, 3) := by decide +kernel
theorem dL_alike_4 : decode cL_alike 4 = .ok (.aload_n 1, 1) := by decide +kernel
theorem dL_alike_5 : decode cL_alike 5 = .ok (.invokevirtual 83, 3) := by decide +kernel
theorem dL_alike_8 : decode cL_alike 8 = .ok (.if_icmp .ne 7, 3) := by decide +kernel
theorem dL_alike_11 : decode cL_alike 11 = .ok (.iconst 1, 1) := by decide +kernel
theorem dL_alike_12 : decode cL_alike 12 = .ok (.goto 4, 3) := by decide +kernel
theorem dL_alike_15 : decode cL_alike 15 = .ok (.iconst 0, 1) := by decide +kernel
theorem dL_alike_16 : decode cL_alike 16 = .ok (.istore_n 3, 1) := by decide +kernel
theorem dL_alike_17 : decode cL_alike 17 = .ok (.iconst 0, 1) := by decide +kernel
theorem dL_alike_18 : decode cL_alike 18 = .ok (.istore 4, 2) := by decide +kernel
theorem dL_alike_20 : decode cL_alike 20 = .ok (.iload 4, 2) := by decide +kernel
theorem dL_alike_22 : decode cL_alike 22 = .ok (.bipush 13, 2) := by decide +kernel
theorem dL_alike_24 : decode cL_alike 24 = .ok (.if_icmp .ge 34, 3) := by decide +kernel
theorem dL_alike_27 : decode cL_alike 27 = .ok (.iload_n 3, 1) := by decide +kernel
theorem dL_alike_28 : decode cL_alike 28 = .ok (.ifCond .eq 30, 3) := by decide +kernel
theorem dL_alike_31 : decode cL_alike 31 = .ok (.aload_n 0, 1) := by decide +kernel
theorem dL_alike_32 : decode cL_alike 32 = .ok (.iload 4, 2) := by decide +kernel
theorem dL_alike_34 : decode cL_alike 34 = .ok (.invokevirtual 9, 3) := by decide +kernel
theorem dL_alike_37 : decode cL_alike 37 = .ok (.aload_n 1, 1) := by decide +kernel
theorem dL_alike_38 : decode cL_alike 38 = .ok (.iload 4, 2) := by decide +kernel
theorem dL_alike_40 : decode cL_alike 40 = .ok (.invokevirtual 9, 3) := by decide +kernel
theorem dL_alike_43 : decode cL_alike 43 = .ok (.if_icmp .ne 7, 3) := by decide +kernel
theorem dL_alike_46 : decode cL_alike 46 = .ok (.iconst 1, 1) := by decide +kernel
theorem dL_alike_47 : decode cL_alike 47 = .ok (.goto 4, 3) := by decide +kernel
theorem dL_alike_50 : decode cL_alike 50 = .ok (.iconst 0, 1) := by decide +kernel
theorem dL_alike_51 : decode cL_alike 51 = .ok (.istore_n 3, 1) := by decide +kernel
theorem dL_alike_52 : decode cL_alike 52 = .ok (.iinc 4 1, 3) := by decide +kernel
theorem dL_alike_55 : decode cL_alike 55 = .ok (.goto (-35), 3) := by decide +kernel
theorem dL_alike_58 : decode cL_alike 58 = .ok (.aload_n 0, 1) := by decide +kernel
theorem dL_alike_59 : decode cL_alike 59 = .ok (.iconst 1, 1) := by decide +kernel
theorem dL_alike_60 : decode cL_alike 60 = .ok (.invokevirtual 9, 3) := by decide +kernel
theorem dL_alike_63 : decode cL_alike 63 = .ok (.istore 4, 2) := by decide +kernel
theorem dL_alike_65 : decode cL_alike 65 = .ok (.iconst 0, 1) := by decide +kernel
theorem dL_alike_66 : decode cL_alike 66 = .ok (.istore 5, 2) := by decide +kernel
theorem dL_alike_68 : decode cL_alike 68 = .ok (.iload 5, 2) := by decide +kernel
theorem dL_alike_70 : decode cL_alike 70 = .ok (.iload 4, 2) := by decide +kernel
theorem dL_alike_72 : decode cL_alike 72 = .ok (.if_icmp .gt 109, 3) := by decide +kernel
theorem dL_alike_75 : decode cL_alike 75 = .ok (.iload_n 3, 1) := by decide +kernel
theorem dL_alike_76 : decode cL_alike 76 = .ok (.ifCond .eq 105, 3) := by decide +kernel
theorem dL_alike_79 : decode cL_alike 79 = .ok (.aload_n 0, 1) := by decide +kernel
theorem dL_alike_80 : decode cL_alike 80 = .ok (.iload 5, 2) := by decide +kernel
theorem dL_alike_82 : decode cL_alike 82 = .ok (.iload_n 2, 1) := by decide +kernel
theorem dL_alike_83 : decode cL_alike 83 = .ok (.bipush 10, 2) := by decide +kernel
theorem dL_alike_85 : decode cL_alike 85 = .ok (.irem, 1) := by decide +kernel
theorem dL_alike_86 : decode cL_alike 86 = .ok (.invokevirtual 50, 3) := by decide +kernel
theorem dL_alike_89 : decode cL_alike 89 = .ok (.aload_n 1, 1) := by decide +kernel
theorem dL_alike_90 : decode cL_alike 90 = .ok (.iload 5, 2) := by decide +kernel
theorem dL_alike_92 : decode cL_alike 92 = .ok (.iload_n 2, 1) := by decide +kernel
theorem dL_alike_93 : decode cL_alike 93 = .ok (.bipush 10, 2) := by decide +kernel
theorem dL_alike_95 : decode cL_alike 95 = .ok (.irem, 1) := by decide +kernel
theorem dL_alike_96 : decode cL_alike 96 = .ok (.invokevirtual 50, 3) := by decide +kernel
theorem dL_alike_99 : decode cL_alike 99 = .ok (.if_icmp .ne 74, 3) := by decide +kernel
theorem dL_alike_102 : decode cL_alike 102 = .ok (.aload_n 0, 1) := by decide +kernel
theorem dL_alike_103 : decode cL_alike 103 = .ok (.iload 5, 2) := by decide +kernel
theorem dL_alike_105 : decode cL_alike 105 = .ok (.iconst 5, 1) := by decide +kernel
theorem dL_alike_106 : decode cL_alike 106 = .ok (.invokevirtual 50, 3) := by decide +kernel
theorem dL_alike_109 : decode cL_alike 109 = .ok (.aload_n 1, 1) := by decide +kernel
theorem dL_alike_110 : decode cL_alike 110 = .ok (.iload 5, 2) := by decide +kernel
theorem dL_alike_112 : decode cL_alike 112 = .ok (.iconst 5, 1) := by decide +kernel
theorem dL_alike_113 : decode cL_alike 113 = .ok (.invokevirtual 50, 3) := by decide +kernel
theorem dL_alike_116 : decode cL_alike 116 = .ok (.if_icmp .ne 57, 3) := by decide +kernel
theorem dL_alike_119 : decode cL_alike 119 = .ok (.aload_n 0, 1) := by decide +kernel
theorem dL_alike_120 : decode cL_alike 120 = .ok (.iload_n 2, 1) := by decide +kernel
theorem dL_alike_121 : decode cL_alike 121 = .ok (.bipush 16, 2) := by decide +kernel
theorem dL_alike_123 : decode cL_alike 123 = .ok (.idiv, 1) := by decide +kernel
theorem dL_alike_124 : decode cL_alike 124 = .ok (.bipush 16, 2) := by decide +kernel
theorem dL_alike_126 : decode cL_alike 126 = .ok (.irem, 1) := by decide +kernel
theorem dL_alike_127 : decode cL_alike 127 = .ok (.iload 5, 2) := by decide +kernel
theorem dL_alike_129 : decode cL_alike 129 = .ok (.invokevirtual 53, 3) := by decide +kernel
theorem dL_alike_132 : decode cL_alike 132 = .ok (.aload_n 1, 1) := by decide +kernel
theorem dL_alike_133 : decode cL_alike 133 = .ok (.iload_n 2, 1) := by decide +kernel
theorem dL_alike_134 : decode cL_alike 134 = .ok (.bipush 16, 2) := by decide +kernel
theorem dL_alike_136 : decode cL_alike 136 = .ok (.idiv, 1) := by decide +kernel
theorem dL_alike_137 : decode cL_alike 137 = .ok (.bipush 16, 2) := by decide +kernel
theorem dL_alike_139 : decode cL_alike 139 = .ok (.irem, 1) := by decide +kernel
theorem dL_alike_140 : decode cL_alike 140 = .ok (.iload 5, 2) := by decide +kernel
theorem dL_alike_142 : decode cL_alike 142 = .ok (.invokevirtual 53, 3) := by decide +kernel
theorem dL_alike_145 : decode cL_alike 145 = .ok (.if_icmp .ne 28, 3) := by decide +kernel
theorem dL_alike_148 : decode cL_alike 148 = .ok (.aload_n 0, 1) := by decide +kernel
theorem dL_alike_149 : decode cL_alike 149 = .ok (.iload 5, 2) := by decide +kernel
theorem dL_alike_151 : decode cL_alike 151 = .ok (.iload_n 2, 1) := by decide +kernel
theorem dL_alike_152 : decode cL_alike 152 = .ok (.iconst 5, 1) := by decide +kernel
theorem dL_alike_153 : decode cL_alike 153 = .ok (.irem, 1) := by decide +kernel
theorem dL_alike_154 : decode cL_alike 154 = .ok (.invokevirtual 62, 3) := by decide +kernel
theorem dL_alike_157 : decode cL_alike 157 = .ok (.aload_n 1, 1) := by decide +kernel
theorem dL_alike_158 : decode cL_alike 158 = .ok (.iload 5, 2) := by decide +kernel
theorem dL_alike_160 : decode cL_alike 160 = .ok (.iload_n 2, 1) := by decide +kernel
theorem dL_alike_161 : decode cL_alike 161 = .ok (.iconst 5, 1) := by decide +kernel
theorem dL_alike_162 : decode cL_alike 162 = .ok (.irem, 1) := by decide +kernel
theorem dL_alike_163 : decode cL_alike 163 = .ok (.invokevirtual 62, 3) := by decide +kernel
theorem dL_alike_166 : decode cL_alike 166 = .ok (.if_icmp .ne 7, 3) := by decide +kernel
theorem dL_alike_169 : decode cL_alike 169 = .ok (.iconst 1, 1) := by decide +kernel
theorem dL_alike_170 : decode cL_alike 170 = .ok (.goto 4, 3) := by decide +kernel
theorem dL_alike_173 : decode cL_alike 173 = .ok (.iconst 0, 1) := by decide +kernel
theorem dL_alike_174 : decode cL_alike 174 = .ok (.istore_n 3, 1) := by decide +kernel
theorem dL_alike_175 : decode cL_alike 175 = .ok (.iinc 5 1, 3) := by decide +kernel
theorem dL_alike_178 : decode cL_alike 178 = .ok (.goto (-110), 3) := by decide +kernel
theorem dL_alike_181 : decode cL_alike 181 = .ok (.iload_n 2, 1) := by decide +kernel
theorem dL_alike_182 : decode cL_alike 182 = .ok (.sipush 400, 3) := by decide +kernel
theorem dL_alike_185 : decode cL_alike 185 = .ok (.irem, 1) := by decide +kernel
theorem dL_alike_186 : decode cL_alike 186 = .ok (.istore 5, 2) := by decide +kernel
theorem dL_alike_188 : decode cL_alike 188 = .ok (.iload 5, 2) := by decide +kernel
theorem dL_alike_190 : decode cL_alike 190 = .ok (.iload_n 2, 1) := by decide +kernel
theorem dL_alike_191 : decode cL_alike 191 = .ok (.sipush 512, 3) := by decide +kernel
theorem dL_alike_194 : decode cL_alike 194 = .ok (.idiv, 1) := by decide +kernel
theorem dL_alike_195 : decode cL_alike 195 = .ok (.sipush 200, 3) := by decide +kernel
theorem dL_alike_198 : decode cL_alike 198 = .ok (.irem, 1) := by decide +kernel
theorem dL_alike_199 : decode cL_alike 199 = .ok (.iadd, 1) := by decide +kernel
theorem dL_alike_200 : decode cL_alike 200 = .ok (.istore 6, 2) := by decide +kernel
theorem dL_alike_202 : decode cL_alike 202 = .ok (.iload_n 3, 1) := by decide +kernel
theorem dL_alike_203 : decode cL_alike 203 = .ok (.ifCond .eq 45, 3) := by decide +kernel
theorem dL_alike_206 : decode cL_alike 206 = .ok (.aload_n 0, 1) := by decide +kernel
theorem dL_alike_207 : decode cL_alike 207 = .ok (.iload 5, 2) := by decide +kernel
theorem dL_alike_209 : decode cL_alike 209 = .ok (.iload 6, 2) := by decide +kernel
theorem dL_alike_211 : decode cL_alike 211 = .ok (.invokevirtual 65, 3) := by decide +kernel
theorem dL_alike_214 : decode cL_alike 214 = .ok (.aload_n 1, 1) := by decide +kernel
theorem dL_alike_215 : decode cL_alike 215 = .ok (.iload 5, 2) := by decide +kernel
theorem dL_alike_217 : decode cL_alike 217 = .ok (.iload 6, 2) := by decide +kernel
theorem dL_alike_219 : decode cL_alike 219 = .ok (.invokevirtual 65, 3) := by decide +kernel
theorem dL_alike_222 : decode cL_alike 222 = .ok (.if_icmp .ne 26, 3) := by decide +kernel
theorem dL_alike_225 : decode cL_alike 225 = .ok (.aload_n 0, 1) := by decide +kernel
theorem dL_alike_226 : decode cL_alike 226 = .ok (.iload 5, 2) := by decide +kernel
theorem dL_alike_228 : decode cL_alike 228 = .ok (.iload 6, 2) := by decide +kernel
theorem dL_alike_230 : decode cL_alike 230 = .ok (.invokevirtual 68, 3) := by decide +kernel
theorem dL_alike_233 : decode cL_alike 233 = .ok (.aload_n 1, 1) := by decide +kernel
theorem dL_alike_234 : decode cL_alike 234 = .ok (.iload 5, 2) := by decide +kernel
theorem dL_alike_236 : decode cL_alike 236 = .ok (.iload 6, 2) := by decide +kernel
theorem dL_alike_238 : decode cL_alike 238 = .ok (.invokevirtual 68, 3) := by decide +kernel
theorem dL_alike_241 : decode cL_alike 241 = .ok (.if_icmp .ne 7, 3) := by decide +kernel
theorem dL_alike_244 : decode cL_alike 244 = .ok (.iconst 1, 1) := by decide +kernel
theorem dL_alike_245 : decode cL_alike 245 = .ok (.goto 4, 3) := by decide +kernel
theorem dL_alike_248 : decode cL_alike 248 = .ok (.iconst 0, 1) := by decide +kernel
theorem dL_alike_249 : decode cL_alike 249 = .ok (.ireturn, 1) := by decide +kernel
theorem dL_holds_0 : decode cL_holds 0 = .ok (.aload_n 0, 1) := by decide +kernel
theorem dL_holds_1 : decode cL_holds 1 = .ok (.iconst 1, 1) := by decide +kernel
theorem dL_holds_2 : decode cL_holds 2 = .ok (.invokevirtual 9, 3) := by decide +kernel
theorem dL_holds_5 : decode cL_holds 5 = .ok (.istore_n 2, 1) := by decide +kernel
theorem dL_holds_6 : decode cL_holds 6 = .ok (.aload_n 0, 1) := by decide +kernel
theorem dL_holds_7 : decode cL_holds 7 = .ok (.bipush 9, 2) := by decide +kernel
theorem dL_holds_9 : decode cL_holds 9 = .ok (.invokevirtual 9, 3) := by decide +kernel
theorem dL_holds_12 : decode cL_holds 12 = .ok (.istore_n 3, 1) := by decide +kernel
theorem dL_holds_13 : decode cL_holds 13 = .ok (.iconst 0, 1) := by decide +kernel
theorem dL_holds_14 : decode cL_holds 14 = .ok (.istore 4, 2) := by decide +kernel
theorem dL_holds_16 : decode cL_holds 16 = .ok (.iconst 0, 1) := by decide +kernel
theorem dL_holds_17 : decode cL_holds 17 = .ok (.istore 5, 2) := by decide +kernel
theorem dL_holds_19 : decode cL_holds 19 = .ok (.iconst 0, 1) := by decide +kernel
theorem dL_holds_20 : decode cL_holds 20 = .ok (.istore 6, 2) := by decide +kernel
theorem dL_holds_22 : decode cL_holds 22 = .ok (.iconst 1, 1) := by decide +kernel
theorem dL_holds_23 : decode cL_holds 23 = .ok (.istore 7, 2) := by decide +kernel
theorem dL_holds_25 : decode cL_holds 25 = .ok (.iconst 0, 1) := by decide +kernel
theorem dL_holds_26 : decode cL_holds 26 = .ok (.istore 8, 2) := by decide +kernel
theorem dL_holds_28 : decode cL_holds 28 = .ok (.iload 8, 2) := by decide +kernel
theorem dL_holds_30 : decode cL_holds 30 = .ok (.iload_n 2, 1) := by decide +kernel
theorem dL_holds_31 : decode cL_holds 31 = .ok (.if_icmp .gt 354, 3) := by decide +kernel
theorem dL_holds_34 : decode cL_holds 34 = .ok (.iload 7, 2) := by decide +kernel
theorem dL_holds_36 : decode cL_holds 36 = .ok (.ifCond .eq 349, 3) := by decide +kernel
theorem dL_holds_39 : decode cL_holds 39 = .ok (.aload_n 0, 1) := by decide +kernel
theorem dL_holds_40 : decode cL_holds 40 = .ok (.iload 8, 2) := by decide +kernel
theorem dL_holds_42 : decode cL_holds 42 = .ok (.iconst 4, 1) := by decide +kernel
theorem dL_holds_43 : decode cL_holds 43 = .ok (.invokevirtual 50, 3) := by decide +kernel
theorem dL_holds_46 : decode cL_holds 46 = .ok (.istore 9, 2) := by decide +kernel
theorem dL_holds_48 : decode cL_holds 48 = .ok (.aload_n 0, 1) := by decide +kernel
theorem dL_holds_49 : decode cL_holds 49 = .ok (.iload 8, 2) := by decide +kernel
theorem dL_holds_51 : decode cL_holds 51 = .ok (.iconst 5, 1) := by decide +kernel
theorem dL_holds_52 : decode cL_holds 52 = .ok (.invokevirtual 50, 3) := by decide +kernel
theorem dL_holds_55 : decode cL_holds 55 = .ok (.istore 10, 2) := by decide +kernel
theorem dL_holds_57 : decode cL_holds 57 = .ok (.aload_n 0, 1) := by decide +kernel
theorem dL_holds_58 : decode cL_holds 58 = .ok (.iload 8, 2) := by decide +kernel
theorem dL_holds_60 : decode cL_holds 60 = .ok (.iconst 2, 1) := by decide +kernel
theorem dL_holds_61 : decode cL_holds 61 = .ok (.invokevirtual 50, 3) := by decide +kernel
theorem dL_holds_64 : decode cL_holds 64 = .ok (.iconst 1, 1) := by decide +kernel
theorem dL_holds_65 : decode cL_holds 65 = .ok (.if_icmp .ne 7, 3) := by decide +kernel
theorem dL_holds_68 : decode cL_holds 68 = .ok (.iconst 1, 1) := by decide +kernel
theorem dL_holds_69 : decode cL_holds 69 = .ok (.goto 4, 3) := by decide +kernel
theorem dL_holds_72 : decode cL_holds 72 = .ok (.iconst 0, 1) := by decide +kernel
theorem dL_holds_73 : decode cL_holds 73 = .ok (.istore 11, 2) := by decide +kernel
theorem dL_holds_75 : decode cL_holds 75 = .ok (.aload_n 0, 1) := by decide +kernel
theorem dL_holds_76 : decode cL_holds 76 = .ok (.iload 8, 2) := by decide +kernel
theorem dL_holds_78 : decode cL_holds 78 = .ok (.iconst 3, 1) := by decide +kernel
theorem dL_holds_79 : decode cL_holds 79 = .ok (.invokevirtual 50, 3) := by decide +kernel
theorem dL_holds_82 : decode cL_holds 82 = .ok (.iconst 1, 1) := by decide +kernel
theorem dL_holds_83 : decode cL_holds 83 = .ok (.if_icmp .ne 7, 3) := by decide +kernel
theorem dL_holds_86 : decode cL_holds 86 = .ok (.iconst 1, 1) := by decide +kernel
theorem dL_holds_87 : decode cL_holds 87 = .ok (.goto 4, 3) := by decide +kernel
theorem dL_holds_90 : decode cL_holds 90 = .ok (.iconst 0, 1) := by decide +kernel
theorem dL_holds_91 : decode cL_holds 91 = .ok (.istore 12, 2) := by decide +kernel
theorem dL_holds_93 : decode cL_holds 93 = .ok (.iconst 0, 1) := by decide +kernel
theorem dL_holds_94 : decode cL_holds 94 = .ok (.istore 13, 2) := by decide +kernel
theorem dL_holds_96 : decode cL_holds 96 = .ok (.iconst 0, 1) := by decide +kernel
theorem dL_holds_97 : decode cL_holds 97 = .ok (.istore 14, 2) := by decide +kernel
theorem dL_holds_99 : decode cL_holds 99 = .ok (.iconst 0, 1) := by decide +kernel
theorem dL_holds_100 : decode cL_holds 100 = .ok (.istore 15, 2) := by decide +kernel
theorem dL_holds_102 : decode cL_holds 102 = .ok (.iload 15, 2) := by decide +kernel
theorem dL_holds_104 : decode cL_holds 104 = .ok (.bipush 16, 2) := by decide +kernel
theorem dL_holds_106 : decode cL_holds 106 = .ok (.if_icmp .ge 44, 3) := by decide +kernel
theorem dL_holds_109 : decode cL_holds 109 = .ok (.aload_n 0, 1) := by decide +kernel
theorem dL_holds_110 : decode cL_holds 110 = .ok (.iload 15, 2) := by decide +kernel
theorem dL_holds_112 : decode cL_holds 112 = .ok (.iload 8, 2) := by decide +kernel
theorem dL_holds_114 : decode cL_holds 114 = .ok (.invokevirtual 53, 3) := by decide +kernel
theorem dL_holds_117 : decode cL_holds 117 = .ok (.istore 16, 2) := by decide +kernel
theorem dL_holds_119 : decode cL_holds 119 = .ok (.iload 13, 2) := by decide +kernel
theorem dL_holds_121 : decode cL_holds 121 = .ok (.iload 16, 2) := by decide +kernel
theorem dL_holds_123 : decode cL_holds 123 = .ok (.iadd, 1) := by decide +kernel
theorem dL_holds_124 : decode cL_holds 124 = .ok (.istore 13, 2) := by decide +kernel
theorem dL_holds_126 : decode cL_holds 126 = .ok (.iload 14, 2) := by decide +kernel
theorem dL_holds_128 : decode cL_holds 128 = .ok (.iload 16, 2) := by decide +kernel
theorem dL_holds_130 : decode cL_holds 130 = .ok (.ifCond .le 10, 3) := by decide +kernel
theorem dL_holds_133 : decode cL_holds 133 = .ok (.iconst 1, 1) := by decide +kernel
theorem dL_holds_134 : decode cL_holds 134 = .ok (.iload 15, 2) := by decide +kernel
theorem dL_holds_136 : decode cL_holds 136 = .ok (.ishl, 1) := by decide +kernel
theorem dL_holds_137 : decode cL_holds 137 = .ok (.goto 4, 3) := by decide +kernel
theorem dL_holds_140 : decode cL_holds 140 = .ok (.iconst 0, 1) := by decide +kernel
theorem dL_holds_141 : decode cL_holds 141 = .ok (.ior, 1) := by decide +kernel
theorem dL_holds_142 : decode cL_holds 142 = .ok (.istore 14, 2) := by decide +kernel
theorem dL_holds_144 : decode cL_holds 144 = .ok (.iinc 15 1, 3) := by decide +kernel
theorem dL_holds_147 : decode cL_holds 147 = .ok (.goto (-45), 3) := by decide +kernel
theorem dL_holds_150 : decode cL_holds 150 = .ok (.iload 4, 2) := by decide +kernel
theorem dL_holds_152 : decode cL_holds 152 = .ok (.iload 13, 2) := by decide +kernel
theorem dL_holds_154 : decode cL_holds 154 = .ok (.iadd, 1) := by decide +kernel
theorem dL_holds_155 : decode cL_holds 155 = .ok (.istore 4, 2) := by decide +kernel
theorem dL_holds_157 : decode cL_holds 157 = .ok (.iload 5, 2) := by decide +kernel
theorem dL_holds_159 : decode cL_holds 159 = .ok (.iload 10, 2) := by decide +kernel
theorem dL_holds_161 : decode cL_holds 161 = .ok (.iadd, 1) := by decide +kernel
theorem dL_holds_162 : decode cL_holds 162 = .ok (.istore 5, 2) := by decide +kernel
theorem dL_holds_164 : decode cL_holds 164 = .ok (.iload 6, 2) := by decide +kernel
theorem dL_holds_166 : decode cL_holds 166 = .ok (.iload 12, 2) := by decide +kernel
theorem dL_holds_168 : decode cL_holds 168 = .ok (.ifCond .eq 7, 3) := by decide +kernel
theorem dL_holds_171 : decode cL_holds 171 = .ok (.iconst 1, 1) := by decide +kernel
theorem dL_holds_172 : decode cL_holds 172 = .ok (.goto 4, 3) := by decide +kernel
theorem dL_holds_175 : decode cL_holds 175 = .ok (.iconst 0, 1) := by decide +kernel
theorem dL_holds_176 : decode cL_holds 176 = .ok (.iadd, 1) := by decide +kernel
theorem dL_holds_177 : decode cL_holds 177 = .ok (.istore 6, 2) := by decide +kernel
theorem dL_holds_179 : decode cL_holds 179 = .ok (.iload 11, 2) := by decide +kernel
theorem dL_holds_181 : decode cL_holds 181 = .ok (.iload 8, 2) := by decide +kernel
theorem dL_holds_183 : decode cL_holds 183 = .ok (.iload_n 3, 1) := by decide +kernel
theorem dL_holds_184 : decode cL_holds 184 = .ok (.iadd, 1) := by decide +kernel
theorem dL_holds_185 : decode cL_holds 185 = .ok (.iload_n 2, 1) := by decide +kernel
theorem dL_holds_186 : decode cL_holds 186 = .ok (.if_icmp .gt 7, 3) := by decide +kernel
theorem dL_holds_189 : decode cL_holds 189 = .ok (.iconst 1, 1) := by decide +kernel
theorem dL_holds_190 : decode cL_holds 190 = .ok (.goto 4, 3) := by decide +kernel
theorem dL_holds_193 : decode cL_holds 193 = .ok (.iconst 0, 1) := by decide +kernel
theorem dL_holds_194 : decode cL_holds 194 = .ok (.if_icmp .ne 182, 3) := by decide +kernel
theorem dL_holds_197 : decode cL_holds 197 = .ok (.iload 12, 2) := by decide +kernel
theorem dL_holds_199 : decode cL_holds 199 = .ok (.ifCond .eq 48, 3) := by decide +kernel
theorem dL_holds_202 : decode cL_holds 202 = .ok (.iload 11, 2) := by decide +kernel
theorem dL_holds_204 : decode cL_holds 204 = .ok (.ifCond .eq 172, 3) := by decide +kernel
theorem dL_holds_207 : decode cL_holds 207 = .ok (.iload 9, 2) := by decide +kernel
theorem dL_holds_209 : decode cL_holds 209 = .ok (.iconst 4, 1) := by decide +kernel
theorem dL_holds_210 : decode cL_holds 210 = .ok (.if_icmp .ne 166, 3) := by decide +kernel
theorem dL_holds_213 : decode cL_holds 213 = .ok (.iload 10, 2) := by decide +kernel
theorem dL_holds_215 : decode cL_holds 215 = .ok (.bipush 16, 2) := by decide +kernel
theorem dL_holds_217 : decode cL_holds 217 = .ok (.if_icmp .ne 159, 3) := by decide +kernel
theorem dL_holds_220 : decode cL_holds 220 = .ok (.aload_n 0, 1) := by decide +kernel
theorem dL_holds_221 : decode cL_holds 221 = .ok (.iload 8, 2) := by decide +kernel
theorem dL_holds_223 : decode cL_holds 223 = .ok (.bipush 9, 2) := by decide +kernel
theorem dL_holds_225 : decode cL_holds 225 = .ok (.invokevirtual 50, 3) := by decide +kernel
theorem dL_holds_228 : decode cL_holds 228 = .ok (.ifCond .lt 148, 3) := by decide +kernel
theorem dL_holds_231 : decode cL_holds 231 = .ok (.aload_n 0, 1) := by decide +kernel
theorem dL_holds_232 : decode cL_holds 232 = .ok (.iload 8, 2) := by decide +kernel
theorem dL_holds_234 : decode cL_holds 234 = .ok (.bipush 9, 2) := by decide +kernel
theorem dL_holds_236 : decode cL_holds 236 = .ok (.invokevirtual 50, 3) := by decide +kernel
theorem dL_holds_239 : decode cL_holds 239 = .ok (.aload_n 0, 1) := by decide +kernel
theorem dL_holds_240 : decode cL_holds 240 = .ok (.iconst 3, 1) := by decide +kernel
theorem dL_holds_241 : decode cL_holds 241 = .ok (.invokevirtual 9, 3) := by decide +kernel
theorem dL_holds_244 : decode cL_holds 244 = .ok (.if_icmp .ge 132, 3) := by decide +kernel
theorem dL_holds_247 : decode cL_holds 247 = .ok (.iload 12, 2) := by decide +kernel
theorem dL_holds_249 : decode cL_holds 249 = .ok (.ifCond .ne 16, 3) := by decide +kernel
theorem dL_holds_252 : decode cL_holds 252 = .ok (.aload_n 0, 1) := by decide +kernel
theorem dL_holds_253 : decode cL_holds 253 = .ok (.iload 8, 2) := by decide +kernel
theorem dL_holds_255 : decode cL_holds 255 = .ok (.bipush 9, 2) := by decide +kernel
theorem dL_holds_257 : decode cL_holds 257 = .ok (.invokevirtual 50, 3) := by decide +kernel
theorem dL_holds_260 : decode cL_holds 260 = .ok (.bipush (-6), 2) := by decide +kernel
theorem dL_holds_262 : decode cL_holds 262 = .ok (.if_icmp .ne 114, 3) := by decide +kernel
theorem dL_holds_265 : decode cL_holds 265 = .ok (.iload 13, 2) := by decide +kernel
theorem dL_holds_267 : decode cL_holds 267 = .ok (.aload_n 0, 1) := by decide +kernel
theorem dL_holds_268 : decode cL_holds 268 = .ok (.iload 8, 2) := by decide +kernel
theorem dL_holds_270 : decode cL_holds 270 = .ok (.bipush 7, 2) := by decide +kernel
theorem dL_holds_272 : decode cL_holds 272 = .ok (.invokevirtual 50, 3) := by decide +kernel
theorem dL_holds_275 : decode cL_holds 275 = .ok (.if_icmp .ne 101, 3) := by decide +kernel
theorem dL_holds_278 : decode cL_holds 278 = .ok (.iload 14, 2) := by decide +kernel
theorem dL_holds_280 : decode cL_holds 280 = .ok (.aload_n 0, 1) := by decide +kernel
theorem dL_holds_281 : decode cL_holds 281 = .ok (.iload 8, 2) := by decide +kernel
theorem dL_holds_283 : decode cL_holds 283 = .ok (.bipush 8, 2) := by decide +kernel
theorem dL_holds_285 : decode cL_holds 285 = .ok (.invokevirtual 50, 3) := by decide +kernel
theorem dL_holds_288 : decode cL_holds 288 = .ok (.if_icmp .ne 88, 3) := by decide +kernel
theorem dL_holds_291 : decode cL_holds 291 = .ok (.iload 11, 2) := by decide +kernel
theorem dL_holds_293 : decode cL_holds 293 = .ok (.ifCond .ne 9, 3) := by decide +kernel
theorem dL_holds_296 : decode cL_holds 296 = .ok (.iload 9, 2) := by decide +kernel
theorem dL_holds_298 : decode cL_holds 298 = .ok (.iconst 4, 1) := by decide +kernel
theorem dL_holds_299 : decode cL_holds 299 = .ok (.if_icmp .ne 77, 3) := by decide +kernel
theorem dL_holds_302 : decode cL_holds 302 = .ok (.iload 9, 2) := by decide +kernel
theorem dL_holds_304 : decode cL_holds 304 = .ok (.ifCond .ne 13, 3) := by decide +kernel
theorem dL_holds_307 : decode cL_holds 307 = .ok (.iload 13, 2) := by decide +kernel
theorem dL_holds_309 : decode cL_holds 309 = .ok (.ifCond .ne 67, 3) := by decide +kernel
theorem dL_holds_312 : decode cL_holds 312 = .ok (.iload 10, 2) := by decide +kernel
theorem dL_holds_314 : decode cL_holds 314 = .ok (.ifCond .ne 62, 3) := by decide +kernel
theorem dL_holds_317 : decode cL_holds 317 = .ok (.iload 9, 2) := by decide +kernel
theorem dL_holds_319 : decode cL_holds 319 = .ok (.iconst 1, 1) := by decide +kernel
theorem dL_holds_320 : decode cL_holds 320 = .ok (.if_icmp .ne 33, 3) := by decide +kernel
theorem dL_holds_323 : decode cL_holds 323 = .ok (.iload 10, 2) := by decide +kernel
theorem dL_holds_325 : decode cL_holds 325 = .ok (.iconst 1, 1) := by decide +kernel
theorem dL_holds_326 : decode cL_holds 326 = .ok (.if_icmp .ne 50, 3) := by decide +kernel
theorem dL_holds_329 : decode cL_holds 329 = .ok (.aload_n 0, 1) := by decide +kernel
theorem dL_holds_330 : decode cL_holds 330 = .ok (.iload 8, 2) := by decide +kernel
theorem dL_holds_332 : decode cL_holds 332 = .ok (.bipush 6, 2) := by decide +kernel
theorem dL_holds_334 : decode cL_holds 334 = .ok (.invokevirtual 50, 3) := by decide +kernel
theorem dL_holds_337 : decode cL_holds 337 = .ok (.ifCond .lt 39, 3) := by decide +kernel
theorem dL_holds_340 : decode cL_holds 340 = .ok (.aload_n 0, 1) := by decide +kernel
theorem dL_holds_341 : decode cL_holds 341 = .ok (.iload 8, 2) := by decide +kernel
theorem dL_holds_343 : decode cL_holds 343 = .ok (.bipush 6, 2) := by decide +kernel
theorem dL_holds_345 : decode cL_holds 345 = .ok (.invokevirtual 50, 3) := by decide +kernel
theorem dL_holds_348 : decode cL_holds 348 = .ok (.iload 8, 2) := by decide +kernel
theorem dL_holds_350 : decode cL_holds 350 = .ok (.if_icmp .ge 26, 3) := by decide +kernel
theorem dL_holds_353 : decode cL_holds 353 = .ok (.iload 9, 2) := by decide +kernel
theorem dL_holds_355 : decode cL_holds 355 = .ok (.iconst 1, 1) := by decide +kernel
theorem dL_holds_356 : decode cL_holds 356 = .ok (.if_icmp .eq 16, 3) := by decide +kernel
theorem dL_holds_359 : decode cL_holds 359 = .ok (.aload_n 0, 1) := by decide +kernel
theorem dL_holds_360 : decode cL_holds 360 = .ok (.iload 8, 2) := by decide +kernel
theorem dL_holds_362 : decode cL_holds 362 = .ok (.bipush 6, 2) := by decide +kernel
theorem dL_holds_364 : decode cL_holds 364 = .ok (.invokevirtual 50, 3) := by decide +kernel
theorem dL_holds_367 : decode cL_holds 367 = .ok (.bipush (-6), 2) := by decide +kernel
theorem dL_holds_369 : decode cL_holds 369 = .ok (.if_icmp .ne 7, 3) := by decide +kernel
theorem dL_holds_372 : decode cL_holds 372 = .ok (.iconst 1, 1) := by decide +kernel
theorem dL_holds_373 : decode cL_holds 373 = .ok (.goto 4, 3) := by decide +kernel
theorem dL_holds_376 : decode cL_holds 376 = .ok (.iconst 0, 1) := by decide +kernel
theorem dL_holds_377 : decode cL_holds 377 = .ok (.istore 7, 2) := by decide +kernel
theorem dL_holds_379 : decode cL_holds 379 = .ok (.iinc 8 1, 3) := by decide +kernel
theorem dL_holds_382 : decode cL_holds 382 = .ok (.goto (-354), 3) := by decide +kernel
theorem dL_holds_385 : decode cL_holds 385 = .ok (.iload 7, 2) := by decide +kernel
theorem dL_holds_387 : decode cL_holds 387 = .ok (.ifCond .eq 73, 3) := by decide +kernel
theorem dL_holds_390 : decode cL_holds 390 = .ok (.iload 4, 2) := by decide +kernel
theorem dL_holds_392 : decode cL_holds 392 = .ok (.aload_n 0, 1) := by decide +kernel
theorem dL_holds_393 : decode cL_holds 393 = .ok (.bipush 8, 2) := by decide +kernel
theorem dL_holds_395 : decode cL_holds 395 = .ok (.invokevirtual 9, 3) := by decide +kernel
theorem dL_holds_398 : decode cL_holds 398 = .ok (.if_icmp .ne 62, 3) := by decide +kernel
theorem dL_holds_401 : decode cL_holds 401 = .ok (.iload 5, 2) := by decide +kernel
theorem dL_holds_403 : decode cL_holds 403 = .ok (.aload_n 0, 1) := by decide +kernel
theorem dL_holds_404 : decode cL_holds 404 = .ok (.iconst 4, 1) := by decide +kernel
theorem dL_holds_405 : decode cL_holds 405 = .ok (.invokevirtual 9, 3) := by decide +kernel
theorem dL_holds_408 : decode cL_holds 408 = .ok (.if_icmp .ne 52, 3) := by decide +kernel
theorem dL_holds_411 : decode cL_holds 411 = .ok (.iload 6, 2) := by decide +kernel
theorem dL_holds_413 : decode cL_holds 413 = .ok (.aload_n 0, 1) := by decide +kernel
theorem dL_holds_414 : decode cL_holds 414 = .ok (.iconst 3, 1) := by decide +kernel
theorem dL_holds_415 : decode cL_holds 415 = .ok (.invokevirtual 9, 3) := by decide +kernel
theorem dL_holds_418 : decode cL_holds 418 = .ok (.if_icmp .ne 42, 3) := by decide +kernel
theorem dL_holds_421 : decode cL_holds 421 = .ok (.iload 6, 2) := by decide +kernel
theorem dL_holds_423 : decode cL_holds 423 = .ok (.aload_n 0, 1) := by decide +kernel
theorem dL_holds_424 : decode cL_holds 424 = .ok (.bipush 10, 2) := by decide +kernel
theorem dL_holds_426 : decode cL_holds 426 = .ok (.invokevirtual 9, 3) := by decide +kernel
theorem dL_holds_429 : decode cL_holds 429 = .ok (.if_icmp .gt 31, 3) := by decide +kernel
theorem dL_holds_432 : decode cL_holds 432 = .ok (.aload_n 0, 1) := by decide +kernel
theorem dL_holds_433 : decode cL_holds 433 = .ok (.iconst 2, 1) := by decide +kernel
theorem dL_holds_434 : decode cL_holds 434 = .ok (.invokevirtual 9, 3) := by decide +kernel
theorem dL_holds_437 : decode cL_holds 437 = .ok (.iload_n 2, 1) := by decide +kernel
theorem dL_holds_438 : decode cL_holds 438 = .ok (.iconst 1, 1) := by decide +kernel
theorem dL_holds_439 : decode cL_holds 439 = .ok (.iadd, 1) := by decide +kernel
theorem dL_holds_440 : decode cL_holds 440 = .ok (.iload_n 3, 1) := by decide +kernel
theorem dL_holds_441 : decode cL_holds 441 = .ok (.if_icmp .le 11, 3) := by decide +kernel
theorem dL_holds_444 : decode cL_holds 444 = .ok (.iload_n 2, 1) := by decide +kernel
theorem dL_holds_445 : decode cL_holds 445 = .ok (.iconst 1, 1) := by decide +kernel
theorem dL_holds_446 : decode cL_holds 446 = .ok (.iadd, 1) := by decide +kernel
theorem dL_holds_447 : decode cL_holds 447 = .ok (.iload_n 3, 1) := by decide +kernel
theorem dL_holds_448 : decode cL_holds 448 = .ok (.isub, 1) := by decide +kernel
theorem dL_holds_449 : decode cL_holds 449 = .ok (.goto 4, 3) := by decide +kernel
theorem dL_holds_452 : decode cL_holds 452 = .ok (.iconst 0, 1) := by decide +kernel
theorem dL_holds_453 : decode cL_holds 453 = .ok (.if_icmp .ne 7, 3) := by decide +kernel
theorem dL_holds_456 : decode cL_holds 456 = .ok (.iconst 1, 1) := by decide +kernel
theorem dL_holds_457 : decode cL_holds 457 = .ok (.goto 4, 3) := by decide +kernel
theorem dL_holds_460 : decode cL_holds 460 = .ok (.iconst 0, 1) := by decide +kernel
theorem dL_holds_461 : decode cL_holds 461 = .ok (.istore 7, 2) := by decide +kernel
theorem dL_holds_463 : decode cL_holds 463 = .ok (.iload_n 1, 1) := by decide +kernel
theorem dL_holds_464 : decode cL_holds 464 = .ok (.sipush 300, 3) := by decide +kernel
theorem dL_holds_467 : decode cL_holds 467 = .ok (.irem, 1) := by decide +kernel
theorem dL_holds_468 : decode cL_holds 468 = .ok (.istore 8, 2) := by decide +kernel
theorem dL_holds_470 : decode cL_holds 470 = .ok (.iload 8, 2) := by decide +kernel
theorem dL_holds_472 : decode cL_holds 472 = .ok (.iload_n 1, 1) := by decide +kernel
theorem dL_holds_473 : decode cL_holds 473 = .ok (.sipush 512, 3) := by decide +kernel
theorem dL_holds_476 : decode cL_holds 476 = .ok (.idiv, 1) := by decide +kernel
theorem dL_holds_477 : decode cL_holds 477 = .ok (.bipush 100, 2) := by decide +kernel
theorem dL_holds_479 : decode cL_holds 479 = .ok (.irem, 1) := by decide +kernel
theorem dL_holds_480 : decode cL_holds 480 = .ok (.iadd, 1) := by decide +kernel
theorem dL_holds_481 : decode cL_holds 481 = .ok (.istore 9, 2) := by decide +kernel
theorem dL_holds_483 : decode cL_holds 483 = .ok (.iload_n 1, 1) := by decide +kernel
theorem dL_holds_484 : decode cL_holds 484 = .ok (.bipush 64, 2) := by decide +kernel
theorem dL_holds_486 : decode cL_holds 486 = .ok (.idiv, 1) := by decide +kernel
theorem dL_holds_487 : decode cL_holds 487 = .ok (.bipush 16, 2) := by decide +kernel
theorem dL_holds_489 : decode cL_holds 489 = .ok (.irem, 1) := by decide +kernel
theorem dL_holds_490 : decode cL_holds 490 = .ok (.istore 10, 2) := by decide +kernel
theorem dL_holds_492 : decode cL_holds 492 = .ok (.iload_n 1, 1) := by decide +kernel
theorem dL_holds_493 : decode cL_holds 493 = .ok (.sipush 1024, 3) := by decide +kernel
theorem dL_holds_496 : decode cL_holds 496 = .ok (.idiv, 1) := by decide +kernel
theorem dL_holds_497 : decode cL_holds 497 = .ok (.bipush 16, 2) := by decide +kernel
theorem dL_holds_499 : decode cL_holds 499 = .ok (.irem, 1) := by decide +kernel
theorem dL_holds_500 : decode cL_holds 500 = .ok (.istore 11, 2) := by decide +kernel
theorem dL_holds_502 : decode cL_holds 502 = .ok (.aload_n 0, 1) := by decide +kernel
theorem dL_holds_503 : decode cL_holds 503 = .ok (.iload 8, 2) := by decide +kernel
theorem dL_holds_505 : decode cL_holds 505 = .ok (.iload 9, 2) := by decide +kernel
theorem dL_holds_507 : decode cL_holds 507 = .ok (.invokevirtual 65, 3) := by decide +kernel
theorem dL_holds_510 : decode cL_holds 510 = .ok (.istore 12, 2) := by decide +kernel
theorem dL_holds_512 : decode cL_holds 512 = .ok (.aload_n 0, 1) := by decide +kernel
theorem dL_holds_513 : decode cL_holds 513 = .ok (.iconst 5, 1) := by decide +kernel
theorem dL_holds_514 : decode cL_holds 514 = .ok (.invokevirtual 9, 3) := by decide +kernel
theorem dL_holds_517 : decode cL_holds 517 = .ok (.istore 13, 2) := by decide +kernel
theorem dL_holds_519 : decode cL_holds 519 = .ok (.aload_n 0, 1) := by decide +kernel
theorem dL_holds_520 : decode cL_holds 520 = .ok (.iload 10, 2) := by decide +kernel
theorem dL_holds_522 : decode cL_holds 522 = .ok (.iload 11, 2) := by decide +kernel
theorem dL_holds_524 : decode cL_holds 524 = .ok (.iload 8, 2) := by decide +kernel
theorem dL_holds_526 : decode cL_holds 526 = .ok (.iload 9, 2) := by decide +kernel
theorem dL_holds_528 : decode cL_holds 528 = .ok (.invokevirtual 37, 3) := by decide +kernel
theorem dL_holds_531 : decode cL_holds 531 = .ok (.istore 14, 2) := by decide +kernel
theorem dL_holds_533 : decode cL_holds 533 = .ok (.iload 7, 2) := by decide +kernel
theorem dL_holds_535 : decode cL_holds 535 = .ok (.ifCond .eq 99, 3) := by decide +kernel
theorem dL_holds_538 : decode cL_holds 538 = .ok (.aload_n 0, 1) := by decide +kernel
theorem dL_holds_539 : decode cL_holds 539 = .ok (.iconst 5, 1) := by decide +kernel
theorem dL_holds_540 : decode cL_holds 540 = .ok (.invokevirtual 9, 3) := by decide +kernel
theorem dL_holds_543 : decode cL_holds 543 = .ok (.iload 13, 2) := by decide +kernel
theorem dL_holds_545 : decode cL_holds 545 = .ok (.iload 12, 2) := by decide +kernel
theorem dL_holds_547 : decode cL_holds 547 = .ok (.iadd, 1) := by decide +kernel
theorem dL_holds_548 : decode cL_holds 548 = .ok (.if_icmp .ne 86, 3) := by decide +kernel
theorem dL_holds_551 : decode cL_holds 551 = .ok (.iload 14, 2) := by decide +kernel
theorem dL_holds_553 : decode cL_holds 553 = .ok (.aload_n 0, 1) := by decide +kernel
theorem dL_holds_554 : decode cL_holds 554 = .ok (.iload 11, 2) := by decide +kernel
theorem dL_holds_556 : decode cL_holds 556 = .ok (.iload 10, 2) := by decide +kernel
theorem dL_holds_558 : decode cL_holds 558 = .ok (.iload 8, 2) := by decide +kernel
theorem dL_holds_560 : decode cL_holds 560 = .ok (.iload 9, 2) := by decide +kernel
theorem dL_holds_562 : decode cL_holds 562 = .ok (.invokevirtual 37, 3) := by decide +kernel
theorem dL_holds_565 : decode cL_holds 565 = .ok (.if_icmp .ne 69, 3) := by decide +kernel
theorem dL_holds_568 : decode cL_holds 568 = .ok (.iload 14, 2) := by decide +kernel
theorem dL_holds_570 : decode cL_holds 570 = .ok (.aload_n 0, 1) := by decide +kernel
theorem dL_holds_571 : decode cL_holds 571 = .ok (.iload 10, 2) := by decide +kernel
theorem dL_holds_573 : decode cL_holds 573 = .ok (.iload 8, 2) := by decide +kernel
theorem dL_holds_575 : decode cL_holds 575 = .ok (.iload 9, 2) := by decide +kernel
theorem dL_holds_577 : decode cL_holds 577 = .ok (.invokevirtual 31, 3) := by decide +kernel
theorem dL_holds_580 : decode cL_holds 580 = .ok (.if_icmp .gt 54, 3) := by decide +kernel
theorem dL_holds_583 : decode cL_holds 583 = .ok (.iload 14, 2) := by decide +kernel
theorem dL_holds_585 : decode cL_holds 585 = .ok (.aload_n 0, 1) := by decide +kernel
theorem dL_holds_586 : decode cL_holds 586 = .ok (.iload 10, 2) := by decide +kernel
theorem dL_holds_588 : decode cL_holds 588 = .ok (.iload 11, 2) := by decide +kernel
theorem dL_holds_590 : decode cL_holds 590 = .ok (.if_icmp .ne 7, 3) := by decide +kernel
theorem dL_holds_593 : decode cL_holds 593 = .ok (.iconst 1, 1) := by decide +kernel
theorem dL_holds_594 : decode cL_holds 594 = .ok (.goto 4, 3) := by decide +kernel
theorem dL_holds_597 : decode cL_holds 597 = .ok (.iconst 2, 1) := by decide +kernel
theorem dL_holds_598 : decode cL_holds 598 = .ok (.iload 8, 2) := by decide +kernel
theorem dL_holds_600 : decode cL_holds 600 = .ok (.iload 9, 2) := by decide +kernel
theorem dL_holds_602 : decode cL_holds 602 = .ok (.invokevirtual 41, 3) := by decide +kernel
theorem dL_holds_605 : decode cL_holds 605 = .ok (.if_icmp .gt 29, 3) := by decide +kernel
theorem dL_holds_608 : decode cL_holds 608 = .ok (.aload_n 0, 1) := by decide +kernel
theorem dL_holds_609 : decode cL_holds 609 = .ok (.iconst 1, 1) := by decide +kernel
theorem dL_holds_610 : decode cL_holds 610 = .ok (.iload 8, 2) := by decide +kernel
theorem dL_holds_612 : decode cL_holds 612 = .ok (.iload 9, 2) := by decide +kernel
theorem dL_holds_614 : decode cL_holds 614 = .ok (.invokevirtual 41, 3) := by decide +kernel
theorem dL_holds_617 : decode cL_holds 617 = .ok (.aload_n 0, 1) := by decide +kernel
theorem dL_holds_618 : decode cL_holds 618 = .ok (.iload 11, 2) := by decide +kernel
theorem dL_holds_620 : decode cL_holds 620 = .ok (.iload 8, 2) := by decide +kernel
theorem dL_holds_622 : decode cL_holds 622 = .ok (.iload 9, 2) := by decide +kernel
theorem dL_holds_624 : decode cL_holds 624 = .ok (.invokevirtual 31, 3) := by decide +kernel
theorem dL_holds_627 : decode cL_holds 627 = .ok (.if_icmp .lt 7, 3) := by decide +kernel
theorem dL_holds_630 : decode cL_holds 630 = .ok (.iconst 1, 1) := by decide +kernel
theorem dL_holds_631 : decode cL_holds 631 = .ok (.goto 4, 3) := by decide +kernel
theorem dL_holds_634 : decode cL_holds 634 = .ok (.iconst 0, 1) := by decide +kernel
theorem dL_holds_635 : decode cL_holds 635 = .ok (.istore 7, 2) := by decide +kernel
theorem dL_holds_637 : decode cL_holds 637 = .ok (.aload_n 0, 1) := by decide +kernel
theorem dL_holds_638 : decode cL_holds 638 = .ok (.iload 10, 2) := by decide +kernel
theorem dL_holds_640 : decode cL_holds 640 = .ok (.iload 8, 2) := by decide +kernel
theorem dL_holds_642 : decode cL_holds 642 = .ok (.iload 9, 2) := by decide +kernel
theorem dL_holds_644 : decode cL_holds 644 = .ok (.iconst 0, 1) := by decide +kernel
theorem dL_holds_645 : decode cL_holds 645 = .ok (.invokevirtual 44, 3) := by decide +kernel
theorem dL_holds_648 : decode cL_holds 648 = .ok (.istore 15, 2) := by decide +kernel
theorem dL_holds_650 : decode cL_holds 650 = .ok (.aload_n 0, 1) := by decide +kernel
theorem dL_holds_651 : decode cL_holds 651 = .ok (.iload 10, 2) := by decide +kernel
theorem dL_holds_653 : decode cL_holds 653 = .ok (.iload 8, 2) := by decide +kernel
theorem dL_holds_655 : decode cL_holds 655 = .ok (.iload 9, 2) := by decide +kernel
theorem dL_holds_657 : decode cL_holds 657 = .ok (.iconst 1, 1) := by decide +kernel
theorem dL_holds_658 : decode cL_holds 658 = .ok (.invokevirtual 44, 3) := by decide +kernel
theorem dL_holds_661 : decode cL_holds 661 = .ok (.istore 16, 2) := by decide +kernel
theorem dL_holds_663 : decode cL_holds 663 = .ok (.iload 7, 2) := by decide +kernel
theorem dL_holds_665 : decode cL_holds 665 = .ok (.ifCond .eq 88, 3) := by decide +kernel
theorem dL_holds_668 : decode cL_holds 668 = .ok (.iload 15, 2) := by decide +kernel
theorem dL_holds_670 : decode cL_holds 670 = .ok (.ifCond .ne 7, 3) := by decide +kernel
theorem dL_holds_673 : decode cL_holds 673 = .ok (.iconst 1, 1) := by decide +kernel
theorem dL_holds_674 : decode cL_holds 674 = .ok (.goto 4, 3) := by decide +kernel
theorem dL_holds_677 : decode cL_holds 677 = .ok (.iconst 0, 1) := by decide +kernel
theorem dL_holds_678 : decode cL_holds 678 = .ok (.iload 16, 2) := by decide +kernel
theorem dL_holds_680 : decode cL_holds 680 = .ok (.bipush (-6), 2) := by decide +kernel
theorem dL_holds_682 : decode cL_holds 682 = .ok (.if_icmp .ne 7, 3) := by decide +kernel
theorem dL_holds_685 : decode cL_holds 685 = .ok (.iconst 1, 1) := by decide +kernel
theorem dL_holds_686 : decode cL_holds 686 = .ok (.goto 4, 3) := by decide +kernel
theorem dL_holds_689 : decode cL_holds 689 = .ok (.iconst 0, 1) := by decide +kernel
theorem dL_holds_690 : decode cL_holds 690 = .ok (.if_icmp .ne 63, 3) := by decide +kernel
theorem dL_holds_693 : decode cL_holds 693 = .ok (.iload 15, 2) := by decide +kernel
theorem dL_holds_695 : decode cL_holds 695 = .ok (.ifCond .ne 7, 3) := by decide +kernel
theorem dL_holds_698 : decode cL_holds 698 = .ok (.iconst 1, 1) := by decide +kernel
theorem dL_holds_699 : decode cL_holds 699 = .ok (.goto 4, 3) := by decide +kernel
theorem dL_holds_702 : decode cL_holds 702 = .ok (.iconst 0, 1) := by decide +kernel
theorem dL_holds_703 : decode cL_holds 703 = .ok (.aload_n 0, 1) := by decide +kernel
theorem dL_holds_704 : decode cL_holds 704 = .ok (.iload 10, 2) := by decide +kernel
theorem dL_holds_706 : decode cL_holds 706 = .ok (.iload 8, 2) := by decide +kernel
theorem dL_holds_708 : decode cL_holds 708 = .ok (.iload 9, 2) := by decide +kernel
theorem dL_holds_710 : decode cL_holds 710 = .ok (.invokevirtual 31, 3) := by decide +kernel
theorem dL_holds_713 : decode cL_holds 713 = .ok (.ifCond .ne 7, 3) := by decide +kernel
theorem dL_holds_716 : decode cL_holds 716 = .ok (.iconst 1, 1) := by decide +kernel
theorem dL_holds_717 : decode cL_holds 717 = .ok (.goto 4, 3) := by decide +kernel
theorem dL_holds_720 : decode cL_holds 720 = .ok (.iconst 0, 1) := by decide +kernel
theorem dL_holds_721 : decode cL_holds 721 = .ok (.if_icmp .ne 32, 3) := by decide +kernel
theorem dL_holds_724 : decode cL_holds 724 = .ok (.iload 15, 2) := by decide +kernel
theorem dL_holds_726 : decode cL_holds 726 = .ok (.ifCond .eq 23, 3) := by decide +kernel
theorem dL_holds_729 : decode cL_holds 729 = .ok (.aload_n 0, 1) := by decide +kernel
theorem dL_holds_730 : decode cL_holds 730 = .ok (.iload 10, 2) := by decide +kernel
theorem dL_holds_732 : decode cL_holds 732 = .ok (.iload 16, 2) := by decide +kernel
theorem dL_holds_734 : decode cL_holds 734 = .ok (.iload 16, 2) := by decide +kernel
theorem dL_holds_736 : decode cL_holds 736 = .ok (.iload 15, 2) := by decide +kernel
theorem dL_holds_738 : decode cL_holds 738 = .ok (.iadd, 1) := by decide +kernel
theorem dL_holds_739 : decode cL_holds 739 = .ok (.iconst 1, 1) := by decide +kernel
theorem dL_holds_740 : decode cL_holds 740 = .ok (.isub, 1) := by decide +kernel
theorem dL_holds_741 : decode cL_holds 741 = .ok (.invokevirtual 31, 3) := by decide +kernel
theorem dL_holds_744 : decode cL_holds 744 = .ok (.iload 15, 2) := by decide +kernel
theorem dL_holds_746 : decode cL_holds 746 = .ok (.if_icmp .ne 7, 3) := by decide +kernel
theorem dL_holds_749 : decode cL_holds 749 = .ok (.iconst 1, 1) := by decide +kernel
theorem dL_holds_750 : decode cL_holds 750 = .ok (.goto 4, 3) := by decide +kernel
theorem dL_holds_753 : decode cL_holds 753 = .ok (.iconst 0, 1) := by decide +kernel
theorem dL_holds_754 : decode cL_holds 754 = .ok (.istore 7, 2) := by decide +kernel
theorem dL_holds_756 : decode cL_holds 756 = .ok (.aload_n 0, 1) := by decide +kernel
theorem dL_holds_757 : decode cL_holds 757 = .ok (.iload 10, 2) := by decide +kernel
theorem dL_holds_759 : decode cL_holds 759 = .ok (.iload 8, 2) := by decide +kernel
theorem dL_holds_761 : decode cL_holds 761 = .ok (.invokevirtual 47, 3) := by decide +kernel
theorem dL_holds_764 : decode cL_holds 764 = .ok (.istore 17, 2) := by decide +kernel
theorem dL_holds_766 : decode cL_holds 766 = .ok (.iload 7, 2) := by decide +kernel
theorem dL_holds_768 : decode cL_holds 768 = .ok (.ifCond .eq 120, 3) := by decide +kernel
theorem dL_holds_771 : decode cL_holds 771 = .ok (.iload 17, 2) := by decide +kernel
theorem dL_holds_773 : decode cL_holds 773 = .ok (.bipush (-6), 2) := by decide +kernel
theorem dL_holds_775 : decode cL_holds 775 = .ok (.if_icmp .ne 20, 3) := by decide +kernel
theorem dL_holds_778 : decode cL_holds 778 = .ok (.aload_n 0, 1) := by decide +kernel
theorem dL_holds_779 : decode cL_holds 779 = .ok (.iload 10, 2) := by decide +kernel
theorem dL_holds_781 : decode cL_holds 781 = .ok (.iload 8, 2) := by decide +kernel
theorem dL_holds_783 : decode cL_holds 783 = .ok (.sipush 3649, 3) := by decide +kernel
theorem dL_holds_786 : decode cL_holds 786 = .ok (.invokevirtual 31, 3) := by decide +kernel
theorem dL_holds_789 : decode cL_holds 789 = .ok (.ifCond .ne 99, 3) := by decide +kernel
theorem dL_holds_792 : decode cL_holds 792 = .ok (.goto 44, 3) := by decide +kernel
theorem dL_holds_795 : decode cL_holds 795 = .ok (.iload 17, 2) := by decide +kernel
theorem dL_holds_797 : decode cL_holds 797 = .ok (.iload 8, 2) := by decide +kernel
theorem dL_holds_799 : decode cL_holds 799 = .ok (.if_icmp .lt 89, 3) := by decide +kernel
theorem dL_holds_802 : decode cL_holds 802 = .ok (.aload_n 0, 1) := by decide +kernel
theorem dL_holds_803 : decode cL_holds 803 = .ok (.iload 10, 2) := by decide +kernel
theorem dL_holds_805 : decode cL_holds 805 = .ok (.iload 17, 2) := by decide +kernel
theorem dL_holds_807 : decode cL_holds 807 = .ok (.invokevirtual 34, 3) := by decide +kernel
theorem dL_holds_810 : decode cL_holds 810 = .ok (.iconst 1, 1) := by decide +kernel
theorem dL_holds_811 : decode cL_holds 811 = .ok (.if_icmp .ne 77, 3) := by decide +kernel
theorem dL_holds_814 : decode cL_holds 814 = .ok (.iload 17, 2) := by decide +kernel
theorem dL_holds_816 : decode cL_holds 816 = .ok (.iload 8, 2) := by decide +kernel
theorem dL_holds_818 : decode cL_holds 818 = .ok (.if_icmp .eq 18, 3) := by decide +kernel
theorem dL_holds_821 : decode cL_holds 821 = .ok (.aload_n 0, 1) := by decide +kernel
theorem dL_holds_822 : decode cL_holds 822 = .ok (.iload 10, 2) := by decide +kernel
theorem dL_holds_824 : decode cL_holds 824 = .ok (.iload 8, 2) := by decide +kernel
theorem dL_holds_826 : decode cL_holds 826 = .ok (.iload 17, 2) := by decide +kernel
theorem dL_holds_828 : decode cL_holds 828 = .ok (.iconst 1, 1) := by decide +kernel
theorem dL_holds_829 : decode cL_holds 829 = .ok (.isub, 1) := by decide +kernel
theorem dL_holds_830 : decode cL_holds 830 = .ok (.invokevirtual 31, 3) := by decide +kernel
theorem dL_holds_833 : decode cL_holds 833 = .ok (.ifCond .ne 55, 3) := by decide +kernel
theorem dL_holds_836 : decode cL_holds 836 = .ok (.aload_n 0, 1) := by decide +kernel
theorem dL_holds_837 : decode cL_holds 837 = .ok (.iload 10, 2) := by decide +kernel
theorem dL_holds_839 : decode cL_holds 839 = .ok (.iconst 0, 1) := by decide +kernel
theorem dL_holds_840 : decode cL_holds 840 = .ok (.iload 8, 2) := by decide +kernel
theorem dL_holds_842 : decode cL_holds 842 = .ok (.invokevirtual 31, 3) := by decide +kernel
theorem dL_holds_845 : decode cL_holds 845 = .ok (.iload 8, 2) := by decide +kernel
theorem dL_holds_847 : decode cL_holds 847 = .ok (.sipush 3649, 3) := by decide +kernel
theorem dL_holds_850 : decode cL_holds 850 = .ok (.if_icmp .ne 7, 3) := by decide +kernel
theorem dL_holds_853 : decode cL_holds 853 = .ok (.iconst 0, 1) := by decide +kernel
theorem dL_holds_854 : decode cL_holds 854 = .ok (.goto 16, 3) := by decide +kernel
theorem dL_holds_857 : decode cL_holds 857 = .ok (.aload_n 0, 1) := by decide +kernel
theorem dL_holds_858 : decode cL_holds 858 = .ok (.iload 10, 2) := by decide +kernel
theorem dL_holds_860 : decode cL_holds 860 = .ok (.iload 8, 2) := by decide +kernel
theorem dL_holds_862 : decode cL_holds 862 = .ok (.iconst 1, 1) := by decide +kernel
theorem dL_holds_863 : decode cL_holds 863 = .ok (.iadd, 1) := by decide +kernel
theorem dL_holds_864 : decode cL_holds 864 = .ok (.sipush 3649, 3) := by decide +kernel
theorem dL_holds_867 : decode cL_holds 867 = .ok (.invokevirtual 31, 3) := by decide +kernel
theorem dL_holds_870 : decode cL_holds 870 = .ok (.iadd, 1) := by decide +kernel
theorem dL_holds_871 : decode cL_holds 871 = .ok (.aload_n 0, 1) := by decide +kernel
theorem dL_holds_872 : decode cL_holds 872 = .ok (.iload 10, 2) := by decide +kernel
theorem dL_holds_874 : decode cL_holds 874 = .ok (.iconst 0, 1) := by decide +kernel
theorem dL_holds_875 : decode cL_holds 875 = .ok (.sipush 3649, 3) := by decide +kernel
theorem dL_holds_878 : decode cL_holds 878 = .ok (.invokevirtual 31, 3) := by decide +kernel
theorem dL_holds_881 : decode cL_holds 881 = .ok (.if_icmp .ne 7, 3) := by decide +kernel
theorem dL_holds_884 : decode cL_holds 884 = .ok (.iconst 1, 1) := by decide +kernel
theorem dL_holds_885 : decode cL_holds 885 = .ok (.goto 4, 3) := by decide +kernel
theorem dL_holds_888 : decode cL_holds 888 = .ok (.iconst 0, 1) := by decide +kernel
theorem dL_holds_889 : decode cL_holds 889 = .ok (.ireturn, 1) := by decide +kernel
theorem dL_act_0 : decode cL_act 0 = .ok (.aload_n 0, 1) := by decide +kernel
theorem dL_act_1 : decode cL_act 1 = .ok (.iconst 0, 1) := by decide +kernel
theorem dL_act_2 : decode cL_act 2 = .ok (.invokevirtual 9, 3) := by decide +kernel
theorem dL_act_5 : decode cL_act 5 = .ok (.istore_n 3, 1) := by decide +kernel
theorem dL_act_6 : decode cL_act 6 = .ok (.iload_n 3, 1) := by decide +kernel
theorem dL_act_7 : decode cL_act 7 = .ok (.bipush 40, 2) := by decide +kernel
theorem dL_act_9 : decode cL_act 9 = .ok (.if_icmp .le 21, 3) := by decide +kernel
theorem dL_act_12 : decode cL_act 12 = .ok (.iload_n 1, 1) := by decide +kernel
theorem dL_act_13 : decode cL_act 13 = .ok (.bipush 16, 2) := by decide +kernel
theorem dL_act_15 : decode cL_act 15 = .ok (.idiv, 1) := by decide +kernel
theorem dL_act_16 : decode cL_act 16 = .ok (.iconst 2, 1) := by decide +kernel
theorem dL_act_17 : decode cL_act 17 = .ok (.irem, 1) := by decide +kernel
theorem dL_act_18 : decode cL_act 18 = .ok (.ifCond .ne 12, 3) := by decide +kernel
theorem dL_act_21 : decode cL_act 21 = .ok (.iload_n 3, 1) := by decide +kernel
theorem dL_act_22 : decode cL_act 22 = .ok (.iload_n 2, 1) := by decide +kernel
theorem dL_act_23 : decode cL_act 23 = .ok (.bipush 40, 2) := by decide +kernel
theorem dL_act_25 : decode cL_act 25 = .ok (.irem, 1) := by decide +kernel
theorem dL_act_26 : decode cL_act 26 = .ok (.isub, 1) := by decide +kernel
theorem dL_act_27 : decode cL_act 27 = .ok (.goto 8, 3) := by decide +kernel
theorem dL_act_30 : decode cL_act 30 = .ok (.iload_n 2, 1) := by decide +kernel
theorem dL_act_31 : decode cL_act 31 = .ok (.iload_n 3, 1) := by decide +kernel
theorem dL_act_32 : decode cL_act 32 = .ok (.iconst 1, 1) := by decide +kernel
theorem dL_act_33 : decode cL_act 33 = .ok (.iadd, 1) := by decide +kernel
theorem dL_act_34 : decode cL_act 34 = .ok (.irem, 1) := by decide +kernel
theorem dL_act_35 : decode cL_act 35 = .ok (.istore 4, 2) := by decide +kernel
theorem dL_act_37 : decode cL_act 37 = .ok (.iload 4, 2) := by decide +kernel
theorem dL_act_39 : decode cL_act 39 = .ok (.iload_n 2, 1) := by decide +kernel
theorem dL_act_40 : decode cL_act 40 = .ok (.sipush 4096, 3) := by decide +kernel
theorem dL_act_43 : decode cL_act 43 = .ok (.idiv, 1) := by decide +kernel
theorem dL_act_44 : decode cL_act 44 = .ok (.bipush 9, 2) := by decide +kernel
theorem dL_act_46 : decode cL_act 46 = .ok (.irem, 1) := by decide +kernel
theorem dL_act_47 : decode cL_act 47 = .ok (.iadd, 1) := by decide +kernel
theorem dL_act_48 : decode cL_act 48 = .ok (.istore 5, 2) := by decide +kernel
theorem dL_act_50 : decode cL_act 50 = .ok (.iload_n 1, 1) := by decide +kernel
theorem dL_act_51 : decode cL_act 51 = .ok (.bipush 16, 2) := by decide +kernel
theorem dL_act_53 : decode cL_act 53 = .ok (.irem, 1) := by decide +kernel
theorem dL_act_54 : decode cL_act 54 = .ok (.tableswitch 225 0 10 #[58, 58, 58, 80, 90, 95, 103, 111, 111, 136, 183], 58) := by decide +kernel
theorem dL_act_112 : decode cL_act 112 = .ok (.iload_n 3, 1) := by decide +kernel
theorem dL_act_113 : decode cL_act 113 = .ok (.sipush 800, 3) := by decide +kernel
theorem dL_act_116 : decode cL_act 116 = .ok (.if_icmp .le 7, 3) := by decide +kernel
theorem dL_act_119 : decode cL_act 119 = .ok (.iconst 0, 1) := by decide +kernel
theorem dL_act_120 : decode cL_act 120 = .ok (.goto 13, 3) := by decide +kernel
theorem dL_act_123 : decode cL_act 123 = .ok (.aload_n 0, 1) := by decide +kernel
theorem dL_act_124 : decode cL_act 124 = .ok (.iconst 1, 1) := by decide +kernel
theorem dL_act_125 : decode cL_act 125 = .ok (.iload_n 2, 1) := by decide +kernel
theorem dL_act_126 : decode cL_act 126 = .ok (.bipush 45, 2) := by decide +kernel
theorem dL_act_128 : decode cL_act 128 = .ok (.irem, 1) := by decide +kernel
theorem dL_act_129 : decode cL_act 129 = .ok (.iadd, 1) := by decide +kernel
theorem dL_act_130 : decode cL_act 130 = .ok (.invokevirtual 21, 3) := by decide +kernel
theorem dL_act_133 : decode cL_act 133 = .ok (.ireturn, 1) := by decide +kernel
theorem dL_act_134 : decode cL_act 134 = .ok (.aload_n 0, 1) := by decide +kernel
theorem dL_act_135 : decode cL_act 135 = .ok (.iconst 1, 1) := by decide +kernel
theorem dL_act_136 : decode cL_act 136 = .ok (.iload_n 2, 1) := by decide +kernel
theorem dL_act_137 : decode cL_act 137 = .ok (.bipush 7, 2) := by decide +kernel
theorem dL_act_139 : decode cL_act 139 = .ok (.irem, 1) := by decide +kernel
theorem dL_act_140 : decode cL_act 140 = .ok (.invokevirtual 15, 3) := by decide +kernel
theorem dL_act_143 : decode cL_act 143 = .ok (.ireturn, 1) := by decide +kernel
theorem dL_act_144 : decode cL_act 144 = .ok (.aload_n 0, 1) := by decide +kernel
theorem dL_act_145 : decode cL_act 145 = .ok (.invokevirtual 90, 3) := by decide +kernel
theorem dL_act_148 : decode cL_act 148 = .ok (.ireturn, 1) := by decide +kernel
theorem dL_act_149 : decode cL_act 149 = .ok (.aload_n 0, 1) := by decide +kernel
theorem dL_act_150 : decode cL_act 150 = .ok (.iload_n 2, 1) := by decide +kernel
theorem dL_act_151 : decode cL_act 151 = .ok (.iconst 2, 1) := by decide +kernel
theorem dL_act_152 : decode cL_act 152 = .ok (.irem, 1) := by decide +kernel
theorem dL_act_153 : decode cL_act 153 = .ok (.invokevirtual 77, 3) := by decide +kernel
theorem dL_act_156 : decode cL_act 156 = .ok (.ireturn, 1) := by decide +kernel
theorem dL_act_157 : decode cL_act 157 = .ok (.aload_n 0, 1) := by decide +kernel
theorem dL_act_158 : decode cL_act 158 = .ok (.iload_n 2, 1) := by decide +kernel
theorem dL_act_159 : decode cL_act 159 = .ok (.iconst 2, 1) := by decide +kernel
theorem dL_act_160 : decode cL_act 160 = .ok (.irem, 1) := by decide +kernel
theorem dL_act_161 : decode cL_act 161 = .ok (.invokevirtual 80, 3) := by decide +kernel
theorem dL_act_164 : decode cL_act 164 = .ok (.ireturn, 1) := by decide +kernel
theorem dL_act_165 : decode cL_act 165 = .ok (.aload_n 0, 1) := by decide +kernel
theorem dL_act_166 : decode cL_act 166 = .ok (.iload_n 2, 1) := by decide +kernel
theorem dL_act_167 : decode cL_act 167 = .ok (.bipush 64, 2) := by decide +kernel
theorem dL_act_169 : decode cL_act 169 = .ok (.idiv, 1) := by decide +kernel
theorem dL_act_170 : decode cL_act 170 = .ok (.iconst 4, 1) := by decide +kernel
theorem dL_act_171 : decode cL_act 171 = .ok (.irem, 1) := by decide +kernel
theorem dL_act_172 : decode cL_act 172 = .ok (.iload 4, 2) := by decide +kernel
theorem dL_act_174 : decode cL_act 174 = .ok (.iload 5, 2) := by decide +kernel
theorem dL_act_176 : decode cL_act 176 = .ok (.iload_n 3, 1) := by decide +kernel
theorem dL_act_177 : decode cL_act 177 = .ok (.if_icmp .le 7, 3) := by decide +kernel
theorem dL_act_180 : decode cL_act 180 = .ok (.iload_n 3, 1) := by decide +kernel
theorem dL_act_181 : decode cL_act 181 = .ok (.goto 5, 3) := by decide +kernel
theorem dL_act_184 : decode cL_act 184 = .ok (.iload 5, 2) := by decide +kernel
theorem dL_act_186 : decode cL_act 186 = .ok (.invokevirtual 28, 3) := by decide +kernel
theorem dL_act_189 : decode cL_act 189 = .ok (.ireturn, 1) := by decide +kernel
theorem dL_act_190 : decode cL_act 190 = .ok (.aload_n 0, 1) := by decide +kernel
theorem dL_act_191 : decode cL_act 191 = .ok (.bipush 11, 2) := by decide +kernel
theorem dL_act_193 : decode cL_act 193 = .ok (.invokevirtual 9, 3) := by decide +kernel
theorem dL_act_196 : decode cL_act 196 = .ok (.bipush 70, 2) := by decide +kernel
theorem dL_act_198 : decode cL_act 198 = .ok (.if_icmp .le 10, 3) := by decide +kernel
theorem dL_act_201 : decode cL_act 201 = .ok (.aload_n 0, 1) := by decide +kernel
theorem dL_act_202 : decode cL_act 202 = .ok (.invokevirtual 93, 3) := by decide +kernel
theorem dL_act_205 : decode cL_act 205 = .ok (.goto 31, 3) := by decide +kernel
theorem dL_act_208 : decode cL_act 208 = .ok (.aload_n 0, 1) := by decide +kernel
theorem dL_act_209 : decode cL_act 209 = .ok (.ldc2_w 96, 3) := by decide +kernel
theorem dL_act_212 : decode cL_act 212 = .ok (.invokevirtual 71, 3) := by decide +kernel
theorem dL_act_215 : decode cL_act 215 = .ok (.aload_n 0, 1) := by decide +kernel
theorem dL_act_216 : decode cL_act 216 = .ok (.bipush 49, 2) := by decide +kernel
theorem dL_act_218 : decode cL_act 218 = .ok (.iload_n 2, 1) := by decide +kernel
theorem dL_act_219 : decode cL_act 219 = .ok (.bipush 9, 2) := by decide +kernel
theorem dL_act_221 : decode cL_act 221 = .ok (.irem, 1) := by decide +kernel
theorem dL_act_222 : decode cL_act 222 = .ok (.iadd, 1) := by decide +kernel
theorem dL_act_223 : decode cL_act 223 = .ok (.i2l, 1) := by decide +kernel
theorem dL_act_224 : decode cL_act 224 = .ok (.invokevirtual 71, 3) := by decide +kernel
theorem dL_act_227 : decode cL_act 227 = .ok (.iadd, 1) := by decide +kernel
theorem dL_act_228 : decode cL_act 228 = .ok (.aload_n 0, 1) := by decide +kernel
theorem dL_act_229 : decode cL_act 229 = .ok (.ldc2_w 98, 3) := by decide +kernel
theorem dL_act_232 : decode cL_act 232 = .ok (.invokevirtual 71, 3) := by decide +kernel
theorem dL_act_235 : decode cL_act 235 = .ok (.iadd, 1) := by decide +kernel
theorem dL_act_236 : decode cL_act 236 = .ok (.ireturn, 1) := by decide +kernel
theorem dL_act_237 : decode cL_act 237 = .ok (.aload_n 0, 1) := by decide +kernel
theorem dL_act_238 : decode cL_act 238 = .ok (.ldc2_w 100, 3) := by decide +kernel
theorem dL_act_241 : decode cL_act 241 = .ok (.invokevirtual 71, 3) := by decide +kernel
theorem dL_act_244 : decode cL_act 244 = .ok (.aload_n 0, 1) := by decide +kernel
theorem dL_act_245 : decode cL_act 245 = .ok (.ldc2_w 102, 3) := by decide +kernel
theorem dL_act_248 : decode cL_act 248 = .ok (.invokevirtual 71, 3) := by decide +kernel
theorem dL_act_251 : decode cL_act 251 = .ok (.iadd, 1) := by decide +kernel
theorem dL_act_252 : decode cL_act 252 = .ok (.aload_n 0, 1) := by decide +kernel
theorem dL_act_253 : decode cL_act 253 = .ok (.ldc2_w 104, 3) := by decide +kernel
theorem dL_act_256 : decode cL_act 256 = .ok (.invokevirtual 71, 3) := by decide +kernel
theorem dL_act_259 : decode cL_act 259 = .ok (.iadd, 1) := by decide +kernel
theorem dL_act_260 : decode cL_act 260 = .ok (.aload_n 0, 1) := by decide +kernel
theorem dL_act_261 : decode cL_act 261 = .ok (.bipush 48, 2) := by decide +kernel
theorem dL_act_263 : decode cL_act 263 = .ok (.iload_n 2, 1) := by decide +kernel
theorem dL_act_264 : decode cL_act 264 = .ok (.bipush 9, 2) := by decide +kernel
theorem dL_act_266 : decode cL_act 266 = .ok (.irem, 1) := by decide +kernel
theorem dL_act_267 : decode cL_act 267 = .ok (.iadd, 1) := by decide +kernel
theorem dL_act_268 : decode cL_act 268 = .ok (.i2l, 1) := by decide +kernel
theorem dL_act_269 : decode cL_act 269 = .ok (.invokevirtual 71, 3) := by decide +kernel
theorem dL_act_272 : decode cL_act 272 = .ok (.iadd, 1) := by decide +kernel
theorem dL_act_273 : decode cL_act 273 = .ok (.aload_n 0, 1) := by decide +kernel
theorem dL_act_274 : decode cL_act 274 = .ok (.invokevirtual 87, 3) := by decide +kernel
theorem dL_act_277 : decode cL_act 277 = .ok (.iadd, 1) := by decide +kernel
theorem dL_act_278 : decode cL_act 278 = .ok (.ireturn, 1) := by decide +kernel
theorem dL_act_279 : decode cL_act 279 = .ok (.aload_n 0, 1) := by decide +kernel
theorem dL_act_280 : decode cL_act 280 = .ok (.iload_n 2, 1) := by decide +kernel
theorem dL_act_281 : decode cL_act 281 = .ok (.bipush 64, 2) := by decide +kernel
theorem dL_act_283 : decode cL_act 283 = .ok (.idiv, 1) := by decide +kernel
theorem dL_act_284 : decode cL_act 284 = .ok (.iconst 4, 1) := by decide +kernel
theorem dL_act_285 : decode cL_act 285 = .ok (.irem, 1) := by decide +kernel
theorem dL_act_286 : decode cL_act 286 = .ok (.iload 4, 2) := by decide +kernel
theorem dL_act_288 : decode cL_act 288 = .ok (.iload 5, 2) := by decide +kernel
theorem dL_act_290 : decode cL_act 290 = .ok (.iload_n 3, 1) := by decide +kernel
theorem dL_act_291 : decode cL_act 291 = .ok (.if_icmp .le 7, 3) := by decide +kernel
theorem dL_act_294 : decode cL_act 294 = .ok (.iload_n 3, 1) := by decide +kernel
theorem dL_act_295 : decode cL_act 295 = .ok (.goto 5, 3) := by decide +kernel
theorem dL_act_298 : decode cL_act 298 = .ok (.iload 5, 2) := by decide +kernel
theorem dL_act_300 : decode cL_act 300 = .ok (.invokevirtual 24, 3) := by decide +kernel
theorem dL_act_303 : decode cL_act 303 = .ok (.ireturn, 1) := by decide +kernel
theorem dL_law_0 : decode cL_law 0 = .ok (.new 10, 3) := by decide +kernel
theorem dL_law_3 : decode cL_law 3 = .ok (.dup, 1) := by decide +kernel
theorem dL_law_4 : decode cL_law 4 = .ok (.invokespecial 106, 3) := by decide +kernel
theorem dL_law_7 : decode cL_law 7 = .ok (.astore_n 1, 1) := by decide +kernel
theorem dL_law_8 : decode cL_law 8 = .ok (.new 10, 3) := by decide +kernel
theorem dL_law_11 : decode cL_law 11 = .ok (.dup, 1) := by decide +kernel
theorem dL_law_12 : decode cL_law 12 = .ok (.invokespecial 106, 3) := by decide +kernel
theorem dL_law_15 : decode cL_law 15 = .ok (.astore_n 2, 1) := by decide +kernel
theorem dL_law_16 : decode cL_law 16 = .ok (.iconst 1, 1) := by decide +kernel
theorem dL_law_17 : decode cL_law 17 = .ok (.istore_n 3, 1) := by decide +kernel
theorem dL_law_18 : decode cL_law 18 = .ok (.iconst 0, 1) := by decide +kernel
theorem dL_law_19 : decode cL_law 19 = .ok (.istore 4, 2) := by decide +kernel
theorem dL_law_21 : decode cL_law 21 = .ok (.iload 4, 2) := by decide +kernel
theorem dL_law_23 : decode cL_law 23 = .ok (.bipush 30, 2) := by decide +kernel
theorem dL_law_25 : decode cL_law 25 = .ok (.if_icmp .ge 142, 3) := by decide +kernel
theorem dL_law_28 : decode cL_law 28 = .ok (.iload_n 3, 1) := by decide +kernel
theorem dL_law_29 : decode cL_law 29 = .ok (.ifCond .eq 138, 3) := by decide +kernel
theorem dL_law_32 : decode cL_law 32 = .ok (.aload_n 0, 1) := by decide +kernel
theorem dL_law_33 : decode cL_law 33 = .ok (.iconst 2, 1) := by decide +kernel
theorem dL_law_34 : decode cL_law 34 = .ok (.iload 4, 2) := by decide +kernel
theorem dL_law_36 : decode cL_law 36 = .ok (.imul, 1) := by decide +kernel
theorem dL_law_37 : decode cL_law 37 = .ok (.invokestatic 107, 3) := by decide +kernel
theorem dL_law_40 : decode cL_law 40 = .ok (.istore 5, 2) := by decide +kernel
theorem dL_law_42 : decode cL_law 42 = .ok (.aload_n 0, 1) := by decide +kernel
theorem dL_law_43 : decode cL_law 43 = .ok (.iconst 2, 1) := by decide +kernel
theorem dL_law_44 : decode cL_law 44 = .ok (.iload 4, 2) := by decide +kernel
theorem dL_law_46 : decode cL_law 46 = .ok (.imul, 1) := by decide +kernel
theorem dL_law_47 : decode cL_law 47 = .ok (.iconst 1, 1) := by decide +kernel
theorem dL_law_48 : decode cL_law 48 = .ok (.iadd, 1) := by decide +kernel
theorem dL_law_49 : decode cL_law 49 = .ok (.invokestatic 107, 3) := by decide +kernel
theorem dL_law_52 : decode cL_law 52 = .ok (.istore 6, 2) := by decide +kernel
theorem dL_law_54 : decode cL_law 54 = .ok (.aload_n 1, 1) := by decide +kernel
theorem dL_law_55 : decode cL_law 55 = .ok (.iload 5, 2) := by decide +kernel
theorem dL_law_57 : decode cL_law 57 = .ok (.iload 6, 2) := by decide +kernel
theorem dL_law_59 : decode cL_law 59 = .ok (.invokestatic 111, 3) := by decide +kernel
theorem dL_law_62 : decode cL_law 62 = .ok (.istore 7, 2) := by decide +kernel
theorem dL_law_64 : decode cL_law 64 = .ok (.aload_n 2, 1) := by decide +kernel
theorem dL_law_65 : decode cL_law 65 = .ok (.iload 5, 2) := by decide +kernel
theorem dL_law_67 : decode cL_law 67 = .ok (.iload 6, 2) := by decide +kernel
theorem dL_law_69 : decode cL_law 69 = .ok (.invokestatic 111, 3) := by decide +kernel
theorem dL_law_72 : decode cL_law 72 = .ok (.istore 8, 2) := by decide +kernel
theorem dL_law_74 : decode cL_law 74 = .ok (.iload 7, 2) := by decide +kernel
theorem dL_law_76 : decode cL_law 76 = .ok (.iload 8, 2) := by decide +kernel
theorem dL_law_78 : decode cL_law 78 = .ok (.if_icmp .ne 26, 3) := by decide +kernel
theorem dL_law_81 : decode cL_law 81 = .ok (.aload_n 1, 1) := by decide +kernel
theorem dL_law_82 : decode cL_law 82 = .ok (.iload 5, 2) := by decide +kernel
theorem dL_law_84 : decode cL_law 84 = .ok (.invokestatic 115, 3) := by decide +kernel
theorem dL_law_87 : decode cL_law 87 = .ok (.ifCond .eq 17, 3) := by decide +kernel
theorem dL_law_90 : decode cL_law 90 = .ok (.aload_n 1, 1) := by decide +kernel
theorem dL_law_91 : decode cL_law 91 = .ok (.aload_n 2, 1) := by decide +kernel
theorem dL_law_92 : decode cL_law 92 = .ok (.iload 5, 2) := by decide +kernel
theorem dL_law_94 : decode cL_law 94 = .ok (.invokestatic 119, 3) := by decide +kernel
theorem dL_law_97 : decode cL_law 97 = .ok (.ifCond .eq 7, 3) := by decide +kernel
theorem dL_law_100 : decode cL_law 100 = .ok (.iconst 1, 1) := by decide +kernel
theorem dL_law_101 : decode cL_law 101 = .ok (.goto 4, 3) := by decide +kernel
theorem dL_law_104 : decode cL_law 104 = .ok (.iconst 0, 1) := by decide +kernel
theorem dL_law_105 : decode cL_law 105 = .ok (.istore_n 3, 1) := by decide +kernel
theorem dL_law_106 : decode cL_law 106 = .ok (.iload 4, 2) := by decide +kernel
theorem dL_law_108 : decode cL_law 108 = .ok (.iconst 3, 1) := by decide +kernel
theorem dL_law_109 : decode cL_law 109 = .ok (.irem, 1) := by decide +kernel
theorem dL_law_110 : decode cL_law 110 = .ok (.iconst 2, 1) := by decide +kernel
theorem dL_law_111 : decode cL_law 111 = .ok (.if_icmp .ne 50, 3) := by decide +kernel
theorem dL_law_114 : decode cL_law 114 = .ok (.iload_n 3, 1) := by decide +kernel
theorem dL_law_115 : decode cL_law 115 = .ok (.ifCond .eq 46, 3) := by decide +kernel
theorem dL_law_118 : decode cL_law 118 = .ok (.aload_n 1, 1) := by decide +kernel
theorem dL_law_119 : decode cL_law 119 = .ok (.iload 6, 2) := by decide +kernel
theorem dL_law_121 : decode cL_law 121 = .ok (.invokestatic 123, 3) := by decide +kernel
theorem dL_law_124 : decode cL_law 124 = .ok (.ifCond .eq 35, 3) := by decide +kernel
theorem dL_law_127 : decode cL_law 127 = .ok (.aload_n 2, 1) := by decide +kernel
theorem dL_law_128 : decode cL_law 128 = .ok (.iload 6, 2) := by decide +kernel
theorem dL_law_130 : decode cL_law 130 = .ok (.invokestatic 123, 3) := by decide +kernel
theorem dL_law_133 : decode cL_law 133 = .ok (.ifCond .eq 26, 3) := by decide +kernel
theorem dL_law_136 : decode cL_law 136 = .ok (.aload_n 1, 1) := by decide +kernel
theorem dL_law_137 : decode cL_law 137 = .ok (.iload 6, 2) := by decide +kernel
theorem dL_law_139 : decode cL_law 139 = .ok (.invokestatic 115, 3) := by decide +kernel
theorem dL_law_142 : decode cL_law 142 = .ok (.ifCond .eq 17, 3) := by decide +kernel
theorem dL_law_145 : decode cL_law 145 = .ok (.aload_n 1, 1) := by decide +kernel
theorem dL_law_146 : decode cL_law 146 = .ok (.aload_n 2, 1) := by decide +kernel
theorem dL_law_147 : decode cL_law 147 = .ok (.iload 6, 2) := by decide +kernel
theorem dL_law_149 : decode cL_law 149 = .ok (.invokestatic 119, 3) := by decide +kernel
theorem dL_law_152 : decode cL_law 152 = .ok (.ifCond .eq 7, 3) := by decide +kernel
theorem dL_law_155 : decode cL_law 155 = .ok (.iconst 1, 1) := by decide +kernel
theorem dL_law_156 : decode cL_law 156 = .ok (.goto 4, 3) := by decide +kernel
theorem dL_law_159 : decode cL_law 159 = .ok (.iconst 0, 1) := by decide +kernel
theorem dL_law_160 : decode cL_law 160 = .ok (.istore_n 3, 1) := by decide +kernel
theorem dL_law_161 : decode cL_law 161 = .ok (.iinc 4 1, 3) := by decide +kernel
theorem dL_law_164 : decode cL_law 164 = .ok (.goto (-143), 3) := by decide +kernel
theorem dL_law_167 : decode cL_law 167 = .ok (.iload_n 3, 1) := by decide +kernel
theorem dL_law_168 : decode cL_law 168 = .ok (.ireturn, 1) := by decide +kernel
