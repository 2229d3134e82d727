theorem dL_isReadSo_6 : decode cL_isReadSo 6 = .ok (.idiv, 1) := by decide +kernel
theorem dL_isReadSo_7 : decode cL_isReadSo 7 = .ok (.iload_n 3, 1) := by decide +kernel
theorem dL_isReadSo_8 : decode cL_isReadSo 8 = .ok (.bipush 6, 2) := by decide +kernel
theorem dL_isReadSo_10 : decode cL_isReadSo 10 = .ok (.irem, 1) := by decide +kernel
theorem dL_isReadSo_11 : decode cL_isReadSo 11 = .ok (.invokestatic 74, 3) := by decide +kernel
theorem dL_isReadSo_14 : decode cL_isReadSo 14 = .ok (.istore 5, 2) := by decide +kernel
theorem dL_isReadSo_16 : decode cL_isReadSo 16 = .ok (.iload 5, 2) := by decide +kernel
theorem dL_isReadSo_18 : decode cL_isReadSo 18 = .ok (.ifCond .ge 28, 3) := by decide +kernel
theorem dL_isReadSo_21 : decode cL_isReadSo 21 = .ok (.aload_n 1, 1) := by decide +kernel
theorem dL_isReadSo_22 : decode cL_isReadSo 22 = .ok (.bipush 8, 2) := by decide +kernel
theorem dL_isReadSo_24 : decode cL_isReadSo 24 = .ok (.iload_n 3, 1) := by decide +kernel
theorem dL_isReadSo_25 : decode cL_isReadSo 25 = .ok (.bipush 6, 2) := by decide +kernel
theorem dL_isReadSo_27 : decode cL_isReadSo 27 = .ok (.idiv, 1) := by decide +kernel
theorem dL_isReadSo_28 : decode cL_isReadSo 28 = .ok (.iload_n 3, 1) := by decide +kernel
theorem dL_isReadSo_29 : decode cL_isReadSo 29 = .ok (.bipush 6, 2) := by decide +kernel
theorem dL_isReadSo_31 : decode cL_isReadSo 31 = .ok (.irem, 1) := by decide +kernel
theorem dL_isReadSo_32 : decode cL_isReadSo 32 = .ok (.invokestatic 74, 3) := by decide +kernel
theorem dL_isReadSo_35 : decode cL_isReadSo 35 = .ok (.iload 5, 2) := by decide +kernel
theorem dL_isReadSo_37 : decode cL_isReadSo 37 = .ok (.if_icmp .ne 7, 3) := by decide +kernel
theorem dL_isReadSo_40 : decode cL_isReadSo 40 = .ok (.iconst 1, 1) := by decide +kernel
theorem dL_isReadSo_41 : decode cL_isReadSo 41 = .ok (.goto 4, 3) := by decide +kernel
theorem dL_isReadSo_44 : decode cL_isReadSo 44 = .ok (.iconst 0, 1) := by decide +kernel
theorem dL_isReadSo_45 : decode cL_isReadSo 45 = .ok (.ireturn, 1) := by decide +kernel
theorem dL_isReadSo_46 : decode cL_isReadSo 46 = .ok (.aload_n 0, 1) := by decide +kernel
theorem dL_isReadSo_47 : decode cL_isReadSo 47 = .ok (.invokevirtual 82, 3) := by decide +kernel
theorem dL_isReadSo_50 : decode cL_isReadSo 50 = .ok (.aload_n 1, 1) := by decide +kernel
theorem dL_isReadSo_51 : decode cL_isReadSo 51 = .ok (.invokevirtual 82, 3) := by decide +kernel
theorem dL_isReadSo_54 : decode cL_isReadSo 54 = .ok (.if_icmp .ne 7, 3) := by decide +kernel
theorem dL_isReadSo_57 : decode cL_isReadSo 57 = .ok (.iconst 1, 1) := by decide +kernel
theorem dL_isReadSo_58 : decode cL_isReadSo 58 = .ok (.goto 4, 3) := by decide +kernel
theorem dL_isReadSo_61 : decode cL_isReadSo 61 = .ok (.iconst 0, 1) := by decide +kernel
theorem dL_isReadSo_62 : decode cL_isReadSo 62 = .ok (.istore 6, 2) := by decide +kernel
theorem dL_isReadSo_64 : decode cL_isReadSo 64 = .ok (.iconst 0, 1) := by decide +kernel
theorem dL_isReadSo_65 : decode cL_isReadSo 65 = .ok (.istore 7, 2) := by decide +kernel
theorem dL_isReadSo_67 : decode cL_isReadSo 67 = .ok (.iload 7, 2) := by decide +kernel
theorem dL_isReadSo_69 : decode cL_isReadSo 69 = .ok (.iload 5, 2) := by decide +kernel
theorem dL_isReadSo_71 : decode cL_isReadSo 71 = .ok (.if_icmp .ge 59, 3) := by decide +kernel
theorem dL_isReadSo_74 : decode cL_isReadSo 74 = .ok (.iload 4, 2) := by decide +kernel
theorem dL_isReadSo_76 : decode cL_isReadSo 76 = .ok (.iload 7, 2) := by decide +kernel
theorem dL_isReadSo_78 : decode cL_isReadSo 78 = .ok (.bipush 7, 2) := by decide +kernel
theorem dL_isReadSo_80 : decode cL_isReadSo 80 = .ok (.irem, 1) := by decide +kernel
theorem dL_isReadSo_81 : decode cL_isReadSo 81 = .ok (.ishr, 1) := by decide +kernel
theorem dL_isReadSo_82 : decode cL_isReadSo 82 = .ok (.iconst 1, 1) := by decide +kernel
theorem dL_isReadSo_83 : decode cL_isReadSo 83 = .ok (.iand, 1) := by decide +kernel
theorem dL_isReadSo_84 : decode cL_isReadSo 84 = .ok (.istore 8, 2) := by decide +kernel
theorem dL_isReadSo_86 : decode cL_isReadSo 86 = .ok (.iload 6, 2) := by decide +kernel
theorem dL_isReadSo_88 : decode cL_isReadSo 88 = .ok (.ifCond .eq 33, 3) := by decide +kernel
theorem dL_isReadSo_91 : decode cL_isReadSo 91 = .ok (.aload_n 0, 1) := by decide +kernel
theorem dL_isReadSo_92 : decode cL_isReadSo 92 = .ok (.iload 8, 2) := by decide +kernel
theorem dL_isReadSo_94 : decode cL_isReadSo 94 = .ok (.invokevirtual 46, 3) := by decide +kernel
theorem dL_isReadSo_97 : decode cL_isReadSo 97 = .ok (.iload 7, 2) := by decide +kernel
theorem dL_isReadSo_99 : decode cL_isReadSo 99 = .ok (.iconst 1, 1) := by decide +kernel
theorem dL_isReadSo_100 : decode cL_isReadSo 100 = .ok (.iadd, 1) := by decide +kernel
theorem dL_isReadSo_101 : decode cL_isReadSo 101 = .ok (.if_icmp .ne 20, 3) := by decide +kernel
theorem dL_isReadSo_104 : decode cL_isReadSo 104 = .ok (.aload_n 1, 1) := by decide +kernel
theorem dL_isReadSo_105 : decode cL_isReadSo 105 = .ok (.iload 8, 2) := by decide +kernel
theorem dL_isReadSo_107 : decode cL_isReadSo 107 = .ok (.invokevirtual 46, 3) := by decide +kernel
theorem dL_isReadSo_110 : decode cL_isReadSo 110 = .ok (.iload 7, 2) := by decide +kernel
theorem dL_isReadSo_112 : decode cL_isReadSo 112 = .ok (.iconst 1, 1) := by decide +kernel
theorem dL_isReadSo_113 : decode cL_isReadSo 113 = .ok (.iadd, 1) := by decide +kernel
theorem dL_isReadSo_114 : decode cL_isReadSo 114 = .ok (.if_icmp .ne 7, 3) := by decide +kernel
theorem dL_isReadSo_117 : decode cL_isReadSo 117 = .ok (.iconst 1, 1) := by decide +kernel
theorem dL_isReadSo_118 : decode cL_isReadSo 118 = .ok (.goto 4, 3) := by decide +kernel
theorem dL_isReadSo_121 : decode cL_isReadSo 121 = .ok (.iconst 0, 1) := by decide +kernel
theorem dL_isReadSo_122 : decode cL_isReadSo 122 = .ok (.istore 6, 2) := by decide +kernel
theorem dL_isReadSo_124 : decode cL_isReadSo 124 = .ok (.iinc 7 1, 3) := by decide +kernel
theorem dL_isReadSo_127 : decode cL_isReadSo 127 = .ok (.goto (-60), 3) := by decide +kernel
theorem dL_isReadSo_130 : decode cL_isReadSo 130 = .ok (.aload_n 0, 1) := by decide +kernel
theorem dL_isReadSo_131 : decode cL_isReadSo 131 = .ok (.bipush 10, 2) := by decide +kernel
theorem dL_isReadSo_133 : decode cL_isReadSo 133 = .ok (.iload_n 3, 1) := by decide +kernel
theorem dL_isReadSo_134 : decode cL_isReadSo 134 = .ok (.bipush 6, 2) := by decide +kernel
theorem dL_isReadSo_136 : decode cL_isReadSo 136 = .ok (.idiv, 1) := by decide +kernel
theorem dL_isReadSo_137 : decode cL_isReadSo 137 = .ok (.iload_n 3, 1) := by decide +kernel
theorem dL_isReadSo_138 : decode cL_isReadSo 138 = .ok (.bipush 6, 2) := by decide +kernel
theorem dL_isReadSo_140 : decode cL_isReadSo 140 = .ok (.irem, 1) := by decide +kernel
theorem dL_isReadSo_141 : decode cL_isReadSo 141 = .ok (.invokestatic 74, 3) := by decide +kernel
theorem dL_isReadSo_144 : decode cL_isReadSo 144 = .ok (.istore 7, 2) := by decide +kernel
theorem dL_isReadSo_146 : decode cL_isReadSo 146 = .ok (.aload_n 0, 1) := by decide +kernel
theorem dL_isReadSo_147 : decode cL_isReadSo 147 = .ok (.iconst 2, 1) := by decide +kernel
theorem dL_isReadSo_148 : decode cL_isReadSo 148 = .ok (.iload_n 3, 1) := by decide +kernel
theorem dL_isReadSo_149 : decode cL_isReadSo 149 = .ok (.iload_n 3, 1) := by decide +kernel
theorem dL_isReadSo_150 : decode cL_isReadSo 150 = .ok (.invokestatic 85, 3) := by decide +kernel
theorem dL_isReadSo_153 : decode cL_isReadSo 153 = .ok (.istore 8, 2) := by decide +kernel
theorem dL_isReadSo_155 : decode cL_isReadSo 155 = .ok (.iload 6, 2) := by decide +kernel
theorem dL_isReadSo_157 : decode cL_isReadSo 157 = .ok (.ifCond .eq 37, 3) := by decide +kernel
theorem dL_isReadSo_160 : decode cL_isReadSo 160 = .ok (.aload_n 1, 1) := by decide +kernel
theorem dL_isReadSo_161 : decode cL_isReadSo 161 = .ok (.iconst 2, 1) := by decide +kernel
theorem dL_isReadSo_162 : decode cL_isReadSo 162 = .ok (.iload_n 3, 1) := by decide +kernel
theorem dL_isReadSo_163 : decode cL_isReadSo 163 = .ok (.iload_n 3, 1) := by decide +kernel
theorem dL_isReadSo_164 : decode cL_isReadSo 164 = .ok (.invokestatic 85, 3) := by decide +kernel
theorem dL_isReadSo_167 : decode cL_isReadSo 167 = .ok (.iload 8, 2) := by decide +kernel
theorem dL_isReadSo_169 : decode cL_isReadSo 169 = .ok (.if_icmp .ne 25, 3) := by decide +kernel
theorem dL_isReadSo_172 : decode cL_isReadSo 172 = .ok (.iload 8, 2) := by decide +kernel
theorem dL_isReadSo_174 : decode cL_isReadSo 174 = .ok (.iload 7, 2) := by decide +kernel
theorem dL_isReadSo_176 : decode cL_isReadSo 176 = .ok (.iconst 1, 1) := by decide +kernel
theorem dL_isReadSo_177 : decode cL_isReadSo 177 = .ok (.if_icmp .ne 8, 3) := by decide +kernel
theorem dL_isReadSo_180 : decode cL_isReadSo 180 = .ok (.iload 5, 2) := by decide +kernel
theorem dL_isReadSo_182 : decode cL_isReadSo 182 = .ok (.goto 5, 3) := by decide +kernel
theorem dL_isReadSo_185 : decode cL_isReadSo 185 = .ok (.ldc 16, 2) := by decide +kernel
theorem dL_isReadSo_187 : decode cL_isReadSo 187 = .ok (.if_icmp .ne 7, 3) := by decide +kernel
theorem dL_isReadSo_190 : decode cL_isReadSo 190 = .ok (.iconst 1, 1) := by decide +kernel
theorem dL_isReadSo_191 : decode cL_isReadSo 191 = .ok (.goto 4, 3) := by decide +kernel
theorem dL_isReadSo_194 : decode cL_isReadSo 194 = .ok (.iconst 0, 1) := by decide +kernel
theorem dL_isReadSo_195 : decode cL_isReadSo 195 = .ok (.istore 6, 2) := by decide +kernel
theorem dL_isReadSo_197 : decode cL_isReadSo 197 = .ok (.iconst 0, 1) := by decide +kernel
theorem dL_isReadSo_198 : decode cL_isReadSo 198 = .ok (.istore 9, 2) := by decide +kernel
theorem dL_isReadSo_200 : decode cL_isReadSo 200 = .ok (.iload 9, 2) := by decide +kernel
theorem dL_isReadSo_202 : decode cL_isReadSo 202 = .ok (.iload 5, 2) := by decide +kernel
theorem dL_isReadSo_204 : decode cL_isReadSo 204 = .ok (.if_icmp .ge 40, 3) := by decide +kernel
theorem dL_isReadSo_207 : decode cL_isReadSo 207 = .ok (.iload 6, 2) := by decide +kernel
theorem dL_isReadSo_209 : decode cL_isReadSo 209 = .ok (.ifCond .eq 35, 3) := by decide +kernel
theorem dL_isReadSo_212 : decode cL_isReadSo 212 = .ok (.aload_n 0, 1) := by decide +kernel
theorem dL_isReadSo_213 : decode cL_isReadSo 213 = .ok (.iload 9, 2) := by decide +kernel
theorem dL_isReadSo_215 : decode cL_isReadSo 215 = .ok (.invokevirtual 53, 3) := by decide +kernel
theorem dL_isReadSo_218 : decode cL_isReadSo 218 = .ok (.iload 4, 2) := by decide +kernel
theorem dL_isReadSo_220 : decode cL_isReadSo 220 = .ok (.iload 9, 2) := by decide +kernel
theorem dL_isReadSo_222 : decode cL_isReadSo 222 = .ok (.bipush 7, 2) := by decide +kernel
theorem dL_isReadSo_224 : decode cL_isReadSo 224 = .ok (.irem, 1) := by decide +kernel
theorem dL_isReadSo_225 : decode cL_isReadSo 225 = .ok (.ishr, 1) := by decide +kernel
theorem dL_isReadSo_226 : decode cL_isReadSo 226 = .ok (.iconst 1, 1) := by decide +kernel
theorem dL_isReadSo_227 : decode cL_isReadSo 227 = .ok (.iand, 1) := by decide +kernel
theorem dL_isReadSo_228 : decode cL_isReadSo 228 = .ok (.if_icmp .ne 7, 3) := by decide +kernel
theorem dL_isReadSo_231 : decode cL_isReadSo 231 = .ok (.iconst 1, 1) := by decide +kernel
theorem dL_isReadSo_232 : decode cL_isReadSo 232 = .ok (.goto 4, 3) := by decide +kernel
theorem dL_isReadSo_235 : decode cL_isReadSo 235 = .ok (.iconst 0, 1) := by decide +kernel
theorem dL_isReadSo_236 : decode cL_isReadSo 236 = .ok (.istore 6, 2) := by decide +kernel
theorem dL_isReadSo_238 : decode cL_isReadSo 238 = .ok (.iinc 9 1, 3) := by decide +kernel
theorem dL_isReadSo_241 : decode cL_isReadSo 241 = .ok (.goto (-41), 3) := by decide +kernel
theorem dL_isReadSo_244 : decode cL_isReadSo 244 = .ok (.aload_n 0, 1) := by decide +kernel
theorem dL_isReadSo_245 : decode cL_isReadSo 245 = .ok (.iconst 0, 1) := by decide +kernel
theorem dL_isReadSo_246 : decode cL_isReadSo 246 = .ok (.iload_n 2, 1) := by decide +kernel
theorem dL_isReadSo_247 : decode cL_isReadSo 247 = .ok (.iload_n 3, 1) := by decide +kernel
theorem dL_isReadSo_248 : decode cL_isReadSo 248 = .ok (.invokestatic 85, 3) := by decide +kernel
theorem dL_isReadSo_251 : decode cL_isReadSo 251 = .ok (.istore 9, 2) := by decide +kernel
theorem dL_isReadSo_253 : decode cL_isReadSo 253 = .ok (.aload_n 0, 1) := by decide +kernel
theorem dL_isReadSo_254 : decode cL_isReadSo 254 = .ok (.iconst 2, 1) := by decide +kernel
theorem dL_isReadSo_255 : decode cL_isReadSo 255 = .ok (.iload_n 2, 1) := by decide +kernel
theorem dL_isReadSo_256 : decode cL_isReadSo 256 = .ok (.iload_n 3, 1) := by decide +kernel
theorem dL_isReadSo_257 : decode cL_isReadSo 257 = .ok (.invokestatic 85, 3) := by decide +kernel
theorem dL_isReadSo_260 : decode cL_isReadSo 260 = .ok (.istore 10, 2) := by decide +kernel
theorem dL_isReadSo_262 : decode cL_isReadSo 262 = .ok (.iload 6, 2) := by decide +kernel
theorem dL_isReadSo_264 : decode cL_isReadSo 264 = .ok (.ifCond .eq 36, 3) := by decide +kernel
theorem dL_isReadSo_267 : decode cL_isReadSo 267 = .ok (.aload_n 1, 1) := by decide +kernel
theorem dL_isReadSo_268 : decode cL_isReadSo 268 = .ok (.iconst 2, 1) := by decide +kernel
theorem dL_isReadSo_269 : decode cL_isReadSo 269 = .ok (.iload_n 2, 1) := by decide +kernel
theorem dL_isReadSo_270 : decode cL_isReadSo 270 = .ok (.iload_n 3, 1) := by decide +kernel
theorem dL_isReadSo_271 : decode cL_isReadSo 271 = .ok (.invokestatic 85, 3) := by decide +kernel
theorem dL_isReadSo_274 : decode cL_isReadSo 274 = .ok (.iload 10, 2) := by decide +kernel
theorem dL_isReadSo_276 : decode cL_isReadSo 276 = .ok (.if_icmp .ne 24, 3) := by decide +kernel
theorem dL_isReadSo_279 : decode cL_isReadSo 279 = .ok (.iload 9, 2) := by decide +kernel
theorem dL_isReadSo_281 : decode cL_isReadSo 281 = .ok (.iconst 1, 1) := by decide +kernel
theorem dL_isReadSo_282 : decode cL_isReadSo 282 = .ok (.if_icmp .ne 14, 3) := by decide +kernel
theorem dL_isReadSo_285 : decode cL_isReadSo 285 = .ok (.iload 7, 2) := by decide +kernel
theorem dL_isReadSo_287 : decode cL_isReadSo 287 = .ok (.iconst 1, 1) := by decide +kernel
theorem dL_isReadSo_288 : decode cL_isReadSo 288 = .ok (.if_icmp .ne 8, 3) := by decide +kernel
theorem dL_isReadSo_291 : decode cL_isReadSo 291 = .ok (.iload 10, 2) := by decide +kernel
theorem dL_isReadSo_293 : decode cL_isReadSo 293 = .ok (.ifCond .lt 7, 3) := by decide +kernel
theorem dL_isReadSo_296 : decode cL_isReadSo 296 = .ok (.iconst 1, 1) := by decide +kernel
theorem dL_isReadSo_297 : decode cL_isReadSo 297 = .ok (.goto 4, 3) := by decide +kernel
theorem dL_isReadSo_300 : decode cL_isReadSo 300 = .ok (.iconst 0, 1) := by decide +kernel
theorem dL_isReadSo_301 : decode cL_isReadSo 301 = .ok (.istore 6, 2) := by decide +kernel
theorem dL_isReadSo_303 : decode cL_isReadSo 303 = .ok (.iload 6, 2) := by decide +kernel
theorem dL_isReadSo_305 : decode cL_isReadSo 305 = .ok (.ifCond .eq 80, 3) := by decide +kernel
theorem dL_isReadSo_308 : decode cL_isReadSo 308 = .ok (.iload 10, 2) := by decide +kernel
theorem dL_isReadSo_310 : decode cL_isReadSo 310 = .ok (.ifCond .ge 34, 3) := by decide +kernel
theorem dL_isReadSo_313 : decode cL_isReadSo 313 = .ok (.aload_n 0, 1) := by decide +kernel
theorem dL_isReadSo_314 : decode cL_isReadSo 314 = .ok (.bipush 11, 2) := by decide +kernel
theorem dL_isReadSo_316 : decode cL_isReadSo 316 = .ok (.iload 5, 2) := by decide +kernel
theorem dL_isReadSo_318 : decode cL_isReadSo 318 = .ok (.iconst 0, 1) := by decide +kernel
theorem dL_isReadSo_319 : decode cL_isReadSo 319 = .ok (.invokestatic 74, 3) := by decide +kernel
theorem dL_isReadSo_322 : decode cL_isReadSo 322 = .ok (.ldc 16, 2) := by decide +kernel
theorem dL_isReadSo_324 : decode cL_isReadSo 324 = .ok (.if_icmp .ne 61, 3) := by decide +kernel
theorem dL_isReadSo_327 : decode cL_isReadSo 327 = .ok (.aload_n 0, 1) := by decide +kernel
theorem dL_isReadSo_328 : decode cL_isReadSo 328 = .ok (.bipush 11, 2) := by decide +kernel
theorem dL_isReadSo_330 : decode cL_isReadSo 330 = .ok (.iload 5, 2) := by decide +kernel
theorem dL_isReadSo_332 : decode cL_isReadSo 332 = .ok (.iconst 1, 1) := by decide +kernel
theorem dL_isReadSo_333 : decode cL_isReadSo 333 = .ok (.isub, 1) := by decide +kernel
theorem dL_isReadSo_334 : decode cL_isReadSo 334 = .ok (.iconst 0, 1) := by decide +kernel
theorem dL_isReadSo_335 : decode cL_isReadSo 335 = .ok (.invokestatic 74, 3) := by decide +kernel
theorem dL_isReadSo_338 : decode cL_isReadSo 338 = .ok (.ifCond .lt 47, 3) := by decide +kernel
theorem dL_isReadSo_341 : decode cL_isReadSo 341 = .ok (.goto 40, 3) := by decide +kernel
theorem dL_isReadSo_344 : decode cL_isReadSo 344 = .ok (.iload 10, 2) := by decide +kernel
theorem dL_isReadSo_346 : decode cL_isReadSo 346 = .ok (.aload_n 0, 1) := by decide +kernel
theorem dL_isReadSo_347 : decode cL_isReadSo 347 = .ok (.bipush 8, 2) := by decide +kernel
theorem dL_isReadSo_349 : decode cL_isReadSo 349 = .ok (.iload_n 2, 1) := by decide +kernel
theorem dL_isReadSo_350 : decode cL_isReadSo 350 = .ok (.bipush 6, 2) := by decide +kernel
theorem dL_isReadSo_352 : decode cL_isReadSo 352 = .ok (.idiv, 1) := by decide +kernel
theorem dL_isReadSo_353 : decode cL_isReadSo 353 = .ok (.iload_n 2, 1) := by decide +kernel
theorem dL_isReadSo_354 : decode cL_isReadSo 354 = .ok (.bipush 6, 2) := by decide +kernel
theorem dL_isReadSo_356 : decode cL_isReadSo 356 = .ok (.irem, 1) := by decide +kernel
theorem dL_isReadSo_357 : decode cL_isReadSo 357 = .ok (.invokestatic 74, 3) := by decide +kernel
theorem dL_isReadSo_360 : decode cL_isReadSo 360 = .ok (.if_icmp .ne 25, 3) := by decide +kernel
theorem dL_isReadSo_363 : decode cL_isReadSo 363 = .ok (.aload_n 0, 1) := by decide +kernel
theorem dL_isReadSo_364 : decode cL_isReadSo 364 = .ok (.bipush 10, 2) := by decide +kernel
theorem dL_isReadSo_366 : decode cL_isReadSo 366 = .ok (.iload_n 2, 1) := by decide +kernel
theorem dL_isReadSo_367 : decode cL_isReadSo 367 = .ok (.bipush 6, 2) := by decide +kernel
theorem dL_isReadSo_369 : decode cL_isReadSo 369 = .ok (.idiv, 1) := by decide +kernel
theorem dL_isReadSo_370 : decode cL_isReadSo 370 = .ok (.iload_n 2, 1) := by decide +kernel
theorem dL_isReadSo_371 : decode cL_isReadSo 371 = .ok (.bipush 6, 2) := by decide +kernel
theorem dL_isReadSo_373 : decode cL_isReadSo 373 = .ok (.irem, 1) := by decide +kernel
theorem dL_isReadSo_374 : decode cL_isReadSo 374 = .ok (.invokestatic 74, 3) := by decide +kernel
theorem dL_isReadSo_377 : decode cL_isReadSo 377 = .ok (.iconst 1, 1) := by decide +kernel
theorem dL_isReadSo_378 : decode cL_isReadSo 378 = .ok (.if_icmp .ne 7, 3) := by decide +kernel
theorem dL_isReadSo_381 : decode cL_isReadSo 381 = .ok (.iconst 1, 1) := by decide +kernel
theorem dL_isReadSo_382 : decode cL_isReadSo 382 = .ok (.goto 4, 3) := by decide +kernel
theorem dL_isReadSo_385 : decode cL_isReadSo 385 = .ok (.iconst 0, 1) := by decide +kernel
theorem dL_isReadSo_386 : decode cL_isReadSo 386 = .ok (.ireturn, 1) := by decide +kernel
theorem dL_law_0 : decode cL_law 0 = .ok (.new 9, 3) := by decide +kernel
theorem dL_law_3 : decode cL_law 3 = .ok (.dup, 1) := by decide +kernel
theorem dL_law_4 : decode cL_law 4 = .ok (.invokespecial 91, 3) := by decide +kernel
theorem dL_law_7 : decode cL_law 7 = .ok (.astore_n 1, 1) := by decide +kernel
theorem dL_law_8 : decode cL_law 8 = .ok (.new 9, 3) := by decide +kernel
theorem dL_law_11 : decode cL_law 11 = .ok (.dup, 1) := by decide +kernel
theorem dL_law_12 : decode cL_law 12 = .ok (.invokespecial 91, 3) := by decide +kernel
theorem dL_law_15 : decode cL_law 15 = .ok (.astore_n 2, 1) := by decide +kernel
theorem dL_law_16 : decode cL_law 16 = .ok (.iconst 0, 1) := by decide +kernel
theorem dL_law_17 : decode cL_law 17 = .ok (.istore_n 3, 1) := by decide +kernel
theorem dL_law_18 : decode cL_law 18 = .ok (.iload_n 3, 1) := by decide +kernel
theorem dL_law_19 : decode cL_law 19 = .ok (.bipush 90, 2) := by decide +kernel
theorem dL_law_21 : decode cL_law 21 = .ok (.if_icmp .ge 179, 3) := by decide +kernel
theorem dL_law_24 : decode cL_law 24 = .ok (.aload_n 0, 1) := by decide +kernel
theorem dL_law_25 : decode cL_law 25 = .ok (.iload_n 3, 1) := by decide +kernel
theorem dL_law_26 : decode cL_law 26 = .ok (.bipush 61, 2) := by decide +kernel
theorem dL_law_28 : decode cL_law 28 = .ok (.irem, 1) := by decide +kernel
theorem dL_law_29 : decode cL_law 29 = .ok (.invokestatic 92, 3) := by decide +kernel
theorem dL_law_32 : decode cL_law 32 = .ok (.sipush 1109, 3) := by decide +kernel
theorem dL_law_35 : decode cL_law 35 = .ok (.iload_n 3, 1) := by decide +kernel
theorem dL_law_36 : decode cL_law 36 = .ok (.bipush 61, 2) := by decide +kernel
theorem dL_law_38 : decode cL_law 38 = .ok (.idiv, 1) := by decide +kernel
theorem dL_law_39 : decode cL_law 39 = .ok (.imul, 1) := by decide +kernel
theorem dL_law_40 : decode cL_law 40 = .ok (.iadd, 1) := by decide +kernel
theorem dL_law_41 : decode cL_law 41 = .ok (.istore 4, 2) := by decide +kernel
theorem dL_law_43 : decode cL_law 43 = .ok (.aload_n 1, 1) := by decide +kernel
theorem dL_law_44 : decode cL_law 44 = .ok (.iload 4, 2) := by decide +kernel
theorem dL_law_46 : decode cL_law 46 = .ok (.iload_n 3, 1) := by decide +kernel
theorem dL_law_47 : decode cL_law 47 = .ok (.iconst 3, 1) := by decide +kernel
theorem dL_law_48 : decode cL_law 48 = .ok (.irem, 1) := by decide +kernel
theorem dL_law_49 : decode cL_law 49 = .ok (.iconst 2, 1) := by decide +kernel
theorem dL_law_50 : decode cL_law 50 = .ok (.if_icmp .ne 7, 3) := by decide +kernel
theorem dL_law_53 : decode cL_law 53 = .ok (.iconst 1, 1) := by decide +kernel
theorem dL_law_54 : decode cL_law 54 = .ok (.goto 4, 3) := by decide +kernel
theorem dL_law_57 : decode cL_law 57 = .ok (.iconst 0, 1) := by decide +kernel
theorem dL_law_58 : decode cL_law 58 = .ok (.invokestatic 96, 3) := by decide +kernel
theorem dL_law_61 : decode cL_law 61 = .ok (.istore 5, 2) := by decide +kernel
theorem dL_law_63 : decode cL_law 63 = .ok (.iload 5, 2) := by decide +kernel
theorem dL_law_65 : decode cL_law 65 = .ok (.ldc 16, 2) := by decide +kernel
theorem dL_law_67 : decode cL_law 67 = .ok (.if_icmp .eq 26, 3) := by decide +kernel
theorem dL_law_70 : decode cL_law 70 = .ok (.aload_n 2, 1) := by decide +kernel
theorem dL_law_71 : decode cL_law 71 = .ok (.iload 4, 2) := by decide +kernel
theorem dL_law_73 : decode cL_law 73 = .ok (.iload_n 3, 1) := by decide +kernel
theorem dL_law_74 : decode cL_law 74 = .ok (.iconst 3, 1) := by decide +kernel
theorem dL_law_75 : decode cL_law 75 = .ok (.irem, 1) := by decide +kernel
theorem dL_law_76 : decode cL_law 76 = .ok (.iconst 2, 1) := by decide +kernel
theorem dL_law_77 : decode cL_law 77 = .ok (.if_icmp .ne 7, 3) := by decide +kernel
theorem dL_law_80 : decode cL_law 80 = .ok (.iconst 1, 1) := by decide +kernel
theorem dL_law_81 : decode cL_law 81 = .ok (.goto 4, 3) := by decide +kernel
theorem dL_law_84 : decode cL_law 84 = .ok (.iconst 0, 1) := by decide +kernel
theorem dL_law_85 : decode cL_law 85 = .ok (.invokestatic 96, 3) := by decide +kernel
theorem dL_law_88 : decode cL_law 88 = .ok (.iload 5, 2) := by decide +kernel
theorem dL_law_90 : decode cL_law 90 = .ok (.if_icmp .ne 61, 3) := by decide +kernel
theorem dL_law_93 : decode cL_law 93 = .ok (.iload_n 3, 1) := by decide +kernel
theorem dL_law_94 : decode cL_law 94 = .ok (.bipush 9, 2) := by decide +kernel
theorem dL_law_96 : decode cL_law 96 = .ok (.irem, 1) := by decide +kernel
theorem dL_law_97 : decode cL_law 97 = .ok (.iconst 3, 1) := by decide +kernel
theorem dL_law_98 : decode cL_law 98 = .ok (.if_icmp .ne 19, 3) := by decide +kernel
theorem dL_law_101 : decode cL_law 101 = .ok (.aload_n 1, 1) := by decide +kernel
theorem dL_law_102 : decode cL_law 102 = .ok (.aload_n 2, 1) := by decide +kernel
theorem dL_law_103 : decode cL_law 103 = .ok (.iload 4, 2) := by decide +kernel
theorem dL_law_105 : decode cL_law 105 = .ok (.iconst 5, 1) := by decide +kernel
theorem dL_law_106 : decode cL_law 106 = .ok (.ishr, 1) := by decide +kernel
theorem dL_law_107 : decode cL_law 107 = .ok (.iconst 3, 1) := by decide +kernel
theorem dL_law_108 : decode cL_law 108 = .ok (.invokestatic 66, 3) := by decide +kernel
theorem dL_law_111 : decode cL_law 111 = .ok (.invokestatic 100, 3) := by decide +kernel
theorem dL_law_114 : decode cL_law 114 = .ok (.ifCond .eq 37, 3) := by decide +kernel
theorem dL_law_117 : decode cL_law 117 = .ok (.iload_n 3, 1) := by decide +kernel
theorem dL_law_118 : decode cL_law 118 = .ok (.bipush 6, 2) := by decide +kernel
theorem dL_law_120 : decode cL_law 120 = .ok (.irem, 1) := by decide +kernel
theorem dL_law_121 : decode cL_law 121 = .ok (.iconst 1, 1) := by decide +kernel
theorem dL_law_122 : decode cL_law 122 = .ok (.if_icmp .ne 31, 3) := by decide +kernel
theorem dL_law_125 : decode cL_law 125 = .ok (.aload_n 1, 1) := by decide +kernel
theorem dL_law_126 : decode cL_law 126 = .ok (.iload 4, 2) := by decide +kernel
theorem dL_law_128 : decode cL_law 128 = .ok (.bipush 7, 2) := by decide +kernel
theorem dL_law_130 : decode cL_law 130 = .ok (.ishr, 1) := by decide +kernel
theorem dL_law_131 : decode cL_law 131 = .ok (.bipush 18, 2) := by decide +kernel
theorem dL_law_133 : decode cL_law 133 = .ok (.invokestatic 66, 3) := by decide +kernel
theorem dL_law_136 : decode cL_law 136 = .ok (.iload 4, 2) := by decide +kernel
theorem dL_law_138 : decode cL_law 138 = .ok (.iconst 4, 1) := by decide +kernel
theorem dL_law_139 : decode cL_law 139 = .ok (.ishr, 1) := by decide +kernel
theorem dL_law_140 : decode cL_law 140 = .ok (.bipush 6, 2) := by decide +kernel
theorem dL_law_142 : decode cL_law 142 = .ok (.invokestatic 66, 3) := by decide +kernel
theorem dL_law_145 : decode cL_law 145 = .ok (.invokestatic 104, 3) := by decide +kernel
theorem dL_law_148 : decode cL_law 148 = .ok (.ifCond .ne 5, 3) := by decide +kernel
theorem dL_law_151 : decode cL_law 151 = .ok (.iconst 0, 1) := by decide +kernel
theorem dL_law_152 : decode cL_law 152 = .ok (.ireturn, 1) := by decide +kernel
theorem dL_law_153 : decode cL_law 153 = .ok (.iload_n 3, 1) := by decide +kernel
theorem dL_law_154 : decode cL_law 154 = .ok (.iconst 5, 1) := by decide +kernel
theorem dL_law_155 : decode cL_law 155 = .ok (.irem, 1) := by decide +kernel
theorem dL_law_156 : decode cL_law 156 = .ok (.iconst 4, 1) := by decide +kernel
theorem dL_law_157 : decode cL_law 157 = .ok (.if_icmp .ne 37, 3) := by decide +kernel
theorem dL_law_160 : decode cL_law 160 = .ok (.aload_n 1, 1) := by decide +kernel
theorem dL_law_161 : decode cL_law 161 = .ok (.aload_n 2, 1) := by decide +kernel
theorem dL_law_162 : decode cL_law 162 = .ok (.iload 4, 2) := by decide +kernel
theorem dL_law_164 : decode cL_law 164 = .ok (.bipush 6, 2) := by decide +kernel
theorem dL_law_166 : decode cL_law 166 = .ok (.ishr, 1) := by decide +kernel
theorem dL_law_167 : decode cL_law 167 = .ok (.bipush 18, 2) := by decide +kernel
theorem dL_law_169 : decode cL_law 169 = .ok (.invokestatic 66, 3) := by decide +kernel
theorem dL_law_172 : decode cL_law 172 = .ok (.iload 4, 2) := by decide +kernel
theorem dL_law_174 : decode cL_law 174 = .ok (.bipush 10, 2) := by decide +kernel
theorem dL_law_176 : decode cL_law 176 = .ok (.ishr, 1) := by decide +kernel
theorem dL_law_177 : decode cL_law 177 = .ok (.bipush 18, 2) := by decide +kernel
theorem dL_law_179 : decode cL_law 179 = .ok (.invokestatic 66, 3) := by decide +kernel
theorem dL_law_182 : decode cL_law 182 = .ok (.iload 4, 2) := by decide +kernel
theorem dL_law_184 : decode cL_law 184 = .ok (.iconst 3, 1) := by decide +kernel
theorem dL_law_185 : decode cL_law 185 = .ok (.ishr, 1) := by decide +kernel
theorem dL_law_186 : decode cL_law 186 = .ok (.invokestatic 108, 3) := by decide +kernel
theorem dL_law_189 : decode cL_law 189 = .ok (.ifCond .ne 5, 3) := by decide +kernel
theorem dL_law_192 : decode cL_law 192 = .ok (.iconst 0, 1) := by decide +kernel
theorem dL_law_193 : decode cL_law 193 = .ok (.ireturn, 1) := by decide +kernel
theorem dL_law_194 : decode cL_law 194 = .ok (.iinc 3 1, 3) := by decide +kernel
theorem dL_law_197 : decode cL_law 197 = .ok (.goto (-179), 3) := by decide +kernel
theorem dL_law_200 : decode cL_law 200 = .ok (.aload_n 1, 1) := by decide +kernel
theorem dL_law_201 : decode cL_law 201 = .ok (.aload_n 2, 1) := by decide +kernel
theorem dL_law_202 : decode cL_law 202 = .ok (.iconst 0, 1) := by decide +kernel
theorem dL_law_203 : decode cL_law 203 = .ok (.invokestatic 100, 3) := by decide +kernel
theorem dL_law_206 : decode cL_law 206 = .ok (.ifCond .eq 16, 3) := by decide +kernel
theorem dL_law_209 : decode cL_law 209 = .ok (.aload_n 1, 1) := by decide +kernel
theorem dL_law_210 : decode cL_law 210 = .ok (.iconst 0, 1) := by decide +kernel
theorem dL_law_211 : decode cL_law 211 = .ok (.iconst 0, 1) := by decide +kernel
theorem dL_law_212 : decode cL_law 212 = .ok (.invokestatic 104, 3) := by decide +kernel
theorem dL_law_215 : decode cL_law 215 = .ok (.ifCond .eq 7, 3) := by decide +kernel
theorem dL_law_218 : decode cL_law 218 = .ok (.iconst 1, 1) := by decide +kernel
theorem dL_law_219 : decode cL_law 219 = .ok (.goto 4, 3) := by decide +kernel
theorem dL_law_222 : decode cL_law 222 = .ok (.iconst 0, 1) := by decide +kernel
theorem dL_law_223 : decode cL_law 223 = .ok (.ireturn, 1) := by decide +kernel
