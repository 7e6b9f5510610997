theorem e_MM_init_0 : decode m_MM_init.2.1 0 = .ok (.aload_n 0, 1) := by decide +kernel
theorem e_MM_init_1 : decode m_MM_init.2.1 1 = .ok (.invokespecial 1, 3) := by decide +kernel
theorem e_MM_init_4 : decode m_MM_init.2.1 4 = .ok (.aload_n 0, 1) := by decide +kernel
theorem e_MM_init_5 : decode m_MM_init.2.1 5 = .ok (.bipush 10, 2) := by decide +kernel
theorem e_MM_init_7 : decode m_MM_init.2.1 7 = .ok (.newarray .int, 2) := by decide +kernel
theorem e_MM_init_9 : decode m_MM_init.2.1 9 = .ok (.putfield 7, 3) := by decide +kernel
theorem e_MM_init_12 : decode m_MM_init.2.1 12 = .ok (.aload_n 0, 1) := by decide +kernel
theorem e_MM_init_13 : decode m_MM_init.2.1 13 = .ok (.bipush 10, 2) := by decide +kernel
theorem e_MM_init_15 : decode m_MM_init.2.1 15 = .ok (.newarray .boolean, 2) := by decide +kernel
theorem e_MM_init_17 : decode m_MM_init.2.1 17 = .ok (.putfield 13, 3) := by decide +kernel
theorem e_MM_init_20 : decode m_MM_init.2.1 20 = .ok (.aload_n 0, 1) := by decide +kernel
theorem e_MM_init_21 : decode m_MM_init.2.1 21 = .ok (.bipush 10, 2) := by decide +kernel
theorem e_MM_init_23 : decode m_MM_init.2.1 23 = .ok (.newarray .boolean, 2) := by decide +kernel
theorem e_MM_init_25 : decode m_MM_init.2.1 25 = .ok (.putfield 17, 3) := by decide +kernel
theorem e_MM_init_28 : decode m_MM_init.2.1 28 = .ok (.aload_n 0, 1) := by decide +kernel
theorem e_MM_init_29 : decode m_MM_init.2.1 29 = .ok (.bipush 10, 2) := by decide +kernel
theorem e_MM_init_31 : decode m_MM_init.2.1 31 = .ok (.newarray .int, 2) := by decide +kernel
theorem e_MM_init_33 : decode m_MM_init.2.1 33 = .ok (.putfield 20, 3) := by decide +kernel
theorem e_MM_init_36 : decode m_MM_init.2.1 36 = .ok (.aload_n 0, 1) := by decide +kernel
theorem e_MM_init_37 : decode m_MM_init.2.1 37 = .ok (.bipush 10, 2) := by decide +kernel
theorem e_MM_init_39 : decode m_MM_init.2.1 39 = .ok (.newarray .int, 2) := by decide +kernel
theorem e_MM_init_41 : decode m_MM_init.2.1 41 = .ok (.putfield 23, 3) := by decide +kernel
theorem e_MM_init_44 : decode m_MM_init.2.1 44 = .ok (.aload_n 0, 1) := by decide +kernel
theorem e_MM_init_45 : decode m_MM_init.2.1 45 = .ok (.bipush 10, 2) := by decide +kernel
theorem e_MM_init_47 : decode m_MM_init.2.1 47 = .ok (.newarray .boolean, 2) := by decide +kernel
theorem e_MM_init_49 : decode m_MM_init.2.1 49 = .ok (.putfield 26, 3) := by decide +kernel
theorem e_MM_init_52 : decode m_MM_init.2.1 52 = .ok (.aload_n 0, 1) := by decide +kernel
theorem e_MM_init_53 : decode m_MM_init.2.1 53 = .ok (.bipush 10, 2) := by decide +kernel
theorem e_MM_init_55 : decode m_MM_init.2.1 55 = .ok (.newarray .int, 2) := by decide +kernel
theorem e_MM_init_57 : decode m_MM_init.2.1 57 = .ok (.putfield 29, 3) := by decide +kernel
theorem e_MM_init_60 : decode m_MM_init.2.1 60 = .ok (.aload_n 0, 1) := by decide +kernel
theorem e_MM_init_61 : decode m_MM_init.2.1 61 = .ok (.iconst 4, 1) := by decide +kernel
theorem e_MM_init_62 : decode m_MM_init.2.1 62 = .ok (.newarray .boolean, 2) := by decide +kernel
theorem e_MM_init_64 : decode m_MM_init.2.1 64 = .ok (.putfield 32, 3) := by decide +kernel
theorem e_MM_init_67 : decode m_MM_init.2.1 67 = .ok (.aload_n 0, 1) := by decide +kernel
theorem e_MM_init_68 : decode m_MM_init.2.1 68 = .ok (.iconst 4, 1) := by decide +kernel
theorem e_MM_init_69 : decode m_MM_init.2.1 69 = .ok (.newarray .boolean, 2) := by decide +kernel
theorem e_MM_init_71 : decode m_MM_init.2.1 71 = .ok (.putfield 35, 3) := by decide +kernel
theorem e_MM_init_74 : decode m_MM_init.2.1 74 = .ok (.aload_n 0, 1) := by decide +kernel
theorem e_MM_init_75 : decode m_MM_init.2.1 75 = .ok (.iconst 4, 1) := by decide +kernel
theorem e_MM_init_76 : decode m_MM_init.2.1 76 = .ok (.newarray .boolean, 2) := by decide +kernel
theorem e_MM_init_78 : decode m_MM_init.2.1 78 = .ok (.putfield 38, 3) := by decide +kernel
theorem e_MM_init_81 : decode m_MM_init.2.1 81 = .ok (.aload_n 0, 1) := by decide +kernel
theorem e_MM_init_82 : decode m_MM_init.2.1 82 = .ok (.iconst 4, 1) := by decide +kernel
theorem e_MM_init_83 : decode m_MM_init.2.1 83 = .ok (.newarray .int, 2) := by decide +kernel
theorem e_MM_init_85 : decode m_MM_init.2.1 85 = .ok (.putfield 41, 3) := by decide +kernel
theorem e_MM_init_88 : decode m_MM_init.2.1 88 = .ok (.aload_n 0, 1) := by decide +kernel
theorem e_MM_init_89 : decode m_MM_init.2.1 89 = .ok (.iconst 4, 1) := by decide +kernel
theorem e_MM_init_90 : decode m_MM_init.2.1 90 = .ok (.newarray .int, 2) := by decide +kernel
theorem e_MM_init_92 : decode m_MM_init.2.1 92 = .ok (.putfield 44, 3) := by decide +kernel
theorem e_MM_init_95 : decode m_MM_init.2.1 95 = .ok (.aload_n 0, 1) := by decide +kernel
theorem e_MM_init_96 : decode m_MM_init.2.1 96 = .ok (.iconst 4, 1) := by decide +kernel
theorem e_MM_init_97 : decode m_MM_init.2.1 97 = .ok (.newarray .int, 2) := by decide +kernel
theorem e_MM_init_99 : decode m_MM_init.2.1 99 = .ok (.putfield 47, 3) := by decide +kernel
theorem e_MM_init_102 : decode m_MM_init.2.1 102 = .ok (.aload_n 0, 1) := by decide +kernel
theorem e_MM_init_103 : decode m_MM_init.2.1 103 = .ok (.iconst 4, 1) := by decide +kernel
theorem e_MM_init_104 : decode m_MM_init.2.1 104 = .ok (.newarray .int, 2) := by decide +kernel
theorem e_MM_init_106 : decode m_MM_init.2.1 106 = .ok (.putfield 50, 3) := by decide +kernel
theorem e_MM_init_109 : decode m_MM_init.2.1 109 = .ok (.aload_n 0, 1) := by decide +kernel
theorem e_MM_init_110 : decode m_MM_init.2.1 110 = .ok (.iconst 4, 1) := by decide +kernel
theorem e_MM_init_111 : decode m_MM_init.2.1 111 = .ok (.newarray .int, 2) := by decide +kernel
theorem e_MM_init_113 : decode m_MM_init.2.1 113 = .ok (.putfield 53, 3) := by decide +kernel
theorem e_MM_init_116 : decode m_MM_init.2.1 116 = .ok (.aload_n 0, 1) := by decide +kernel
theorem e_MM_init_117 : decode m_MM_init.2.1 117 = .ok (.iconst 4, 1) := by decide +kernel
theorem e_MM_init_118 : decode m_MM_init.2.1 118 = .ok (.newarray .int, 2) := by decide +kernel
theorem e_MM_init_120 : decode m_MM_init.2.1 120 = .ok (.putfield 56, 3) := by decide +kernel
theorem e_MM_init_123 : decode m_MM_init.2.1 123 = .ok (.aload_n 0, 1) := by decide +kernel
theorem e_MM_init_124 : decode m_MM_init.2.1 124 = .ok (.iconst 4, 1) := by decide +kernel
theorem e_MM_init_125 : decode m_MM_init.2.1 125 = .ok (.newarray .int, 2) := by decide +kernel
theorem e_MM_init_127 : decode m_MM_init.2.1 127 = .ok (.putfield 59, 3) := by decide +kernel
theorem e_MM_init_130 : decode m_MM_init.2.1 130 = .ok (.aload_n 0, 1) := by decide +kernel
theorem e_MM_init_131 : decode m_MM_init.2.1 131 = .ok (.bipush 40, 2) := by decide +kernel
theorem e_MM_init_133 : decode m_MM_init.2.1 133 = .ok (.newarray .int, 2) := by decide +kernel
theorem e_MM_init_135 : decode m_MM_init.2.1 135 = .ok (.putfield 62, 3) := by decide +kernel
theorem e_MM_init_138 : decode m_MM_init.2.1 138 = .ok (.aload_n 0, 1) := by decide +kernel
theorem e_MM_init_139 : decode m_MM_init.2.1 139 = .ok (.bipush 40, 2) := by decide +kernel
theorem e_MM_init_141 : decode m_MM_init.2.1 141 = .ok (.newarray .int, 2) := by decide +kernel
theorem e_MM_init_143 : decode m_MM_init.2.1 143 = .ok (.putfield 65, 3) := by decide +kernel
theorem e_MM_init_146 : decode m_MM_init.2.1 146 = .ok (.aload_n 0, 1) := by decide +kernel
theorem e_MM_init_147 : decode m_MM_init.2.1 147 = .ok (.bipush 40, 2) := by decide +kernel
theorem e_MM_init_149 : decode m_MM_init.2.1 149 = .ok (.newarray .boolean, 2) := by decide +kernel
theorem e_MM_init_151 : decode m_MM_init.2.1 151 = .ok (.putfield 68, 3) := by decide +kernel
theorem e_MM_init_154 : decode m_MM_init.2.1 154 = .ok (.aload_n 0, 1) := by decide +kernel
theorem e_MM_init_155 : decode m_MM_init.2.1 155 = .ok (.iconst 2, 1) := by decide +kernel
theorem e_MM_init_156 : decode m_MM_init.2.1 156 = .ok (.newarray .int, 2) := by decide +kernel
theorem e_MM_init_158 : decode m_MM_init.2.1 158 = .ok (.putfield 71, 3) := by decide +kernel
theorem e_MM_init_161 : decode m_MM_init.2.1 161 = .ok (.aload_n 0, 1) := by decide +kernel
theorem e_MM_init_162 : decode m_MM_init.2.1 162 = .ok (.iconst 2, 1) := by decide +kernel
theorem e_MM_init_163 : decode m_MM_init.2.1 163 = .ok (.newarray .int, 2) := by decide +kernel
theorem e_MM_init_165 : decode m_MM_init.2.1 165 = .ok (.putfield 74, 3) := by decide +kernel
theorem e_MM_init_168 : decode m_MM_init.2.1 168 = .ok (.aload_n 0, 1) := by decide +kernel
theorem e_MM_init_169 : decode m_MM_init.2.1 169 = .ok (.iconst 4, 1) := by decide +kernel
theorem e_MM_init_170 : decode m_MM_init.2.1 170 = .ok (.newarray .int, 2) := by decide +kernel
theorem e_MM_init_172 : decode m_MM_init.2.1 172 = .ok (.putfield 77, 3) := by decide +kernel
theorem e_MM_init_175 : decode m_MM_init.2.1 175 = .ok (.aload_n 0, 1) := by decide +kernel
theorem e_MM_init_176 : decode m_MM_init.2.1 176 = .ok (.bipush 120, 2) := by decide +kernel
theorem e_MM_init_178 : decode m_MM_init.2.1 178 = .ok (.newarray .int, 2) := by decide +kernel
theorem e_MM_init_180 : decode m_MM_init.2.1 180 = .ok (.putfield 80, 3) := by decide +kernel
theorem e_MM_init_183 : decode m_MM_init.2.1 183 = .ok (.aload_n 0, 1) := by decide +kernel
theorem e_MM_init_184 : decode m_MM_init.2.1 184 = .ok (.bipush 120, 2) := by decide +kernel
theorem e_MM_init_186 : decode m_MM_init.2.1 186 = .ok (.newarray .int, 2) := by decide +kernel
theorem e_MM_init_188 : decode m_MM_init.2.1 188 = .ok (.putfield 83, 3) := by decide +kernel
theorem e_MM_init_191 : decode m_MM_init.2.1 191 = .ok (.aload_n 0, 1) := by decide +kernel
theorem e_MM_init_192 : decode m_MM_init.2.1 192 = .ok (.bipush 120, 2) := by decide +kernel
theorem e_MM_init_194 : decode m_MM_init.2.1 194 = .ok (.newarray .int, 2) := by decide +kernel
theorem e_MM_init_196 : decode m_MM_init.2.1 196 = .ok (.putfield 86, 3) := by decide +kernel
theorem e_MM_init_199 : decode m_MM_init.2.1 199 = .ok (.aload_n 0, 1) := by decide +kernel
theorem e_MM_init_200 : decode m_MM_init.2.1 200 = .ok (.bipush 120, 2) := by decide +kernel
theorem e_MM_init_202 : decode m_MM_init.2.1 202 = .ok (.newarray .int, 2) := by decide +kernel
theorem e_MM_init_204 : decode m_MM_init.2.1 204 = .ok (.putfield 89, 3) := by decide +kernel
theorem e_MM_init_207 : decode m_MM_init.2.1 207 = .ok (.aload_n 0, 1) := by decide +kernel
theorem e_MM_init_208 : decode m_MM_init.2.1 208 = .ok (.bipush 120, 2) := by decide +kernel
theorem e_MM_init_210 : decode m_MM_init.2.1 210 = .ok (.newarray .int, 2) := by decide +kernel
theorem e_MM_init_212 : decode m_MM_init.2.1 212 = .ok (.putfield 92, 3) := by decide +kernel
theorem e_MM_init_215 : decode m_MM_init.2.1 215 = .ok (.aload_n 0, 1) := by decide +kernel
theorem e_MM_init_216 : decode m_MM_init.2.1 216 = .ok (.bipush 120, 2) := by decide +kernel
theorem e_MM_init_218 : decode m_MM_init.2.1 218 = .ok (.newarray .boolean, 2) := by decide +kernel
theorem e_MM_init_220 : decode m_MM_init.2.1 220 = .ok (.putfield 95, 3) := by decide +kernel
theorem e_MM_init_223 : decode m_MM_init.2.1 223 = .ok (.aload_n 0, 1) := by decide +kernel
theorem e_MM_init_224 : decode m_MM_init.2.1 224 = .ok (.bipush 120, 2) := by decide +kernel
theorem e_MM_init_226 : decode m_MM_init.2.1 226 = .ok (.newarray .boolean, 2) := by decide +kernel
theorem e_MM_init_228 : decode m_MM_init.2.1 228 = .ok (.putfield 98, 3) := by decide +kernel
theorem e_MM_init_231 : decode m_MM_init.2.1 231 = .ok (.aload_n 0, 1) := by decide +kernel
theorem e_MM_init_232 : decode m_MM_init.2.1 232 = .ok (.bipush 120, 2) := by decide +kernel
theorem e_MM_init_234 : decode m_MM_init.2.1 234 = .ok (.newarray .int, 2) := by decide +kernel
theorem e_MM_init_236 : decode m_MM_init.2.1 236 = .ok (.putfield 101, 3) := by decide +kernel
theorem e_MM_init_239 : decode m_MM_init.2.1 239 = .ok (.aload_n 0, 1) := by decide +kernel
theorem e_MM_init_240 : decode m_MM_init.2.1 240 = .ok (.bipush 120, 2) := by decide +kernel
theorem e_MM_init_242 : decode m_MM_init.2.1 242 = .ok (.newarray .int, 2) := by decide +kernel
theorem e_MM_init_244 : decode m_MM_init.2.1 244 = .ok (.putfield 104, 3) := by decide +kernel
theorem e_MM_init_247 : decode m_MM_init.2.1 247 = .ok (.aload_n 0, 1) := by decide +kernel
theorem e_MM_init_248 : decode m_MM_init.2.1 248 = .ok (.bipush 120, 2) := by decide +kernel
theorem e_MM_init_250 : decode m_MM_init.2.1 250 = .ok (.newarray .int, 2) := by decide +kernel
theorem e_MM_init_252 : decode m_MM_init.2.1 252 = .ok (.putfield 107, 3) := by decide +kernel
theorem e_MM_init_255 : decode m_MM_init.2.1 255 = .ok (.aload_n 0, 1) := by decide +kernel
theorem e_MM_init_256 : decode m_MM_init.2.1 256 = .ok (.bipush 120, 2) := by decide +kernel
theorem e_MM_init_258 : decode m_MM_init.2.1 258 = .ok (.newarray .boolean, 2) := by decide +kernel
theorem e_MM_init_260 : decode m_MM_init.2.1 260 = .ok (.putfield 110, 3) := by decide +kernel
theorem e_MM_init_263 : decode m_MM_init.2.1 263 = .ok (.aload_n 0, 1) := by decide +kernel
theorem e_MM_init_264 : decode m_MM_init.2.1 264 = .ok (.iload_n 1, 1) := by decide +kernel
theorem e_MM_init_265 : decode m_MM_init.2.1 265 = .ok (.iconst 2, 1) := by decide +kernel
theorem e_MM_init_266 : decode m_MM_init.2.1 266 = .ok (.if_icmp .ge 7, 3) := by decide +kernel
theorem e_MM_init_269 : decode m_MM_init.2.1 269 = .ok (.iconst 2, 1) := by decide +kernel
theorem e_MM_init_270 : decode m_MM_init.2.1 270 = .ok (.goto 13, 3) := by decide +kernel
theorem e_MM_init_273 : decode m_MM_init.2.1 273 = .ok (.iload_n 1, 1) := by decide +kernel
theorem e_MM_init_274 : decode m_MM_init.2.1 274 = .ok (.iconst 4, 1) := by decide +kernel
theorem e_MM_init_275 : decode m_MM_init.2.1 275 = .ok (.if_icmp .le 7, 3) := by decide +kernel
theorem e_MM_init_278 : decode m_MM_init.2.1 278 = .ok (.iconst 4, 1) := by decide +kernel
theorem e_MM_init_279 : decode m_MM_init.2.1 279 = .ok (.goto 4, 3) := by decide +kernel
theorem e_MM_init_282 : decode m_MM_init.2.1 282 = .ok (.iload_n 1, 1) := by decide +kernel
theorem e_MM_init_283 : decode m_MM_init.2.1 283 = .ok (.putfield 113, 3) := by decide +kernel
theorem e_MM_init_286 : decode m_MM_init.2.1 286 = .ok (.aload_n 0, 1) := by decide +kernel
theorem e_MM_init_287 : decode m_MM_init.2.1 287 = .ok (.iload_n 2, 1) := by decide +kernel
theorem e_MM_init_288 : decode m_MM_init.2.1 288 = .ok (.ifCond .ge 7, 3) := by decide +kernel
theorem e_MM_init_291 : decode m_MM_init.2.1 291 = .ok (.iconst 0, 1) := by decide +kernel
theorem e_MM_init_292 : decode m_MM_init.2.1 292 = .ok (.goto 13, 3) := by decide +kernel
theorem e_MM_init_295 : decode m_MM_init.2.1 295 = .ok (.iload_n 2, 1) := by decide +kernel
theorem e_MM_init_296 : decode m_MM_init.2.1 296 = .ok (.iconst 4, 1) := by decide +kernel
theorem e_MM_init_297 : decode m_MM_init.2.1 297 = .ok (.if_icmp .le 7, 3) := by decide +kernel
theorem e_MM_init_300 : decode m_MM_init.2.1 300 = .ok (.iconst 4, 1) := by decide +kernel
theorem e_MM_init_301 : decode m_MM_init.2.1 301 = .ok (.goto 4, 3) := by decide +kernel
theorem e_MM_init_304 : decode m_MM_init.2.1 304 = .ok (.iload_n 2, 1) := by decide +kernel
theorem e_MM_init_305 : decode m_MM_init.2.1 305 = .ok (.putfield 117, 3) := by decide +kernel
theorem e_MM_init_308 : decode m_MM_init.2.1 308 = .ok (.aload_n 0, 1) := by decide +kernel
theorem e_MM_init_309 : decode m_MM_init.2.1 309 = .ok (.iload_n 3, 1) := by decide +kernel
theorem e_MM_init_310 : decode m_MM_init.2.1 310 = .ok (.iconst 1, 1) := by decide +kernel
theorem e_MM_init_311 : decode m_MM_init.2.1 311 = .ok (.if_icmp .ge 7, 3) := by decide +kernel
theorem e_MM_init_314 : decode m_MM_init.2.1 314 = .ok (.iconst 1, 1) := by decide +kernel
theorem e_MM_init_315 : decode m_MM_init.2.1 315 = .ok (.goto 15, 3) := by decide +kernel
theorem e_MM_init_318 : decode m_MM_init.2.1 318 = .ok (.iload_n 3, 1) := by decide +kernel
theorem e_MM_init_319 : decode m_MM_init.2.1 319 = .ok (.bipush 20, 2) := by decide +kernel
theorem e_MM_init_321 : decode m_MM_init.2.1 321 = .ok (.if_icmp .le 8, 3) := by decide +kernel
theorem e_MM_init_324 : decode m_MM_init.2.1 324 = .ok (.bipush 20, 2) := by decide +kernel
theorem e_MM_init_326 : decode m_MM_init.2.1 326 = .ok (.goto 4, 3) := by decide +kernel
theorem e_MM_init_329 : decode m_MM_init.2.1 329 = .ok (.iload_n 3, 1) := by decide +kernel
theorem e_MM_init_330 : decode m_MM_init.2.1 330 = .ok (.putfield 120, 3) := by decide +kernel
theorem e_MM_init_333 : decode m_MM_init.2.1 333 = .ok (.iconst 0, 1) := by decide +kernel
theorem e_MM_init_334 : decode m_MM_init.2.1 334 = .ok (.istore 4, 2) := by decide +kernel
theorem e_MM_init_336 : decode m_MM_init.2.1 336 = .ok (.iload 4, 2) := by decide +kernel
theorem e_MM_init_338 : decode m_MM_init.2.1 338 = .ok (.bipush 10, 2) := by decide +kernel
theorem e_MM_init_340 : decode m_MM_init.2.1 340 = .ok (.if_icmp .ge 17, 3) := by decide +kernel
theorem e_MM_init_343 : decode m_MM_init.2.1 343 = .ok (.aload_n 0, 1) := by decide +kernel
theorem e_MM_init_344 : decode m_MM_init.2.1 344 = .ok (.getfield 23, 3) := by decide +kernel
theorem e_MM_init_347 : decode m_MM_init.2.1 347 = .ok (.iload 4, 2) := by decide +kernel
theorem e_MM_init_349 : decode m_MM_init.2.1 349 = .ok (.iconst (-1), 1) := by decide +kernel
theorem e_MM_init_350 : decode m_MM_init.2.1 350 = .ok (.iastore, 1) := by decide +kernel
theorem e_MM_init_351 : decode m_MM_init.2.1 351 = .ok (.iinc 4 1, 3) := by decide +kernel
theorem e_MM_init_354 : decode m_MM_init.2.1 354 = .ok (.goto (-18), 3) := by decide +kernel
theorem e_MM_init_357 : decode m_MM_init.2.1 357 = .ok (.iconst 0, 1) := by decide +kernel
theorem e_MM_init_358 : decode m_MM_init.2.1 358 = .ok (.istore 4, 2) := by decide +kernel
theorem e_MM_init_360 : decode m_MM_init.2.1 360 = .ok (.iload 4, 2) := by decide +kernel
theorem e_MM_init_362 : decode m_MM_init.2.1 362 = .ok (.iconst 2, 1) := by decide +kernel
theorem e_MM_init_363 : decode m_MM_init.2.1 363 = .ok (.if_icmp .ge 49, 3) := by decide +kernel
theorem e_MM_init_366 : decode m_MM_init.2.1 366 = .ok (.iconst 2, 1) := by decide +kernel
theorem e_MM_init_367 : decode m_MM_init.2.1 367 = .ok (.aload_n 0, 1) := by decide +kernel
theorem e_MM_init_368 : decode m_MM_init.2.1 368 = .ok (.getfield 113, 3) := by decide +kernel
theorem e_MM_init_371 : decode m_MM_init.2.1 371 = .ok (.imul, 1) := by decide +kernel
theorem e_MM_init_372 : decode m_MM_init.2.1 372 = .ok (.iload 4, 2) := by decide +kernel
theorem e_MM_init_374 : decode m_MM_init.2.1 374 = .ok (.iadd, 1) := by decide +kernel
theorem e_MM_init_375 : decode m_MM_init.2.1 375 = .ok (.istore 5, 2) := by decide +kernel
theorem e_MM_init_377 : decode m_MM_init.2.1 377 = .ok (.aload_n 0, 1) := by decide +kernel
theorem e_MM_init_378 : decode m_MM_init.2.1 378 = .ok (.getfield 7, 3) := by decide +kernel
theorem e_MM_init_381 : decode m_MM_init.2.1 381 = .ok (.iload 5, 2) := by decide +kernel
theorem e_MM_init_383 : decode m_MM_init.2.1 383 = .ok (.aload_n 0, 1) := by decide +kernel
theorem e_MM_init_384 : decode m_MM_init.2.1 384 = .ok (.getfield 113, 3) := by decide +kernel
theorem e_MM_init_387 : decode m_MM_init.2.1 387 = .ok (.iconst 1, 1) := by decide +kernel
theorem e_MM_init_388 : decode m_MM_init.2.1 388 = .ok (.iadd, 1) := by decide +kernel
theorem e_MM_init_389 : decode m_MM_init.2.1 389 = .ok (.iastore, 1) := by decide +kernel
theorem e_MM_init_390 : decode m_MM_init.2.1 390 = .ok (.aload_n 0, 1) := by decide +kernel
theorem e_MM_init_391 : decode m_MM_init.2.1 391 = .ok (.getfield 13, 3) := by decide +kernel
theorem e_MM_init_394 : decode m_MM_init.2.1 394 = .ok (.iload 5, 2) := by decide +kernel
theorem e_MM_init_396 : decode m_MM_init.2.1 396 = .ok (.iconst 1, 1) := by decide +kernel
theorem e_MM_init_397 : decode m_MM_init.2.1 397 = .ok (.bastore, 1) := by decide +kernel
theorem e_MM_init_398 : decode m_MM_init.2.1 398 = .ok (.aload_n 0, 1) := by decide +kernel
theorem e_MM_init_399 : decode m_MM_init.2.1 399 = .ok (.getfield 17, 3) := by decide +kernel
theorem e_MM_init_402 : decode m_MM_init.2.1 402 = .ok (.iload 5, 2) := by decide +kernel
theorem e_MM_init_404 : decode m_MM_init.2.1 404 = .ok (.iconst 1, 1) := by decide +kernel
theorem e_MM_init_405 : decode m_MM_init.2.1 405 = .ok (.bastore, 1) := by decide +kernel
theorem e_MM_init_406 : decode m_MM_init.2.1 406 = .ok (.iinc 4 1, 3) := by decide +kernel
theorem e_MM_init_409 : decode m_MM_init.2.1 409 = .ok (.goto (-49), 3) := by decide +kernel
theorem e_MM_init_412 : decode m_MM_init.2.1 412 = .ok (.return_, 1) := by decide +kernel
theorem e_MM_isCore_0 : decode m_MM_isCore.2.1 0 = .ok (.iload_n 1, 1) := by decide +kernel
theorem e_MM_isCore_1 : decode m_MM_isCore.2.1 1 = .ok (.ifCond .lt 15, 3) := by decide +kernel
theorem e_MM_isCore_4 : decode m_MM_isCore.2.1 4 = .ok (.iload_n 1, 1) := by decide +kernel
theorem e_MM_isCore_5 : decode m_MM_isCore.2.1 5 = .ok (.aload_n 0, 1) := by decide +kernel
theorem e_MM_isCore_6 : decode m_MM_isCore.2.1 6 = .ok (.getfield 113, 3) := by decide +kernel
theorem e_MM_isCore_9 : decode m_MM_isCore.2.1 9 = .ok (.if_icmp .ge 7, 3) := by decide +kernel
theorem e_MM_isCore_12 : decode m_MM_isCore.2.1 12 = .ok (.iconst 1, 1) := by decide +kernel
theorem e_MM_isCore_13 : decode m_MM_isCore.2.1 13 = .ok (.goto 4, 3) := by decide +kernel
theorem e_MM_isCore_16 : decode m_MM_isCore.2.1 16 = .ok (.iconst 0, 1) := by decide +kernel
theorem e_MM_isCore_17 : decode m_MM_isCore.2.1 17 = .ok (.ireturn, 1) := by decide +kernel
theorem e_MM_isNode_0 : decode m_MM_isNode.2.1 0 = .ok (.iload_n 1, 1) := by decide +kernel
theorem e_MM_isNode_1 : decode m_MM_isNode.2.1 1 = .ok (.ifCond .lt 15, 3) := by decide +kernel
theorem e_MM_isNode_4 : decode m_MM_isNode.2.1 4 = .ok (.iload_n 1, 1) := by decide +kernel
theorem e_MM_isNode_5 : decode m_MM_isNode.2.1 5 = .ok (.aload_n 0, 1) := by decide +kernel
theorem e_MM_isNode_6 : decode m_MM_isNode.2.1 6 = .ok (.getfield 113, 3) := by decide +kernel
theorem e_MM_isNode_9 : decode m_MM_isNode.2.1 9 = .ok (.if_icmp .gt 7, 3) := by decide +kernel
theorem e_MM_isNode_12 : decode m_MM_isNode.2.1 12 = .ok (.iconst 1, 1) := by decide +kernel
theorem e_MM_isNode_13 : decode m_MM_isNode.2.1 13 = .ok (.goto 4, 3) := by decide +kernel
theorem e_MM_isNode_16 : decode m_MM_isNode.2.1 16 = .ok (.iconst 0, 1) := by decide +kernel
theorem e_MM_isNode_17 : decode m_MM_isNode.2.1 17 = .ok (.ireturn, 1) := by decide +kernel
theorem e_MM_isBlock_0 : decode m_MM_isBlock.2.1 0 = .ok (.iload_n 0, 1) := by decide +kernel
theorem e_MM_isBlock_1 : decode m_MM_isBlock.2.1 1 = .ok (.ifCond .eq 8, 3) := by decide +kernel
theorem e_MM_isBlock_4 : decode m_MM_isBlock.2.1 4 = .ok (.iload_n 0, 1) := by decide +kernel
theorem e_MM_isBlock_5 : decode m_MM_isBlock.2.1 5 = .ok (.iconst 1, 1) := by decide +kernel
theorem e_MM_isBlock_6 : decode m_MM_isBlock.2.1 6 = .ok (.if_icmp .ne 7, 3) := by decide +kernel
theorem e_MM_isBlock_9 : decode m_MM_isBlock.2.1 9 = .ok (.iconst 1, 1) := by decide +kernel
theorem e_MM_isBlock_10 : decode m_MM_isBlock.2.1 10 = .ok (.goto 4, 3) := by decide +kernel
theorem e_MM_isBlock_13 : decode m_MM_isBlock.2.1 13 = .ok (.iconst 0, 1) := by decide +kernel
theorem e_MM_isBlock_14 : decode m_MM_isBlock.2.1 14 = .ok (.ireturn, 1) := by decide +kernel
theorem e_MM_move_0 : decode m_MM_move.2.1 0 = .ok (.aload_n 0, 1) := by decide +kernel
theorem e_MM_move_1 : decode m_MM_move.2.1 1 = .ok (.getfield 80, 3) := by decide +kernel
theorem e_MM_move_4 : decode m_MM_move.2.1 4 = .ok (.iload_n 2, 1) := by decide +kernel
theorem e_MM_move_5 : decode m_MM_move.2.1 5 = .ok (.aload_n 0, 1) := by decide +kernel
theorem e_MM_move_6 : decode m_MM_move.2.1 6 = .ok (.getfield 80, 3) := by decide +kernel
theorem e_MM_move_9 : decode m_MM_move.2.1 9 = .ok (.iload_n 1, 1) := by decide +kernel
theorem e_MM_move_10 : decode m_MM_move.2.1 10 = .ok (.iaload, 1) := by decide +kernel
theorem e_MM_move_11 : decode m_MM_move.2.1 11 = .ok (.iastore, 1) := by decide +kernel
theorem e_MM_move_12 : decode m_MM_move.2.1 12 = .ok (.aload_n 0, 1) := by decide +kernel
theorem e_MM_move_13 : decode m_MM_move.2.1 13 = .ok (.getfield 83, 3) := by decide +kernel
theorem e_MM_move_16 : decode m_MM_move.2.1 16 = .ok (.iload_n 2, 1) := by decide +kernel
theorem e_MM_move_17 : decode m_MM_move.2.1 17 = .ok (.aload_n 0, 1) := by decide +kernel
theorem e_MM_move_18 : decode m_MM_move.2.1 18 = .ok (.getfield 83, 3) := by decide +kernel
theorem e_MM_move_21 : decode m_MM_move.2.1 21 = .ok (.iload_n 1, 1) := by decide +kernel
theorem e_MM_move_22 : decode m_MM_move.2.1 22 = .ok (.iaload, 1) := by decide +kernel
theorem e_MM_move_23 : decode m_MM_move.2.1 23 = .ok (.iastore, 1) := by decide +kernel
theorem e_MM_move_24 : decode m_MM_move.2.1 24 = .ok (.aload_n 0, 1) := by decide +kernel
theorem e_MM_move_25 : decode m_MM_move.2.1 25 = .ok (.getfield 86, 3) := by decide +kernel
theorem e_MM_move_28 : decode m_MM_move.2.1 28 = .ok (.iload_n 2, 1) := by decide +kernel
theorem e_MM_move_29 : decode m_MM_move.2.1 29 = .ok (.aload_n 0, 1) := by decide +kernel
theorem e_MM_move_30 : decode m_MM_move.2.1 30 = .ok (.getfield 86, 3) := by decide +kernel
theorem e_MM_move_33 : decode m_MM_move.2.1 33 = .ok (.iload_n 1, 1) := by decide +kernel
theorem e_MM_move_34 : decode m_MM_move.2.1 34 = .ok (.iaload, 1) := by decide +kernel
theorem e_MM_move_35 : decode m_MM_move.2.1 35 = .ok (.iastore, 1) := by decide +kernel
theorem e_MM_move_36 : decode m_MM_move.2.1 36 = .ok (.aload_n 0, 1) := by decide +kernel
theorem e_MM_move_37 : decode m_MM_move.2.1 37 = .ok (.getfield 89, 3) := by decide +kernel
theorem e_MM_move_40 : decode m_MM_move.2.1 40 = .ok (.iload_n 2, 1) := by decide +kernel
theorem e_MM_move_41 : decode m_MM_move.2.1 41 = .ok (.aload_n 0, 1) := by decide +kernel
theorem e_MM_move_42 : decode m_MM_move.2.1 42 = .ok (.getfield 89, 3) := by decide +kernel
theorem e_MM_move_45 : decode m_MM_move.2.1 45 = .ok (.iload_n 1, 1) := by decide +kernel
theorem e_MM_move_46 : decode m_MM_move.2.1 46 = .ok (.iaload, 1) := by decide +kernel
theorem e_MM_move_47 : decode m_MM_move.2.1 47 = .ok (.iastore, 1) := by decide +kernel
theorem e_MM_move_48 : decode m_MM_move.2.1 48 = .ok (.aload_n 0, 1) := by decide +kernel
theorem e_MM_move_49 : decode m_MM_move.2.1 49 = .ok (.getfield 92, 3) := by decide +kernel
theorem e_MM_move_52 : decode m_MM_move.2.1 52 = .ok (.iload_n 2, 1) := by decide +kernel
theorem e_MM_move_53 : decode m_MM_move.2.1 53 = .ok (.aload_n 0, 1) := by decide +kernel
theorem e_MM_move_54 : decode m_MM_move.2.1 54 = .ok (.getfield 92, 3) := by decide +kernel
theorem e_MM_move_57 : decode m_MM_move.2.1 57 = .ok (.iload_n 1, 1) := by decide +kernel
theorem e_MM_move_58 : decode m_MM_move.2.1 58 = .ok (.iaload, 1) := by decide +kernel
theorem e_MM_move_59 : decode m_MM_move.2.1 59 = .ok (.iastore, 1) := by decide +kernel
theorem e_MM_move_60 : decode m_MM_move.2.1 60 = .ok (.aload_n 0, 1) := by decide +kernel
theorem e_MM_move_61 : decode m_MM_move.2.1 61 = .ok (.getfield 95, 3) := by decide +kernel
theorem e_MM_move_64 : decode m_MM_move.2.1 64 = .ok (.iload_n 2, 1) := by decide +kernel
theorem e_MM_move_65 : decode m_MM_move.2.1 65 = .ok (.aload_n 0, 1) := by decide +kernel
theorem e_MM_move_66 : decode m_MM_move.2.1 66 = .ok (.getfield 95, 3) := by decide +kernel
theorem e_MM_move_69 : decode m_MM_move.2.1 69 = .ok (.iload_n 1, 1) := by decide +kernel
theorem e_MM_move_70 : decode m_MM_move.2.1 70 = .ok (.baload, 1) := by decide +kernel
theorem e_MM_move_71 : decode m_MM_move.2.1 71 = .ok (.bastore, 1) := by decide +kernel
theorem e_MM_move_72 : decode m_MM_move.2.1 72 = .ok (.aload_n 0, 1) := by decide +kernel
theorem e_MM_move_73 : decode m_MM_move.2.1 73 = .ok (.getfield 98, 3) := by decide +kernel
theorem e_MM_move_76 : decode m_MM_move.2.1 76 = .ok (.iload_n 2, 1) := by decide +kernel
theorem e_MM_move_77 : decode m_MM_move.2.1 77 = .ok (.aload_n 0, 1) := by decide +kernel
theorem e_MM_move_78 : decode m_MM_move.2.1 78 = .ok (.getfield 98, 3) := by decide +kernel
theorem e_MM_move_81 : decode m_MM_move.2.1 81 = .ok (.iload_n 1, 1) := by decide +kernel
theorem e_MM_move_82 : decode m_MM_move.2.1 82 = .ok (.baload, 1) := by decide +kernel
theorem e_MM_move_83 : decode m_MM_move.2.1 83 = .ok (.bastore, 1) := by decide +kernel
theorem e_MM_move_84 : decode m_MM_move.2.1 84 = .ok (.aload_n 0, 1) := by decide +kernel
theorem e_MM_move_85 : decode m_MM_move.2.1 85 = .ok (.getfield 101, 3) := by decide +kernel
theorem e_MM_move_88 : decode m_MM_move.2.1 88 = .ok (.iload_n 2, 1) := by decide +kernel
theorem e_MM_move_89 : decode m_MM_move.2.1 89 = .ok (.aload_n 0, 1) := by decide +kernel
theorem e_MM_move_90 : decode m_MM_move.2.1 90 = .ok (.getfield 101, 3) := by decide +kernel
theorem e_MM_move_93 : decode m_MM_move.2.1 93 = .ok (.iload_n 1, 1) := by decide +kernel
theorem e_MM_move_94 : decode m_MM_move.2.1 94 = .ok (.iaload, 1) := by decide +kernel
theorem e_MM_move_95 : decode m_MM_move.2.1 95 = .ok (.iastore, 1) := by decide +kernel
theorem e_MM_move_96 : decode m_MM_move.2.1 96 = .ok (.aload_n 0, 1) := by decide +kernel
theorem e_MM_move_97 : decode m_MM_move.2.1 97 = .ok (.getfield 104, 3) := by decide +kernel
theorem e_MM_move_100 : decode m_MM_move.2.1 100 = .ok (.iload_n 2, 1) := by decide +kernel
theorem e_MM_move_101 : decode m_MM_move.2.1 101 = .ok (.aload_n 0, 1) := by decide +kernel
theorem e_MM_move_102 : decode m_MM_move.2.1 102 = .ok (.getfield 104, 3) := by decide +kernel
theorem e_MM_move_105 : decode m_MM_move.2.1 105 = .ok (.iload_n 1, 1) := by decide +kernel
theorem e_MM_move_106 : decode m_MM_move.2.1 106 = .ok (.iaload, 1) := by decide +kernel
theorem e_MM_move_107 : decode m_MM_move.2.1 107 = .ok (.iastore, 1) := by decide +kernel
theorem e_MM_move_108 : decode m_MM_move.2.1 108 = .ok (.aload_n 0, 1) := by decide +kernel
theorem e_MM_move_109 : decode m_MM_move.2.1 109 = .ok (.getfield 107, 3) := by decide +kernel
theorem e_MM_move_112 : decode m_MM_move.2.1 112 = .ok (.iload_n 2, 1) := by decide +kernel
theorem e_MM_move_113 : decode m_MM_move.2.1 113 = .ok (.aload_n 0, 1) := by decide +kernel
theorem e_MM_move_114 : decode m_MM_move.2.1 114 = .ok (.getfield 107, 3) := by decide +kernel
theorem e_MM_move_117 : decode m_MM_move.2.1 117 = .ok (.iload_n 1, 1) := by decide +kernel
theorem e_MM_move_118 : decode m_MM_move.2.1 118 = .ok (.iaload, 1) := by decide +kernel
theorem e_MM_move_119 : decode m_MM_move.2.1 119 = .ok (.iastore, 1) := by decide +kernel
theorem e_MM_move_120 : decode m_MM_move.2.1 120 = .ok (.aload_n 0, 1) := by decide +kernel
theorem e_MM_move_121 : decode m_MM_move.2.1 121 = .ok (.getfield 110, 3) := by decide +kernel
theorem e_MM_move_124 : decode m_MM_move.2.1 124 = .ok (.iload_n 2, 1) := by decide +kernel
theorem e_MM_move_125 : decode m_MM_move.2.1 125 = .ok (.aload_n 0, 1) := by decide +kernel
theorem e_MM_move_126 : decode m_MM_move.2.1 126 = .ok (.getfield 110, 3) := by decide +kernel
theorem e_MM_move_129 : decode m_MM_move.2.1 129 = .ok (.iload_n 1, 1) := by decide +kernel
theorem e_MM_move_130 : decode m_MM_move.2.1 130 = .ok (.baload, 1) := by decide +kernel
theorem e_MM_move_131 : decode m_MM_move.2.1 131 = .ok (.bastore, 1) := by decide +kernel
theorem e_MM_move_132 : decode m_MM_move.2.1 132 = .ok (.return_, 1) := by decide +kernel
theorem e_MM_remove_0 : decode m_MM_remove.2.1 0 = .ok (.aload_n 0, 1) := by decide +kernel
theorem e_MM_remove_1 : decode m_MM_remove.2.1 1 = .ok (.dup, 1) := by decide +kernel
theorem e_MM_remove_2 : decode m_MM_remove.2.1 2 = .ok (.getfield 126, 3) := by decide +kernel
theorem e_MM_remove_5 : decode m_MM_remove.2.1 5 = .ok (.iconst 1, 1) := by decide +kernel
theorem e_MM_remove_6 : decode m_MM_remove.2.1 6 = .ok (.isub, 1) := by decide +kernel
theorem e_MM_remove_7 : decode m_MM_remove.2.1 7 = .ok (.putfield 126, 3) := by decide +kernel
theorem e_MM_remove_10 : decode m_MM_remove.2.1 10 = .ok (.iload_n 1, 1) := by decide +kernel
theorem e_MM_remove_11 : decode m_MM_remove.2.1 11 = .ok (.istore_n 2, 1) := by decide +kernel
theorem e_MM_remove_12 : decode m_MM_remove.2.1 12 = .ok (.iload_n 2, 1) := by decide +kernel
theorem e_MM_remove_13 : decode m_MM_remove.2.1 13 = .ok (.aload_n 0, 1) := by decide +kernel
theorem e_MM_remove_14 : decode m_MM_remove.2.1 14 = .ok (.getfield 126, 3) := by decide +kernel
theorem e_MM_remove_17 : decode m_MM_remove.2.1 17 = .ok (.if_icmp .ge 17, 3) := by decide +kernel
theorem e_MM_remove_20 : decode m_MM_remove.2.1 20 = .ok (.aload_n 0, 1) := by decide +kernel
theorem e_MM_remove_21 : decode m_MM_remove.2.1 21 = .ok (.iload_n 2, 1) := by decide +kernel
theorem e_MM_remove_22 : decode m_MM_remove.2.1 22 = .ok (.iconst 1, 1) := by decide +kernel
theorem e_MM_remove_23 : decode m_MM_remove.2.1 23 = .ok (.iadd, 1) := by decide +kernel
theorem e_MM_remove_24 : decode m_MM_remove.2.1 24 = .ok (.iload_n 2, 1) := by decide +kernel
theorem e_MM_remove_25 : decode m_MM_remove.2.1 25 = .ok (.invokevirtual 129, 3) := by decide +kernel
theorem e_MM_remove_28 : decode m_MM_remove.2.1 28 = .ok (.iinc 2 1, 3) := by decide +kernel
theorem e_MM_remove_31 : decode m_MM_remove.2.1 31 = .ok (.goto (-19), 3) := by decide +kernel
theorem e_MM_remove_34 : decode m_MM_remove.2.1 34 = .ok (.return_, 1) := by decide +kernel
theorem e_MM_send_0 : decode m_MM_send.2.1 0 = .ok (.aload_n 0, 1) := by decide +kernel
theorem e_MM_send_1 : decode m_MM_send.2.1 1 = .ok (.getfield 126, 3) := by decide +kernel
theorem e_MM_send_4 : decode m_MM_send.2.1 4 = .ok (.iconst 1, 1) := by decide +kernel
theorem e_MM_send_5 : decode m_MM_send.2.1 5 = .ok (.isub, 1) := by decide +kernel
theorem e_MM_send_6 : decode m_MM_send.2.1 6 = .ok (.istore 5, 2) := by decide +kernel
theorem e_MM_send_8 : decode m_MM_send.2.1 8 = .ok (.iload 5, 2) := by decide +kernel
theorem e_MM_send_10 : decode m_MM_send.2.1 10 = .ok (.ifCond .lt 82, 3) := by decide +kernel
theorem e_MM_send_13 : decode m_MM_send.2.1 13 = .ok (.iload_n 1, 1) := by decide +kernel
theorem e_MM_send_14 : decode m_MM_send.2.1 14 = .ok (.iconst 3, 1) := by decide +kernel
theorem e_MM_send_15 : decode m_MM_send.2.1 15 = .ok (.if_icmp .eq 77, 3) := by decide +kernel
theorem e_MM_send_18 : decode m_MM_send.2.1 18 = .ok (.aload_n 0, 1) := by decide +kernel
theorem e_MM_send_19 : decode m_MM_send.2.1 19 = .ok (.getfield 80, 3) := by decide +kernel
theorem e_MM_send_22 : decode m_MM_send.2.1 22 = .ok (.iload 5, 2) := by decide +kernel
theorem e_MM_send_24 : decode m_MM_send.2.1 24 = .ok (.iaload, 1) := by decide +kernel
theorem e_MM_send_25 : decode m_MM_send.2.1 25 = .ok (.iload_n 1, 1) := by decide +kernel
theorem e_MM_send_26 : decode m_MM_send.2.1 26 = .ok (.if_icmp .ne 46, 3) := by decide +kernel
theorem e_MM_send_29 : decode m_MM_send.2.1 29 = .ok (.aload_n 0, 1) := by decide +kernel
theorem e_MM_send_30 : decode m_MM_send.2.1 30 = .ok (.getfield 86, 3) := by decide +kernel
theorem e_MM_send_33 : decode m_MM_send.2.1 33 = .ok (.iload 5, 2) := by decide +kernel
theorem e_MM_send_35 : decode m_MM_send.2.1 35 = .ok (.iaload, 1) := by decide +kernel
theorem e_MM_send_36 : decode m_MM_send.2.1 36 = .ok (.iload_n 2, 1) := by decide +kernel
theorem e_MM_send_37 : decode m_MM_send.2.1 37 = .ok (.if_icmp .ne 35, 3) := by decide +kernel
theorem e_MM_send_40 : decode m_MM_send.2.1 40 = .ok (.aload_n 0, 1) := by decide +kernel
theorem e_MM_send_41 : decode m_MM_send.2.1 41 = .ok (.getfield 83, 3) := by decide +kernel
theorem e_MM_send_44 : decode m_MM_send.2.1 44 = .ok (.iload 5, 2) := by decide +kernel
theorem e_MM_send_46 : decode m_MM_send.2.1 46 = .ok (.iaload, 1) := by decide +kernel
theorem e_MM_send_47 : decode m_MM_send.2.1 47 = .ok (.iload_n 3, 1) := by decide +kernel
theorem e_MM_send_48 : decode m_MM_send.2.1 48 = .ok (.if_icmp .ne 24, 3) := by decide +kernel
theorem e_MM_send_51 : decode m_MM_send.2.1 51 = .ok (.iload_n 1, 1) := by decide +kernel
theorem e_MM_send_52 : decode m_MM_send.2.1 52 = .ok (.iconst 5, 1) := by decide +kernel
theorem e_MM_send_53 : decode m_MM_send.2.1 53 = .ok (.if_icmp .ne 15, 3) := by decide +kernel
theorem e_MM_send_56 : decode m_MM_send.2.1 56 = .ok (.aload_n 0, 1) := by decide +kernel
theorem e_MM_send_57 : decode m_MM_send.2.1 57 = .ok (.getfield 89, 3) := by decide +kernel
theorem e_MM_send_60 : decode m_MM_send.2.1 60 = .ok (.iload 5, 2) := by decide +kernel
theorem e_MM_send_62 : decode m_MM_send.2.1 62 = .ok (.iaload, 1) := by decide +kernel
theorem e_MM_send_63 : decode m_MM_send.2.1 63 = .ok (.iload 4, 2) := by decide +kernel
theorem e_MM_send_65 : decode m_MM_send.2.1 65 = .ok (.if_icmp .ne 7, 3) := by decide +kernel
theorem e_MM_send_68 : decode m_MM_send.2.1 68 = .ok (.iconst 1, 1) := by decide +kernel
theorem e_MM_send_69 : decode m_MM_send.2.1 69 = .ok (.goto 4, 3) := by decide +kernel
theorem e_MM_send_72 : decode m_MM_send.2.1 72 = .ok (.iconst 0, 1) := by decide +kernel
theorem e_MM_send_73 : decode m_MM_send.2.1 73 = .ok (.istore 6, 2) := by decide +kernel
theorem e_MM_send_75 : decode m_MM_send.2.1 75 = .ok (.iload 6, 2) := by decide +kernel
theorem e_MM_send_77 : decode m_MM_send.2.1 77 = .ok (.ifCond .eq 9, 3) := by decide +kernel
theorem e_MM_send_80 : decode m_MM_send.2.1 80 = .ok (.aload_n 0, 1) := by decide +kernel
theorem e_MM_send_81 : decode m_MM_send.2.1 81 = .ok (.iload 5, 2) := by decide +kernel
theorem e_MM_send_83 : decode m_MM_send.2.1 83 = .ok (.invokevirtual 133, 3) := by decide +kernel
theorem e_MM_send_86 : decode m_MM_send.2.1 86 = .ok (.iinc 5 (-1), 3) := by decide +kernel
theorem e_MM_send_89 : decode m_MM_send.2.1 89 = .ok (.goto (-81), 3) := by decide +kernel
theorem e_MM_send_92 : decode m_MM_send.2.1 92 = .ok (.aload_n 0, 1) := by decide +kernel
theorem e_MM_send_93 : decode m_MM_send.2.1 93 = .ok (.getfield 126, 3) := by decide +kernel
theorem e_MM_send_96 : decode m_MM_send.2.1 96 = .ok (.istore 5, 2) := by decide +kernel
theorem e_MM_send_98 : decode m_MM_send.2.1 98 = .ok (.aload_n 0, 1) := by decide +kernel
theorem e_MM_send_99 : decode m_MM_send.2.1 99 = .ok (.getfield 80, 3) := by decide +kernel
theorem e_MM_send_102 : decode m_MM_send.2.1 102 = .ok (.iload 5, 2) := by decide +kernel
theorem e_MM_send_104 : decode m_MM_send.2.1 104 = .ok (.iload_n 1, 1) := by decide +kernel
theorem e_MM_send_105 : decode m_MM_send.2.1 105 = .ok (.iastore, 1) := by decide +kernel
theorem e_MM_send_106 : decode m_MM_send.2.1 106 = .ok (.aload_n 0, 1) := by decide +kernel
theorem e_MM_send_107 : decode m_MM_send.2.1 107 = .ok (.getfield 86, 3) := by decide +kernel
theorem e_MM_send_110 : decode m_MM_send.2.1 110 = .ok (.iload 5, 2) := by decide +kernel
theorem e_MM_send_112 : decode m_MM_send.2.1 112 = .ok (.iload_n 2, 1) := by decide +kernel
theorem e_MM_send_113 : decode m_MM_send.2.1 113 = .ok (.iastore, 1) := by decide +kernel
theorem e_MM_send_114 : decode m_MM_send.2.1 114 = .ok (.aload_n 0, 1) := by decide +kernel
theorem e_MM_send_115 : decode m_MM_send.2.1 115 = .ok (.getfield 83, 3) := by decide +kernel
theorem e_MM_send_118 : decode m_MM_send.2.1 118 = .ok (.iload 5, 2) := by decide +kernel
theorem e_MM_send_120 : decode m_MM_send.2.1 120 = .ok (.iload_n 3, 1) := by decide +kernel
theorem e_MM_send_121 : decode m_MM_send.2.1 121 = .ok (.iastore, 1) := by decide +kernel
theorem e_MM_send_122 : decode m_MM_send.2.1 122 = .ok (.aload_n 0, 1) := by decide +kernel
theorem e_MM_send_123 : decode m_MM_send.2.1 123 = .ok (.getfield 89, 3) := by decide +kernel
theorem e_MM_send_126 : decode m_MM_send.2.1 126 = .ok (.iload 5, 2) := by decide +kernel
theorem e_MM_send_128 : decode m_MM_send.2.1 128 = .ok (.iload 4, 2) := by decide +kernel
theorem e_MM_send_130 : decode m_MM_send.2.1 130 = .ok (.iastore, 1) := by decide +kernel
theorem e_MM_send_131 : decode m_MM_send.2.1 131 = .ok (.aload_n 0, 1) := by decide +kernel
theorem e_MM_send_132 : decode m_MM_send.2.1 132 = .ok (.getfield 92, 3) := by decide +kernel
theorem e_MM_send_135 : decode m_MM_send.2.1 135 = .ok (.iload 5, 2) := by decide +kernel
theorem e_MM_send_137 : decode m_MM_send.2.1 137 = .ok (.iconst 0, 1) := by decide +kernel
theorem e_MM_send_138 : decode m_MM_send.2.1 138 = .ok (.iastore, 1) := by decide +kernel
theorem e_MM_send_139 : decode m_MM_send.2.1 139 = .ok (.aload_n 0, 1) := by decide +kernel
theorem e_MM_send_140 : decode m_MM_send.2.1 140 = .ok (.getfield 95, 3) := by decide +kernel
theorem e_MM_send_143 : decode m_MM_send.2.1 143 = .ok (.iload 5, 2) := by decide +kernel
theorem e_MM_send_145 : decode m_MM_send.2.1 145 = .ok (.iconst 0, 1) := by decide +kernel
theorem e_MM_send_146 : decode m_MM_send.2.1 146 = .ok (.bastore, 1) := by decide +kernel
theorem e_MM_send_147 : decode m_MM_send.2.1 147 = .ok (.aload_n 0, 1) := by decide +kernel
theorem e_MM_send_148 : decode m_MM_send.2.1 148 = .ok (.getfield 98, 3) := by decide +kernel
theorem e_MM_send_151 : decode m_MM_send.2.1 151 = .ok (.iload 5, 2) := by decide +kernel
theorem e_MM_send_153 : decode m_MM_send.2.1 153 = .ok (.iconst 0, 1) := by decide +kernel
theorem e_MM_send_154 : decode m_MM_send.2.1 154 = .ok (.bastore, 1) := by decide +kernel
theorem e_MM_send_155 : decode m_MM_send.2.1 155 = .ok (.aload_n 0, 1) := by decide +kernel
theorem e_MM_send_156 : decode m_MM_send.2.1 156 = .ok (.getfield 101, 3) := by decide +kernel
theorem e_MM_send_159 : decode m_MM_send.2.1 159 = .ok (.iload 5, 2) := by decide +kernel
theorem e_MM_send_161 : decode m_MM_send.2.1 161 = .ok (.iconst 0, 1) := by decide +kernel
theorem e_MM_send_162 : decode m_MM_send.2.1 162 = .ok (.iastore, 1) := by decide +kernel
theorem e_MM_send_163 : decode m_MM_send.2.1 163 = .ok (.aload_n 0, 1) := by decide +kernel
theorem e_MM_send_164 : decode m_MM_send.2.1 164 = .ok (.getfield 104, 3) := by decide +kernel
theorem e_MM_send_167 : decode m_MM_send.2.1 167 = .ok (.iload 5, 2) := by decide +kernel
theorem e_MM_send_169 : decode m_MM_send.2.1 169 = .ok (.iconst 0, 1) := by decide +kernel
theorem e_MM_send_170 : decode m_MM_send.2.1 170 = .ok (.iastore, 1) := by decide +kernel
theorem e_MM_send_171 : decode m_MM_send.2.1 171 = .ok (.aload_n 0, 1) := by decide +kernel
theorem e_MM_send_172 : decode m_MM_send.2.1 172 = .ok (.getfield 107, 3) := by decide +kernel
theorem e_MM_send_175 : decode m_MM_send.2.1 175 = .ok (.iload 5, 2) := by decide +kernel
theorem e_MM_send_177 : decode m_MM_send.2.1 177 = .ok (.iconst (-1), 1) := by decide +kernel
theorem e_MM_send_178 : decode m_MM_send.2.1 178 = .ok (.iastore, 1) := by decide +kernel
theorem e_MM_send_179 : decode m_MM_send.2.1 179 = .ok (.aload_n 0, 1) := by decide +kernel
theorem e_MM_send_180 : decode m_MM_send.2.1 180 = .ok (.getfield 110, 3) := by decide +kernel
theorem e_MM_send_183 : decode m_MM_send.2.1 183 = .ok (.iload 5, 2) := by decide +kernel
theorem e_MM_send_185 : decode m_MM_send.2.1 185 = .ok (.iconst 0, 1) := by decide +kernel
theorem e_MM_send_186 : decode m_MM_send.2.1 186 = .ok (.bastore, 1) := by decide +kernel
theorem e_MM_send_187 : decode m_MM_send.2.1 187 = .ok (.aload_n 0, 1) := by decide +kernel
theorem e_MM_send_188 : decode m_MM_send.2.1 188 = .ok (.dup, 1) := by decide +kernel
theorem e_MM_send_189 : decode m_MM_send.2.1 189 = .ok (.getfield 126, 3) := by decide +kernel
theorem e_MM_send_192 : decode m_MM_send.2.1 192 = .ok (.iconst 1, 1) := by decide +kernel
theorem e_MM_send_193 : decode m_MM_send.2.1 193 = .ok (.iadd, 1) := by decide +kernel
theorem e_MM_send_194 : decode m_MM_send.2.1 194 = .ok (.putfield 126, 3) := by decide +kernel
theorem e_MM_send_197 : decode m_MM_send.2.1 197 = .ok (.iload 5, 2) := by decide +kernel
theorem e_MM_send_199 : decode m_MM_send.2.1 199 = .ok (.ireturn, 1) := by decide +kernel
theorem e_MM_give_0 : decode m_MM_give.2.1 0 = .ok (.iconst 2, 1) := by decide +kernel
theorem e_MM_give_1 : decode m_MM_give.2.1 1 = .ok (.iload_n 1, 1) := by decide +kernel
theorem e_MM_give_2 : decode m_MM_give.2.1 2 = .ok (.imul, 1) := by decide +kernel
theorem e_MM_give_3 : decode m_MM_give.2.1 3 = .ok (.iload_n 2, 1) := by decide +kernel
theorem e_MM_give_4 : decode m_MM_give.2.1 4 = .ok (.iadd, 1) := by decide +kernel
theorem e_MM_give_5 : decode m_MM_give.2.1 5 = .ok (.istore 7, 2) := by decide +kernel
theorem e_MM_give_7 : decode m_MM_give.2.1 7 = .ok (.iload 4, 2) := by decide +kernel
theorem e_MM_give_9 : decode m_MM_give.2.1 9 = .ok (.ifCond .ne 4, 3) := by decide +kernel
theorem e_MM_give_12 : decode m_MM_give.2.1 12 = .ok (.return_, 1) := by decide +kernel
theorem e_MM_give_13 : decode m_MM_give.2.1 13 = .ok (.aload_n 0, 1) := by decide +kernel
theorem e_MM_give_14 : decode m_MM_give.2.1 14 = .ok (.iconst 3, 1) := by decide +kernel
theorem e_MM_give_15 : decode m_MM_give.2.1 15 = .ok (.iload_n 1, 1) := by decide +kernel
theorem e_MM_give_16 : decode m_MM_give.2.1 16 = .ok (.iload_n 3, 1) := by decide +kernel
theorem e_MM_give_17 : decode m_MM_give.2.1 17 = .ok (.iload_n 2, 1) := by decide +kernel
theorem e_MM_give_18 : decode m_MM_give.2.1 18 = .ok (.invokevirtual 137, 3) := by decide +kernel
theorem e_MM_give_21 : decode m_MM_give.2.1 21 = .ok (.istore 8, 2) := by decide +kernel
theorem e_MM_give_23 : decode m_MM_give.2.1 23 = .ok (.aload_n 0, 1) := by decide +kernel
theorem e_MM_give_24 : decode m_MM_give.2.1 24 = .ok (.getfield 92, 3) := by decide +kernel
theorem e_MM_give_27 : decode m_MM_give.2.1 27 = .ok (.iload 8, 2) := by decide +kernel
theorem e_MM_give_29 : decode m_MM_give.2.1 29 = .ok (.iload 4, 2) := by decide +kernel
theorem e_MM_give_31 : decode m_MM_give.2.1 31 = .ok (.iastore, 1) := by decide +kernel
theorem e_MM_give_32 : decode m_MM_give.2.1 32 = .ok (.aload_n 0, 1) := by decide +kernel
theorem e_MM_give_33 : decode m_MM_give.2.1 33 = .ok (.getfield 95, 3) := by decide +kernel
theorem e_MM_give_36 : decode m_MM_give.2.1 36 = .ok (.iload 8, 2) := by decide +kernel
theorem e_MM_give_38 : decode m_MM_give.2.1 38 = .ok (.iload 5, 2) := by decide +kernel
theorem e_MM_give_40 : decode m_MM_give.2.1 40 = .ok (.bastore, 1) := by decide +kernel
theorem e_MM_give_41 : decode m_MM_give.2.1 41 = .ok (.aload_n 0, 1) := by decide +kernel
theorem e_MM_give_42 : decode m_MM_give.2.1 42 = .ok (.getfield 98, 3) := by decide +kernel
theorem e_MM_give_45 : decode m_MM_give.2.1 45 = .ok (.iload 8, 2) := by decide +kernel
theorem e_MM_give_47 : decode m_MM_give.2.1 47 = .ok (.iload 5, 2) := by decide +kernel
theorem e_MM_give_49 : decode m_MM_give.2.1 49 = .ok (.ifCond .ne 8, 3) := by decide +kernel
theorem e_MM_give_52 : decode m_MM_give.2.1 52 = .ok (.iload 6, 2) := by decide +kernel
theorem e_MM_give_54 : decode m_MM_give.2.1 54 = .ok (.ifCond .eq 17, 3) := by decide +kernel
theorem e_MM_give_57 : decode m_MM_give.2.1 57 = .ok (.aload_n 0, 1) := by decide +kernel
theorem e_MM_give_58 : decode m_MM_give.2.1 58 = .ok (.getfield 17, 3) := by decide +kernel
theorem e_MM_give_61 : decode m_MM_give.2.1 61 = .ok (.iload 7, 2) := by decide +kernel
theorem e_MM_give_63 : decode m_MM_give.2.1 63 = .ok (.baload, 1) := by decide +kernel
theorem e_MM_give_64 : decode m_MM_give.2.1 64 = .ok (.ifCond .eq 7, 3) := by decide +kernel
theorem e_MM_give_67 : decode m_MM_give.2.1 67 = .ok (.iconst 1, 1) := by decide +kernel
theorem e_MM_give_68 : decode m_MM_give.2.1 68 = .ok (.goto 4, 3) := by decide +kernel
theorem e_MM_give_71 : decode m_MM_give.2.1 71 = .ok (.iconst 0, 1) := by decide +kernel
theorem e_MM_give_72 : decode m_MM_give.2.1 72 = .ok (.bastore, 1) := by decide +kernel
theorem e_MM_give_73 : decode m_MM_give.2.1 73 = .ok (.aload_n 0, 1) := by decide +kernel
theorem e_MM_give_74 : decode m_MM_give.2.1 74 = .ok (.getfield 101, 3) := by decide +kernel
theorem e_MM_give_77 : decode m_MM_give.2.1 77 = .ok (.iload 8, 2) := by decide +kernel
theorem e_MM_give_79 : decode m_MM_give.2.1 79 = .ok (.aload_n 0, 1) := by decide +kernel
theorem e_MM_give_80 : decode m_MM_give.2.1 80 = .ok (.getfield 20, 3) := by decide +kernel
theorem e_MM_give_83 : decode m_MM_give.2.1 83 = .ok (.iload 7, 2) := by decide +kernel
theorem e_MM_give_85 : decode m_MM_give.2.1 85 = .ok (.iaload, 1) := by decide +kernel
theorem e_MM_give_86 : decode m_MM_give.2.1 86 = .ok (.iastore, 1) := by decide +kernel
theorem e_MM_give_87 : decode m_MM_give.2.1 87 = .ok (.aload_n 0, 1) := by decide +kernel
theorem e_MM_give_88 : decode m_MM_give.2.1 88 = .ok (.getfield 7, 3) := by decide +kernel
theorem e_MM_give_91 : decode m_MM_give.2.1 91 = .ok (.iload 7, 2) := by decide +kernel
theorem e_MM_give_93 : decode m_MM_give.2.1 93 = .ok (.aload_n 0, 1) := by decide +kernel
theorem e_MM_give_94 : decode m_MM_give.2.1 94 = .ok (.getfield 7, 3) := by decide +kernel
theorem e_MM_give_97 : decode m_MM_give.2.1 97 = .ok (.iload 7, 2) := by decide +kernel
theorem e_MM_give_99 : decode m_MM_give.2.1 99 = .ok (.iaload, 1) := by decide +kernel
theorem e_MM_give_100 : decode m_MM_give.2.1 100 = .ok (.iload 4, 2) := by decide +kernel
theorem e_MM_give_102 : decode m_MM_give.2.1 102 = .ok (.isub, 1) := by decide +kernel
theorem e_MM_give_103 : decode m_MM_give.2.1 103 = .ok (.iastore, 1) := by decide +kernel
theorem e_MM_give_104 : decode m_MM_give.2.1 104 = .ok (.aload_n 0, 1) := by decide +kernel
theorem e_MM_give_105 : decode m_MM_give.2.1 105 = .ok (.getfield 13, 3) := by decide +kernel
theorem e_MM_give_108 : decode m_MM_give.2.1 108 = .ok (.iload 7, 2) := by decide +kernel
theorem e_MM_give_110 : decode m_MM_give.2.1 110 = .ok (.aload_n 0, 1) := by decide +kernel
theorem e_MM_give_111 : decode m_MM_give.2.1 111 = .ok (.getfield 13, 3) := by decide +kernel
theorem e_MM_give_114 : decode m_MM_give.2.1 114 = .ok (.iload 7, 2) := by decide +kernel
theorem e_MM_give_116 : decode m_MM_give.2.1 116 = .ok (.baload, 1) := by decide +kernel
theorem e_MM_give_117 : decode m_MM_give.2.1 117 = .ok (.ifCond .eq 12, 3) := by decide +kernel
theorem e_MM_give_120 : decode m_MM_give.2.1 120 = .ok (.iload 5, 2) := by decide +kernel
theorem e_MM_give_122 : decode m_MM_give.2.1 122 = .ok (.ifCond .ne 7, 3) := by decide +kernel
theorem e_MM_give_125 : decode m_MM_give.2.1 125 = .ok (.iconst 1, 1) := by decide +kernel
theorem e_MM_give_126 : decode m_MM_give.2.1 126 = .ok (.goto 4, 3) := by decide +kernel
theorem e_MM_give_129 : decode m_MM_give.2.1 129 = .ok (.iconst 0, 1) := by decide +kernel
theorem e_MM_give_130 : decode m_MM_give.2.1 130 = .ok (.bastore, 1) := by decide +kernel
theorem e_MM_give_131 : decode m_MM_give.2.1 131 = .ok (.aload_n 0, 1) := by decide +kernel
theorem e_MM_give_132 : decode m_MM_give.2.1 132 = .ok (.getfield 17, 3) := by decide +kernel
theorem e_MM_give_135 : decode m_MM_give.2.1 135 = .ok (.iload 7, 2) := by decide +kernel
theorem e_MM_give_137 : decode m_MM_give.2.1 137 = .ok (.aload_n 0, 1) := by decide +kernel
theorem e_MM_give_138 : decode m_MM_give.2.1 138 = .ok (.getfield 17, 3) := by decide +kernel
theorem e_MM_give_141 : decode m_MM_give.2.1 141 = .ok (.iload 7, 2) := by decide +kernel
theorem e_MM_give_143 : decode m_MM_give.2.1 143 = .ok (.baload, 1) := by decide +kernel
theorem e_MM_give_144 : decode m_MM_give.2.1 144 = .ok (.ifCond .eq 17, 3) := by decide +kernel
theorem e_MM_give_147 : decode m_MM_give.2.1 147 = .ok (.aload_n 0, 1) := by decide +kernel
theorem e_MM_give_148 : decode m_MM_give.2.1 148 = .ok (.getfield 7, 3) := by decide +kernel
theorem e_MM_give_151 : decode m_MM_give.2.1 151 = .ok (.iload 7, 2) := by decide +kernel
theorem e_MM_give_153 : decode m_MM_give.2.1 153 = .ok (.iaload, 1) := by decide +kernel
theorem e_MM_give_154 : decode m_MM_give.2.1 154 = .ok (.ifCond .le 7, 3) := by decide +kernel
theorem e_MM_give_157 : decode m_MM_give.2.1 157 = .ok (.iconst 1, 1) := by decide +kernel
theorem e_MM_give_158 : decode m_MM_give.2.1 158 = .ok (.goto 4, 3) := by decide +kernel
theorem e_MM_give_161 : decode m_MM_give.2.1 161 = .ok (.iconst 0, 1) := by decide +kernel
theorem e_MM_give_162 : decode m_MM_give.2.1 162 = .ok (.bastore, 1) := by decide +kernel
theorem e_MM_give_163 : decode m_MM_give.2.1 163 = .ok (.return_, 1) := by decide +kernel
theorem e_MM_giveWay_0 : decode m_MM_giveWay.2.1 0 = .ok (.iconst 2, 1) := by decide +kernel
theorem e_MM_giveWay_1 : decode m_MM_giveWay.2.1 1 = .ok (.iload_n 1, 1) := by decide +kernel
theorem e_MM_giveWay_2 : decode m_MM_giveWay.2.1 2 = .ok (.imul, 1) := by decide +kernel
theorem e_MM_giveWay_3 : decode m_MM_giveWay.2.1 3 = .ok (.iload_n 2, 1) := by decide +kernel
theorem e_MM_giveWay_4 : decode m_MM_giveWay.2.1 4 = .ok (.iadd, 1) := by decide +kernel
theorem e_MM_giveWay_5 : decode m_MM_giveWay.2.1 5 = .ok (.istore_n 3, 1) := by decide +kernel
theorem e_MM_giveWay_6 : decode m_MM_giveWay.2.1 6 = .ok (.aload_n 0, 1) := by decide +kernel
theorem e_MM_giveWay_7 : decode m_MM_giveWay.2.1 7 = .ok (.getfield 23, 3) := by decide +kernel
theorem e_MM_giveWay_10 : decode m_MM_giveWay.2.1 10 = .ok (.iload_n 3, 1) := by decide +kernel
theorem e_MM_giveWay_11 : decode m_MM_giveWay.2.1 11 = .ok (.iaload, 1) := by decide +kernel
theorem e_MM_giveWay_12 : decode m_MM_giveWay.2.1 12 = .ok (.istore 4, 2) := by decide +kernel
theorem e_MM_giveWay_14 : decode m_MM_giveWay.2.1 14 = .ok (.iload 4, 2) := by decide +kernel
theorem e_MM_giveWay_16 : decode m_MM_giveWay.2.1 16 = .ok (.ifCond .lt 9, 3) := by decide +kernel
theorem e_MM_giveWay_19 : decode m_MM_giveWay.2.1 19 = .ok (.iload 4, 2) := by decide +kernel
theorem e_MM_giveWay_21 : decode m_MM_giveWay.2.1 21 = .ok (.iload_n 1, 1) := by decide +kernel
theorem e_MM_giveWay_22 : decode m_MM_giveWay.2.1 22 = .ok (.if_icmp .ne 4, 3) := by decide +kernel
theorem e_MM_giveWay_25 : decode m_MM_giveWay.2.1 25 = .ok (.return_, 1) := by decide +kernel
theorem e_MM_giveWay_26 : decode m_MM_giveWay.2.1 26 = .ok (.aload_n 0, 1) := by decide +kernel
theorem e_MM_giveWay_27 : decode m_MM_giveWay.2.1 27 = .ok (.getfield 26, 3) := by decide +kernel
theorem e_MM_giveWay_30 : decode m_MM_giveWay.2.1 30 = .ok (.iload_n 3, 1) := by decide +kernel
theorem e_MM_giveWay_31 : decode m_MM_giveWay.2.1 31 = .ok (.baload, 1) := by decide +kernel
theorem e_MM_giveWay_32 : decode m_MM_giveWay.2.1 32 = .ok (.ifCond .eq 27, 3) := by decide +kernel
theorem e_MM_giveWay_35 : decode m_MM_giveWay.2.1 35 = .ok (.aload_n 0, 1) := by decide +kernel
theorem e_MM_giveWay_36 : decode m_MM_giveWay.2.1 36 = .ok (.iload_n 1, 1) := by decide +kernel
theorem e_MM_giveWay_37 : decode m_MM_giveWay.2.1 37 = .ok (.iload_n 2, 1) := by decide +kernel
theorem e_MM_giveWay_38 : decode m_MM_giveWay.2.1 38 = .ok (.iload 4, 2) := by decide +kernel
theorem e_MM_giveWay_40 : decode m_MM_giveWay.2.1 40 = .ok (.aload_n 0, 1) := by decide +kernel
theorem e_MM_giveWay_41 : decode m_MM_giveWay.2.1 41 = .ok (.getfield 7, 3) := by decide +kernel
theorem e_MM_giveWay_44 : decode m_MM_giveWay.2.1 44 = .ok (.iload_n 3, 1) := by decide +kernel
theorem e_MM_giveWay_45 : decode m_MM_giveWay.2.1 45 = .ok (.iaload, 1) := by decide +kernel
theorem e_MM_giveWay_46 : decode m_MM_giveWay.2.1 46 = .ok (.aload_n 0, 1) := by decide +kernel
theorem e_MM_giveWay_47 : decode m_MM_giveWay.2.1 47 = .ok (.getfield 13, 3) := by decide +kernel
theorem e_MM_giveWay_50 : decode m_MM_giveWay.2.1 50 = .ok (.iload_n 3, 1) := by decide +kernel
theorem e_MM_giveWay_51 : decode m_MM_giveWay.2.1 51 = .ok (.baload, 1) := by decide +kernel
theorem e_MM_giveWay_52 : decode m_MM_giveWay.2.1 52 = .ok (.iconst 0, 1) := by decide +kernel
theorem e_MM_giveWay_53 : decode m_MM_giveWay.2.1 53 = .ok (.invokevirtual 141, 3) := by decide +kernel
theorem e_MM_giveWay_56 : decode m_MM_giveWay.2.1 56 = .ok (.goto 23, 3) := by decide +kernel
theorem e_MM_giveWay_59 : decode m_MM_giveWay.2.1 59 = .ok (.aload_n 0, 1) := by decide +kernel
theorem e_MM_giveWay_60 : decode m_MM_giveWay.2.1 60 = .ok (.getfield 13, 3) := by decide +kernel
theorem e_MM_giveWay_63 : decode m_MM_giveWay.2.1 63 = .ok (.iload_n 3, 1) := by decide +kernel
theorem e_MM_giveWay_64 : decode m_MM_giveWay.2.1 64 = .ok (.baload, 1) := by decide +kernel
theorem e_MM_giveWay_65 : decode m_MM_giveWay.2.1 65 = .ok (.ifCond .eq 14, 3) := by decide +kernel
theorem e_MM_giveWay_68 : decode m_MM_giveWay.2.1 68 = .ok (.aload_n 0, 1) := by decide +kernel
theorem e_MM_giveWay_69 : decode m_MM_giveWay.2.1 69 = .ok (.iload_n 1, 1) := by decide +kernel
theorem e_MM_giveWay_70 : decode m_MM_giveWay.2.1 70 = .ok (.iload_n 2, 1) := by decide +kernel
theorem e_MM_giveWay_71 : decode m_MM_giveWay.2.1 71 = .ok (.iload 4, 2) := by decide +kernel
theorem e_MM_giveWay_73 : decode m_MM_giveWay.2.1 73 = .ok (.iconst 1, 1) := by decide +kernel
theorem e_MM_giveWay_74 : decode m_MM_giveWay.2.1 74 = .ok (.iconst 1, 1) := by decide +kernel
theorem e_MM_giveWay_75 : decode m_MM_giveWay.2.1 75 = .ok (.iconst 0, 1) := by decide +kernel
theorem e_MM_giveWay_76 : decode m_MM_giveWay.2.1 76 = .ok (.invokevirtual 141, 3) := by decide +kernel
theorem e_MM_giveWay_79 : decode m_MM_giveWay.2.1 79 = .ok (.return_, 1) := by decide +kernel
theorem e_MM_canEnd_0 : decode m_MM_canEnd.2.1 0 = .ok (.iconst 2, 1) := by decide +kernel
theorem e_MM_canEnd_1 : decode m_MM_canEnd.2.1 1 = .ok (.iload_n 1, 1) := by decide +kernel
theorem e_MM_canEnd_2 : decode m_MM_canEnd.2.1 2 = .ok (.imul, 1) := by decide +kernel
theorem e_MM_canEnd_3 : decode m_MM_canEnd.2.1 3 = .ok (.aload_n 0, 1) := by decide +kernel
theorem e_MM_canEnd_4 : decode m_MM_canEnd.2.1 4 = .ok (.getfield 41, 3) := by decide +kernel
theorem e_MM_canEnd_7 : decode m_MM_canEnd.2.1 7 = .ok (.iload_n 1, 1) := by decide +kernel
theorem e_MM_canEnd_8 : decode m_MM_canEnd.2.1 8 = .ok (.iaload, 1) := by decide +kernel
theorem e_MM_canEnd_9 : decode m_MM_canEnd.2.1 9 = .ok (.iadd, 1) := by decide +kernel
theorem e_MM_canEnd_10 : decode m_MM_canEnd.2.1 10 = .ok (.istore_n 2, 1) := by decide +kernel
theorem e_MM_canEnd_11 : decode m_MM_canEnd.2.1 11 = .ok (.aload_n 0, 1) := by decide +kernel
theorem e_MM_canEnd_12 : decode m_MM_canEnd.2.1 12 = .ok (.getfield 17, 3) := by decide +kernel
theorem e_MM_canEnd_15 : decode m_MM_canEnd.2.1 15 = .ok (.iload_n 2, 1) := by decide +kernel
theorem e_MM_canEnd_16 : decode m_MM_canEnd.2.1 16 = .ok (.baload, 1) := by decide +kernel
theorem e_MM_canEnd_17 : decode m_MM_canEnd.2.1 17 = .ok (.ifCond .eq 31, 3) := by decide +kernel
theorem e_MM_canEnd_20 : decode m_MM_canEnd.2.1 20 = .ok (.aload_n 0, 1) := by decide +kernel
theorem e_MM_canEnd_21 : decode m_MM_canEnd.2.1 21 = .ok (.getfield 35, 3) := by decide +kernel
theorem e_MM_canEnd_24 : decode m_MM_canEnd.2.1 24 = .ok (.iload_n 1, 1) := by decide +kernel
theorem e_MM_canEnd_25 : decode m_MM_canEnd.2.1 25 = .ok (.baload, 1) := by decide +kernel
theorem e_MM_canEnd_26 : decode m_MM_canEnd.2.1 26 = .ok (.ifCond .eq 18, 3) := by decide +kernel
theorem e_MM_canEnd_29 : decode m_MM_canEnd.2.1 29 = .ok (.aload_n 0, 1) := by decide +kernel
theorem e_MM_canEnd_30 : decode m_MM_canEnd.2.1 30 = .ok (.getfield 7, 3) := by decide +kernel
theorem e_MM_canEnd_33 : decode m_MM_canEnd.2.1 33 = .ok (.iload_n 2, 1) := by decide +kernel
theorem e_MM_canEnd_34 : decode m_MM_canEnd.2.1 34 = .ok (.iaload, 1) := by decide +kernel
theorem e_MM_canEnd_35 : decode m_MM_canEnd.2.1 35 = .ok (.aload_n 0, 1) := by decide +kernel
theorem e_MM_canEnd_36 : decode m_MM_canEnd.2.1 36 = .ok (.getfield 113, 3) := by decide +kernel
theorem e_MM_canEnd_39 : decode m_MM_canEnd.2.1 39 = .ok (.iconst 1, 1) := by decide +kernel
theorem e_MM_canEnd_40 : decode m_MM_canEnd.2.1 40 = .ok (.iadd, 1) := by decide +kernel
theorem e_MM_canEnd_41 : decode m_MM_canEnd.2.1 41 = .ok (.if_icmp .ne 7, 3) := by decide +kernel
theorem e_MM_canEnd_44 : decode m_MM_canEnd.2.1 44 = .ok (.iconst 1, 1) := by decide +kernel
theorem e_MM_canEnd_45 : decode m_MM_canEnd.2.1 45 = .ok (.goto 4, 3) := by decide +kernel
theorem e_MM_canEnd_48 : decode m_MM_canEnd.2.1 48 = .ok (.iconst 0, 1) := by decide +kernel
theorem e_MM_canEnd_49 : decode m_MM_canEnd.2.1 49 = .ok (.ireturn, 1) := by decide +kernel
theorem e_MM_endd_0 : decode m_MM_endd.2.1 0 = .ok (.iconst 2, 1) := by decide +kernel
theorem e_MM_endd_1 : decode m_MM_endd.2.1 1 = .ok (.iload_n 1, 1) := by decide +kernel
theorem e_MM_endd_2 : decode m_MM_endd.2.1 2 = .ok (.imul, 1) := by decide +kernel
theorem e_MM_endd_3 : decode m_MM_endd.2.1 3 = .ok (.aload_n 0, 1) := by decide +kernel
theorem e_MM_endd_4 : decode m_MM_endd.2.1 4 = .ok (.getfield 41, 3) := by decide +kernel
theorem e_MM_endd_7 : decode m_MM_endd.2.1 7 = .ok (.iload_n 1, 1) := by decide +kernel
theorem e_MM_endd_8 : decode m_MM_endd.2.1 8 = .ok (.iaload, 1) := by decide +kernel
theorem e_MM_endd_9 : decode m_MM_endd.2.1 9 = .ok (.iadd, 1) := by decide +kernel
theorem e_MM_endd_10 : decode m_MM_endd.2.1 10 = .ok (.istore_n 2, 1) := by decide +kernel
theorem e_MM_endd_11 : decode m_MM_endd.2.1 11 = .ok (.aload_n 0, 1) := by decide +kernel
theorem e_MM_endd_12 : decode m_MM_endd.2.1 12 = .ok (.getfield 59, 3) := by decide +kernel
theorem e_MM_endd_15 : decode m_MM_endd.2.1 15 = .ok (.iload_n 1, 1) := by decide +kernel
theorem e_MM_endd_16 : decode m_MM_endd.2.1 16 = .ok (.aload_n 0, 1) := by decide +kernel
theorem e_MM_endd_17 : decode m_MM_endd.2.1 17 = .ok (.getfield 20, 3) := by decide +kernel
theorem e_MM_endd_20 : decode m_MM_endd.2.1 20 = .ok (.iload_n 2, 1) := by decide +kernel
theorem e_MM_endd_21 : decode m_MM_endd.2.1 21 = .ok (.iaload, 1) := by decide +kernel
theorem e_MM_endd_22 : decode m_MM_endd.2.1 22 = .ok (.iastore, 1) := by decide +kernel
theorem e_MM_endd_23 : decode m_MM_endd.2.1 23 = .ok (.aload_n 0, 1) := by decide +kernel
theorem e_MM_endd_24 : decode m_MM_endd.2.1 24 = .ok (.getfield 20, 3) := by decide +kernel
theorem e_MM_endd_27 : decode m_MM_endd.2.1 27 = .ok (.iload_n 2, 1) := by decide +kernel
theorem e_MM_endd_28 : decode m_MM_endd.2.1 28 = .ok (.aload_n 0, 1) := by decide +kernel
theorem e_MM_endd_29 : decode m_MM_endd.2.1 29 = .ok (.getfield 35, 3) := by decide +kernel
theorem e_MM_endd_32 : decode m_MM_endd.2.1 32 = .ok (.iload_n 1, 1) := by decide +kernel
theorem e_MM_endd_33 : decode m_MM_endd.2.1 33 = .ok (.baload, 1) := by decide +kernel
theorem e_MM_endd_34 : decode m_MM_endd.2.1 34 = .ok (.ifCond .eq 12, 3) := by decide +kernel
theorem e_MM_endd_37 : decode m_MM_endd.2.1 37 = .ok (.aload_n 0, 1) := by decide +kernel
theorem e_MM_endd_38 : decode m_MM_endd.2.1 38 = .ok (.getfield 44, 3) := by decide +kernel
theorem e_MM_endd_41 : decode m_MM_endd.2.1 41 = .ok (.iload_n 1, 1) := by decide +kernel
theorem e_MM_endd_42 : decode m_MM_endd.2.1 42 = .ok (.iaload, 1) := by decide +kernel
theorem e_MM_endd_43 : decode m_MM_endd.2.1 43 = .ok (.goto 9, 3) := by decide +kernel
theorem e_MM_endd_46 : decode m_MM_endd.2.1 46 = .ok (.aload_n 0, 1) := by decide +kernel
theorem e_MM_endd_47 : decode m_MM_endd.2.1 47 = .ok (.getfield 20, 3) := by decide +kernel
theorem e_MM_endd_50 : decode m_MM_endd.2.1 50 = .ok (.iload_n 2, 1) := by decide +kernel
theorem e_MM_endd_51 : decode m_MM_endd.2.1 51 = .ok (.iaload, 1) := by decide +kernel
theorem e_MM_endd_52 : decode m_MM_endd.2.1 52 = .ok (.iastore, 1) := by decide +kernel
theorem e_MM_endd_53 : decode m_MM_endd.2.1 53 = .ok (.aload_n 0, 1) := by decide +kernel
theorem e_MM_endd_54 : decode m_MM_endd.2.1 54 = .ok (.getfield 56, 3) := by decide +kernel
theorem e_MM_endd_57 : decode m_MM_endd.2.1 57 = .ok (.iload_n 1, 1) := by decide +kernel
theorem e_MM_endd_58 : decode m_MM_endd.2.1 58 = .ok (.dup2, 1) := by decide +kernel
theorem e_MM_endd_59 : decode m_MM_endd.2.1 59 = .ok (.iaload, 1) := by decide +kernel
theorem e_MM_endd_60 : decode m_MM_endd.2.1 60 = .ok (.iconst 1, 1) := by decide +kernel
theorem e_MM_endd_61 : decode m_MM_endd.2.1 61 = .ok (.iadd, 1) := by decide +kernel
theorem e_MM_endd_62 : decode m_MM_endd.2.1 62 = .ok (.iastore, 1) := by decide +kernel
theorem e_MM_endd_63 : decode m_MM_endd.2.1 63 = .ok (.aload_n 0, 1) := by decide +kernel
theorem e_MM_endd_64 : decode m_MM_endd.2.1 64 = .ok (.getfield 32, 3) := by decide +kernel
theorem e_MM_endd_67 : decode m_MM_endd.2.1 67 = .ok (.iload_n 1, 1) := by decide +kernel
theorem e_MM_endd_68 : decode m_MM_endd.2.1 68 = .ok (.iconst 0, 1) := by decide +kernel
theorem e_MM_endd_69 : decode m_MM_endd.2.1 69 = .ok (.bastore, 1) := by decide +kernel
theorem e_MM_endd_70 : decode m_MM_endd.2.1 70 = .ok (.aload_n 0, 1) := by decide +kernel
theorem e_MM_endd_71 : decode m_MM_endd.2.1 71 = .ok (.getfield 38, 3) := by decide +kernel
theorem e_MM_endd_74 : decode m_MM_endd.2.1 74 = .ok (.iload_n 1, 1) := by decide +kernel
theorem e_MM_endd_75 : decode m_MM_endd.2.1 75 = .ok (.baload, 1) := by decide +kernel
theorem e_MM_endd_76 : decode m_MM_endd.2.1 76 = .ok (.ifCond .eq 28, 3) := by decide +kernel
theorem e_MM_endd_79 : decode m_MM_endd.2.1 79 = .ok (.aload_n 0, 1) := by decide +kernel
theorem e_MM_endd_80 : decode m_MM_endd.2.1 80 = .ok (.bipush 6, 2) := by decide +kernel
theorem e_MM_endd_82 : decode m_MM_endd.2.1 82 = .ok (.iload_n 1, 1) := by decide +kernel
theorem e_MM_endd_83 : decode m_MM_endd.2.1 83 = .ok (.aload_n 0, 1) := by decide +kernel
theorem e_MM_endd_84 : decode m_MM_endd.2.1 84 = .ok (.getfield 113, 3) := by decide +kernel
theorem e_MM_endd_87 : decode m_MM_endd.2.1 87 = .ok (.iconst 0, 1) := by decide +kernel
theorem e_MM_endd_88 : decode m_MM_endd.2.1 88 = .ok (.invokevirtual 137, 3) := by decide +kernel
theorem e_MM_endd_91 : decode m_MM_endd.2.1 91 = .ok (.istore_n 3, 1) := by decide +kernel
theorem e_MM_endd_92 : decode m_MM_endd.2.1 92 = .ok (.aload_n 0, 1) := by decide +kernel
theorem e_MM_endd_93 : decode m_MM_endd.2.1 93 = .ok (.getfield 104, 3) := by decide +kernel
theorem e_MM_endd_96 : decode m_MM_endd.2.1 96 = .ok (.iload_n 3, 1) := by decide +kernel
theorem e_MM_endd_97 : decode m_MM_endd.2.1 97 = .ok (.aload_n 0, 1) := by decide +kernel
theorem e_MM_endd_98 : decode m_MM_endd.2.1 98 = .ok (.getfield 47, 3) := by decide +kernel
theorem e_MM_endd_101 : decode m_MM_endd.2.1 101 = .ok (.iload_n 1, 1) := by decide +kernel
theorem e_MM_endd_102 : decode m_MM_endd.2.1 102 = .ok (.iaload, 1) := by decide +kernel
theorem e_MM_endd_103 : decode m_MM_endd.2.1 103 = .ok (.iastore, 1) := by decide +kernel
theorem e_MM_endd_104 : decode m_MM_endd.2.1 104 = .ok (.aload_n 0, 1) := by decide +kernel
theorem e_MM_endd_105 : decode m_MM_endd.2.1 105 = .ok (.getfield 38, 3) := by decide +kernel
theorem e_MM_endd_108 : decode m_MM_endd.2.1 108 = .ok (.iload_n 1, 1) := by decide +kernel
theorem e_MM_endd_109 : decode m_MM_endd.2.1 109 = .ok (.iconst 0, 1) := by decide +kernel
theorem e_MM_endd_110 : decode m_MM_endd.2.1 110 = .ok (.bastore, 1) := by decide +kernel
theorem e_MM_endd_111 : decode m_MM_endd.2.1 111 = .ok (.return_, 1) := by decide +kernel
theorem e_MM_ask_0 : decode m_MM_ask.2.1 0 = .ok (.iconst 0, 1) := by decide +kernel
theorem e_MM_ask_1 : decode m_MM_ask.2.1 1 = .ok (.istore_n 2, 1) := by decide +kernel
theorem e_MM_ask_2 : decode m_MM_ask.2.1 2 = .ok (.iload_n 2, 1) := by decide +kernel
theorem e_MM_ask_3 : decode m_MM_ask.2.1 3 = .ok (.aload_n 0, 1) := by decide +kernel
theorem e_MM_ask_4 : decode m_MM_ask.2.1 4 = .ok (.getfield 113, 3) := by decide +kernel
theorem e_MM_ask_7 : decode m_MM_ask.2.1 7 = .ok (.if_icmp .gt 41, 3) := by decide +kernel
theorem e_MM_ask_10 : decode m_MM_ask.2.1 10 = .ok (.iload_n 2, 1) := by decide +kernel
theorem e_MM_ask_11 : decode m_MM_ask.2.1 11 = .ok (.iload_n 1, 1) := by decide +kernel
theorem e_MM_ask_12 : decode m_MM_ask.2.1 12 = .ok (.if_icmp .eq 30, 3) := by decide +kernel
theorem e_MM_ask_15 : decode m_MM_ask.2.1 15 = .ok (.aload_n 0, 1) := by decide +kernel
theorem e_MM_ask_16 : decode m_MM_ask.2.1 16 = .ok (.aload_n 0, 1) := by decide +kernel
theorem e_MM_ask_17 : decode m_MM_ask.2.1 17 = .ok (.getfield 35, 3) := by decide +kernel
theorem e_MM_ask_20 : decode m_MM_ask.2.1 20 = .ok (.iload_n 1, 1) := by decide +kernel
theorem e_MM_ask_21 : decode m_MM_ask.2.1 21 = .ok (.baload, 1) := by decide +kernel
theorem e_MM_ask_22 : decode m_MM_ask.2.1 22 = .ok (.ifCond .eq 7, 3) := by decide +kernel
theorem e_MM_ask_25 : decode m_MM_ask.2.1 25 = .ok (.iconst 2, 1) := by decide +kernel
theorem e_MM_ask_26 : decode m_MM_ask.2.1 26 = .ok (.goto 4, 3) := by decide +kernel
theorem e_MM_ask_29 : decode m_MM_ask.2.1 29 = .ok (.iconst 1, 1) := by decide +kernel
theorem e_MM_ask_30 : decode m_MM_ask.2.1 30 = .ok (.iload_n 1, 1) := by decide +kernel
theorem e_MM_ask_31 : decode m_MM_ask.2.1 31 = .ok (.iload_n 2, 1) := by decide +kernel
theorem e_MM_ask_32 : decode m_MM_ask.2.1 32 = .ok (.aload_n 0, 1) := by decide +kernel
theorem e_MM_ask_33 : decode m_MM_ask.2.1 33 = .ok (.getfield 41, 3) := by decide +kernel
theorem e_MM_ask_36 : decode m_MM_ask.2.1 36 = .ok (.iload_n 1, 1) := by decide +kernel
theorem e_MM_ask_37 : decode m_MM_ask.2.1 37 = .ok (.iaload, 1) := by decide +kernel
theorem e_MM_ask_38 : decode m_MM_ask.2.1 38 = .ok (.invokevirtual 137, 3) := by decide +kernel
theorem e_MM_ask_41 : decode m_MM_ask.2.1 41 = .ok (.istore_n 3, 1) := by decide +kernel
theorem e_MM_ask_42 : decode m_MM_ask.2.1 42 = .ok (.iinc 2 1, 3) := by decide +kernel
theorem e_MM_ask_45 : decode m_MM_ask.2.1 45 = .ok (.goto (-43), 3) := by decide +kernel
theorem e_MM_ask_48 : decode m_MM_ask.2.1 48 = .ok (.return_, 1) := by decide +kernel
theorem e_MM_issue_0 : decode m_MM_issue.2.1 0 = .ok (.aload_n 0, 1) := by decide +kernel
theorem e_MM_issue_1 : decode m_MM_issue.2.1 1 = .ok (.iconst 0, 1) := by decide +kernel
theorem e_MM_issue_2 : decode m_MM_issue.2.1 2 = .ok (.putfield 123, 3) := by decide +kernel
theorem e_MM_issue_5 : decode m_MM_issue.2.1 5 = .ok (.aload_n 0, 1) := by decide +kernel
theorem e_MM_issue_6 : decode m_MM_issue.2.1 6 = .ok (.iload_n 1, 1) := by decide +kernel
theorem e_MM_issue_7 : decode m_MM_issue.2.1 7 = .ok (.invokevirtual 145, 3) := by decide +kernel
theorem e_MM_issue_10 : decode m_MM_issue.2.1 10 = .ok (.ifCond .eq 10, 3) := by decide +kernel
theorem e_MM_issue_13 : decode m_MM_issue.2.1 13 = .ok (.iload_n 3, 1) := by decide +kernel
theorem e_MM_issue_14 : decode m_MM_issue.2.1 14 = .ok (.invokestatic 149, 3) := by decide +kernel
theorem e_MM_issue_17 : decode m_MM_issue.2.1 17 = .ok (.ifCond .ne 5, 3) := by decide +kernel
theorem e_MM_issue_20 : decode m_MM_issue.2.1 20 = .ok (.iconst (-1), 1) := by decide +kernel
theorem e_MM_issue_21 : decode m_MM_issue.2.1 21 = .ok (.ireturn, 1) := by decide +kernel
theorem e_MM_issue_22 : decode m_MM_issue.2.1 22 = .ok (.aload_n 0, 1) := by decide +kernel
theorem e_MM_issue_23 : decode m_MM_issue.2.1 23 = .ok (.getfield 32, 3) := by decide +kernel
theorem e_MM_issue_26 : decode m_MM_issue.2.1 26 = .ok (.iload_n 1, 1) := by decide +kernel
theorem e_MM_issue_27 : decode m_MM_issue.2.1 27 = .ok (.baload, 1) := by decide +kernel
theorem e_MM_issue_28 : decode m_MM_issue.2.1 28 = .ok (.ifCond .eq 6, 3) := by decide +kernel
theorem e_MM_issue_31 : decode m_MM_issue.2.1 31 = .ok (.bipush (-2), 2) := by decide +kernel
theorem e_MM_issue_33 : decode m_MM_issue.2.1 33 = .ok (.ireturn, 1) := by decide +kernel
theorem e_MM_issue_34 : decode m_MM_issue.2.1 34 = .ok (.aload_n 0, 1) := by decide +kernel
theorem e_MM_issue_35 : decode m_MM_issue.2.1 35 = .ok (.getfield 41, 3) := by decide +kernel
theorem e_MM_issue_38 : decode m_MM_issue.2.1 38 = .ok (.iload_n 1, 1) := by decide +kernel
theorem e_MM_issue_39 : decode m_MM_issue.2.1 39 = .ok (.iload_n 3, 1) := by decide +kernel
theorem e_MM_issue_40 : decode m_MM_issue.2.1 40 = .ok (.iastore, 1) := by decide +kernel
theorem e_MM_issue_41 : decode m_MM_issue.2.1 41 = .ok (.aload_n 0, 1) := by decide +kernel
theorem e_MM_issue_42 : decode m_MM_issue.2.1 42 = .ok (.getfield 35, 3) := by decide +kernel
theorem e_MM_issue_45 : decode m_MM_issue.2.1 45 = .ok (.iload_n 1, 1) := by decide +kernel
theorem e_MM_issue_46 : decode m_MM_issue.2.1 46 = .ok (.iload_n 2, 1) := by decide +kernel
theorem e_MM_issue_47 : decode m_MM_issue.2.1 47 = .ok (.bastore, 1) := by decide +kernel
theorem e_MM_issue_48 : decode m_MM_issue.2.1 48 = .ok (.aload_n 0, 1) := by decide +kernel
theorem e_MM_issue_49 : decode m_MM_issue.2.1 49 = .ok (.getfield 44, 3) := by decide +kernel
theorem e_MM_issue_52 : decode m_MM_issue.2.1 52 = .ok (.iload_n 1, 1) := by decide +kernel
theorem e_MM_issue_53 : decode m_MM_issue.2.1 53 = .ok (.iload 4, 2) := by decide +kernel
theorem e_MM_issue_55 : decode m_MM_issue.2.1 55 = .ok (.iastore, 1) := by decide +kernel
theorem e_MM_issue_56 : decode m_MM_issue.2.1 56 = .ok (.aload_n 0, 1) := by decide +kernel
theorem e_MM_issue_57 : decode m_MM_issue.2.1 57 = .ok (.getfield 47, 3) := by decide +kernel
theorem e_MM_issue_60 : decode m_MM_issue.2.1 60 = .ok (.iload_n 1, 1) := by decide +kernel
theorem e_MM_issue_61 : decode m_MM_issue.2.1 61 = .ok (.dup2, 1) := by decide +kernel
theorem e_MM_issue_62 : decode m_MM_issue.2.1 62 = .ok (.iaload, 1) := by decide +kernel
theorem e_MM_issue_63 : decode m_MM_issue.2.1 63 = .ok (.iconst 1, 1) := by decide +kernel
theorem e_MM_issue_64 : decode m_MM_issue.2.1 64 = .ok (.iadd, 1) := by decide +kernel
theorem e_MM_issue_65 : decode m_MM_issue.2.1 65 = .ok (.iastore, 1) := by decide +kernel
theorem e_MM_issue_66 : decode m_MM_issue.2.1 66 = .ok (.aload_n 0, 1) := by decide +kernel
theorem e_MM_issue_67 : decode m_MM_issue.2.1 67 = .ok (.getfield 50, 3) := by decide +kernel
theorem e_MM_issue_70 : decode m_MM_issue.2.1 70 = .ok (.iload_n 1, 1) := by decide +kernel
theorem e_MM_issue_71 : decode m_MM_issue.2.1 71 = .ok (.iconst 0, 1) := by decide +kernel
theorem e_MM_issue_72 : decode m_MM_issue.2.1 72 = .ok (.iastore, 1) := by decide +kernel
theorem e_MM_issue_73 : decode m_MM_issue.2.1 73 = .ok (.aload_n 0, 1) := by decide +kernel
theorem e_MM_issue_74 : decode m_MM_issue.2.1 74 = .ok (.getfield 38, 3) := by decide +kernel
theorem e_MM_issue_77 : decode m_MM_issue.2.1 77 = .ok (.iload_n 1, 1) := by decide +kernel
theorem e_MM_issue_78 : decode m_MM_issue.2.1 78 = .ok (.iconst 0, 1) := by decide +kernel
theorem e_MM_issue_79 : decode m_MM_issue.2.1 79 = .ok (.bastore, 1) := by decide +kernel
theorem e_MM_issue_80 : decode m_MM_issue.2.1 80 = .ok (.aload_n 0, 1) := by decide +kernel
theorem e_MM_issue_81 : decode m_MM_issue.2.1 81 = .ok (.iload_n 1, 1) := by decide +kernel
theorem e_MM_issue_82 : decode m_MM_issue.2.1 82 = .ok (.invokevirtual 152, 3) := by decide +kernel
theorem e_MM_issue_85 : decode m_MM_issue.2.1 85 = .ok (.ifCond .eq 10, 3) := by decide +kernel
theorem e_MM_issue_88 : decode m_MM_issue.2.1 88 = .ok (.aload_n 0, 1) := by decide +kernel
theorem e_MM_issue_89 : decode m_MM_issue.2.1 89 = .ok (.iload_n 1, 1) := by decide +kernel
theorem e_MM_issue_90 : decode m_MM_issue.2.1 90 = .ok (.invokevirtual 155, 3) := by decide +kernel
theorem e_MM_issue_93 : decode m_MM_issue.2.1 93 = .ok (.iconst 1, 1) := by decide +kernel
theorem e_MM_issue_94 : decode m_MM_issue.2.1 94 = .ok (.ireturn, 1) := by decide +kernel
theorem e_MM_issue_95 : decode m_MM_issue.2.1 95 = .ok (.aload_n 0, 1) := by decide +kernel
theorem e_MM_issue_96 : decode m_MM_issue.2.1 96 = .ok (.getfield 32, 3) := by decide +kernel
theorem e_MM_issue_99 : decode m_MM_issue.2.1 99 = .ok (.iload_n 1, 1) := by decide +kernel
theorem e_MM_issue_100 : decode m_MM_issue.2.1 100 = .ok (.iconst 1, 1) := by decide +kernel
theorem e_MM_issue_101 : decode m_MM_issue.2.1 101 = .ok (.bastore, 1) := by decide +kernel
theorem e_MM_issue_102 : decode m_MM_issue.2.1 102 = .ok (.aload_n 0, 1) := by decide +kernel
theorem e_MM_issue_103 : decode m_MM_issue.2.1 103 = .ok (.getfield 53, 3) := by decide +kernel
theorem e_MM_issue_106 : decode m_MM_issue.2.1 106 = .ok (.iload_n 1, 1) := by decide +kernel
theorem e_MM_issue_107 : decode m_MM_issue.2.1 107 = .ok (.aload_n 0, 1) := by decide +kernel
theorem e_MM_issue_108 : decode m_MM_issue.2.1 108 = .ok (.getfield 158, 3) := by decide +kernel
theorem e_MM_issue_111 : decode m_MM_issue.2.1 111 = .ok (.aload_n 0, 1) := by decide +kernel
theorem e_MM_issue_112 : decode m_MM_issue.2.1 112 = .ok (.getfield 120, 3) := by decide +kernel
theorem e_MM_issue_115 : decode m_MM_issue.2.1 115 = .ok (.iadd, 1) := by decide +kernel
theorem e_MM_issue_116 : decode m_MM_issue.2.1 116 = .ok (.iastore, 1) := by decide +kernel
theorem e_MM_issue_117 : decode m_MM_issue.2.1 117 = .ok (.aload_n 0, 1) := by decide +kernel
theorem e_MM_issue_118 : decode m_MM_issue.2.1 118 = .ok (.iload_n 1, 1) := by decide +kernel
theorem e_MM_issue_119 : decode m_MM_issue.2.1 119 = .ok (.invokevirtual 161, 3) := by decide +kernel
theorem e_MM_issue_122 : decode m_MM_issue.2.1 122 = .ok (.iconst 0, 1) := by decide +kernel
theorem e_MM_issue_123 : decode m_MM_issue.2.1 123 = .ok (.ireturn, 1) := by decide +kernel
theorem e_MM_tick_0 : decode m_MM_tick.2.1 0 = .ok (.aload_n 0, 1) := by decide +kernel
theorem e_MM_tick_1 : decode m_MM_tick.2.1 1 = .ok (.iconst 0, 1) := by decide +kernel
theorem e_MM_tick_2 : decode m_MM_tick.2.1 2 = .ok (.putfield 123, 3) := by decide +kernel
theorem e_MM_tick_5 : decode m_MM_tick.2.1 5 = .ok (.iload_n 1, 1) := by decide +kernel
theorem e_MM_tick_6 : decode m_MM_tick.2.1 6 = .ok (.iconst 1, 1) := by decide +kernel
theorem e_MM_tick_7 : decode m_MM_tick.2.1 7 = .ok (.if_icmp .lt 9, 3) := by decide +kernel
theorem e_MM_tick_10 : decode m_MM_tick.2.1 10 = .ok (.iload_n 1, 1) := by decide +kernel
theorem e_MM_tick_11 : decode m_MM_tick.2.1 11 = .ok (.bipush 50, 2) := by decide +kernel
theorem e_MM_tick_13 : decode m_MM_tick.2.1 13 = .ok (.if_icmp .le 5, 3) := by decide +kernel
theorem e_MM_tick_16 : decode m_MM_tick.2.1 16 = .ok (.iconst (-1), 1) := by decide +kernel
theorem e_MM_tick_17 : decode m_MM_tick.2.1 17 = .ok (.ireturn, 1) := by decide +kernel
theorem e_MM_tick_18 : decode m_MM_tick.2.1 18 = .ok (.iconst 0, 1) := by decide +kernel
theorem e_MM_tick_19 : decode m_MM_tick.2.1 19 = .ok (.istore_n 2, 1) := by decide +kernel
theorem e_MM_tick_20 : decode m_MM_tick.2.1 20 = .ok (.iload_n 2, 1) := by decide +kernel
theorem e_MM_tick_21 : decode m_MM_tick.2.1 21 = .ok (.iload_n 1, 1) := by decide +kernel
theorem e_MM_tick_22 : decode m_MM_tick.2.1 22 = .ok (.if_icmp .ge 71, 3) := by decide +kernel
theorem e_MM_tick_25 : decode m_MM_tick.2.1 25 = .ok (.aload_n 0, 1) := by decide +kernel
theorem e_MM_tick_26 : decode m_MM_tick.2.1 26 = .ok (.dup, 1) := by decide +kernel
theorem e_MM_tick_27 : decode m_MM_tick.2.1 27 = .ok (.getfield 158, 3) := by decide +kernel
theorem e_MM_tick_30 : decode m_MM_tick.2.1 30 = .ok (.iconst 1, 1) := by decide +kernel
theorem e_MM_tick_31 : decode m_MM_tick.2.1 31 = .ok (.iadd, 1) := by decide +kernel
theorem e_MM_tick_32 : decode m_MM_tick.2.1 32 = .ok (.putfield 158, 3) := by decide +kernel
theorem e_MM_tick_35 : decode m_MM_tick.2.1 35 = .ok (.iconst 0, 1) := by decide +kernel
theorem e_MM_tick_36 : decode m_MM_tick.2.1 36 = .ok (.istore_n 3, 1) := by decide +kernel
theorem e_MM_tick_37 : decode m_MM_tick.2.1 37 = .ok (.iload_n 3, 1) := by decide +kernel
theorem e_MM_tick_38 : decode m_MM_tick.2.1 38 = .ok (.aload_n 0, 1) := by decide +kernel
theorem e_MM_tick_39 : decode m_MM_tick.2.1 39 = .ok (.getfield 113, 3) := by decide +kernel
theorem e_MM_tick_42 : decode m_MM_tick.2.1 42 = .ok (.if_icmp .ge 45, 3) := by decide +kernel
theorem e_MM_tick_45 : decode m_MM_tick.2.1 45 = .ok (.aload_n 0, 1) := by decide +kernel
theorem e_MM_tick_46 : decode m_MM_tick.2.1 46 = .ok (.getfield 32, 3) := by decide +kernel
theorem e_MM_tick_49 : decode m_MM_tick.2.1 49 = .ok (.iload_n 3, 1) := by decide +kernel
theorem e_MM_tick_50 : decode m_MM_tick.2.1 50 = .ok (.baload, 1) := by decide +kernel
theorem e_MM_tick_51 : decode m_MM_tick.2.1 51 = .ok (.ifCond .eq 30, 3) := by decide +kernel
theorem e_MM_tick_54 : decode m_MM_tick.2.1 54 = .ok (.aload_n 0, 1) := by decide +kernel
theorem e_MM_tick_55 : decode m_MM_tick.2.1 55 = .ok (.getfield 38, 3) := by decide +kernel
theorem e_MM_tick_58 : decode m_MM_tick.2.1 58 = .ok (.iload_n 3, 1) := by decide +kernel
theorem e_MM_tick_59 : decode m_MM_tick.2.1 59 = .ok (.baload, 1) := by decide +kernel
theorem e_MM_tick_60 : decode m_MM_tick.2.1 60 = .ok (.ifCond .ne 21, 3) := by decide +kernel
theorem e_MM_tick_63 : decode m_MM_tick.2.1 63 = .ok (.aload_n 0, 1) := by decide +kernel
theorem e_MM_tick_64 : decode m_MM_tick.2.1 64 = .ok (.getfield 53, 3) := by decide +kernel
theorem e_MM_tick_67 : decode m_MM_tick.2.1 67 = .ok (.iload_n 3, 1) := by decide +kernel
theorem e_MM_tick_68 : decode m_MM_tick.2.1 68 = .ok (.iaload, 1) := by decide +kernel
theorem e_MM_tick_69 : decode m_MM_tick.2.1 69 = .ok (.aload_n 0, 1) := by decide +kernel
theorem e_MM_tick_70 : decode m_MM_tick.2.1 70 = .ok (.getfield 158, 3) := by decide +kernel
theorem e_MM_tick_73 : decode m_MM_tick.2.1 73 = .ok (.if_icmp .ne 8, 3) := by decide +kernel
theorem e_MM_tick_76 : decode m_MM_tick.2.1 76 = .ok (.aload_n 0, 1) := by decide +kernel
theorem e_MM_tick_77 : decode m_MM_tick.2.1 77 = .ok (.iload_n 3, 1) := by decide +kernel
theorem e_MM_tick_78 : decode m_MM_tick.2.1 78 = .ok (.invokevirtual 164, 3) := by decide +kernel
theorem e_MM_tick_81 : decode m_MM_tick.2.1 81 = .ok (.iinc 3 1, 3) := by decide +kernel
theorem e_MM_tick_84 : decode m_MM_tick.2.1 84 = .ok (.goto (-47), 3) := by decide +kernel
theorem e_MM_tick_87 : decode m_MM_tick.2.1 87 = .ok (.iinc 2 1, 3) := by decide +kernel
theorem e_MM_tick_90 : decode m_MM_tick.2.1 90 = .ok (.goto (-70), 3) := by decide +kernel
theorem e_MM_tick_93 : decode m_MM_tick.2.1 93 = .ok (.aload_n 0, 1) := by decide +kernel
theorem e_MM_tick_94 : decode m_MM_tick.2.1 94 = .ok (.getfield 158, 3) := by decide +kernel
theorem e_MM_tick_97 : decode m_MM_tick.2.1 97 = .ok (.ireturn, 1) := by decide +kernel
theorem e_MM_repeat_0 : decode m_MM_repeat.2.1 0 = .ok (.aload_n 0, 1) := by decide +kernel
theorem e_MM_repeat_1 : decode m_MM_repeat.2.1 1 = .ok (.getfield 50, 3) := by decide +kernel
theorem e_MM_repeat_4 : decode m_MM_repeat.2.1 4 = .ok (.iload_n 1, 1) := by decide +kernel
theorem e_MM_repeat_5 : decode m_MM_repeat.2.1 5 = .ok (.iaload, 1) := by decide +kernel
theorem e_MM_repeat_6 : decode m_MM_repeat.2.1 6 = .ok (.aload_n 0, 1) := by decide +kernel
theorem e_MM_repeat_7 : decode m_MM_repeat.2.1 7 = .ok (.getfield 117, 3) := by decide +kernel
theorem e_MM_repeat_10 : decode m_MM_repeat.2.1 10 = .ok (.if_icmp .ge 34, 3) := by decide +kernel
theorem e_MM_repeat_13 : decode m_MM_repeat.2.1 13 = .ok (.aload_n 0, 1) := by decide +kernel
theorem e_MM_repeat_14 : decode m_MM_repeat.2.1 14 = .ok (.getfield 50, 3) := by decide +kernel
theorem e_MM_repeat_17 : decode m_MM_repeat.2.1 17 = .ok (.iload_n 1, 1) := by decide +kernel
theorem e_MM_repeat_18 : decode m_MM_repeat.2.1 18 = .ok (.dup2, 1) := by decide +kernel
theorem e_MM_repeat_19 : decode m_MM_repeat.2.1 19 = .ok (.iaload, 1) := by decide +kernel
theorem e_MM_repeat_20 : decode m_MM_repeat.2.1 20 = .ok (.iconst 1, 1) := by decide +kernel
theorem e_MM_repeat_21 : decode m_MM_repeat.2.1 21 = .ok (.iadd, 1) := by decide +kernel
theorem e_MM_repeat_22 : decode m_MM_repeat.2.1 22 = .ok (.iastore, 1) := by decide +kernel
theorem e_MM_repeat_23 : decode m_MM_repeat.2.1 23 = .ok (.aload_n 0, 1) := by decide +kernel
theorem e_MM_repeat_24 : decode m_MM_repeat.2.1 24 = .ok (.getfield 53, 3) := by decide +kernel
theorem e_MM_repeat_27 : decode m_MM_repeat.2.1 27 = .ok (.iload_n 1, 1) := by decide +kernel
theorem e_MM_repeat_28 : decode m_MM_repeat.2.1 28 = .ok (.aload_n 0, 1) := by decide +kernel
theorem e_MM_repeat_29 : decode m_MM_repeat.2.1 29 = .ok (.getfield 158, 3) := by decide +kernel
theorem e_MM_repeat_32 : decode m_MM_repeat.2.1 32 = .ok (.aload_n 0, 1) := by decide +kernel
theorem e_MM_repeat_33 : decode m_MM_repeat.2.1 33 = .ok (.getfield 120, 3) := by decide +kernel
theorem e_MM_repeat_36 : decode m_MM_repeat.2.1 36 = .ok (.iadd, 1) := by decide +kernel
theorem e_MM_repeat_37 : decode m_MM_repeat.2.1 37 = .ok (.iastore, 1) := by decide +kernel
theorem e_MM_repeat_38 : decode m_MM_repeat.2.1 38 = .ok (.aload_n 0, 1) := by decide +kernel
theorem e_MM_repeat_39 : decode m_MM_repeat.2.1 39 = .ok (.iload_n 1, 1) := by decide +kernel
theorem e_MM_repeat_40 : decode m_MM_repeat.2.1 40 = .ok (.invokevirtual 161, 3) := by decide +kernel
theorem e_MM_repeat_43 : decode m_MM_repeat.2.1 43 = .ok (.return_, 1) := by decide +kernel
theorem e_MM_repeat_44 : decode m_MM_repeat.2.1 44 = .ok (.aload_n 0, 1) := by decide +kernel
theorem e_MM_repeat_45 : decode m_MM_repeat.2.1 45 = .ok (.getfield 38, 3) := by decide +kernel
theorem e_MM_repeat_48 : decode m_MM_repeat.2.1 48 = .ok (.iload_n 1, 1) := by decide +kernel
theorem e_MM_repeat_49 : decode m_MM_repeat.2.1 49 = .ok (.iconst 1, 1) := by decide +kernel
theorem e_MM_repeat_50 : decode m_MM_repeat.2.1 50 = .ok (.bastore, 1) := by decide +kernel
theorem e_MM_repeat_51 : decode m_MM_repeat.2.1 51 = .ok (.aload_n 0, 1) := by decide +kernel
theorem e_MM_repeat_52 : decode m_MM_repeat.2.1 52 = .ok (.iconst 4, 1) := by decide +kernel
theorem e_MM_repeat_53 : decode m_MM_repeat.2.1 53 = .ok (.iload_n 1, 1) := by decide +kernel
theorem e_MM_repeat_54 : decode m_MM_repeat.2.1 54 = .ok (.aload_n 0, 1) := by decide +kernel
theorem e_MM_repeat_55 : decode m_MM_repeat.2.1 55 = .ok (.getfield 113, 3) := by decide +kernel
theorem e_MM_repeat_58 : decode m_MM_repeat.2.1 58 = .ok (.aload_n 0, 1) := by decide +kernel
theorem e_MM_repeat_59 : decode m_MM_repeat.2.1 59 = .ok (.getfield 41, 3) := by decide +kernel
theorem e_MM_repeat_62 : decode m_MM_repeat.2.1 62 = .ok (.iload_n 1, 1) := by decide +kernel
theorem e_MM_repeat_63 : decode m_MM_repeat.2.1 63 = .ok (.iaload, 1) := by decide +kernel
theorem e_MM_repeat_64 : decode m_MM_repeat.2.1 64 = .ok (.invokevirtual 137, 3) := by decide +kernel
theorem e_MM_repeat_67 : decode m_MM_repeat.2.1 67 = .ok (.istore_n 2, 1) := by decide +kernel
theorem e_MM_repeat_68 : decode m_MM_repeat.2.1 68 = .ok (.aload_n 0, 1) := by decide +kernel
theorem e_MM_repeat_69 : decode m_MM_repeat.2.1 69 = .ok (.getfield 104, 3) := by decide +kernel
theorem e_MM_repeat_72 : decode m_MM_repeat.2.1 72 = .ok (.iload_n 2, 1) := by decide +kernel
theorem e_MM_repeat_73 : decode m_MM_repeat.2.1 73 = .ok (.aload_n 0, 1) := by decide +kernel
theorem e_MM_repeat_74 : decode m_MM_repeat.2.1 74 = .ok (.getfield 47, 3) := by decide +kernel
theorem e_MM_repeat_77 : decode m_MM_repeat.2.1 77 = .ok (.iload_n 1, 1) := by decide +kernel
theorem e_MM_repeat_78 : decode m_MM_repeat.2.1 78 = .ok (.iaload, 1) := by decide +kernel
theorem e_MM_repeat_79 : decode m_MM_repeat.2.1 79 = .ok (.iastore, 1) := by decide +kernel
theorem e_MM_repeat_80 : decode m_MM_repeat.2.1 80 = .ok (.aload_n 0, 1) := by decide +kernel
theorem e_MM_repeat_81 : decode m_MM_repeat.2.1 81 = .ok (.getfield 110, 3) := by decide +kernel
theorem e_MM_repeat_84 : decode m_MM_repeat.2.1 84 = .ok (.iload_n 2, 1) := by decide +kernel
theorem e_MM_repeat_85 : decode m_MM_repeat.2.1 85 = .ok (.aload_n 0, 1) := by decide +kernel
theorem e_MM_repeat_86 : decode m_MM_repeat.2.1 86 = .ok (.getfield 35, 3) := by decide +kernel
theorem e_MM_repeat_89 : decode m_MM_repeat.2.1 89 = .ok (.iload_n 1, 1) := by decide +kernel
theorem e_MM_repeat_90 : decode m_MM_repeat.2.1 90 = .ok (.baload, 1) := by decide +kernel
theorem e_MM_repeat_91 : decode m_MM_repeat.2.1 91 = .ok (.bastore, 1) := by decide +kernel
theorem e_MM_repeat_92 : decode m_MM_repeat.2.1 92 = .ok (.return_, 1) := by decide +kernel
theorem e_MM_tellAll_0 : decode m_MM_tellAll.2.1 0 = .ok (.iconst 2, 1) := by decide +kernel
theorem e_MM_tellAll_1 : decode m_MM_tellAll.2.1 1 = .ok (.aload_n 0, 1) := by decide +kernel
theorem e_MM_tellAll_2 : decode m_MM_tellAll.2.1 2 = .ok (.getfield 113, 3) := by decide +kernel
theorem e_MM_tellAll_5 : decode m_MM_tellAll.2.1 5 = .ok (.imul, 1) := by decide +kernel
theorem e_MM_tellAll_6 : decode m_MM_tellAll.2.1 6 = .ok (.iload_n 1, 1) := by decide +kernel
theorem e_MM_tellAll_7 : decode m_MM_tellAll.2.1 7 = .ok (.iadd, 1) := by decide +kernel
theorem e_MM_tellAll_8 : decode m_MM_tellAll.2.1 8 = .ok (.istore_n 2, 1) := by decide +kernel
theorem e_MM_tellAll_9 : decode m_MM_tellAll.2.1 9 = .ok (.iconst 0, 1) := by decide +kernel
theorem e_MM_tellAll_10 : decode m_MM_tellAll.2.1 10 = .ok (.istore_n 3, 1) := by decide +kernel
theorem e_MM_tellAll_11 : decode m_MM_tellAll.2.1 11 = .ok (.iload_n 3, 1) := by decide +kernel
theorem e_MM_tellAll_12 : decode m_MM_tellAll.2.1 12 = .ok (.aload_n 0, 1) := by decide +kernel
theorem e_MM_tellAll_13 : decode m_MM_tellAll.2.1 13 = .ok (.getfield 113, 3) := by decide +kernel
theorem e_MM_tellAll_16 : decode m_MM_tellAll.2.1 16 = .ok (.if_icmp .ge 61, 3) := by decide +kernel
theorem e_MM_tellAll_19 : decode m_MM_tellAll.2.1 19 = .ok (.aload_n 0, 1) := by decide +kernel
theorem e_MM_tellAll_20 : decode m_MM_tellAll.2.1 20 = .ok (.iconst 5, 1) := by decide +kernel
theorem e_MM_tellAll_21 : decode m_MM_tellAll.2.1 21 = .ok (.aload_n 0, 1) := by decide +kernel
theorem e_MM_tellAll_22 : decode m_MM_tellAll.2.1 22 = .ok (.getfield 113, 3) := by decide +kernel
theorem e_MM_tellAll_25 : decode m_MM_tellAll.2.1 25 = .ok (.iload_n 3, 1) := by decide +kernel
theorem e_MM_tellAll_26 : decode m_MM_tellAll.2.1 26 = .ok (.iload_n 1, 1) := by decide +kernel
theorem e_MM_tellAll_27 : decode m_MM_tellAll.2.1 27 = .ok (.invokevirtual 137, 3) := by decide +kernel
theorem e_MM_tellAll_30 : decode m_MM_tellAll.2.1 30 = .ok (.istore 4, 2) := by decide +kernel
theorem e_MM_tellAll_32 : decode m_MM_tellAll.2.1 32 = .ok (.aload_n 0, 1) := by decide +kernel
theorem e_MM_tellAll_33 : decode m_MM_tellAll.2.1 33 = .ok (.getfield 104, 3) := by decide +kernel
theorem e_MM_tellAll_36 : decode m_MM_tellAll.2.1 36 = .ok (.iload 4, 2) := by decide +kernel
theorem e_MM_tellAll_38 : decode m_MM_tellAll.2.1 38 = .ok (.aload_n 0, 1) := by decide +kernel
theorem e_MM_tellAll_39 : decode m_MM_tellAll.2.1 39 = .ok (.getfield 29, 3) := by decide +kernel
theorem e_MM_tellAll_42 : decode m_MM_tellAll.2.1 42 = .ok (.iload_n 2, 1) := by decide +kernel
theorem e_MM_tellAll_43 : decode m_MM_tellAll.2.1 43 = .ok (.iaload, 1) := by decide +kernel
theorem e_MM_tellAll_44 : decode m_MM_tellAll.2.1 44 = .ok (.iastore, 1) := by decide +kernel
theorem e_MM_tellAll_45 : decode m_MM_tellAll.2.1 45 = .ok (.aload_n 0, 1) := by decide +kernel
theorem e_MM_tellAll_46 : decode m_MM_tellAll.2.1 46 = .ok (.getfield 107, 3) := by decide +kernel
theorem e_MM_tellAll_49 : decode m_MM_tellAll.2.1 49 = .ok (.iload 4, 2) := by decide +kernel
theorem e_MM_tellAll_51 : decode m_MM_tellAll.2.1 51 = .ok (.aload_n 0, 1) := by decide +kernel
theorem e_MM_tellAll_52 : decode m_MM_tellAll.2.1 52 = .ok (.getfield 23, 3) := by decide +kernel
theorem e_MM_tellAll_55 : decode m_MM_tellAll.2.1 55 = .ok (.iload_n 2, 1) := by decide +kernel
theorem e_MM_tellAll_56 : decode m_MM_tellAll.2.1 56 = .ok (.iaload, 1) := by decide +kernel
theorem e_MM_tellAll_57 : decode m_MM_tellAll.2.1 57 = .ok (.iastore, 1) := by decide +kernel
theorem e_MM_tellAll_58 : decode m_MM_tellAll.2.1 58 = .ok (.aload_n 0, 1) := by decide +kernel
theorem e_MM_tellAll_59 : decode m_MM_tellAll.2.1 59 = .ok (.getfield 110, 3) := by decide +kernel
theorem e_MM_tellAll_62 : decode m_MM_tellAll.2.1 62 = .ok (.iload 4, 2) := by decide +kernel
theorem e_MM_tellAll_64 : decode m_MM_tellAll.2.1 64 = .ok (.aload_n 0, 1) := by decide +kernel
theorem e_MM_tellAll_65 : decode m_MM_tellAll.2.1 65 = .ok (.getfield 26, 3) := by decide +kernel
theorem e_MM_tellAll_68 : decode m_MM_tellAll.2.1 68 = .ok (.iload_n 2, 1) := by decide +kernel
theorem e_MM_tellAll_69 : decode m_MM_tellAll.2.1 69 = .ok (.baload, 1) := by decide +kernel
theorem e_MM_tellAll_70 : decode m_MM_tellAll.2.1 70 = .ok (.bastore, 1) := by decide +kernel
theorem e_MM_tellAll_71 : decode m_MM_tellAll.2.1 71 = .ok (.iinc 3 1, 3) := by decide +kernel
theorem e_MM_tellAll_74 : decode m_MM_tellAll.2.1 74 = .ok (.goto (-63), 3) := by decide +kernel
theorem e_MM_tellAll_77 : decode m_MM_tellAll.2.1 77 = .ok (.return_, 1) := by decide +kernel
theorem e_MM_takeOut_0 : decode m_MM_takeOut.2.1 0 = .ok (.aload_n 0, 1) := by decide +kernel
theorem e_MM_takeOut_1 : decode m_MM_takeOut.2.1 1 = .ok (.getfield 71, 3) := by decide +kernel
theorem e_MM_takeOut_4 : decode m_MM_takeOut.2.1 4 = .ok (.iload_n 1, 1) := by decide +kernel
theorem e_MM_takeOut_5 : decode m_MM_takeOut.2.1 5 = .ok (.dup2, 1) := by decide +kernel
theorem e_MM_takeOut_6 : decode m_MM_takeOut.2.1 6 = .ok (.iaload, 1) := by decide +kernel
theorem e_MM_takeOut_7 : decode m_MM_takeOut.2.1 7 = .ok (.iconst 1, 1) := by decide +kernel
theorem e_MM_takeOut_8 : decode m_MM_takeOut.2.1 8 = .ok (.isub, 1) := by decide +kernel
theorem e_MM_takeOut_9 : decode m_MM_takeOut.2.1 9 = .ok (.iastore, 1) := by decide +kernel
theorem e_MM_takeOut_10 : decode m_MM_takeOut.2.1 10 = .ok (.bipush 20, 2) := by decide +kernel
theorem e_MM_takeOut_12 : decode m_MM_takeOut.2.1 12 = .ok (.iload_n 1, 1) := by decide +kernel
theorem e_MM_takeOut_13 : decode m_MM_takeOut.2.1 13 = .ok (.imul, 1) := by decide +kernel
theorem e_MM_takeOut_14 : decode m_MM_takeOut.2.1 14 = .ok (.iload_n 2, 1) := by decide +kernel
theorem e_MM_takeOut_15 : decode m_MM_takeOut.2.1 15 = .ok (.iadd, 1) := by decide +kernel
theorem e_MM_takeOut_16 : decode m_MM_takeOut.2.1 16 = .ok (.istore_n 3, 1) := by decide +kernel
theorem e_MM_takeOut_17 : decode m_MM_takeOut.2.1 17 = .ok (.iload_n 3, 1) := by decide +kernel
theorem e_MM_takeOut_18 : decode m_MM_takeOut.2.1 18 = .ok (.bipush 20, 2) := by decide +kernel
theorem e_MM_takeOut_20 : decode m_MM_takeOut.2.1 20 = .ok (.iload_n 1, 1) := by decide +kernel
theorem e_MM_takeOut_21 : decode m_MM_takeOut.2.1 21 = .ok (.imul, 1) := by decide +kernel
theorem e_MM_takeOut_22 : decode m_MM_takeOut.2.1 22 = .ok (.aload_n 0, 1) := by decide +kernel
theorem e_MM_takeOut_23 : decode m_MM_takeOut.2.1 23 = .ok (.getfield 71, 3) := by decide +kernel
theorem e_MM_takeOut_26 : decode m_MM_takeOut.2.1 26 = .ok (.iload_n 1, 1) := by decide +kernel
theorem e_MM_takeOut_27 : decode m_MM_takeOut.2.1 27 = .ok (.iaload, 1) := by decide +kernel
theorem e_MM_takeOut_28 : decode m_MM_takeOut.2.1 28 = .ok (.iadd, 1) := by decide +kernel
theorem e_MM_takeOut_29 : decode m_MM_takeOut.2.1 29 = .ok (.if_icmp .ge 51, 3) := by decide +kernel
theorem e_MM_takeOut_32 : decode m_MM_takeOut.2.1 32 = .ok (.aload_n 0, 1) := by decide +kernel
theorem e_MM_takeOut_33 : decode m_MM_takeOut.2.1 33 = .ok (.getfield 62, 3) := by decide +kernel
theorem e_MM_takeOut_36 : decode m_MM_takeOut.2.1 36 = .ok (.iload_n 3, 1) := by decide +kernel
theorem e_MM_takeOut_37 : decode m_MM_takeOut.2.1 37 = .ok (.aload_n 0, 1) := by decide +kernel
theorem e_MM_takeOut_38 : decode m_MM_takeOut.2.1 38 = .ok (.getfield 62, 3) := by decide +kernel
theorem e_MM_takeOut_41 : decode m_MM_takeOut.2.1 41 = .ok (.iload_n 3, 1) := by decide +kernel
theorem e_MM_takeOut_42 : decode m_MM_takeOut.2.1 42 = .ok (.iconst 1, 1) := by decide +kernel
theorem e_MM_takeOut_43 : decode m_MM_takeOut.2.1 43 = .ok (.iadd, 1) := by decide +kernel
theorem e_MM_takeOut_44 : decode m_MM_takeOut.2.1 44 = .ok (.iaload, 1) := by decide +kernel
theorem e_MM_takeOut_45 : decode m_MM_takeOut.2.1 45 = .ok (.iastore, 1) := by decide +kernel
theorem e_MM_takeOut_46 : decode m_MM_takeOut.2.1 46 = .ok (.aload_n 0, 1) := by decide +kernel
theorem e_MM_takeOut_47 : decode m_MM_takeOut.2.1 47 = .ok (.getfield 65, 3) := by decide +kernel
theorem e_MM_takeOut_50 : decode m_MM_takeOut.2.1 50 = .ok (.iload_n 3, 1) := by decide +kernel
theorem e_MM_takeOut_51 : decode m_MM_takeOut.2.1 51 = .ok (.aload_n 0, 1) := by decide +kernel
theorem e_MM_takeOut_52 : decode m_MM_takeOut.2.1 52 = .ok (.getfield 65, 3) := by decide +kernel
theorem e_MM_takeOut_55 : decode m_MM_takeOut.2.1 55 = .ok (.iload_n 3, 1) := by decide +kernel
theorem e_MM_takeOut_56 : decode m_MM_takeOut.2.1 56 = .ok (.iconst 1, 1) := by decide +kernel
theorem e_MM_takeOut_57 : decode m_MM_takeOut.2.1 57 = .ok (.iadd, 1) := by decide +kernel
theorem e_MM_takeOut_58 : decode m_MM_takeOut.2.1 58 = .ok (.iaload, 1) := by decide +kernel
theorem e_MM_takeOut_59 : decode m_MM_takeOut.2.1 59 = .ok (.iastore, 1) := by decide +kernel
theorem e_MM_takeOut_60 : decode m_MM_takeOut.2.1 60 = .ok (.aload_n 0, 1) := by decide +kernel
theorem e_MM_takeOut_61 : decode m_MM_takeOut.2.1 61 = .ok (.getfield 68, 3) := by decide +kernel
theorem e_MM_takeOut_64 : decode m_MM_takeOut.2.1 64 = .ok (.iload_n 3, 1) := by decide +kernel
theorem e_MM_takeOut_65 : decode m_MM_takeOut.2.1 65 = .ok (.aload_n 0, 1) := by decide +kernel
theorem e_MM_takeOut_66 : decode m_MM_takeOut.2.1 66 = .ok (.getfield 68, 3) := by decide +kernel
theorem e_MM_takeOut_69 : decode m_MM_takeOut.2.1 69 = .ok (.iload_n 3, 1) := by decide +kernel
theorem e_MM_takeOut_70 : decode m_MM_takeOut.2.1 70 = .ok (.iconst 1, 1) := by decide +kernel
theorem e_MM_takeOut_71 : decode m_MM_takeOut.2.1 71 = .ok (.iadd, 1) := by decide +kernel
theorem e_MM_takeOut_72 : decode m_MM_takeOut.2.1 72 = .ok (.baload, 1) := by decide +kernel
theorem e_MM_takeOut_73 : decode m_MM_takeOut.2.1 73 = .ok (.bastore, 1) := by decide +kernel
theorem e_MM_takeOut_74 : decode m_MM_takeOut.2.1 74 = .ok (.iinc 3 1, 3) := by decide +kernel
theorem e_MM_takeOut_77 : decode m_MM_takeOut.2.1 77 = .ok (.goto (-60), 3) := by decide +kernel
theorem e_MM_takeOut_80 : decode m_MM_takeOut.2.1 80 = .ok (.return_, 1) := by decide +kernel
theorem e_MM_activate_0 : decode m_MM_activate.2.1 0 = .ok (.aload_n 0, 1) := by decide +kernel
theorem e_MM_activate_1 : decode m_MM_activate.2.1 1 = .ok (.getfield 71, 3) := by decide +kernel
theorem e_MM_activate_4 : decode m_MM_activate.2.1 4 = .ok (.iload_n 1, 1) := by decide +kernel
theorem e_MM_activate_5 : decode m_MM_activate.2.1 5 = .ok (.iaload, 1) := by decide +kernel
theorem e_MM_activate_6 : decode m_MM_activate.2.1 6 = .ok (.ifCond .ne 4, 3) := by decide +kernel
theorem e_MM_activate_9 : decode m_MM_activate.2.1 9 = .ok (.return_, 1) := by decide +kernel
theorem e_MM_activate_10 : decode m_MM_activate.2.1 10 = .ok (.iconst 2, 1) := by decide +kernel
theorem e_MM_activate_11 : decode m_MM_activate.2.1 11 = .ok (.aload_n 0, 1) := by decide +kernel
theorem e_MM_activate_12 : decode m_MM_activate.2.1 12 = .ok (.getfield 113, 3) := by decide +kernel
theorem e_MM_activate_15 : decode m_MM_activate.2.1 15 = .ok (.imul, 1) := by decide +kernel
theorem e_MM_activate_16 : decode m_MM_activate.2.1 16 = .ok (.iload_n 1, 1) := by decide +kernel
theorem e_MM_activate_17 : decode m_MM_activate.2.1 17 = .ok (.iadd, 1) := by decide +kernel
theorem e_MM_activate_18 : decode m_MM_activate.2.1 18 = .ok (.istore_n 2, 1) := by decide +kernel
theorem e_MM_activate_19 : decode m_MM_activate.2.1 19 = .ok (.aload_n 0, 1) := by decide +kernel
theorem e_MM_activate_20 : decode m_MM_activate.2.1 20 = .ok (.getfield 23, 3) := by decide +kernel
theorem e_MM_activate_23 : decode m_MM_activate.2.1 23 = .ok (.iload_n 2, 1) := by decide +kernel
theorem e_MM_activate_24 : decode m_MM_activate.2.1 24 = .ok (.aload_n 0, 1) := by decide +kernel
theorem e_MM_activate_25 : decode m_MM_activate.2.1 25 = .ok (.getfield 62, 3) := by decide +kernel
theorem e_MM_activate_28 : decode m_MM_activate.2.1 28 = .ok (.bipush 20, 2) := by decide +kernel
theorem e_MM_activate_30 : decode m_MM_activate.2.1 30 = .ok (.iload_n 1, 1) := by decide +kernel
theorem e_MM_activate_31 : decode m_MM_activate.2.1 31 = .ok (.imul, 1) := by decide +kernel
theorem e_MM_activate_32 : decode m_MM_activate.2.1 32 = .ok (.iaload, 1) := by decide +kernel
theorem e_MM_activate_33 : decode m_MM_activate.2.1 33 = .ok (.iastore, 1) := by decide +kernel
theorem e_MM_activate_34 : decode m_MM_activate.2.1 34 = .ok (.aload_n 0, 1) := by decide +kernel
theorem e_MM_activate_35 : decode m_MM_activate.2.1 35 = .ok (.getfield 26, 3) := by decide +kernel
theorem e_MM_activate_38 : decode m_MM_activate.2.1 38 = .ok (.iload_n 2, 1) := by decide +kernel
theorem e_MM_activate_39 : decode m_MM_activate.2.1 39 = .ok (.aload_n 0, 1) := by decide +kernel
theorem e_MM_activate_40 : decode m_MM_activate.2.1 40 = .ok (.getfield 68, 3) := by decide +kernel
theorem e_MM_activate_43 : decode m_MM_activate.2.1 43 = .ok (.bipush 20, 2) := by decide +kernel
theorem e_MM_activate_45 : decode m_MM_activate.2.1 45 = .ok (.iload_n 1, 1) := by decide +kernel
theorem e_MM_activate_46 : decode m_MM_activate.2.1 46 = .ok (.imul, 1) := by decide +kernel
theorem e_MM_activate_47 : decode m_MM_activate.2.1 47 = .ok (.baload, 1) := by decide +kernel
theorem e_MM_activate_48 : decode m_MM_activate.2.1 48 = .ok (.bastore, 1) := by decide +kernel
theorem e_MM_activate_49 : decode m_MM_activate.2.1 49 = .ok (.aload_n 0, 1) := by decide +kernel
theorem e_MM_activate_50 : decode m_MM_activate.2.1 50 = .ok (.getfield 74, 3) := by decide +kernel
theorem e_MM_activate_53 : decode m_MM_activate.2.1 53 = .ok (.iload_n 1, 1) := by decide +kernel
theorem e_MM_activate_54 : decode m_MM_activate.2.1 54 = .ok (.aload_n 0, 1) := by decide +kernel
theorem e_MM_activate_55 : decode m_MM_activate.2.1 55 = .ok (.getfield 65, 3) := by decide +kernel
theorem e_MM_activate_58 : decode m_MM_activate.2.1 58 = .ok (.bipush 20, 2) := by decide +kernel
theorem e_MM_activate_60 : decode m_MM_activate.2.1 60 = .ok (.iload_n 1, 1) := by decide +kernel
theorem e_MM_activate_61 : decode m_MM_activate.2.1 61 = .ok (.imul, 1) := by decide +kernel
theorem e_MM_activate_62 : decode m_MM_activate.2.1 62 = .ok (.iaload, 1) := by decide +kernel
theorem e_MM_activate_63 : decode m_MM_activate.2.1 63 = .ok (.iastore, 1) := by decide +kernel
theorem e_MM_activate_64 : decode m_MM_activate.2.1 64 = .ok (.aload_n 0, 1) := by decide +kernel
theorem e_MM_activate_65 : decode m_MM_activate.2.1 65 = .ok (.iload_n 1, 1) := by decide +kernel
theorem e_MM_activate_66 : decode m_MM_activate.2.1 66 = .ok (.iconst 0, 1) := by decide +kernel
theorem e_MM_activate_67 : decode m_MM_activate.2.1 67 = .ok (.invokevirtual 167, 3) := by decide +kernel
theorem e_MM_activate_70 : decode m_MM_activate.2.1 70 = .ok (.aload_n 0, 1) := by decide +kernel
theorem e_MM_activate_71 : decode m_MM_activate.2.1 71 = .ok (.getfield 29, 3) := by decide +kernel
theorem e_MM_activate_74 : decode m_MM_activate.2.1 74 = .ok (.iload_n 2, 1) := by decide +kernel
theorem e_MM_activate_75 : decode m_MM_activate.2.1 75 = .ok (.dup2, 1) := by decide +kernel
theorem e_MM_activate_76 : decode m_MM_activate.2.1 76 = .ok (.iaload, 1) := by decide +kernel
theorem e_MM_activate_77 : decode m_MM_activate.2.1 77 = .ok (.iconst 1, 1) := by decide +kernel
theorem e_MM_activate_78 : decode m_MM_activate.2.1 78 = .ok (.iadd, 1) := by decide +kernel
theorem e_MM_activate_79 : decode m_MM_activate.2.1 79 = .ok (.iastore, 1) := by decide +kernel
theorem e_MM_activate_80 : decode m_MM_activate.2.1 80 = .ok (.aload_n 0, 1) := by decide +kernel
theorem e_MM_activate_81 : decode m_MM_activate.2.1 81 = .ok (.iload_n 1, 1) := by decide +kernel
theorem e_MM_activate_82 : decode m_MM_activate.2.1 82 = .ok (.invokevirtual 170, 3) := by decide +kernel
theorem e_MM_activate_85 : decode m_MM_activate.2.1 85 = .ok (.aload_n 0, 1) := by decide +kernel
theorem e_MM_activate_86 : decode m_MM_activate.2.1 86 = .ok (.aload_n 0, 1) := by decide +kernel
theorem e_MM_activate_87 : decode m_MM_activate.2.1 87 = .ok (.getfield 113, 3) := by decide +kernel
theorem e_MM_activate_90 : decode m_MM_activate.2.1 90 = .ok (.iload_n 1, 1) := by decide +kernel
theorem e_MM_activate_91 : decode m_MM_activate.2.1 91 = .ok (.invokevirtual 173, 3) := by decide +kernel
theorem e_MM_activate_94 : decode m_MM_activate.2.1 94 = .ok (.return_, 1) := by decide +kernel
theorem e_MM_lapse_0 : decode m_MM_lapse.2.1 0 = .ok (.aload_n 0, 1) := by decide +kernel
theorem e_MM_lapse_1 : decode m_MM_lapse.2.1 1 = .ok (.getfield 77, 3) := by decide +kernel
theorem e_MM_lapse_4 : decode m_MM_lapse.2.1 4 = .ok (.iload_n 1, 1) := by decide +kernel
theorem e_MM_lapse_5 : decode m_MM_lapse.2.1 5 = .ok (.iaload, 1) := by decide +kernel
theorem e_MM_lapse_6 : decode m_MM_lapse.2.1 6 = .ok (.iload_n 2, 1) := by decide +kernel
theorem e_MM_lapse_7 : decode m_MM_lapse.2.1 7 = .ok (.if_icmp .lt 4, 3) := by decide +kernel
theorem e_MM_lapse_10 : decode m_MM_lapse.2.1 10 = .ok (.return_, 1) := by decide +kernel
theorem e_MM_lapse_11 : decode m_MM_lapse.2.1 11 = .ok (.aload_n 0, 1) := by decide +kernel
theorem e_MM_lapse_12 : decode m_MM_lapse.2.1 12 = .ok (.getfield 77, 3) := by decide +kernel
theorem e_MM_lapse_15 : decode m_MM_lapse.2.1 15 = .ok (.iload_n 1, 1) := by decide +kernel
theorem e_MM_lapse_16 : decode m_MM_lapse.2.1 16 = .ok (.iload_n 2, 1) := by decide +kernel
theorem e_MM_lapse_17 : decode m_MM_lapse.2.1 17 = .ok (.iastore, 1) := by decide +kernel
theorem e_MM_lapse_18 : decode m_MM_lapse.2.1 18 = .ok (.iconst 0, 1) := by decide +kernel
theorem e_MM_lapse_19 : decode m_MM_lapse.2.1 19 = .ok (.istore_n 3, 1) := by decide +kernel
theorem e_MM_lapse_20 : decode m_MM_lapse.2.1 20 = .ok (.iload_n 3, 1) := by decide +kernel
theorem e_MM_lapse_21 : decode m_MM_lapse.2.1 21 = .ok (.iconst 2, 1) := by decide +kernel
theorem e_MM_lapse_22 : decode m_MM_lapse.2.1 22 = .ok (.if_icmp .ge 69, 3) := by decide +kernel
theorem e_MM_lapse_25 : decode m_MM_lapse.2.1 25 = .ok (.aload_n 0, 1) := by decide +kernel
theorem e_MM_lapse_26 : decode m_MM_lapse.2.1 26 = .ok (.getfield 71, 3) := by decide +kernel
theorem e_MM_lapse_29 : decode m_MM_lapse.2.1 29 = .ok (.iload_n 3, 1) := by decide +kernel
theorem e_MM_lapse_30 : decode m_MM_lapse.2.1 30 = .ok (.iaload, 1) := by decide +kernel
theorem e_MM_lapse_31 : decode m_MM_lapse.2.1 31 = .ok (.iconst 1, 1) := by decide +kernel
theorem e_MM_lapse_32 : decode m_MM_lapse.2.1 32 = .ok (.isub, 1) := by decide +kernel
theorem e_MM_lapse_33 : decode m_MM_lapse.2.1 33 = .ok (.istore 4, 2) := by decide +kernel
theorem e_MM_lapse_35 : decode m_MM_lapse.2.1 35 = .ok (.iload 4, 2) := by decide +kernel
theorem e_MM_lapse_37 : decode m_MM_lapse.2.1 37 = .ok (.ifCond .lt 48, 3) := by decide +kernel
theorem e_MM_lapse_40 : decode m_MM_lapse.2.1 40 = .ok (.aload_n 0, 1) := by decide +kernel
theorem e_MM_lapse_41 : decode m_MM_lapse.2.1 41 = .ok (.getfield 62, 3) := by decide +kernel
theorem e_MM_lapse_44 : decode m_MM_lapse.2.1 44 = .ok (.bipush 20, 2) := by decide +kernel
theorem e_MM_lapse_46 : decode m_MM_lapse.2.1 46 = .ok (.iload_n 3, 1) := by decide +kernel
theorem e_MM_lapse_47 : decode m_MM_lapse.2.1 47 = .ok (.imul, 1) := by decide +kernel
theorem e_MM_lapse_48 : decode m_MM_lapse.2.1 48 = .ok (.iload 4, 2) := by decide +kernel
theorem e_MM_lapse_50 : decode m_MM_lapse.2.1 50 = .ok (.iadd, 1) := by decide +kernel
theorem e_MM_lapse_51 : decode m_MM_lapse.2.1 51 = .ok (.iaload, 1) := by decide +kernel
theorem e_MM_lapse_52 : decode m_MM_lapse.2.1 52 = .ok (.iload_n 1, 1) := by decide +kernel
theorem e_MM_lapse_53 : decode m_MM_lapse.2.1 53 = .ok (.if_icmp .ne 26, 3) := by decide +kernel
theorem e_MM_lapse_56 : decode m_MM_lapse.2.1 56 = .ok (.aload_n 0, 1) := by decide +kernel
theorem e_MM_lapse_57 : decode m_MM_lapse.2.1 57 = .ok (.getfield 65, 3) := by decide +kernel
theorem e_MM_lapse_60 : decode m_MM_lapse.2.1 60 = .ok (.bipush 20, 2) := by decide +kernel
theorem e_MM_lapse_62 : decode m_MM_lapse.2.1 62 = .ok (.iload_n 3, 1) := by decide +kernel
theorem e_MM_lapse_63 : decode m_MM_lapse.2.1 63 = .ok (.imul, 1) := by decide +kernel
theorem e_MM_lapse_64 : decode m_MM_lapse.2.1 64 = .ok (.iload 4, 2) := by decide +kernel
theorem e_MM_lapse_66 : decode m_MM_lapse.2.1 66 = .ok (.iadd, 1) := by decide +kernel
theorem e_MM_lapse_67 : decode m_MM_lapse.2.1 67 = .ok (.iaload, 1) := by decide +kernel
theorem e_MM_lapse_68 : decode m_MM_lapse.2.1 68 = .ok (.iload_n 2, 1) := by decide +kernel
theorem e_MM_lapse_69 : decode m_MM_lapse.2.1 69 = .ok (.if_icmp .gt 10, 3) := by decide +kernel
theorem e_MM_lapse_72 : decode m_MM_lapse.2.1 72 = .ok (.aload_n 0, 1) := by decide +kernel
theorem e_MM_lapse_73 : decode m_MM_lapse.2.1 73 = .ok (.iload_n 3, 1) := by decide +kernel
theorem e_MM_lapse_74 : decode m_MM_lapse.2.1 74 = .ok (.iload 4, 2) := by decide +kernel
theorem e_MM_lapse_76 : decode m_MM_lapse.2.1 76 = .ok (.invokevirtual 167, 3) := by decide +kernel
theorem e_MM_lapse_79 : decode m_MM_lapse.2.1 79 = .ok (.iinc 4 (-1), 3) := by decide +kernel
theorem e_MM_lapse_82 : decode m_MM_lapse.2.1 82 = .ok (.goto (-47), 3) := by decide +kernel
theorem e_MM_lapse_85 : decode m_MM_lapse.2.1 85 = .ok (.iinc 3 1, 3) := by decide +kernel
theorem e_MM_lapse_88 : decode m_MM_lapse.2.1 88 = .ok (.goto (-68), 3) := by decide +kernel
theorem e_MM_lapse_91 : decode m_MM_lapse.2.1 91 = .ok (.iconst 0, 1) := by decide +kernel
theorem e_MM_lapse_92 : decode m_MM_lapse.2.1 92 = .ok (.istore_n 3, 1) := by decide +kernel
theorem e_MM_lapse_93 : decode m_MM_lapse.2.1 93 = .ok (.iload_n 3, 1) := by decide +kernel
theorem e_MM_lapse_94 : decode m_MM_lapse.2.1 94 = .ok (.iconst 2, 1) := by decide +kernel
theorem e_MM_lapse_95 : decode m_MM_lapse.2.1 95 = .ok (.if_icmp .ge 58, 3) := by decide +kernel
theorem e_MM_lapse_98 : decode m_MM_lapse.2.1 98 = .ok (.iconst 2, 1) := by decide +kernel
theorem e_MM_lapse_99 : decode m_MM_lapse.2.1 99 = .ok (.aload_n 0, 1) := by decide +kernel
theorem e_MM_lapse_100 : decode m_MM_lapse.2.1 100 = .ok (.getfield 113, 3) := by decide +kernel
theorem e_MM_lapse_103 : decode m_MM_lapse.2.1 103 = .ok (.imul, 1) := by decide +kernel
theorem e_MM_lapse_104 : decode m_MM_lapse.2.1 104 = .ok (.iload_n 3, 1) := by decide +kernel
theorem e_MM_lapse_105 : decode m_MM_lapse.2.1 105 = .ok (.iadd, 1) := by decide +kernel
theorem e_MM_lapse_106 : decode m_MM_lapse.2.1 106 = .ok (.istore 4, 2) := by decide +kernel
theorem e_MM_lapse_108 : decode m_MM_lapse.2.1 108 = .ok (.aload_n 0, 1) := by decide +kernel
theorem e_MM_lapse_109 : decode m_MM_lapse.2.1 109 = .ok (.getfield 23, 3) := by decide +kernel
theorem e_MM_lapse_112 : decode m_MM_lapse.2.1 112 = .ok (.iload 4, 2) := by decide +kernel
theorem e_MM_lapse_114 : decode m_MM_lapse.2.1 114 = .ok (.iaload, 1) := by decide +kernel
theorem e_MM_lapse_115 : decode m_MM_lapse.2.1 115 = .ok (.iload_n 1, 1) := by decide +kernel
theorem e_MM_lapse_116 : decode m_MM_lapse.2.1 116 = .ok (.if_icmp .ne 31, 3) := by decide +kernel
theorem e_MM_lapse_119 : decode m_MM_lapse.2.1 119 = .ok (.aload_n 0, 1) := by decide +kernel
theorem e_MM_lapse_120 : decode m_MM_lapse.2.1 120 = .ok (.getfield 74, 3) := by decide +kernel
theorem e_MM_lapse_123 : decode m_MM_lapse.2.1 123 = .ok (.iload_n 3, 1) := by decide +kernel
theorem e_MM_lapse_124 : decode m_MM_lapse.2.1 124 = .ok (.iaload, 1) := by decide +kernel
theorem e_MM_lapse_125 : decode m_MM_lapse.2.1 125 = .ok (.iload_n 2, 1) := by decide +kernel
theorem e_MM_lapse_126 : decode m_MM_lapse.2.1 126 = .ok (.if_icmp .gt 21, 3) := by decide +kernel
theorem e_MM_lapse_129 : decode m_MM_lapse.2.1 129 = .ok (.aload_n 0, 1) := by decide +kernel
theorem e_MM_lapse_130 : decode m_MM_lapse.2.1 130 = .ok (.getfield 23, 3) := by decide +kernel
theorem e_MM_lapse_133 : decode m_MM_lapse.2.1 133 = .ok (.iload 4, 2) := by decide +kernel
theorem e_MM_lapse_135 : decode m_MM_lapse.2.1 135 = .ok (.iconst (-1), 1) := by decide +kernel
theorem e_MM_lapse_136 : decode m_MM_lapse.2.1 136 = .ok (.iastore, 1) := by decide +kernel
theorem e_MM_lapse_137 : decode m_MM_lapse.2.1 137 = .ok (.aload_n 0, 1) := by decide +kernel
theorem e_MM_lapse_138 : decode m_MM_lapse.2.1 138 = .ok (.iload_n 3, 1) := by decide +kernel
theorem e_MM_lapse_139 : decode m_MM_lapse.2.1 139 = .ok (.invokevirtual 170, 3) := by decide +kernel
theorem e_MM_lapse_142 : decode m_MM_lapse.2.1 142 = .ok (.aload_n 0, 1) := by decide +kernel
theorem e_MM_lapse_143 : decode m_MM_lapse.2.1 143 = .ok (.iload_n 3, 1) := by decide +kernel
theorem e_MM_lapse_144 : decode m_MM_lapse.2.1 144 = .ok (.invokevirtual 176, 3) := by decide +kernel
theorem e_MM_lapse_147 : decode m_MM_lapse.2.1 147 = .ok (.iinc 3 1, 3) := by decide +kernel
theorem e_MM_lapse_150 : decode m_MM_lapse.2.1 150 = .ok (.goto (-57), 3) := by decide +kernel
theorem e_MM_lapse_153 : decode m_MM_lapse.2.1 153 = .ok (.return_, 1) := by decide +kernel
theorem e_MM_please_0 : decode m_MM_please.2.1 0 = .ok (.iload_n 3, 1) := by decide +kernel
theorem e_MM_please_1 : decode m_MM_please.2.1 1 = .ok (.aload_n 0, 1) := by decide +kernel
theorem e_MM_please_2 : decode m_MM_please.2.1 2 = .ok (.getfield 77, 3) := by decide +kernel
theorem e_MM_please_5 : decode m_MM_please.2.1 5 = .ok (.iload_n 1, 1) := by decide +kernel
theorem e_MM_please_6 : decode m_MM_please.2.1 6 = .ok (.iaload, 1) := by decide +kernel
theorem e_MM_please_7 : decode m_MM_please.2.1 7 = .ok (.if_icmp .gt 4, 3) := by decide +kernel
theorem e_MM_please_10 : decode m_MM_please.2.1 10 = .ok (.return_, 1) := by decide +kernel
theorem e_MM_please_11 : decode m_MM_please.2.1 11 = .ok (.aload_n 0, 1) := by decide +kernel
theorem e_MM_please_12 : decode m_MM_please.2.1 12 = .ok (.iload_n 1, 1) := by decide +kernel
theorem e_MM_please_13 : decode m_MM_please.2.1 13 = .ok (.iload_n 3, 1) := by decide +kernel
theorem e_MM_please_14 : decode m_MM_please.2.1 14 = .ok (.iconst 1, 1) := by decide +kernel
theorem e_MM_please_15 : decode m_MM_please.2.1 15 = .ok (.isub, 1) := by decide +kernel
theorem e_MM_please_16 : decode m_MM_please.2.1 16 = .ok (.invokevirtual 179, 3) := by decide +kernel
theorem e_MM_please_19 : decode m_MM_please.2.1 19 = .ok (.bipush 20, 2) := by decide +kernel
theorem e_MM_please_21 : decode m_MM_please.2.1 21 = .ok (.iload_n 2, 1) := by decide +kernel
theorem e_MM_please_22 : decode m_MM_please.2.1 22 = .ok (.imul, 1) := by decide +kernel
theorem e_MM_please_23 : decode m_MM_please.2.1 23 = .ok (.aload_n 0, 1) := by decide +kernel
theorem e_MM_please_24 : decode m_MM_please.2.1 24 = .ok (.getfield 71, 3) := by decide +kernel
theorem e_MM_please_27 : decode m_MM_please.2.1 27 = .ok (.iload_n 2, 1) := by decide +kernel
theorem e_MM_please_28 : decode m_MM_please.2.1 28 = .ok (.iaload, 1) := by decide +kernel
theorem e_MM_please_29 : decode m_MM_please.2.1 29 = .ok (.iadd, 1) := by decide +kernel
theorem e_MM_please_30 : decode m_MM_please.2.1 30 = .ok (.istore 5, 2) := by decide +kernel
theorem e_MM_please_32 : decode m_MM_please.2.1 32 = .ok (.aload_n 0, 1) := by decide +kernel
theorem e_MM_please_33 : decode m_MM_please.2.1 33 = .ok (.getfield 62, 3) := by decide +kernel
theorem e_MM_please_36 : decode m_MM_please.2.1 36 = .ok (.iload 5, 2) := by decide +kernel
theorem e_MM_please_38 : decode m_MM_please.2.1 38 = .ok (.iload_n 1, 1) := by decide +kernel
theorem e_MM_please_39 : decode m_MM_please.2.1 39 = .ok (.iastore, 1) := by decide +kernel
theorem e_MM_please_40 : decode m_MM_please.2.1 40 = .ok (.aload_n 0, 1) := by decide +kernel
theorem e_MM_please_41 : decode m_MM_please.2.1 41 = .ok (.getfield 65, 3) := by decide +kernel
theorem e_MM_please_44 : decode m_MM_please.2.1 44 = .ok (.iload 5, 2) := by decide +kernel
theorem e_MM_please_46 : decode m_MM_please.2.1 46 = .ok (.iload_n 3, 1) := by decide +kernel
theorem e_MM_please_47 : decode m_MM_please.2.1 47 = .ok (.iastore, 1) := by decide +kernel
theorem e_MM_please_48 : decode m_MM_please.2.1 48 = .ok (.aload_n 0, 1) := by decide +kernel
theorem e_MM_please_49 : decode m_MM_please.2.1 49 = .ok (.getfield 68, 3) := by decide +kernel
theorem e_MM_please_52 : decode m_MM_please.2.1 52 = .ok (.iload 5, 2) := by decide +kernel
theorem e_MM_please_54 : decode m_MM_please.2.1 54 = .ok (.iload 4, 2) := by decide +kernel
theorem e_MM_please_56 : decode m_MM_please.2.1 56 = .ok (.bastore, 1) := by decide +kernel
theorem e_MM_please_57 : decode m_MM_please.2.1 57 = .ok (.aload_n 0, 1) := by decide +kernel
theorem e_MM_please_58 : decode m_MM_please.2.1 58 = .ok (.getfield 71, 3) := by decide +kernel
theorem e_MM_please_61 : decode m_MM_please.2.1 61 = .ok (.iload_n 2, 1) := by decide +kernel
theorem e_MM_please_62 : decode m_MM_please.2.1 62 = .ok (.dup2, 1) := by decide +kernel
theorem e_MM_please_63 : decode m_MM_please.2.1 63 = .ok (.iaload, 1) := by decide +kernel
theorem e_MM_please_64 : decode m_MM_please.2.1 64 = .ok (.iconst 1, 1) := by decide +kernel
theorem e_MM_please_65 : decode m_MM_please.2.1 65 = .ok (.iadd, 1) := by decide +kernel
theorem e_MM_please_66 : decode m_MM_please.2.1 66 = .ok (.iastore, 1) := by decide +kernel
theorem e_MM_please_67 : decode m_MM_please.2.1 67 = .ok (.aload_n 0, 1) := by decide +kernel
theorem e_MM_please_68 : decode m_MM_please.2.1 68 = .ok (.getfield 23, 3) := by decide +kernel
theorem e_MM_please_71 : decode m_MM_please.2.1 71 = .ok (.iconst 2, 1) := by decide +kernel
theorem e_MM_please_72 : decode m_MM_please.2.1 72 = .ok (.aload_n 0, 1) := by decide +kernel
theorem e_MM_please_73 : decode m_MM_please.2.1 73 = .ok (.getfield 113, 3) := by decide +kernel
theorem e_MM_please_76 : decode m_MM_please.2.1 76 = .ok (.imul, 1) := by decide +kernel
theorem e_MM_please_77 : decode m_MM_please.2.1 77 = .ok (.iload_n 2, 1) := by decide +kernel
theorem e_MM_please_78 : decode m_MM_please.2.1 78 = .ok (.iadd, 1) := by decide +kernel
theorem e_MM_please_79 : decode m_MM_please.2.1 79 = .ok (.iaload, 1) := by decide +kernel
theorem e_MM_please_80 : decode m_MM_please.2.1 80 = .ok (.ifCond .ge 8, 3) := by decide +kernel
theorem e_MM_please_83 : decode m_MM_please.2.1 83 = .ok (.aload_n 0, 1) := by decide +kernel
theorem e_MM_please_84 : decode m_MM_please.2.1 84 = .ok (.iload_n 2, 1) := by decide +kernel
theorem e_MM_please_85 : decode m_MM_please.2.1 85 = .ok (.invokevirtual 176, 3) := by decide +kernel
theorem e_MM_please_88 : decode m_MM_please.2.1 88 = .ok (.return_, 1) := by decide +kernel
theorem e_MM_getTokens_0 : decode m_MM_getTokens.2.1 0 = .ok (.iconst 2, 1) := by decide +kernel
theorem e_MM_getTokens_1 : decode m_MM_getTokens.2.1 1 = .ok (.iload_n 1, 1) := by decide +kernel
theorem e_MM_getTokens_2 : decode m_MM_getTokens.2.1 2 = .ok (.imul, 1) := by decide +kernel
theorem e_MM_getTokens_3 : decode m_MM_getTokens.2.1 3 = .ok (.iload_n 2, 1) := by decide +kernel
theorem e_MM_getTokens_4 : decode m_MM_getTokens.2.1 4 = .ok (.iadd, 1) := by decide +kernel
theorem e_MM_getTokens_5 : decode m_MM_getTokens.2.1 5 = .ok (.istore 7, 2) := by decide +kernel
theorem e_MM_getTokens_7 : decode m_MM_getTokens.2.1 7 = .ok (.aload_n 0, 1) := by decide +kernel
theorem e_MM_getTokens_8 : decode m_MM_getTokens.2.1 8 = .ok (.getfield 7, 3) := by decide +kernel
theorem e_MM_getTokens_11 : decode m_MM_getTokens.2.1 11 = .ok (.iload 7, 2) := by decide +kernel
theorem e_MM_getTokens_13 : decode m_MM_getTokens.2.1 13 = .ok (.aload_n 0, 1) := by decide +kernel
theorem e_MM_getTokens_14 : decode m_MM_getTokens.2.1 14 = .ok (.getfield 7, 3) := by decide +kernel
theorem e_MM_getTokens_17 : decode m_MM_getTokens.2.1 17 = .ok (.iload 7, 2) := by decide +kernel
theorem e_MM_getTokens_19 : decode m_MM_getTokens.2.1 19 = .ok (.iaload, 1) := by decide +kernel
theorem e_MM_getTokens_20 : decode m_MM_getTokens.2.1 20 = .ok (.iload_n 3, 1) := by decide +kernel
theorem e_MM_getTokens_21 : decode m_MM_getTokens.2.1 21 = .ok (.iadd, 1) := by decide +kernel
theorem e_MM_getTokens_22 : decode m_MM_getTokens.2.1 22 = .ok (.iastore, 1) := by decide +kernel
theorem e_MM_getTokens_23 : decode m_MM_getTokens.2.1 23 = .ok (.aload_n 0, 1) := by decide +kernel
theorem e_MM_getTokens_24 : decode m_MM_getTokens.2.1 24 = .ok (.getfield 13, 3) := by decide +kernel
theorem e_MM_getTokens_27 : decode m_MM_getTokens.2.1 27 = .ok (.iload 7, 2) := by decide +kernel
theorem e_MM_getTokens_29 : decode m_MM_getTokens.2.1 29 = .ok (.aload_n 0, 1) := by decide +kernel
theorem e_MM_getTokens_30 : decode m_MM_getTokens.2.1 30 = .ok (.getfield 13, 3) := by decide +kernel
theorem e_MM_getTokens_33 : decode m_MM_getTokens.2.1 33 = .ok (.iload 7, 2) := by decide +kernel
theorem e_MM_getTokens_35 : decode m_MM_getTokens.2.1 35 = .ok (.baload, 1) := by decide +kernel
theorem e_MM_getTokens_36 : decode m_MM_getTokens.2.1 36 = .ok (.ifCond .ne 8, 3) := by decide +kernel
theorem e_MM_getTokens_39 : decode m_MM_getTokens.2.1 39 = .ok (.iload 4, 2) := by decide +kernel
theorem e_MM_getTokens_41 : decode m_MM_getTokens.2.1 41 = .ok (.ifCond .eq 7, 3) := by decide +kernel
theorem e_MM_getTokens_44 : decode m_MM_getTokens.2.1 44 = .ok (.iconst 1, 1) := by decide +kernel
theorem e_MM_getTokens_45 : decode m_MM_getTokens.2.1 45 = .ok (.goto 4, 3) := by decide +kernel
theorem e_MM_getTokens_48 : decode m_MM_getTokens.2.1 48 = .ok (.iconst 0, 1) := by decide +kernel
theorem e_MM_getTokens_49 : decode m_MM_getTokens.2.1 49 = .ok (.bastore, 1) := by decide +kernel
theorem e_MM_getTokens_50 : decode m_MM_getTokens.2.1 50 = .ok (.iload 5, 2) := by decide +kernel
theorem e_MM_getTokens_52 : decode m_MM_getTokens.2.1 52 = .ok (.ifCond .eq 20, 3) := by decide +kernel
theorem e_MM_getTokens_55 : decode m_MM_getTokens.2.1 55 = .ok (.aload_n 0, 1) := by decide +kernel
theorem e_MM_getTokens_56 : decode m_MM_getTokens.2.1 56 = .ok (.getfield 20, 3) := by decide +kernel
theorem e_MM_getTokens_59 : decode m_MM_getTokens.2.1 59 = .ok (.iload 7, 2) := by decide +kernel
theorem e_MM_getTokens_61 : decode m_MM_getTokens.2.1 61 = .ok (.iload 6, 2) := by decide +kernel
theorem e_MM_getTokens_63 : decode m_MM_getTokens.2.1 63 = .ok (.iastore, 1) := by decide +kernel
theorem e_MM_getTokens_64 : decode m_MM_getTokens.2.1 64 = .ok (.aload_n 0, 1) := by decide +kernel
theorem e_MM_getTokens_65 : decode m_MM_getTokens.2.1 65 = .ok (.getfield 17, 3) := by decide +kernel
theorem e_MM_getTokens_68 : decode m_MM_getTokens.2.1 68 = .ok (.iload 7, 2) := by decide +kernel
theorem e_MM_getTokens_70 : decode m_MM_getTokens.2.1 70 = .ok (.iconst 1, 1) := by decide +kernel
theorem e_MM_getTokens_71 : decode m_MM_getTokens.2.1 71 = .ok (.bastore, 1) := by decide +kernel
theorem e_MM_getTokens_72 : decode m_MM_getTokens.2.1 72 = .ok (.aload_n 0, 1) := by decide +kernel
theorem e_MM_getTokens_73 : decode m_MM_getTokens.2.1 73 = .ok (.iload_n 1, 1) := by decide +kernel
theorem e_MM_getTokens_74 : decode m_MM_getTokens.2.1 74 = .ok (.iload_n 2, 1) := by decide +kernel
theorem e_MM_getTokens_75 : decode m_MM_getTokens.2.1 75 = .ok (.invokevirtual 173, 3) := by decide +kernel
theorem e_MM_getTokens_78 : decode m_MM_getTokens.2.1 78 = .ok (.iload_n 1, 1) := by decide +kernel
theorem e_MM_getTokens_79 : decode m_MM_getTokens.2.1 79 = .ok (.aload_n 0, 1) := by decide +kernel
theorem e_MM_getTokens_80 : decode m_MM_getTokens.2.1 80 = .ok (.getfield 113, 3) := by decide +kernel
theorem e_MM_getTokens_83 : decode m_MM_getTokens.2.1 83 = .ok (.if_icmp .ge 35, 3) := by decide +kernel
theorem e_MM_getTokens_86 : decode m_MM_getTokens.2.1 86 = .ok (.aload_n 0, 1) := by decide +kernel
theorem e_MM_getTokens_87 : decode m_MM_getTokens.2.1 87 = .ok (.getfield 32, 3) := by decide +kernel
theorem e_MM_getTokens_90 : decode m_MM_getTokens.2.1 90 = .ok (.iload_n 1, 1) := by decide +kernel
theorem e_MM_getTokens_91 : decode m_MM_getTokens.2.1 91 = .ok (.baload, 1) := by decide +kernel
theorem e_MM_getTokens_92 : decode m_MM_getTokens.2.1 92 = .ok (.ifCond .eq 26, 3) := by decide +kernel
theorem e_MM_getTokens_95 : decode m_MM_getTokens.2.1 95 = .ok (.aload_n 0, 1) := by decide +kernel
theorem e_MM_getTokens_96 : decode m_MM_getTokens.2.1 96 = .ok (.getfield 41, 3) := by decide +kernel
theorem e_MM_getTokens_99 : decode m_MM_getTokens.2.1 99 = .ok (.iload_n 1, 1) := by decide +kernel
theorem e_MM_getTokens_100 : decode m_MM_getTokens.2.1 100 = .ok (.iaload, 1) := by decide +kernel
theorem e_MM_getTokens_101 : decode m_MM_getTokens.2.1 101 = .ok (.iload_n 2, 1) := by decide +kernel
theorem e_MM_getTokens_102 : decode m_MM_getTokens.2.1 102 = .ok (.if_icmp .ne 16, 3) := by decide +kernel
theorem e_MM_getTokens_105 : decode m_MM_getTokens.2.1 105 = .ok (.aload_n 0, 1) := by decide +kernel
theorem e_MM_getTokens_106 : decode m_MM_getTokens.2.1 106 = .ok (.iload_n 1, 1) := by decide +kernel
theorem e_MM_getTokens_107 : decode m_MM_getTokens.2.1 107 = .ok (.invokevirtual 152, 3) := by decide +kernel
theorem e_MM_getTokens_110 : decode m_MM_getTokens.2.1 110 = .ok (.ifCond .eq 8, 3) := by decide +kernel
theorem e_MM_getTokens_113 : decode m_MM_getTokens.2.1 113 = .ok (.aload_n 0, 1) := by decide +kernel
theorem e_MM_getTokens_114 : decode m_MM_getTokens.2.1 114 = .ok (.iload_n 1, 1) := by decide +kernel
theorem e_MM_getTokens_115 : decode m_MM_getTokens.2.1 115 = .ok (.invokevirtual 155, 3) := by decide +kernel
theorem e_MM_getTokens_118 : decode m_MM_getTokens.2.1 118 = .ok (.return_, 1) := by decide +kernel
theorem e_MM_deliver_0 : decode m_MM_deliver.2.1 0 = .ok (.aload_n 0, 1) := by decide +kernel
theorem e_MM_deliver_1 : decode m_MM_deliver.2.1 1 = .ok (.iconst 0, 1) := by decide +kernel
theorem e_MM_deliver_2 : decode m_MM_deliver.2.1 2 = .ok (.putfield 123, 3) := by decide +kernel
theorem e_MM_deliver_5 : decode m_MM_deliver.2.1 5 = .ok (.iload_n 1, 1) := by decide +kernel
theorem e_MM_deliver_6 : decode m_MM_deliver.2.1 6 = .ok (.ifCond .lt 11, 3) := by decide +kernel
theorem e_MM_deliver_9 : decode m_MM_deliver.2.1 9 = .ok (.iload_n 1, 1) := by decide +kernel
theorem e_MM_deliver_10 : decode m_MM_deliver.2.1 10 = .ok (.aload_n 0, 1) := by decide +kernel
theorem e_MM_deliver_11 : decode m_MM_deliver.2.1 11 = .ok (.getfield 126, 3) := by decide +kernel
theorem e_MM_deliver_14 : decode m_MM_deliver.2.1 14 = .ok (.if_icmp .lt 5, 3) := by decide +kernel
theorem e_MM_deliver_17 : decode m_MM_deliver.2.1 17 = .ok (.iconst (-1), 1) := by decide +kernel
theorem e_MM_deliver_18 : decode m_MM_deliver.2.1 18 = .ok (.ireturn, 1) := by decide +kernel
theorem e_MM_deliver_19 : decode m_MM_deliver.2.1 19 = .ok (.aload_n 0, 1) := by decide +kernel
theorem e_MM_deliver_20 : decode m_MM_deliver.2.1 20 = .ok (.iload_n 1, 1) := by decide +kernel
theorem e_MM_deliver_21 : decode m_MM_deliver.2.1 21 = .ok (.bipush 119, 2) := by decide +kernel
theorem e_MM_deliver_23 : decode m_MM_deliver.2.1 23 = .ok (.invokevirtual 129, 3) := by decide +kernel
theorem e_MM_deliver_26 : decode m_MM_deliver.2.1 26 = .ok (.aload_n 0, 1) := by decide +kernel
theorem e_MM_deliver_27 : decode m_MM_deliver.2.1 27 = .ok (.iload_n 1, 1) := by decide +kernel
theorem e_MM_deliver_28 : decode m_MM_deliver.2.1 28 = .ok (.invokevirtual 133, 3) := by decide +kernel
theorem e_MM_deliver_31 : decode m_MM_deliver.2.1 31 = .ok (.aload_n 0, 1) := by decide +kernel
theorem e_MM_deliver_32 : decode m_MM_deliver.2.1 32 = .ok (.getfield 80, 3) := by decide +kernel
theorem e_MM_deliver_35 : decode m_MM_deliver.2.1 35 = .ok (.bipush 119, 2) := by decide +kernel
theorem e_MM_deliver_37 : decode m_MM_deliver.2.1 37 = .ok (.iaload, 1) := by decide +kernel
theorem e_MM_deliver_38 : decode m_MM_deliver.2.1 38 = .ok (.istore_n 2, 1) := by decide +kernel
theorem e_MM_deliver_39 : decode m_MM_deliver.2.1 39 = .ok (.aload_n 0, 1) := by decide +kernel
theorem e_MM_deliver_40 : decode m_MM_deliver.2.1 40 = .ok (.getfield 83, 3) := by decide +kernel
theorem e_MM_deliver_43 : decode m_MM_deliver.2.1 43 = .ok (.bipush 119, 2) := by decide +kernel
theorem e_MM_deliver_45 : decode m_MM_deliver.2.1 45 = .ok (.iaload, 1) := by decide +kernel
theorem e_MM_deliver_46 : decode m_MM_deliver.2.1 46 = .ok (.istore_n 3, 1) := by decide +kernel
theorem e_MM_deliver_47 : decode m_MM_deliver.2.1 47 = .ok (.aload_n 0, 1) := by decide +kernel
theorem e_MM_deliver_48 : decode m_MM_deliver.2.1 48 = .ok (.getfield 86, 3) := by decide +kernel
theorem e_MM_deliver_51 : decode m_MM_deliver.2.1 51 = .ok (.bipush 119, 2) := by decide +kernel
theorem e_MM_deliver_53 : decode m_MM_deliver.2.1 53 = .ok (.iaload, 1) := by decide +kernel
theorem e_MM_deliver_54 : decode m_MM_deliver.2.1 54 = .ok (.istore 4, 2) := by decide +kernel
theorem e_MM_deliver_56 : decode m_MM_deliver.2.1 56 = .ok (.aload_n 0, 1) := by decide +kernel
theorem e_MM_deliver_57 : decode m_MM_deliver.2.1 57 = .ok (.getfield 89, 3) := by decide +kernel
theorem e_MM_deliver_60 : decode m_MM_deliver.2.1 60 = .ok (.bipush 119, 2) := by decide +kernel
theorem e_MM_deliver_62 : decode m_MM_deliver.2.1 62 = .ok (.iaload, 1) := by decide +kernel
theorem e_MM_deliver_63 : decode m_MM_deliver.2.1 63 = .ok (.istore 5, 2) := by decide +kernel
theorem e_MM_deliver_65 : decode m_MM_deliver.2.1 65 = .ok (.iconst 2, 1) := by decide +kernel
theorem e_MM_deliver_66 : decode m_MM_deliver.2.1 66 = .ok (.iload_n 3, 1) := by decide +kernel
theorem e_MM_deliver_67 : decode m_MM_deliver.2.1 67 = .ok (.imul, 1) := by decide +kernel
theorem e_MM_deliver_68 : decode m_MM_deliver.2.1 68 = .ok (.iload 5, 2) := by decide +kernel
theorem e_MM_deliver_70 : decode m_MM_deliver.2.1 70 = .ok (.iadd, 1) := by decide +kernel
theorem e_MM_deliver_71 : decode m_MM_deliver.2.1 71 = .ok (.istore 6, 2) := by decide +kernel
theorem e_MM_deliver_73 : decode m_MM_deliver.2.1 73 = .ok (.aload_n 0, 1) := by decide +kernel
theorem e_MM_deliver_74 : decode m_MM_deliver.2.1 74 = .ok (.getfield 104, 3) := by decide +kernel
theorem e_MM_deliver_77 : decode m_MM_deliver.2.1 77 = .ok (.bipush 119, 2) := by decide +kernel
theorem e_MM_deliver_79 : decode m_MM_deliver.2.1 79 = .ok (.iaload, 1) := by decide +kernel
theorem e_MM_deliver_80 : decode m_MM_deliver.2.1 80 = .ok (.istore 7, 2) := by decide +kernel
theorem e_MM_deliver_82 : decode m_MM_deliver.2.1 82 = .ok (.aload_n 0, 1) := by decide +kernel
theorem e_MM_deliver_83 : decode m_MM_deliver.2.1 83 = .ok (.getfield 107, 3) := by decide +kernel
theorem e_MM_deliver_86 : decode m_MM_deliver.2.1 86 = .ok (.bipush 119, 2) := by decide +kernel
theorem e_MM_deliver_88 : decode m_MM_deliver.2.1 88 = .ok (.iaload, 1) := by decide +kernel
theorem e_MM_deliver_89 : decode m_MM_deliver.2.1 89 = .ok (.istore 8, 2) := by decide +kernel
theorem e_MM_deliver_91 : decode m_MM_deliver.2.1 91 = .ok (.aload_n 0, 1) := by decide +kernel
theorem e_MM_deliver_92 : decode m_MM_deliver.2.1 92 = .ok (.getfield 110, 3) := by decide +kernel
theorem e_MM_deliver_95 : decode m_MM_deliver.2.1 95 = .ok (.bipush 119, 2) := by decide +kernel
theorem e_MM_deliver_97 : decode m_MM_deliver.2.1 97 = .ok (.baload, 1) := by decide +kernel
theorem e_MM_deliver_98 : decode m_MM_deliver.2.1 98 = .ok (.istore 9, 2) := by decide +kernel
theorem e_MM_deliver_100 : decode m_MM_deliver.2.1 100 = .ok (.iload_n 2, 1) := by decide +kernel
theorem e_MM_deliver_101 : decode m_MM_deliver.2.1 101 = .ok (.iconst 1, 1) := by decide +kernel
theorem e_MM_deliver_102 : decode m_MM_deliver.2.1 102 = .ok (.if_icmp .ne 66, 3) := by decide +kernel
theorem e_MM_deliver_105 : decode m_MM_deliver.2.1 105 = .ok (.aload_n 0, 1) := by decide +kernel
theorem e_MM_deliver_106 : decode m_MM_deliver.2.1 106 = .ok (.getfield 23, 3) := by decide +kernel
theorem e_MM_deliver_109 : decode m_MM_deliver.2.1 109 = .ok (.iload 6, 2) := by decide +kernel
theorem e_MM_deliver_111 : decode m_MM_deliver.2.1 111 = .ok (.iaload, 1) := by decide +kernel
theorem e_MM_deliver_112 : decode m_MM_deliver.2.1 112 = .ok (.ifCond .ge 240, 3) := by decide +kernel
theorem e_MM_deliver_115 : decode m_MM_deliver.2.1 115 = .ok (.aload_n 0, 1) := by decide +kernel
theorem e_MM_deliver_116 : decode m_MM_deliver.2.1 116 = .ok (.getfield 13, 3) := by decide +kernel
theorem e_MM_deliver_119 : decode m_MM_deliver.2.1 119 = .ok (.iload 6, 2) := by decide +kernel
theorem e_MM_deliver_121 : decode m_MM_deliver.2.1 121 = .ok (.baload, 1) := by decide +kernel
theorem e_MM_deliver_122 : decode m_MM_deliver.2.1 122 = .ok (.ifCond .eq 230, 3) := by decide +kernel
theorem e_MM_deliver_125 : decode m_MM_deliver.2.1 125 = .ok (.aload_n 0, 1) := by decide +kernel
theorem e_MM_deliver_126 : decode m_MM_deliver.2.1 126 = .ok (.getfield 7, 3) := by decide +kernel
theorem e_MM_deliver_129 : decode m_MM_deliver.2.1 129 = .ok (.iload 6, 2) := by decide +kernel
theorem e_MM_deliver_131 : decode m_MM_deliver.2.1 131 = .ok (.iaload, 1) := by decide +kernel
theorem e_MM_deliver_132 : decode m_MM_deliver.2.1 132 = .ok (.iconst 1, 1) := by decide +kernel
theorem e_MM_deliver_133 : decode m_MM_deliver.2.1 133 = .ok (.if_icmp .le 7, 3) := by decide +kernel
theorem e_MM_deliver_136 : decode m_MM_deliver.2.1 136 = .ok (.iconst 1, 1) := by decide +kernel
theorem e_MM_deliver_137 : decode m_MM_deliver.2.1 137 = .ok (.goto 4, 3) := by decide +kernel
theorem e_MM_deliver_140 : decode m_MM_deliver.2.1 140 = .ok (.iconst 0, 1) := by decide +kernel
theorem e_MM_deliver_141 : decode m_MM_deliver.2.1 141 = .ok (.istore 10, 2) := by decide +kernel
theorem e_MM_deliver_143 : decode m_MM_deliver.2.1 143 = .ok (.aload_n 0, 1) := by decide +kernel
theorem e_MM_deliver_144 : decode m_MM_deliver.2.1 144 = .ok (.iload_n 3, 1) := by decide +kernel
theorem e_MM_deliver_145 : decode m_MM_deliver.2.1 145 = .ok (.iload 5, 2) := by decide +kernel
theorem e_MM_deliver_147 : decode m_MM_deliver.2.1 147 = .ok (.iload 4, 2) := by decide +kernel
theorem e_MM_deliver_149 : decode m_MM_deliver.2.1 149 = .ok (.iconst 1, 1) := by decide +kernel
theorem e_MM_deliver_150 : decode m_MM_deliver.2.1 150 = .ok (.iload 10, 2) := by decide +kernel
theorem e_MM_deliver_152 : decode m_MM_deliver.2.1 152 = .ok (.ifCond .ne 7, 3) := by decide +kernel
theorem e_MM_deliver_155 : decode m_MM_deliver.2.1 155 = .ok (.iconst 1, 1) := by decide +kernel
theorem e_MM_deliver_156 : decode m_MM_deliver.2.1 156 = .ok (.goto 4, 3) := by decide +kernel
theorem e_MM_deliver_159 : decode m_MM_deliver.2.1 159 = .ok (.iconst 0, 1) := by decide +kernel
theorem e_MM_deliver_160 : decode m_MM_deliver.2.1 160 = .ok (.iload 10, 2) := by decide +kernel
theorem e_MM_deliver_162 : decode m_MM_deliver.2.1 162 = .ok (.invokevirtual 141, 3) := by decide +kernel
theorem e_MM_deliver_165 : decode m_MM_deliver.2.1 165 = .ok (.goto 187, 3) := by decide +kernel
theorem e_MM_deliver_168 : decode m_MM_deliver.2.1 168 = .ok (.iload_n 2, 1) := by decide +kernel
theorem e_MM_deliver_169 : decode m_MM_deliver.2.1 169 = .ok (.iconst 2, 1) := by decide +kernel
theorem e_MM_deliver_170 : decode m_MM_deliver.2.1 170 = .ok (.if_icmp .ne 40, 3) := by decide +kernel
theorem e_MM_deliver_173 : decode m_MM_deliver.2.1 173 = .ok (.aload_n 0, 1) := by decide +kernel
theorem e_MM_deliver_174 : decode m_MM_deliver.2.1 174 = .ok (.getfield 23, 3) := by decide +kernel
theorem e_MM_deliver_177 : decode m_MM_deliver.2.1 177 = .ok (.iload 6, 2) := by decide +kernel
theorem e_MM_deliver_179 : decode m_MM_deliver.2.1 179 = .ok (.iaload, 1) := by decide +kernel
theorem e_MM_deliver_180 : decode m_MM_deliver.2.1 180 = .ok (.ifCond .ge 172, 3) := by decide +kernel
theorem e_MM_deliver_183 : decode m_MM_deliver.2.1 183 = .ok (.aload_n 0, 1) := by decide +kernel
theorem e_MM_deliver_184 : decode m_MM_deliver.2.1 184 = .ok (.iload_n 3, 1) := by decide +kernel
theorem e_MM_deliver_185 : decode m_MM_deliver.2.1 185 = .ok (.iload 5, 2) := by decide +kernel
theorem e_MM_deliver_187 : decode m_MM_deliver.2.1 187 = .ok (.iload 4, 2) := by decide +kernel
theorem e_MM_deliver_189 : decode m_MM_deliver.2.1 189 = .ok (.aload_n 0, 1) := by decide +kernel
theorem e_MM_deliver_190 : decode m_MM_deliver.2.1 190 = .ok (.getfield 7, 3) := by decide +kernel
theorem e_MM_deliver_193 : decode m_MM_deliver.2.1 193 = .ok (.iload 6, 2) := by decide +kernel
theorem e_MM_deliver_195 : decode m_MM_deliver.2.1 195 = .ok (.iaload, 1) := by decide +kernel
theorem e_MM_deliver_196 : decode m_MM_deliver.2.1 196 = .ok (.aload_n 0, 1) := by decide +kernel
theorem e_MM_deliver_197 : decode m_MM_deliver.2.1 197 = .ok (.getfield 13, 3) := by decide +kernel
theorem e_MM_deliver_200 : decode m_MM_deliver.2.1 200 = .ok (.iload 6, 2) := by decide +kernel
theorem e_MM_deliver_202 : decode m_MM_deliver.2.1 202 = .ok (.baload, 1) := by decide +kernel
theorem e_MM_deliver_203 : decode m_MM_deliver.2.1 203 = .ok (.iconst 0, 1) := by decide +kernel
theorem e_MM_deliver_204 : decode m_MM_deliver.2.1 204 = .ok (.invokevirtual 141, 3) := by decide +kernel
theorem e_MM_deliver_207 : decode m_MM_deliver.2.1 207 = .ok (.goto 145, 3) := by decide +kernel
theorem e_MM_deliver_210 : decode m_MM_deliver.2.1 210 = .ok (.iload_n 2, 1) := by decide +kernel
theorem e_MM_deliver_211 : decode m_MM_deliver.2.1 211 = .ok (.iconst 3, 1) := by decide +kernel
theorem e_MM_deliver_212 : decode m_MM_deliver.2.1 212 = .ok (.if_icmp .ne 41, 3) := by decide +kernel
theorem e_MM_deliver_215 : decode m_MM_deliver.2.1 215 = .ok (.aload_n 0, 1) := by decide +kernel
theorem e_MM_deliver_216 : decode m_MM_deliver.2.1 216 = .ok (.iload_n 3, 1) := by decide +kernel
theorem e_MM_deliver_217 : decode m_MM_deliver.2.1 217 = .ok (.iload 5, 2) := by decide +kernel
theorem e_MM_deliver_219 : decode m_MM_deliver.2.1 219 = .ok (.aload_n 0, 1) := by decide +kernel
theorem e_MM_deliver_220 : decode m_MM_deliver.2.1 220 = .ok (.getfield 92, 3) := by decide +kernel
theorem e_MM_deliver_223 : decode m_MM_deliver.2.1 223 = .ok (.bipush 119, 2) := by decide +kernel
theorem e_MM_deliver_225 : decode m_MM_deliver.2.1 225 = .ok (.iaload, 1) := by decide +kernel
theorem e_MM_deliver_226 : decode m_MM_deliver.2.1 226 = .ok (.aload_n 0, 1) := by decide +kernel
theorem e_MM_deliver_227 : decode m_MM_deliver.2.1 227 = .ok (.getfield 95, 3) := by decide +kernel
theorem e_MM_deliver_230 : decode m_MM_deliver.2.1 230 = .ok (.bipush 119, 2) := by decide +kernel
theorem e_MM_deliver_232 : decode m_MM_deliver.2.1 232 = .ok (.baload, 1) := by decide +kernel
theorem e_MM_deliver_233 : decode m_MM_deliver.2.1 233 = .ok (.aload_n 0, 1) := by decide +kernel
theorem e_MM_deliver_234 : decode m_MM_deliver.2.1 234 = .ok (.getfield 98, 3) := by decide +kernel
theorem e_MM_deliver_237 : decode m_MM_deliver.2.1 237 = .ok (.bipush 119, 2) := by decide +kernel
theorem e_MM_deliver_239 : decode m_MM_deliver.2.1 239 = .ok (.baload, 1) := by decide +kernel
theorem e_MM_deliver_240 : decode m_MM_deliver.2.1 240 = .ok (.aload_n 0, 1) := by decide +kernel
theorem e_MM_deliver_241 : decode m_MM_deliver.2.1 241 = .ok (.getfield 101, 3) := by decide +kernel
theorem e_MM_deliver_244 : decode m_MM_deliver.2.1 244 = .ok (.bipush 119, 2) := by decide +kernel
theorem e_MM_deliver_246 : decode m_MM_deliver.2.1 246 = .ok (.iaload, 1) := by decide +kernel
theorem e_MM_deliver_247 : decode m_MM_deliver.2.1 247 = .ok (.invokevirtual 182, 3) := by decide +kernel
theorem e_MM_deliver_250 : decode m_MM_deliver.2.1 250 = .ok (.goto 102, 3) := by decide +kernel
theorem e_MM_deliver_253 : decode m_MM_deliver.2.1 253 = .ok (.iload_n 2, 1) := by decide +kernel
theorem e_MM_deliver_254 : decode m_MM_deliver.2.1 254 = .ok (.iconst 4, 1) := by decide +kernel
theorem e_MM_deliver_255 : decode m_MM_deliver.2.1 255 = .ok (.if_icmp .ne 18, 3) := by decide +kernel
theorem e_MM_deliver_258 : decode m_MM_deliver.2.1 258 = .ok (.aload_n 0, 1) := by decide +kernel
theorem e_MM_deliver_259 : decode m_MM_deliver.2.1 259 = .ok (.iload 4, 2) := by decide +kernel
theorem e_MM_deliver_261 : decode m_MM_deliver.2.1 261 = .ok (.iload 5, 2) := by decide +kernel
theorem e_MM_deliver_263 : decode m_MM_deliver.2.1 263 = .ok (.iload 7, 2) := by decide +kernel
theorem e_MM_deliver_265 : decode m_MM_deliver.2.1 265 = .ok (.iload 9, 2) := by decide +kernel
theorem e_MM_deliver_267 : decode m_MM_deliver.2.1 267 = .ok (.invokevirtual 186, 3) := by decide +kernel
theorem e_MM_deliver_270 : decode m_MM_deliver.2.1 270 = .ok (.goto 82, 3) := by decide +kernel
theorem e_MM_deliver_273 : decode m_MM_deliver.2.1 273 = .ok (.iload_n 2, 1) := by decide +kernel
theorem e_MM_deliver_274 : decode m_MM_deliver.2.1 274 = .ok (.iconst 5, 1) := by decide +kernel
theorem e_MM_deliver_275 : decode m_MM_deliver.2.1 275 = .ok (.if_icmp .ne 69, 3) := by decide +kernel
theorem e_MM_deliver_278 : decode m_MM_deliver.2.1 278 = .ok (.iload 7, 2) := by decide +kernel
theorem e_MM_deliver_280 : decode m_MM_deliver.2.1 280 = .ok (.aload_n 0, 1) := by decide +kernel
theorem e_MM_deliver_281 : decode m_MM_deliver.2.1 281 = .ok (.getfield 29, 3) := by decide +kernel
theorem e_MM_deliver_284 : decode m_MM_deliver.2.1 284 = .ok (.iload 6, 2) := by decide +kernel
theorem e_MM_deliver_286 : decode m_MM_deliver.2.1 286 = .ok (.iaload, 1) := by decide +kernel
theorem e_MM_deliver_287 : decode m_MM_deliver.2.1 287 = .ok (.if_icmp .gt 20, 3) := by decide +kernel
theorem e_MM_deliver_290 : decode m_MM_deliver.2.1 290 = .ok (.iload 7, 2) := by decide +kernel
theorem e_MM_deliver_292 : decode m_MM_deliver.2.1 292 = .ok (.aload_n 0, 1) := by decide +kernel
theorem e_MM_deliver_293 : decode m_MM_deliver.2.1 293 = .ok (.getfield 29, 3) := by decide +kernel
theorem e_MM_deliver_296 : decode m_MM_deliver.2.1 296 = .ok (.iload 6, 2) := by decide +kernel
theorem e_MM_deliver_298 : decode m_MM_deliver.2.1 298 = .ok (.iaload, 1) := by decide +kernel
theorem e_MM_deliver_299 : decode m_MM_deliver.2.1 299 = .ok (.if_icmp .ne 53, 3) := by decide +kernel
theorem e_MM_deliver_302 : decode m_MM_deliver.2.1 302 = .ok (.iload 8, 2) := by decide +kernel
theorem e_MM_deliver_304 : decode m_MM_deliver.2.1 304 = .ok (.ifCond .ge 48, 3) := by decide +kernel
theorem e_MM_deliver_307 : decode m_MM_deliver.2.1 307 = .ok (.aload_n 0, 1) := by decide +kernel
theorem e_MM_deliver_308 : decode m_MM_deliver.2.1 308 = .ok (.getfield 29, 3) := by decide +kernel
theorem e_MM_deliver_311 : decode m_MM_deliver.2.1 311 = .ok (.iload 6, 2) := by decide +kernel
theorem e_MM_deliver_313 : decode m_MM_deliver.2.1 313 = .ok (.iload 7, 2) := by decide +kernel
theorem e_MM_deliver_315 : decode m_MM_deliver.2.1 315 = .ok (.iastore, 1) := by decide +kernel
theorem e_MM_deliver_316 : decode m_MM_deliver.2.1 316 = .ok (.aload_n 0, 1) := by decide +kernel
theorem e_MM_deliver_317 : decode m_MM_deliver.2.1 317 = .ok (.getfield 23, 3) := by decide +kernel
theorem e_MM_deliver_320 : decode m_MM_deliver.2.1 320 = .ok (.iload 6, 2) := by decide +kernel
theorem e_MM_deliver_322 : decode m_MM_deliver.2.1 322 = .ok (.iload 8, 2) := by decide +kernel
theorem e_MM_deliver_324 : decode m_MM_deliver.2.1 324 = .ok (.iastore, 1) := by decide +kernel
theorem e_MM_deliver_325 : decode m_MM_deliver.2.1 325 = .ok (.aload_n 0, 1) := by decide +kernel
theorem e_MM_deliver_326 : decode m_MM_deliver.2.1 326 = .ok (.getfield 26, 3) := by decide +kernel
theorem e_MM_deliver_329 : decode m_MM_deliver.2.1 329 = .ok (.iload 6, 2) := by decide +kernel
theorem e_MM_deliver_331 : decode m_MM_deliver.2.1 331 = .ok (.iload 9, 2) := by decide +kernel
theorem e_MM_deliver_333 : decode m_MM_deliver.2.1 333 = .ok (.bastore, 1) := by decide +kernel
theorem e_MM_deliver_334 : decode m_MM_deliver.2.1 334 = .ok (.aload_n 0, 1) := by decide +kernel
theorem e_MM_deliver_335 : decode m_MM_deliver.2.1 335 = .ok (.iload_n 3, 1) := by decide +kernel
theorem e_MM_deliver_336 : decode m_MM_deliver.2.1 336 = .ok (.iload 5, 2) := by decide +kernel
theorem e_MM_deliver_338 : decode m_MM_deliver.2.1 338 = .ok (.invokevirtual 173, 3) := by decide +kernel
theorem e_MM_deliver_341 : decode m_MM_deliver.2.1 341 = .ok (.goto 11, 3) := by decide +kernel
theorem e_MM_deliver_344 : decode m_MM_deliver.2.1 344 = .ok (.aload_n 0, 1) := by decide +kernel
theorem e_MM_deliver_345 : decode m_MM_deliver.2.1 345 = .ok (.iload 4, 2) := by decide +kernel
theorem e_MM_deliver_347 : decode m_MM_deliver.2.1 347 = .ok (.iload 7, 2) := by decide +kernel
theorem e_MM_deliver_349 : decode m_MM_deliver.2.1 349 = .ok (.invokevirtual 179, 3) := by decide +kernel
theorem e_MM_deliver_352 : decode m_MM_deliver.2.1 352 = .ok (.iload_n 2, 1) := by decide +kernel
theorem e_MM_deliver_353 : decode m_MM_deliver.2.1 353 = .ok (.ireturn, 1) := by decide +kernel
theorem e_MM_evict_0 : decode m_MM_evict.2.1 0 = .ok (.aload_n 0, 1) := by decide +kernel
theorem e_MM_evict_1 : decode m_MM_evict.2.1 1 = .ok (.iconst 0, 1) := by decide +kernel
theorem e_MM_evict_2 : decode m_MM_evict.2.1 2 = .ok (.putfield 123, 3) := by decide +kernel
theorem e_MM_evict_5 : decode m_MM_evict.2.1 5 = .ok (.aload_n 0, 1) := by decide +kernel
theorem e_MM_evict_6 : decode m_MM_evict.2.1 6 = .ok (.iload_n 1, 1) := by decide +kernel
theorem e_MM_evict_7 : decode m_MM_evict.2.1 7 = .ok (.invokevirtual 145, 3) := by decide +kernel
theorem e_MM_evict_10 : decode m_MM_evict.2.1 10 = .ok (.ifCond .eq 42, 3) := by decide +kernel
theorem e_MM_evict_13 : decode m_MM_evict.2.1 13 = .ok (.iload_n 2, 1) := by decide +kernel
theorem e_MM_evict_14 : decode m_MM_evict.2.1 14 = .ok (.invokestatic 149, 3) := by decide +kernel
theorem e_MM_evict_17 : decode m_MM_evict.2.1 17 = .ok (.ifCond .eq 35, 3) := by decide +kernel
theorem e_MM_evict_20 : decode m_MM_evict.2.1 20 = .ok (.aload_n 0, 1) := by decide +kernel
theorem e_MM_evict_21 : decode m_MM_evict.2.1 21 = .ok (.getfield 7, 3) := by decide +kernel
theorem e_MM_evict_24 : decode m_MM_evict.2.1 24 = .ok (.iconst 2, 1) := by decide +kernel
theorem e_MM_evict_25 : decode m_MM_evict.2.1 25 = .ok (.iload_n 1, 1) := by decide +kernel
theorem e_MM_evict_26 : decode m_MM_evict.2.1 26 = .ok (.imul, 1) := by decide +kernel
theorem e_MM_evict_27 : decode m_MM_evict.2.1 27 = .ok (.iload_n 2, 1) := by decide +kernel
theorem e_MM_evict_28 : decode m_MM_evict.2.1 28 = .ok (.iadd, 1) := by decide +kernel
theorem e_MM_evict_29 : decode m_MM_evict.2.1 29 = .ok (.iaload, 1) := by decide +kernel
theorem e_MM_evict_30 : decode m_MM_evict.2.1 30 = .ok (.ifCond .eq 22, 3) := by decide +kernel
theorem e_MM_evict_33 : decode m_MM_evict.2.1 33 = .ok (.aload_n 0, 1) := by decide +kernel
theorem e_MM_evict_34 : decode m_MM_evict.2.1 34 = .ok (.getfield 32, 3) := by decide +kernel
theorem e_MM_evict_37 : decode m_MM_evict.2.1 37 = .ok (.iload_n 1, 1) := by decide +kernel
theorem e_MM_evict_38 : decode m_MM_evict.2.1 38 = .ok (.baload, 1) := by decide +kernel
theorem e_MM_evict_39 : decode m_MM_evict.2.1 39 = .ok (.ifCond .eq 15, 3) := by decide +kernel
theorem e_MM_evict_42 : decode m_MM_evict.2.1 42 = .ok (.aload_n 0, 1) := by decide +kernel
theorem e_MM_evict_43 : decode m_MM_evict.2.1 43 = .ok (.getfield 41, 3) := by decide +kernel
theorem e_MM_evict_46 : decode m_MM_evict.2.1 46 = .ok (.iload_n 1, 1) := by decide +kernel
theorem e_MM_evict_47 : decode m_MM_evict.2.1 47 = .ok (.iaload, 1) := by decide +kernel
theorem e_MM_evict_48 : decode m_MM_evict.2.1 48 = .ok (.iload_n 2, 1) := by decide +kernel
theorem e_MM_evict_49 : decode m_MM_evict.2.1 49 = .ok (.if_icmp .ne 5, 3) := by decide +kernel
theorem e_MM_evict_52 : decode m_MM_evict.2.1 52 = .ok (.iconst 0, 1) := by decide +kernel
theorem e_MM_evict_53 : decode m_MM_evict.2.1 53 = .ok (.ireturn, 1) := by decide +kernel
theorem e_MM_evict_54 : decode m_MM_evict.2.1 54 = .ok (.aload_n 0, 1) := by decide +kernel
theorem e_MM_evict_55 : decode m_MM_evict.2.1 55 = .ok (.iload_n 1, 1) := by decide +kernel
theorem e_MM_evict_56 : decode m_MM_evict.2.1 56 = .ok (.iload_n 2, 1) := by decide +kernel
theorem e_MM_evict_57 : decode m_MM_evict.2.1 57 = .ok (.aload_n 0, 1) := by decide +kernel
theorem e_MM_evict_58 : decode m_MM_evict.2.1 58 = .ok (.getfield 113, 3) := by decide +kernel
theorem e_MM_evict_61 : decode m_MM_evict.2.1 61 = .ok (.aload_n 0, 1) := by decide +kernel
theorem e_MM_evict_62 : decode m_MM_evict.2.1 62 = .ok (.getfield 7, 3) := by decide +kernel
theorem e_MM_evict_65 : decode m_MM_evict.2.1 65 = .ok (.iconst 2, 1) := by decide +kernel
theorem e_MM_evict_66 : decode m_MM_evict.2.1 66 = .ok (.iload_n 1, 1) := by decide +kernel
theorem e_MM_evict_67 : decode m_MM_evict.2.1 67 = .ok (.imul, 1) := by decide +kernel
theorem e_MM_evict_68 : decode m_MM_evict.2.1 68 = .ok (.iload_n 2, 1) := by decide +kernel
theorem e_MM_evict_69 : decode m_MM_evict.2.1 69 = .ok (.iadd, 1) := by decide +kernel
theorem e_MM_evict_70 : decode m_MM_evict.2.1 70 = .ok (.iaload, 1) := by decide +kernel
theorem e_MM_evict_71 : decode m_MM_evict.2.1 71 = .ok (.aload_n 0, 1) := by decide +kernel
theorem e_MM_evict_72 : decode m_MM_evict.2.1 72 = .ok (.getfield 13, 3) := by decide +kernel
theorem e_MM_evict_75 : decode m_MM_evict.2.1 75 = .ok (.iconst 2, 1) := by decide +kernel
theorem e_MM_evict_76 : decode m_MM_evict.2.1 76 = .ok (.iload_n 1, 1) := by decide +kernel
theorem e_MM_evict_77 : decode m_MM_evict.2.1 77 = .ok (.imul, 1) := by decide +kernel
theorem e_MM_evict_78 : decode m_MM_evict.2.1 78 = .ok (.iload_n 2, 1) := by decide +kernel
theorem e_MM_evict_79 : decode m_MM_evict.2.1 79 = .ok (.iadd, 1) := by decide +kernel
theorem e_MM_evict_80 : decode m_MM_evict.2.1 80 = .ok (.baload, 1) := by decide +kernel
theorem e_MM_evict_81 : decode m_MM_evict.2.1 81 = .ok (.iconst 0, 1) := by decide +kernel
theorem e_MM_evict_82 : decode m_MM_evict.2.1 82 = .ok (.invokevirtual 141, 3) := by decide +kernel
theorem e_MM_evict_85 : decode m_MM_evict.2.1 85 = .ok (.iconst 1, 1) := by decide +kernel
theorem e_MM_evict_86 : decode m_MM_evict.2.1 86 = .ok (.ireturn, 1) := by decide +kernel
theorem e_MM_letters_0 : decode m_MM_letters.2.1 0 = .ok (.aload_n 0, 1) := by decide +kernel
theorem e_MM_letters_1 : decode m_MM_letters.2.1 1 = .ok (.iconst 0, 1) := by decide +kernel
theorem e_MM_letters_2 : decode m_MM_letters.2.1 2 = .ok (.putfield 123, 3) := by decide +kernel
theorem e_MM_letters_5 : decode m_MM_letters.2.1 5 = .ok (.aload_n 0, 1) := by decide +kernel
theorem e_MM_letters_6 : decode m_MM_letters.2.1 6 = .ok (.getfield 126, 3) := by decide +kernel
theorem e_MM_letters_9 : decode m_MM_letters.2.1 9 = .ok (.ireturn, 1) := by decide +kernel
theorem e_MM_letter_0 : decode m_MM_letter.2.1 0 = .ok (.aload_n 0, 1) := by decide +kernel
theorem e_MM_letter_1 : decode m_MM_letter.2.1 1 = .ok (.iconst 0, 1) := by decide +kernel
theorem e_MM_letter_2 : decode m_MM_letter.2.1 2 = .ok (.putfield 123, 3) := by decide +kernel
theorem e_MM_letter_5 : decode m_MM_letter.2.1 5 = .ok (.iload_n 1, 1) := by decide +kernel
theorem e_MM_letter_6 : decode m_MM_letter.2.1 6 = .ok (.ifCond .lt 11, 3) := by decide +kernel
theorem e_MM_letter_9 : decode m_MM_letter.2.1 9 = .ok (.iload_n 1, 1) := by decide +kernel
theorem e_MM_letter_10 : decode m_MM_letter.2.1 10 = .ok (.aload_n 0, 1) := by decide +kernel
theorem e_MM_letter_11 : decode m_MM_letter.2.1 11 = .ok (.getfield 126, 3) := by decide +kernel
theorem e_MM_letter_14 : decode m_MM_letter.2.1 14 = .ok (.if_icmp .lt 5, 3) := by decide +kernel
theorem e_MM_letter_17 : decode m_MM_letter.2.1 17 = .ok (.iconst (-1), 1) := by decide +kernel
theorem e_MM_letter_18 : decode m_MM_letter.2.1 18 = .ok (.ireturn, 1) := by decide +kernel
theorem e_MM_letter_19 : decode m_MM_letter.2.1 19 = .ok (.aload_n 0, 1) := by decide +kernel
theorem e_MM_letter_20 : decode m_MM_letter.2.1 20 = .ok (.getfield 80, 3) := by decide +kernel
theorem e_MM_letter_23 : decode m_MM_letter.2.1 23 = .ok (.iload_n 1, 1) := by decide +kernel
theorem e_MM_letter_24 : decode m_MM_letter.2.1 24 = .ok (.iaload, 1) := by decide +kernel
theorem e_MM_letter_25 : decode m_MM_letter.2.1 25 = .ok (.bipush 8, 2) := by decide +kernel
theorem e_MM_letter_27 : decode m_MM_letter.2.1 27 = .ok (.aload_n 0, 1) := by decide +kernel
theorem e_MM_letter_28 : decode m_MM_letter.2.1 28 = .ok (.getfield 83, 3) := by decide +kernel
theorem e_MM_letter_31 : decode m_MM_letter.2.1 31 = .ok (.iload_n 1, 1) := by decide +kernel
theorem e_MM_letter_32 : decode m_MM_letter.2.1 32 = .ok (.iaload, 1) := by decide +kernel
theorem e_MM_letter_33 : decode m_MM_letter.2.1 33 = .ok (.imul, 1) := by decide +kernel
theorem e_MM_letter_34 : decode m_MM_letter.2.1 34 = .ok (.iadd, 1) := by decide +kernel
theorem e_MM_letter_35 : decode m_MM_letter.2.1 35 = .ok (.bipush 64, 2) := by decide +kernel
theorem e_MM_letter_37 : decode m_MM_letter.2.1 37 = .ok (.aload_n 0, 1) := by decide +kernel
theorem e_MM_letter_38 : decode m_MM_letter.2.1 38 = .ok (.getfield 86, 3) := by decide +kernel
theorem e_MM_letter_41 : decode m_MM_letter.2.1 41 = .ok (.iload_n 1, 1) := by decide +kernel
theorem e_MM_letter_42 : decode m_MM_letter.2.1 42 = .ok (.iaload, 1) := by decide +kernel
theorem e_MM_letter_43 : decode m_MM_letter.2.1 43 = .ok (.imul, 1) := by decide +kernel
theorem e_MM_letter_44 : decode m_MM_letter.2.1 44 = .ok (.iadd, 1) := by decide +kernel
theorem e_MM_letter_45 : decode m_MM_letter.2.1 45 = .ok (.sipush 512, 3) := by decide +kernel
theorem e_MM_letter_48 : decode m_MM_letter.2.1 48 = .ok (.aload_n 0, 1) := by decide +kernel
theorem e_MM_letter_49 : decode m_MM_letter.2.1 49 = .ok (.getfield 89, 3) := by decide +kernel
theorem e_MM_letter_52 : decode m_MM_letter.2.1 52 = .ok (.iload_n 1, 1) := by decide +kernel
theorem e_MM_letter_53 : decode m_MM_letter.2.1 53 = .ok (.iaload, 1) := by decide +kernel
theorem e_MM_letter_54 : decode m_MM_letter.2.1 54 = .ok (.imul, 1) := by decide +kernel
theorem e_MM_letter_55 : decode m_MM_letter.2.1 55 = .ok (.iadd, 1) := by decide +kernel
theorem e_MM_letter_56 : decode m_MM_letter.2.1 56 = .ok (.istore_n 2, 1) := by decide +kernel
theorem e_MM_letter_57 : decode m_MM_letter.2.1 57 = .ok (.aload_n 0, 1) := by decide +kernel
theorem e_MM_letter_58 : decode m_MM_letter.2.1 58 = .ok (.getfield 80, 3) := by decide +kernel
theorem e_MM_letter_61 : decode m_MM_letter.2.1 61 = .ok (.iload_n 1, 1) := by decide +kernel
theorem e_MM_letter_62 : decode m_MM_letter.2.1 62 = .ok (.iaload, 1) := by decide +kernel
theorem e_MM_letter_63 : decode m_MM_letter.2.1 63 = .ok (.iconst 3, 1) := by decide +kernel
theorem e_MM_letter_64 : decode m_MM_letter.2.1 64 = .ok (.if_icmp .eq 7, 3) := by decide +kernel
theorem e_MM_letter_67 : decode m_MM_letter.2.1 67 = .ok (.iload_n 2, 1) := by decide +kernel
theorem e_MM_letter_68 : decode m_MM_letter.2.1 68 = .ok (.goto 49, 3) := by decide +kernel
theorem e_MM_letter_71 : decode m_MM_letter.2.1 71 = .ok (.iload_n 2, 1) := by decide +kernel
theorem e_MM_letter_72 : decode m_MM_letter.2.1 72 = .ok (.sipush 1024, 3) := by decide +kernel
theorem e_MM_letter_75 : decode m_MM_letter.2.1 75 = .ok (.aload_n 0, 1) := by decide +kernel
theorem e_MM_letter_76 : decode m_MM_letter.2.1 76 = .ok (.getfield 92, 3) := by decide +kernel
theorem e_MM_letter_79 : decode m_MM_letter.2.1 79 = .ok (.iload_n 1, 1) := by decide +kernel
theorem e_MM_letter_80 : decode m_MM_letter.2.1 80 = .ok (.iaload, 1) := by decide +kernel
theorem e_MM_letter_81 : decode m_MM_letter.2.1 81 = .ok (.imul, 1) := by decide +kernel
theorem e_MM_letter_82 : decode m_MM_letter.2.1 82 = .ok (.iadd, 1) := by decide +kernel
theorem e_MM_letter_83 : decode m_MM_letter.2.1 83 = .ok (.aload_n 0, 1) := by decide +kernel
theorem e_MM_letter_84 : decode m_MM_letter.2.1 84 = .ok (.getfield 95, 3) := by decide +kernel
theorem e_MM_letter_87 : decode m_MM_letter.2.1 87 = .ok (.iload_n 1, 1) := by decide +kernel
theorem e_MM_letter_88 : decode m_MM_letter.2.1 88 = .ok (.baload, 1) := by decide +kernel
theorem e_MM_letter_89 : decode m_MM_letter.2.1 89 = .ok (.ifCond .eq 9, 3) := by decide +kernel
theorem e_MM_letter_92 : decode m_MM_letter.2.1 92 = .ok (.sipush 8192, 3) := by decide +kernel
theorem e_MM_letter_95 : decode m_MM_letter.2.1 95 = .ok (.goto 4, 3) := by decide +kernel
theorem e_MM_letter_98 : decode m_MM_letter.2.1 98 = .ok (.iconst 0, 1) := by decide +kernel
theorem e_MM_letter_99 : decode m_MM_letter.2.1 99 = .ok (.iadd, 1) := by decide +kernel
theorem e_MM_letter_100 : decode m_MM_letter.2.1 100 = .ok (.aload_n 0, 1) := by decide +kernel
theorem e_MM_letter_101 : decode m_MM_letter.2.1 101 = .ok (.getfield 98, 3) := by decide +kernel
theorem e_MM_letter_104 : decode m_MM_letter.2.1 104 = .ok (.iload_n 1, 1) := by decide +kernel
theorem e_MM_letter_105 : decode m_MM_letter.2.1 105 = .ok (.baload, 1) := by decide +kernel
theorem e_MM_letter_106 : decode m_MM_letter.2.1 106 = .ok (.ifCond .eq 9, 3) := by decide +kernel
theorem e_MM_letter_109 : decode m_MM_letter.2.1 109 = .ok (.sipush 16384, 3) := by decide +kernel
theorem e_MM_letter_112 : decode m_MM_letter.2.1 112 = .ok (.goto 4, 3) := by decide +kernel
theorem e_MM_letter_115 : decode m_MM_letter.2.1 115 = .ok (.iconst 0, 1) := by decide +kernel
theorem e_MM_letter_116 : decode m_MM_letter.2.1 116 = .ok (.iadd, 1) := by decide +kernel
theorem e_MM_letter_117 : decode m_MM_letter.2.1 117 = .ok (.ireturn, 1) := by decide +kernel
theorem e_MM_tokens_0 : decode m_MM_tokens.2.1 0 = .ok (.aload_n 0, 1) := by decide +kernel
theorem e_MM_tokens_1 : decode m_MM_tokens.2.1 1 = .ok (.iconst 0, 1) := by decide +kernel
theorem e_MM_tokens_2 : decode m_MM_tokens.2.1 2 = .ok (.putfield 123, 3) := by decide +kernel
theorem e_MM_tokens_5 : decode m_MM_tokens.2.1 5 = .ok (.aload_n 0, 1) := by decide +kernel
theorem e_MM_tokens_6 : decode m_MM_tokens.2.1 6 = .ok (.iload_n 1, 1) := by decide +kernel
theorem e_MM_tokens_7 : decode m_MM_tokens.2.1 7 = .ok (.invokevirtual 190, 3) := by decide +kernel
theorem e_MM_tokens_10 : decode m_MM_tokens.2.1 10 = .ok (.ifCond .eq 10, 3) := by decide +kernel
theorem e_MM_tokens_13 : decode m_MM_tokens.2.1 13 = .ok (.iload_n 2, 1) := by decide +kernel
theorem e_MM_tokens_14 : decode m_MM_tokens.2.1 14 = .ok (.invokestatic 149, 3) := by decide +kernel
theorem e_MM_tokens_17 : decode m_MM_tokens.2.1 17 = .ok (.ifCond .ne 5, 3) := by decide +kernel
theorem e_MM_tokens_20 : decode m_MM_tokens.2.1 20 = .ok (.iconst (-1), 1) := by decide +kernel
theorem e_MM_tokens_21 : decode m_MM_tokens.2.1 21 = .ok (.ireturn, 1) := by decide +kernel
theorem e_MM_tokens_22 : decode m_MM_tokens.2.1 22 = .ok (.iconst 2, 1) := by decide +kernel
theorem e_MM_tokens_23 : decode m_MM_tokens.2.1 23 = .ok (.iload_n 1, 1) := by decide +kernel
theorem e_MM_tokens_24 : decode m_MM_tokens.2.1 24 = .ok (.imul, 1) := by decide +kernel
theorem e_MM_tokens_25 : decode m_MM_tokens.2.1 25 = .ok (.iload_n 2, 1) := by decide +kernel
theorem e_MM_tokens_26 : decode m_MM_tokens.2.1 26 = .ok (.iadd, 1) := by decide +kernel
theorem e_MM_tokens_27 : decode m_MM_tokens.2.1 27 = .ok (.istore_n 3, 1) := by decide +kernel
theorem e_MM_tokens_28 : decode m_MM_tokens.2.1 28 = .ok (.aload_n 0, 1) := by decide +kernel
theorem e_MM_tokens_29 : decode m_MM_tokens.2.1 29 = .ok (.getfield 7, 3) := by decide +kernel
theorem e_MM_tokens_32 : decode m_MM_tokens.2.1 32 = .ok (.iload_n 3, 1) := by decide +kernel
theorem e_MM_tokens_33 : decode m_MM_tokens.2.1 33 = .ok (.iaload, 1) := by decide +kernel
theorem e_MM_tokens_34 : decode m_MM_tokens.2.1 34 = .ok (.aload_n 0, 1) := by decide +kernel
theorem e_MM_tokens_35 : decode m_MM_tokens.2.1 35 = .ok (.getfield 13, 3) := by decide +kernel
theorem e_MM_tokens_38 : decode m_MM_tokens.2.1 38 = .ok (.iload_n 3, 1) := by decide +kernel
theorem e_MM_tokens_39 : decode m_MM_tokens.2.1 39 = .ok (.baload, 1) := by decide +kernel
theorem e_MM_tokens_40 : decode m_MM_tokens.2.1 40 = .ok (.ifCond .eq 8, 3) := by decide +kernel
theorem e_MM_tokens_43 : decode m_MM_tokens.2.1 43 = .ok (.bipush 8, 2) := by decide +kernel
theorem e_MM_tokens_45 : decode m_MM_tokens.2.1 45 = .ok (.goto 4, 3) := by decide +kernel
theorem e_MM_tokens_48 : decode m_MM_tokens.2.1 48 = .ok (.iconst 0, 1) := by decide +kernel
theorem e_MM_tokens_49 : decode m_MM_tokens.2.1 49 = .ok (.iadd, 1) := by decide +kernel
theorem e_MM_tokens_50 : decode m_MM_tokens.2.1 50 = .ok (.aload_n 0, 1) := by decide +kernel
theorem e_MM_tokens_51 : decode m_MM_tokens.2.1 51 = .ok (.getfield 17, 3) := by decide +kernel
theorem e_MM_tokens_54 : decode m_MM_tokens.2.1 54 = .ok (.iload_n 3, 1) := by decide +kernel
theorem e_MM_tokens_55 : decode m_MM_tokens.2.1 55 = .ok (.baload, 1) := by decide +kernel
theorem e_MM_tokens_56 : decode m_MM_tokens.2.1 56 = .ok (.ifCond .eq 8, 3) := by decide +kernel
theorem e_MM_tokens_59 : decode m_MM_tokens.2.1 59 = .ok (.bipush 16, 2) := by decide +kernel
theorem e_MM_tokens_61 : decode m_MM_tokens.2.1 61 = .ok (.goto 4, 3) := by decide +kernel
theorem e_MM_tokens_64 : decode m_MM_tokens.2.1 64 = .ok (.iconst 0, 1) := by decide +kernel
theorem e_MM_tokens_65 : decode m_MM_tokens.2.1 65 = .ok (.iadd, 1) := by decide +kernel
theorem e_MM_tokens_66 : decode m_MM_tokens.2.1 66 = .ok (.ireturn, 1) := by decide +kernel
theorem e_MM_data_0 : decode m_MM_data.2.1 0 = .ok (.aload_n 0, 1) := by decide +kernel
theorem e_MM_data_1 : decode m_MM_data.2.1 1 = .ok (.iconst 0, 1) := by decide +kernel
theorem e_MM_data_2 : decode m_MM_data.2.1 2 = .ok (.putfield 123, 3) := by decide +kernel
theorem e_MM_data_5 : decode m_MM_data.2.1 5 = .ok (.aload_n 0, 1) := by decide +kernel
theorem e_MM_data_6 : decode m_MM_data.2.1 6 = .ok (.iload_n 1, 1) := by decide +kernel
theorem e_MM_data_7 : decode m_MM_data.2.1 7 = .ok (.invokevirtual 190, 3) := by decide +kernel
theorem e_MM_data_10 : decode m_MM_data.2.1 10 = .ok (.ifCond .eq 36, 3) := by decide +kernel
theorem e_MM_data_13 : decode m_MM_data.2.1 13 = .ok (.iload_n 2, 1) := by decide +kernel
theorem e_MM_data_14 : decode m_MM_data.2.1 14 = .ok (.invokestatic 149, 3) := by decide +kernel
theorem e_MM_data_17 : decode m_MM_data.2.1 17 = .ok (.ifCond .eq 29, 3) := by decide +kernel
theorem e_MM_data_20 : decode m_MM_data.2.1 20 = .ok (.aload_n 0, 1) := by decide +kernel
theorem e_MM_data_21 : decode m_MM_data.2.1 21 = .ok (.getfield 17, 3) := by decide +kernel
theorem e_MM_data_24 : decode m_MM_data.2.1 24 = .ok (.iconst 2, 1) := by decide +kernel
theorem e_MM_data_25 : decode m_MM_data.2.1 25 = .ok (.iload_n 1, 1) := by decide +kernel
theorem e_MM_data_26 : decode m_MM_data.2.1 26 = .ok (.imul, 1) := by decide +kernel
theorem e_MM_data_27 : decode m_MM_data.2.1 27 = .ok (.iload_n 2, 1) := by decide +kernel
theorem e_MM_data_28 : decode m_MM_data.2.1 28 = .ok (.iadd, 1) := by decide +kernel
theorem e_MM_data_29 : decode m_MM_data.2.1 29 = .ok (.baload, 1) := by decide +kernel
theorem e_MM_data_30 : decode m_MM_data.2.1 30 = .ok (.ifCond .eq 16, 3) := by decide +kernel
theorem e_MM_data_33 : decode m_MM_data.2.1 33 = .ok (.aload_n 0, 1) := by decide +kernel
theorem e_MM_data_34 : decode m_MM_data.2.1 34 = .ok (.getfield 20, 3) := by decide +kernel
theorem e_MM_data_37 : decode m_MM_data.2.1 37 = .ok (.iconst 2, 1) := by decide +kernel
theorem e_MM_data_38 : decode m_MM_data.2.1 38 = .ok (.iload_n 1, 1) := by decide +kernel
theorem e_MM_data_39 : decode m_MM_data.2.1 39 = .ok (.imul, 1) := by decide +kernel
theorem e_MM_data_40 : decode m_MM_data.2.1 40 = .ok (.iload_n 2, 1) := by decide +kernel
theorem e_MM_data_41 : decode m_MM_data.2.1 41 = .ok (.iadd, 1) := by decide +kernel
theorem e_MM_data_42 : decode m_MM_data.2.1 42 = .ok (.iaload, 1) := by decide +kernel
theorem e_MM_data_43 : decode m_MM_data.2.1 43 = .ok (.goto 4, 3) := by decide +kernel
theorem e_MM_data_46 : decode m_MM_data.2.1 46 = .ok (.iconst 0, 1) := by decide +kernel
theorem e_MM_data_47 : decode m_MM_data.2.1 47 = .ok (.ireturn, 1) := by decide +kernel
theorem e_MM_knows_0 : decode m_MM_knows.2.1 0 = .ok (.aload_n 0, 1) := by decide +kernel
theorem e_MM_knows_1 : decode m_MM_knows.2.1 1 = .ok (.iconst 0, 1) := by decide +kernel
theorem e_MM_knows_2 : decode m_MM_knows.2.1 2 = .ok (.putfield 123, 3) := by decide +kernel
theorem e_MM_knows_5 : decode m_MM_knows.2.1 5 = .ok (.aload_n 0, 1) := by decide +kernel
theorem e_MM_knows_6 : decode m_MM_knows.2.1 6 = .ok (.iload_n 1, 1) := by decide +kernel
theorem e_MM_knows_7 : decode m_MM_knows.2.1 7 = .ok (.invokevirtual 190, 3) := by decide +kernel
theorem e_MM_knows_10 : decode m_MM_knows.2.1 10 = .ok (.ifCond .eq 10, 3) := by decide +kernel
theorem e_MM_knows_13 : decode m_MM_knows.2.1 13 = .ok (.iload_n 2, 1) := by decide +kernel
theorem e_MM_knows_14 : decode m_MM_knows.2.1 14 = .ok (.invokestatic 149, 3) := by decide +kernel
theorem e_MM_knows_17 : decode m_MM_knows.2.1 17 = .ok (.ifCond .ne 6, 3) := by decide +kernel
theorem e_MM_knows_20 : decode m_MM_knows.2.1 20 = .ok (.bipush (-2), 2) := by decide +kernel
theorem e_MM_knows_22 : decode m_MM_knows.2.1 22 = .ok (.ireturn, 1) := by decide +kernel
theorem e_MM_knows_23 : decode m_MM_knows.2.1 23 = .ok (.iconst 2, 1) := by decide +kernel
theorem e_MM_knows_24 : decode m_MM_knows.2.1 24 = .ok (.iload_n 1, 1) := by decide +kernel
theorem e_MM_knows_25 : decode m_MM_knows.2.1 25 = .ok (.imul, 1) := by decide +kernel
theorem e_MM_knows_26 : decode m_MM_knows.2.1 26 = .ok (.iload_n 2, 1) := by decide +kernel
theorem e_MM_knows_27 : decode m_MM_knows.2.1 27 = .ok (.iadd, 1) := by decide +kernel
theorem e_MM_knows_28 : decode m_MM_knows.2.1 28 = .ok (.istore_n 3, 1) := by decide +kernel
theorem e_MM_knows_29 : decode m_MM_knows.2.1 29 = .ok (.aload_n 0, 1) := by decide +kernel
theorem e_MM_knows_30 : decode m_MM_knows.2.1 30 = .ok (.getfield 23, 3) := by decide +kernel
theorem e_MM_knows_33 : decode m_MM_knows.2.1 33 = .ok (.iload_n 3, 1) := by decide +kernel
theorem e_MM_knows_34 : decode m_MM_knows.2.1 34 = .ok (.iaload, 1) := by decide +kernel
theorem e_MM_knows_35 : decode m_MM_knows.2.1 35 = .ok (.ifCond .ge 7, 3) := by decide +kernel
theorem e_MM_knows_38 : decode m_MM_knows.2.1 38 = .ok (.iconst (-1), 1) := by decide +kernel
theorem e_MM_knows_39 : decode m_MM_knows.2.1 39 = .ok (.goto 25, 3) := by decide +kernel
theorem e_MM_knows_42 : decode m_MM_knows.2.1 42 = .ok (.aload_n 0, 1) := by decide +kernel
theorem e_MM_knows_43 : decode m_MM_knows.2.1 43 = .ok (.getfield 23, 3) := by decide +kernel
theorem e_MM_knows_46 : decode m_MM_knows.2.1 46 = .ok (.iload_n 3, 1) := by decide +kernel
theorem e_MM_knows_47 : decode m_MM_knows.2.1 47 = .ok (.iaload, 1) := by decide +kernel
theorem e_MM_knows_48 : decode m_MM_knows.2.1 48 = .ok (.aload_n 0, 1) := by decide +kernel
theorem e_MM_knows_49 : decode m_MM_knows.2.1 49 = .ok (.getfield 26, 3) := by decide +kernel
theorem e_MM_knows_52 : decode m_MM_knows.2.1 52 = .ok (.iload_n 3, 1) := by decide +kernel
theorem e_MM_knows_53 : decode m_MM_knows.2.1 53 = .ok (.baload, 1) := by decide +kernel
theorem e_MM_knows_54 : decode m_MM_knows.2.1 54 = .ok (.ifCond .eq 8, 3) := by decide +kernel
theorem e_MM_knows_57 : decode m_MM_knows.2.1 57 = .ok (.bipush 8, 2) := by decide +kernel
theorem e_MM_knows_59 : decode m_MM_knows.2.1 59 = .ok (.goto 4, 3) := by decide +kernel
theorem e_MM_knows_62 : decode m_MM_knows.2.1 62 = .ok (.iconst 0, 1) := by decide +kernel
theorem e_MM_knows_63 : decode m_MM_knows.2.1 63 = .ok (.iadd, 1) := by decide +kernel
theorem e_MM_knows_64 : decode m_MM_knows.2.1 64 = .ok (.ireturn, 1) := by decide +kernel
theorem e_MM_row_0 : decode m_MM_row.2.1 0 = .ok (.aload_n 0, 1) := by decide +kernel
theorem e_MM_row_1 : decode m_MM_row.2.1 1 = .ok (.iconst 0, 1) := by decide +kernel
theorem e_MM_row_2 : decode m_MM_row.2.1 2 = .ok (.putfield 123, 3) := by decide +kernel
theorem e_MM_row_5 : decode m_MM_row.2.1 5 = .ok (.iload_n 1, 1) := by decide +kernel
theorem e_MM_row_6 : decode m_MM_row.2.1 6 = .ok (.invokestatic 149, 3) := by decide +kernel
theorem e_MM_row_9 : decode m_MM_row.2.1 9 = .ok (.ifCond .eq 12, 3) := by decide +kernel
theorem e_MM_row_12 : decode m_MM_row.2.1 12 = .ok (.aload_n 0, 1) := by decide +kernel
theorem e_MM_row_13 : decode m_MM_row.2.1 13 = .ok (.getfield 71, 3) := by decide +kernel
theorem e_MM_row_16 : decode m_MM_row.2.1 16 = .ok (.iload_n 1, 1) := by decide +kernel
theorem e_MM_row_17 : decode m_MM_row.2.1 17 = .ok (.iaload, 1) := by decide +kernel
theorem e_MM_row_18 : decode m_MM_row.2.1 18 = .ok (.goto 4, 3) := by decide +kernel
theorem e_MM_row_21 : decode m_MM_row.2.1 21 = .ok (.iconst (-1), 1) := by decide +kernel
theorem e_MM_row_22 : decode m_MM_row.2.1 22 = .ok (.ireturn, 1) := by decide +kernel
theorem e_MM_state_0 : decode m_MM_state.2.1 0 = .ok (.aload_n 0, 1) := by decide +kernel
theorem e_MM_state_1 : decode m_MM_state.2.1 1 = .ok (.iconst 0, 1) := by decide +kernel
theorem e_MM_state_2 : decode m_MM_state.2.1 2 = .ok (.putfield 123, 3) := by decide +kernel
theorem e_MM_state_5 : decode m_MM_state.2.1 5 = .ok (.aload_n 0, 1) := by decide +kernel
theorem e_MM_state_6 : decode m_MM_state.2.1 6 = .ok (.iload_n 1, 1) := by decide +kernel
theorem e_MM_state_7 : decode m_MM_state.2.1 7 = .ok (.invokevirtual 145, 3) := by decide +kernel
theorem e_MM_state_10 : decode m_MM_state.2.1 10 = .ok (.ifCond .ne 7, 3) := by decide +kernel
theorem e_MM_state_13 : decode m_MM_state.2.1 13 = .ok (.iconst (-1), 1) := by decide +kernel
theorem e_MM_state_14 : decode m_MM_state.2.1 14 = .ok (.goto 40, 3) := by decide +kernel
theorem e_MM_state_17 : decode m_MM_state.2.1 17 = .ok (.aload_n 0, 1) := by decide +kernel
theorem e_MM_state_18 : decode m_MM_state.2.1 18 = .ok (.getfield 32, 3) := by decide +kernel
theorem e_MM_state_21 : decode m_MM_state.2.1 21 = .ok (.iload_n 1, 1) := by decide +kernel
theorem e_MM_state_22 : decode m_MM_state.2.1 22 = .ok (.baload, 1) := by decide +kernel
theorem e_MM_state_23 : decode m_MM_state.2.1 23 = .ok (.ifCond .ne 7, 3) := by decide +kernel
theorem e_MM_state_26 : decode m_MM_state.2.1 26 = .ok (.iconst 0, 1) := by decide +kernel
theorem e_MM_state_27 : decode m_MM_state.2.1 27 = .ok (.goto 27, 3) := by decide +kernel
theorem e_MM_state_30 : decode m_MM_state.2.1 30 = .ok (.iconst 1, 1) := by decide +kernel
theorem e_MM_state_31 : decode m_MM_state.2.1 31 = .ok (.aload_n 0, 1) := by decide +kernel
theorem e_MM_state_32 : decode m_MM_state.2.1 32 = .ok (.getfield 50, 3) := by decide +kernel
theorem e_MM_state_35 : decode m_MM_state.2.1 35 = .ok (.iload_n 1, 1) := by decide +kernel
theorem e_MM_state_36 : decode m_MM_state.2.1 36 = .ok (.iaload, 1) := by decide +kernel
theorem e_MM_state_37 : decode m_MM_state.2.1 37 = .ok (.iadd, 1) := by decide +kernel
theorem e_MM_state_38 : decode m_MM_state.2.1 38 = .ok (.aload_n 0, 1) := by decide +kernel
theorem e_MM_state_39 : decode m_MM_state.2.1 39 = .ok (.getfield 38, 3) := by decide +kernel
theorem e_MM_state_42 : decode m_MM_state.2.1 42 = .ok (.iload_n 1, 1) := by decide +kernel
theorem e_MM_state_43 : decode m_MM_state.2.1 43 = .ok (.baload, 1) := by decide +kernel
theorem e_MM_state_44 : decode m_MM_state.2.1 44 = .ok (.ifCond .eq 8, 3) := by decide +kernel
theorem e_MM_state_47 : decode m_MM_state.2.1 47 = .ok (.bipush 8, 2) := by decide +kernel
theorem e_MM_state_49 : decode m_MM_state.2.1 49 = .ok (.goto 4, 3) := by decide +kernel
theorem e_MM_state_52 : decode m_MM_state.2.1 52 = .ok (.iconst 0, 1) := by decide +kernel
theorem e_MM_state_53 : decode m_MM_state.2.1 53 = .ok (.iadd, 1) := by decide +kernel
theorem e_MM_state_54 : decode m_MM_state.2.1 54 = .ok (.ireturn, 1) := by decide +kernel
theorem e_MM_ended_0 : decode m_MM_ended.2.1 0 = .ok (.aload_n 0, 1) := by decide +kernel
theorem e_MM_ended_1 : decode m_MM_ended.2.1 1 = .ok (.iconst 0, 1) := by decide +kernel
theorem e_MM_ended_2 : decode m_MM_ended.2.1 2 = .ok (.putfield 123, 3) := by decide +kernel
theorem e_MM_ended_5 : decode m_MM_ended.2.1 5 = .ok (.aload_n 0, 1) := by decide +kernel
theorem e_MM_ended_6 : decode m_MM_ended.2.1 6 = .ok (.iload_n 1, 1) := by decide +kernel
theorem e_MM_ended_7 : decode m_MM_ended.2.1 7 = .ok (.invokevirtual 145, 3) := by decide +kernel
theorem e_MM_ended_10 : decode m_MM_ended.2.1 10 = .ok (.ifCond .eq 12, 3) := by decide +kernel
theorem e_MM_ended_13 : decode m_MM_ended.2.1 13 = .ok (.aload_n 0, 1) := by decide +kernel
theorem e_MM_ended_14 : decode m_MM_ended.2.1 14 = .ok (.getfield 56, 3) := by decide +kernel
theorem e_MM_ended_17 : decode m_MM_ended.2.1 17 = .ok (.iload_n 1, 1) := by decide +kernel
theorem e_MM_ended_18 : decode m_MM_ended.2.1 18 = .ok (.iaload, 1) := by decide +kernel
theorem e_MM_ended_19 : decode m_MM_ended.2.1 19 = .ok (.goto 4, 3) := by decide +kernel
theorem e_MM_ended_22 : decode m_MM_ended.2.1 22 = .ok (.iconst (-1), 1) := by decide +kernel
theorem e_MM_ended_23 : decode m_MM_ended.2.1 23 = .ok (.ireturn, 1) := by decide +kernel
theorem e_MM_result_0 : decode m_MM_result.2.1 0 = .ok (.aload_n 0, 1) := by decide +kernel
theorem e_MM_result_1 : decode m_MM_result.2.1 1 = .ok (.iconst 0, 1) := by decide +kernel
theorem e_MM_result_2 : decode m_MM_result.2.1 2 = .ok (.putfield 123, 3) := by decide +kernel
theorem e_MM_result_5 : decode m_MM_result.2.1 5 = .ok (.aload_n 0, 1) := by decide +kernel
theorem e_MM_result_6 : decode m_MM_result.2.1 6 = .ok (.iload_n 1, 1) := by decide +kernel
theorem e_MM_result_7 : decode m_MM_result.2.1 7 = .ok (.invokevirtual 145, 3) := by decide +kernel
theorem e_MM_result_10 : decode m_MM_result.2.1 10 = .ok (.ifCond .eq 12, 3) := by decide +kernel
theorem e_MM_result_13 : decode m_MM_result.2.1 13 = .ok (.aload_n 0, 1) := by decide +kernel
theorem e_MM_result_14 : decode m_MM_result.2.1 14 = .ok (.getfield 59, 3) := by decide +kernel
theorem e_MM_result_17 : decode m_MM_result.2.1 17 = .ok (.iload_n 1, 1) := by decide +kernel
theorem e_MM_result_18 : decode m_MM_result.2.1 18 = .ok (.iaload, 1) := by decide +kernel
theorem e_MM_result_19 : decode m_MM_result.2.1 19 = .ok (.goto 4, 3) := by decide +kernel
theorem e_MM_result_22 : decode m_MM_result.2.1 22 = .ok (.iconst 0, 1) := by decide +kernel
theorem e_MM_result_23 : decode m_MM_result.2.1 23 = .ok (.ireturn, 1) := by decide +kernel
theorem e_MM_memory_0 : decode m_MM_memory.2.1 0 = .ok (.aload_n 0, 1) := by decide +kernel
theorem e_MM_memory_1 : decode m_MM_memory.2.1 1 = .ok (.iconst 0, 1) := by decide +kernel
theorem e_MM_memory_2 : decode m_MM_memory.2.1 2 = .ok (.putfield 123, 3) := by decide +kernel
theorem e_MM_memory_5 : decode m_MM_memory.2.1 5 = .ok (.iconst 0, 1) := by decide +kernel
theorem e_MM_memory_6 : decode m_MM_memory.2.1 6 = .ok (.istore_n 2, 1) := by decide +kernel
theorem e_MM_memory_7 : decode m_MM_memory.2.1 7 = .ok (.iconst 0, 1) := by decide +kernel
theorem e_MM_memory_8 : decode m_MM_memory.2.1 8 = .ok (.istore_n 3, 1) := by decide +kernel
theorem e_MM_memory_9 : decode m_MM_memory.2.1 9 = .ok (.iload_n 3, 1) := by decide +kernel
theorem e_MM_memory_10 : decode m_MM_memory.2.1 10 = .ok (.aload_n 0, 1) := by decide +kernel
theorem e_MM_memory_11 : decode m_MM_memory.2.1 11 = .ok (.getfield 113, 3) := by decide +kernel
theorem e_MM_memory_14 : decode m_MM_memory.2.1 14 = .ok (.if_icmp .gt 44, 3) := by decide +kernel
theorem e_MM_memory_17 : decode m_MM_memory.2.1 17 = .ok (.iload_n 1, 1) := by decide +kernel
theorem e_MM_memory_18 : decode m_MM_memory.2.1 18 = .ok (.invokestatic 149, 3) := by decide +kernel
theorem e_MM_memory_21 : decode m_MM_memory.2.1 21 = .ok (.ifCond .eq 37, 3) := by decide +kernel
theorem e_MM_memory_24 : decode m_MM_memory.2.1 24 = .ok (.aload_n 0, 1) := by decide +kernel
theorem e_MM_memory_25 : decode m_MM_memory.2.1 25 = .ok (.getfield 13, 3) := by decide +kernel
theorem e_MM_memory_28 : decode m_MM_memory.2.1 28 = .ok (.iconst 2, 1) := by decide +kernel
theorem e_MM_memory_29 : decode m_MM_memory.2.1 29 = .ok (.iload_n 3, 1) := by decide +kernel
theorem e_MM_memory_30 : decode m_MM_memory.2.1 30 = .ok (.imul, 1) := by decide +kernel
theorem e_MM_memory_31 : decode m_MM_memory.2.1 31 = .ok (.iload_n 1, 1) := by decide +kernel
theorem e_MM_memory_32 : decode m_MM_memory.2.1 32 = .ok (.iadd, 1) := by decide +kernel
theorem e_MM_memory_33 : decode m_MM_memory.2.1 33 = .ok (.baload, 1) := by decide +kernel
theorem e_MM_memory_34 : decode m_MM_memory.2.1 34 = .ok (.ifCond .eq 16, 3) := by decide +kernel
theorem e_MM_memory_37 : decode m_MM_memory.2.1 37 = .ok (.aload_n 0, 1) := by decide +kernel
theorem e_MM_memory_38 : decode m_MM_memory.2.1 38 = .ok (.getfield 20, 3) := by decide +kernel
theorem e_MM_memory_41 : decode m_MM_memory.2.1 41 = .ok (.iconst 2, 1) := by decide +kernel
theorem e_MM_memory_42 : decode m_MM_memory.2.1 42 = .ok (.iload_n 3, 1) := by decide +kernel
theorem e_MM_memory_43 : decode m_MM_memory.2.1 43 = .ok (.imul, 1) := by decide +kernel
theorem e_MM_memory_44 : decode m_MM_memory.2.1 44 = .ok (.iload_n 1, 1) := by decide +kernel
theorem e_MM_memory_45 : decode m_MM_memory.2.1 45 = .ok (.iadd, 1) := by decide +kernel
theorem e_MM_memory_46 : decode m_MM_memory.2.1 46 = .ok (.iaload, 1) := by decide +kernel
theorem e_MM_memory_47 : decode m_MM_memory.2.1 47 = .ok (.goto 4, 3) := by decide +kernel
theorem e_MM_memory_50 : decode m_MM_memory.2.1 50 = .ok (.iload_n 2, 1) := by decide +kernel
theorem e_MM_memory_51 : decode m_MM_memory.2.1 51 = .ok (.istore_n 2, 1) := by decide +kernel
theorem e_MM_memory_52 : decode m_MM_memory.2.1 52 = .ok (.iinc 3 1, 3) := by decide +kernel
theorem e_MM_memory_55 : decode m_MM_memory.2.1 55 = .ok (.goto (-46), 3) := by decide +kernel
theorem e_MM_memory_58 : decode m_MM_memory.2.1 58 = .ok (.iconst 0, 1) := by decide +kernel
theorem e_MM_memory_59 : decode m_MM_memory.2.1 59 = .ok (.istore_n 3, 1) := by decide +kernel
theorem e_MM_memory_60 : decode m_MM_memory.2.1 60 = .ok (.iload_n 3, 1) := by decide +kernel
theorem e_MM_memory_61 : decode m_MM_memory.2.1 61 = .ok (.aload_n 0, 1) := by decide +kernel
theorem e_MM_memory_62 : decode m_MM_memory.2.1 62 = .ok (.getfield 126, 3) := by decide +kernel
theorem e_MM_memory_65 : decode m_MM_memory.2.1 65 = .ok (.if_icmp .ge 56, 3) := by decide +kernel
theorem e_MM_memory_68 : decode m_MM_memory.2.1 68 = .ok (.iload_n 1, 1) := by decide +kernel
theorem e_MM_memory_69 : decode m_MM_memory.2.1 69 = .ok (.invokestatic 149, 3) := by decide +kernel
theorem e_MM_memory_72 : decode m_MM_memory.2.1 72 = .ok (.ifCond .eq 49, 3) := by decide +kernel
theorem e_MM_memory_75 : decode m_MM_memory.2.1 75 = .ok (.aload_n 0, 1) := by decide +kernel
theorem e_MM_memory_76 : decode m_MM_memory.2.1 76 = .ok (.getfield 80, 3) := by decide +kernel
theorem e_MM_memory_79 : decode m_MM_memory.2.1 79 = .ok (.iload_n 3, 1) := by decide +kernel
theorem e_MM_memory_80 : decode m_MM_memory.2.1 80 = .ok (.iaload, 1) := by decide +kernel
theorem e_MM_memory_81 : decode m_MM_memory.2.1 81 = .ok (.iconst 3, 1) := by decide +kernel
theorem e_MM_memory_82 : decode m_MM_memory.2.1 82 = .ok (.if_icmp .ne 31, 3) := by decide +kernel
theorem e_MM_memory_85 : decode m_MM_memory.2.1 85 = .ok (.aload_n 0, 1) := by decide +kernel
theorem e_MM_memory_86 : decode m_MM_memory.2.1 86 = .ok (.getfield 89, 3) := by decide +kernel
theorem e_MM_memory_89 : decode m_MM_memory.2.1 89 = .ok (.iload_n 3, 1) := by decide +kernel
theorem e_MM_memory_90 : decode m_MM_memory.2.1 90 = .ok (.iaload, 1) := by decide +kernel
theorem e_MM_memory_91 : decode m_MM_memory.2.1 91 = .ok (.iload_n 1, 1) := by decide +kernel
theorem e_MM_memory_92 : decode m_MM_memory.2.1 92 = .ok (.if_icmp .ne 21, 3) := by decide +kernel
theorem e_MM_memory_95 : decode m_MM_memory.2.1 95 = .ok (.aload_n 0, 1) := by decide +kernel
theorem e_MM_memory_96 : decode m_MM_memory.2.1 96 = .ok (.getfield 95, 3) := by decide +kernel
theorem e_MM_memory_99 : decode m_MM_memory.2.1 99 = .ok (.iload_n 3, 1) := by decide +kernel
theorem e_MM_memory_100 : decode m_MM_memory.2.1 100 = .ok (.baload, 1) := by decide +kernel
theorem e_MM_memory_101 : decode m_MM_memory.2.1 101 = .ok (.ifCond .eq 12, 3) := by decide +kernel
theorem e_MM_memory_104 : decode m_MM_memory.2.1 104 = .ok (.aload_n 0, 1) := by decide +kernel
theorem e_MM_memory_105 : decode m_MM_memory.2.1 105 = .ok (.getfield 101, 3) := by decide +kernel
theorem e_MM_memory_108 : decode m_MM_memory.2.1 108 = .ok (.iload_n 3, 1) := by decide +kernel
theorem e_MM_memory_109 : decode m_MM_memory.2.1 109 = .ok (.iaload, 1) := by decide +kernel
theorem e_MM_memory_110 : decode m_MM_memory.2.1 110 = .ok (.goto 4, 3) := by decide +kernel
theorem e_MM_memory_113 : decode m_MM_memory.2.1 113 = .ok (.iload_n 2, 1) := by decide +kernel
theorem e_MM_memory_114 : decode m_MM_memory.2.1 114 = .ok (.istore_n 2, 1) := by decide +kernel
theorem e_MM_memory_115 : decode m_MM_memory.2.1 115 = .ok (.iinc 3 1, 3) := by decide +kernel
theorem e_MM_memory_118 : decode m_MM_memory.2.1 118 = .ok (.goto (-58), 3) := by decide +kernel
theorem e_MM_memory_121 : decode m_MM_memory.2.1 121 = .ok (.iload_n 2, 1) := by decide +kernel
theorem e_MM_memory_122 : decode m_MM_memory.2.1 122 = .ok (.ireturn, 1) := by decide +kernel
