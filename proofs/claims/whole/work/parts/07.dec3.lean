theorem dX8_init_0 : decode cX8_init 0 = .ok (.aload_n 0, 1) := by decide +kernel
theorem dX8_init_1 : decode cX8_init 1 = .ok (.invokespecial 1, 3) := by decide +kernel
theorem dX8_init_4 : decode cX8_init 4 = .ok (.aload_n 0, 1) := by decide +kernel
theorem dX8_init_5 : decode cX8_init 5 = .ok (.bipush 8, 2) := by decide +kernel
theorem dX8_init_7 : decode cX8_init 7 = .ok (.newarray .int, 2) := by decide +kernel
theorem dX8_init_9 : decode cX8_init 9 = .ok (.putfield 7, 3) := by decide +kernel
theorem dX8_init_12 : decode cX8_init 12 = .ok (.aload_n 0, 1) := by decide +kernel
theorem dX8_init_13 : decode cX8_init 13 = .ok (.bipush 8, 2) := by decide +kernel
theorem dX8_init_15 : decode cX8_init 15 = .ok (.newarray .int, 2) := by decide +kernel
theorem dX8_init_17 : decode cX8_init 17 = .ok (.putfield 13, 3) := by decide +kernel
theorem dX8_init_20 : decode cX8_init 20 = .ok (.aload_n 0, 1) := by decide +kernel
theorem dX8_init_21 : decode cX8_init 21 = .ok (.bipush 8, 2) := by decide +kernel
theorem dX8_init_23 : decode cX8_init 23 = .ok (.newarray .int, 2) := by decide +kernel
theorem dX8_init_25 : decode cX8_init 25 = .ok (.putfield 16, 3) := by decide +kernel
theorem dX8_init_28 : decode cX8_init 28 = .ok (.aload_n 0, 1) := by decide +kernel
theorem dX8_init_29 : decode cX8_init 29 = .ok (.bipush 8, 2) := by decide +kernel
theorem dX8_init_31 : decode cX8_init 31 = .ok (.newarray .int, 2) := by decide +kernel
theorem dX8_init_33 : decode cX8_init 33 = .ok (.putfield 19, 3) := by decide +kernel
theorem dX8_init_36 : decode cX8_init 36 = .ok (.aload_n 0, 1) := by decide +kernel
theorem dX8_init_37 : decode cX8_init 37 = .ok (.bipush 64, 2) := by decide +kernel
theorem dX8_init_39 : decode cX8_init 39 = .ok (.newarray .int, 2) := by decide +kernel
theorem dX8_init_41 : decode cX8_init 41 = .ok (.putfield 22, 3) := by decide +kernel
theorem dX8_init_44 : decode cX8_init 44 = .ok (.aload_n 0, 1) := by decide +kernel
theorem dX8_init_45 : decode cX8_init 45 = .ok (.bipush 20, 2) := by decide +kernel
theorem dX8_init_47 : decode cX8_init 47 = .ok (.putfield 25, 3) := by decide +kernel
theorem dX8_init_50 : decode cX8_init 50 = .ok (.aload_n 0, 1) := by decide +kernel
theorem dX8_init_51 : decode cX8_init 51 = .ok (.iconst 1, 1) := by decide +kernel
theorem dX8_init_52 : decode cX8_init 52 = .ok (.putfield 29, 3) := by decide +kernel
theorem dX8_init_55 : decode cX8_init 55 = .ok (.aload_n 0, 1) := by decide +kernel
theorem dX8_init_56 : decode cX8_init 56 = .ok (.bipush 21, 2) := by decide +kernel
theorem dX8_init_58 : decode cX8_init 58 = .ok (.newarray .int, 2) := by decide +kernel
theorem dX8_init_60 : decode cX8_init 60 = .ok (.dup, 1) := by decide +kernel
theorem dX8_init_61 : decode cX8_init 61 = .ok (.iconst 0, 1) := by decide +kernel
theorem dX8_init_62 : decode cX8_init 62 = .ok (.bipush 100, 2) := by decide +kernel
theorem dX8_init_64 : decode cX8_init 64 = .ok (.iastore, 1) := by decide +kernel
theorem dX8_init_65 : decode cX8_init 65 = .ok (.dup, 1) := by decide +kernel
theorem dX8_init_66 : decode cX8_init 66 = .ok (.iconst 1, 1) := by decide +kernel
theorem dX8_init_67 : decode cX8_init 67 = .ok (.bipush 100, 2) := by decide +kernel
theorem dX8_init_69 : decode cX8_init 69 = .ok (.iastore, 1) := by decide +kernel
theorem dX8_init_70 : decode cX8_init 70 = .ok (.dup, 1) := by decide +kernel
theorem dX8_init_71 : decode cX8_init 71 = .ok (.iconst 2, 1) := by decide +kernel
theorem dX8_init_72 : decode cX8_init 72 = .ok (.bipush 100, 2) := by decide +kernel
theorem dX8_init_74 : decode cX8_init 74 = .ok (.iastore, 1) := by decide +kernel
theorem dX8_init_75 : decode cX8_init 75 = .ok (.dup, 1) := by decide +kernel
theorem dX8_init_76 : decode cX8_init 76 = .ok (.iconst 3, 1) := by decide +kernel
theorem dX8_init_77 : decode cX8_init 77 = .ok (.bipush 100, 2) := by decide +kernel
theorem dX8_init_79 : decode cX8_init 79 = .ok (.iastore, 1) := by decide +kernel
theorem dX8_init_80 : decode cX8_init 80 = .ok (.dup, 1) := by decide +kernel
theorem dX8_init_81 : decode cX8_init 81 = .ok (.iconst 4, 1) := by decide +kernel
theorem dX8_init_82 : decode cX8_init 82 = .ok (.bipush 100, 2) := by decide +kernel
theorem dX8_init_84 : decode cX8_init 84 = .ok (.iastore, 1) := by decide +kernel
theorem dX8_init_85 : decode cX8_init 85 = .ok (.dup, 1) := by decide +kernel
theorem dX8_init_86 : decode cX8_init 86 = .ok (.iconst 5, 1) := by decide +kernel
theorem dX8_init_87 : decode cX8_init 87 = .ok (.bipush 100, 2) := by decide +kernel
theorem dX8_init_89 : decode cX8_init 89 = .ok (.iastore, 1) := by decide +kernel
theorem dX8_init_90 : decode cX8_init 90 = .ok (.dup, 1) := by decide +kernel
theorem dX8_init_91 : decode cX8_init 91 = .ok (.bipush 6, 2) := by decide +kernel
theorem dX8_init_93 : decode cX8_init 93 = .ok (.bipush 100, 2) := by decide +kernel
theorem dX8_init_95 : decode cX8_init 95 = .ok (.iastore, 1) := by decide +kernel
theorem dX8_init_96 : decode cX8_init 96 = .ok (.dup, 1) := by decide +kernel
theorem dX8_init_97 : decode cX8_init 97 = .ok (.bipush 7, 2) := by decide +kernel
theorem dX8_init_99 : decode cX8_init 99 = .ok (.bipush 100, 2) := by decide +kernel
theorem dX8_init_101 : decode cX8_init 101 = .ok (.iastore, 1) := by decide +kernel
theorem dX8_init_102 : decode cX8_init 102 = .ok (.dup, 1) := by decide +kernel
theorem dX8_init_103 : decode cX8_init 103 = .ok (.bipush 8, 2) := by decide +kernel
theorem dX8_init_105 : decode cX8_init 105 = .ok (.bipush 100, 2) := by decide +kernel
theorem dX8_init_107 : decode cX8_init 107 = .ok (.iastore, 1) := by decide +kernel
theorem dX8_init_108 : decode cX8_init 108 = .ok (.dup, 1) := by decide +kernel
theorem dX8_init_109 : decode cX8_init 109 = .ok (.bipush 9, 2) := by decide +kernel
theorem dX8_init_111 : decode cX8_init 111 = .ok (.bipush 100, 2) := by decide +kernel
theorem dX8_init_113 : decode cX8_init 113 = .ok (.iastore, 1) := by decide +kernel
theorem dX8_init_114 : decode cX8_init 114 = .ok (.dup, 1) := by decide +kernel
theorem dX8_init_115 : decode cX8_init 115 = .ok (.bipush 10, 2) := by decide +kernel
theorem dX8_init_117 : decode cX8_init 117 = .ok (.bipush 100, 2) := by decide +kernel
theorem dX8_init_119 : decode cX8_init 119 = .ok (.iastore, 1) := by decide +kernel
theorem dX8_init_120 : decode cX8_init 120 = .ok (.dup, 1) := by decide +kernel
theorem dX8_init_121 : decode cX8_init 121 = .ok (.bipush 11, 2) := by decide +kernel
theorem dX8_init_123 : decode cX8_init 123 = .ok (.bipush 100, 2) := by decide +kernel
theorem dX8_init_125 : decode cX8_init 125 = .ok (.iastore, 1) := by decide +kernel
theorem dX8_init_126 : decode cX8_init 126 = .ok (.dup, 1) := by decide +kernel
theorem dX8_init_127 : decode cX8_init 127 = .ok (.bipush 12, 2) := by decide +kernel
theorem dX8_init_129 : decode cX8_init 129 = .ok (.bipush 100, 2) := by decide +kernel
theorem dX8_init_131 : decode cX8_init 131 = .ok (.iastore, 1) := by decide +kernel
theorem dX8_init_132 : decode cX8_init 132 = .ok (.dup, 1) := by decide +kernel
theorem dX8_init_133 : decode cX8_init 133 = .ok (.bipush 13, 2) := by decide +kernel
theorem dX8_init_135 : decode cX8_init 135 = .ok (.bipush 100, 2) := by decide +kernel
theorem dX8_init_137 : decode cX8_init 137 = .ok (.iastore, 1) := by decide +kernel
theorem dX8_init_138 : decode cX8_init 138 = .ok (.dup, 1) := by decide +kernel
theorem dX8_init_139 : decode cX8_init 139 = .ok (.bipush 14, 2) := by decide +kernel
theorem dX8_init_141 : decode cX8_init 141 = .ok (.bipush 100, 2) := by decide +kernel
theorem dX8_init_143 : decode cX8_init 143 = .ok (.iastore, 1) := by decide +kernel
theorem dX8_init_144 : decode cX8_init 144 = .ok (.dup, 1) := by decide +kernel
theorem dX8_init_145 : decode cX8_init 145 = .ok (.bipush 15, 2) := by decide +kernel
theorem dX8_init_147 : decode cX8_init 147 = .ok (.bipush 100, 2) := by decide +kernel
theorem dX8_init_149 : decode cX8_init 149 = .ok (.iastore, 1) := by decide +kernel
theorem dX8_init_150 : decode cX8_init 150 = .ok (.dup, 1) := by decide +kernel
theorem dX8_init_151 : decode cX8_init 151 = .ok (.bipush 16, 2) := by decide +kernel
theorem dX8_init_153 : decode cX8_init 153 = .ok (.bipush 100, 2) := by decide +kernel
theorem dX8_init_155 : decode cX8_init 155 = .ok (.iastore, 1) := by decide +kernel
theorem dX8_init_156 : decode cX8_init 156 = .ok (.dup, 1) := by decide +kernel
theorem dX8_init_157 : decode cX8_init 157 = .ok (.bipush 17, 2) := by decide +kernel
theorem dX8_init_159 : decode cX8_init 159 = .ok (.bipush 100, 2) := by decide +kernel
theorem dX8_init_161 : decode cX8_init 161 = .ok (.iastore, 1) := by decide +kernel
theorem dX8_init_162 : decode cX8_init 162 = .ok (.dup, 1) := by decide +kernel
theorem dX8_init_163 : decode cX8_init 163 = .ok (.bipush 18, 2) := by decide +kernel
theorem dX8_init_165 : decode cX8_init 165 = .ok (.bipush 100, 2) := by decide +kernel
theorem dX8_init_167 : decode cX8_init 167 = .ok (.iastore, 1) := by decide +kernel
theorem dX8_init_168 : decode cX8_init 168 = .ok (.dup, 1) := by decide +kernel
theorem dX8_init_169 : decode cX8_init 169 = .ok (.bipush 19, 2) := by decide +kernel
theorem dX8_init_171 : decode cX8_init 171 = .ok (.bipush 100, 2) := by decide +kernel
theorem dX8_init_173 : decode cX8_init 173 = .ok (.iastore, 1) := by decide +kernel
theorem dX8_init_174 : decode cX8_init 174 = .ok (.dup, 1) := by decide +kernel
theorem dX8_init_175 : decode cX8_init 175 = .ok (.bipush 20, 2) := by decide +kernel
theorem dX8_init_177 : decode cX8_init 177 = .ok (.bipush 100, 2) := by decide +kernel
theorem dX8_init_179 : decode cX8_init 179 = .ok (.iastore, 1) := by decide +kernel
theorem dX8_init_180 : decode cX8_init 180 = .ok (.putfield 32, 3) := by decide +kernel
theorem dX8_init_183 : decode cX8_init 183 = .ok (.aload_n 0, 1) := by decide +kernel
theorem dX8_init_184 : decode cX8_init 184 = .ok (.bipush 10, 2) := by decide +kernel
theorem dX8_init_186 : decode cX8_init 186 = .ok (.putfield 35, 3) := by decide +kernel
theorem dX8_init_189 : decode cX8_init 189 = .ok (.aload_n 0, 1) := by decide +kernel
theorem dX8_init_190 : decode cX8_init 190 = .ok (.iconst 5, 1) := by decide +kernel
theorem dX8_init_191 : decode cX8_init 191 = .ok (.newarray .int, 2) := by decide +kernel
theorem dX8_init_193 : decode cX8_init 193 = .ok (.putfield 38, 3) := by decide +kernel
theorem dX8_init_196 : decode cX8_init 196 = .ok (.aload_n 0, 1) := by decide +kernel
theorem dX8_init_197 : decode cX8_init 197 = .ok (.iconst 5, 1) := by decide +kernel
theorem dX8_init_198 : decode cX8_init 198 = .ok (.newarray .int, 2) := by decide +kernel
theorem dX8_init_200 : decode cX8_init 200 = .ok (.putfield 41, 3) := by decide +kernel
theorem dX8_init_203 : decode cX8_init 203 = .ok (.aload_n 0, 1) := by decide +kernel
theorem dX8_init_204 : decode cX8_init 204 = .ok (.bipush 8, 2) := by decide +kernel
theorem dX8_init_206 : decode cX8_init 206 = .ok (.newarray .int, 2) := by decide +kernel
theorem dX8_init_208 : decode cX8_init 208 = .ok (.putfield 44, 3) := by decide +kernel
theorem dX8_init_211 : decode cX8_init 211 = .ok (.aload_n 0, 1) := by decide +kernel
theorem dX8_init_212 : decode cX8_init 212 = .ok (.iconst 4, 1) := by decide +kernel
theorem dX8_init_213 : decode cX8_init 213 = .ok (.newarray .int, 2) := by decide +kernel
theorem dX8_init_215 : decode cX8_init 215 = .ok (.dup, 1) := by decide +kernel
theorem dX8_init_216 : decode cX8_init 216 = .ok (.iconst 0, 1) := by decide +kernel
theorem dX8_init_217 : decode cX8_init 217 = .ok (.bipush (-4), 2) := by decide +kernel
theorem dX8_init_219 : decode cX8_init 219 = .ok (.iastore, 1) := by decide +kernel
theorem dX8_init_220 : decode cX8_init 220 = .ok (.dup, 1) := by decide +kernel
theorem dX8_init_221 : decode cX8_init 221 = .ok (.iconst 1, 1) := by decide +kernel
theorem dX8_init_222 : decode cX8_init 222 = .ok (.bipush (-4), 2) := by decide +kernel
theorem dX8_init_224 : decode cX8_init 224 = .ok (.iastore, 1) := by decide +kernel
theorem dX8_init_225 : decode cX8_init 225 = .ok (.dup, 1) := by decide +kernel
theorem dX8_init_226 : decode cX8_init 226 = .ok (.iconst 2, 1) := by decide +kernel
theorem dX8_init_227 : decode cX8_init 227 = .ok (.bipush (-4), 2) := by decide +kernel
theorem dX8_init_229 : decode cX8_init 229 = .ok (.iastore, 1) := by decide +kernel
theorem dX8_init_230 : decode cX8_init 230 = .ok (.dup, 1) := by decide +kernel
theorem dX8_init_231 : decode cX8_init 231 = .ok (.iconst 3, 1) := by decide +kernel
theorem dX8_init_232 : decode cX8_init 232 = .ok (.bipush (-4), 2) := by decide +kernel
theorem dX8_init_234 : decode cX8_init 234 = .ok (.iastore, 1) := by decide +kernel
theorem dX8_init_235 : decode cX8_init 235 = .ok (.putfield 47, 3) := by decide +kernel
theorem dX8_init_238 : decode cX8_init 238 = .ok (.aload_n 0, 1) := by decide +kernel
theorem dX8_init_239 : decode cX8_init 239 = .ok (.iconst 4, 1) := by decide +kernel
theorem dX8_init_240 : decode cX8_init 240 = .ok (.newarray .int, 2) := by decide +kernel
theorem dX8_init_242 : decode cX8_init 242 = .ok (.putfield 50, 3) := by decide +kernel
theorem dX8_init_245 : decode cX8_init 245 = .ok (.aload_n 0, 1) := by decide +kernel
theorem dX8_init_246 : decode cX8_init 246 = .ok (.sipush 256, 3) := by decide +kernel
theorem dX8_init_249 : decode cX8_init 249 = .ok (.newarray .long, 2) := by decide +kernel
theorem dX8_init_251 : decode cX8_init 251 = .ok (.putfield 53, 3) := by decide +kernel
theorem dX8_init_254 : decode cX8_init 254 = .ok (.aload_n 0, 1) := by decide +kernel
theorem dX8_init_255 : decode cX8_init 255 = .ok (.iconst 5, 1) := by decide +kernel
theorem dX8_init_256 : decode cX8_init 256 = .ok (.newarray .int, 2) := by decide +kernel
theorem dX8_init_258 : decode cX8_init 258 = .ok (.putfield 57, 3) := by decide +kernel
theorem dX8_init_261 : decode cX8_init 261 = .ok (.aload_n 0, 1) := by decide +kernel
theorem dX8_init_262 : decode cX8_init 262 = .ok (.bipush 8, 2) := by decide +kernel
theorem dX8_init_264 : decode cX8_init 264 = .ok (.newarray .int, 2) := by decide +kernel
theorem dX8_init_266 : decode cX8_init 266 = .ok (.putfield 60, 3) := by decide +kernel
theorem dX8_init_269 : decode cX8_init 269 = .ok (.aload_n 0, 1) := by decide +kernel
theorem dX8_init_270 : decode cX8_init 270 = .ok (.iconst 5, 1) := by decide +kernel
theorem dX8_init_271 : decode cX8_init 271 = .ok (.newarray .int, 2) := by decide +kernel
theorem dX8_init_273 : decode cX8_init 273 = .ok (.putfield 63, 3) := by decide +kernel
theorem dX8_init_276 : decode cX8_init 276 = .ok (.aload_n 0, 1) := by decide +kernel
theorem dX8_init_277 : decode cX8_init 277 = .ok (.bipush 16, 2) := by decide +kernel
theorem dX8_init_279 : decode cX8_init 279 = .ok (.newarray .int, 2) := by decide +kernel
theorem dX8_init_281 : decode cX8_init 281 = .ok (.putfield 66, 3) := by decide +kernel
theorem dX8_init_284 : decode cX8_init 284 = .ok (.aload_n 0, 1) := by decide +kernel
theorem dX8_init_285 : decode cX8_init 285 = .ok (.bipush 16, 2) := by decide +kernel
theorem dX8_init_287 : decode cX8_init 287 = .ok (.newarray .int, 2) := by decide +kernel
theorem dX8_init_289 : decode cX8_init 289 = .ok (.putfield 69, 3) := by decide +kernel
theorem dX8_init_292 : decode cX8_init 292 = .ok (.aload_n 0, 1) := by decide +kernel
theorem dX8_init_293 : decode cX8_init 293 = .ok (.bipush 16, 2) := by decide +kernel
theorem dX8_init_295 : decode cX8_init 295 = .ok (.newarray .boolean, 2) := by decide +kernel
theorem dX8_init_297 : decode cX8_init 297 = .ok (.putfield 72, 3) := by decide +kernel
theorem dX8_init_300 : decode cX8_init 300 = .ok (.aload_n 0, 1) := by decide +kernel
theorem dX8_init_301 : decode cX8_init 301 = .ok (.bipush 16, 2) := by decide +kernel
theorem dX8_init_303 : decode cX8_init 303 = .ok (.newarray .int, 2) := by decide +kernel
theorem dX8_init_305 : decode cX8_init 305 = .ok (.putfield 76, 3) := by decide +kernel
theorem dX8_init_308 : decode cX8_init 308 = .ok (.aload_n 0, 1) := by decide +kernel
theorem dX8_init_309 : decode cX8_init 309 = .ok (.bipush (-4), 2) := by decide +kernel
theorem dX8_init_311 : decode cX8_init 311 = .ok (.putfield 79, 3) := by decide +kernel
theorem dX8_init_314 : decode cX8_init 314 = .ok (.aload_n 0, 1) := by decide +kernel
theorem dX8_init_315 : decode cX8_init 315 = .ok (.bipush 10, 2) := by decide +kernel
theorem dX8_init_317 : decode cX8_init 317 = .ok (.newarray .int, 2) := by decide +kernel
theorem dX8_init_319 : decode cX8_init 319 = .ok (.putfield 82, 3) := by decide +kernel
theorem dX8_init_322 : decode cX8_init 322 = .ok (.aload_n 0, 1) := by decide +kernel
theorem dX8_init_323 : decode cX8_init 323 = .ok (.bipush 12, 2) := by decide +kernel
theorem dX8_init_325 : decode cX8_init 325 = .ok (.newarray .int, 2) := by decide +kernel
theorem dX8_init_327 : decode cX8_init 327 = .ok (.putfield 85, 3) := by decide +kernel
theorem dX8_init_330 : decode cX8_init 330 = .ok (.aload_n 0, 1) := by decide +kernel
theorem dX8_init_331 : decode cX8_init 331 = .ok (.bipush 12, 2) := by decide +kernel
theorem dX8_init_333 : decode cX8_init 333 = .ok (.newarray .boolean, 2) := by decide +kernel
theorem dX8_init_335 : decode cX8_init 335 = .ok (.putfield 88, 3) := by decide +kernel
theorem dX8_init_338 : decode cX8_init 338 = .ok (.aload_n 0, 1) := by decide +kernel
theorem dX8_init_339 : decode cX8_init 339 = .ok (.bipush 12, 2) := by decide +kernel
theorem dX8_init_341 : decode cX8_init 341 = .ok (.newarray .int, 2) := by decide +kernel
theorem dX8_init_343 : decode cX8_init 343 = .ok (.putfield 91, 3) := by decide +kernel
theorem dX8_init_346 : decode cX8_init 346 = .ok (.aload_n 0, 1) := by decide +kernel
theorem dX8_init_347 : decode cX8_init 347 = .ok (.bipush 12, 2) := by decide +kernel
theorem dX8_init_349 : decode cX8_init 349 = .ok (.newarray .boolean, 2) := by decide +kernel
theorem dX8_init_351 : decode cX8_init 351 = .ok (.putfield 94, 3) := by decide +kernel
theorem dX8_init_354 : decode cX8_init 354 = .ok (.aload_n 0, 1) := by decide +kernel
theorem dX8_init_355 : decode cX8_init 355 = .ok (.bipush 12, 2) := by decide +kernel
theorem dX8_init_357 : decode cX8_init 357 = .ok (.newarray .int, 2) := by decide +kernel
theorem dX8_init_359 : decode cX8_init 359 = .ok (.putfield 97, 3) := by decide +kernel
theorem dX8_init_362 : decode cX8_init 362 = .ok (.return_, 1) := by decide +kernel
theorem dX8_in_0 : decode cX8_in 0 = .ok (.lload_n 0, 1) := by decide +kernel
theorem dX8_in_1 : decode cX8_in 1 = .ok (.lload_n 2, 1) := by decide +kernel
theorem dX8_in_2 : decode cX8_in 2 = .ok (.lcmp, 1) := by decide +kernel
theorem dX8_in_3 : decode cX8_in 3 = .ok (.ifCond .lt 14, 3) := by decide +kernel
theorem dX8_in_6 : decode cX8_in 6 = .ok (.lload_n 0, 1) := by decide +kernel
theorem dX8_in_7 : decode cX8_in 7 = .ok (.lload 4, 2) := by decide +kernel
theorem dX8_in_9 : decode cX8_in 9 = .ok (.lcmp, 1) := by decide +kernel
theorem dX8_in_10 : decode cX8_in 10 = .ok (.ifCond .gt 7, 3) := by decide +kernel
theorem dX8_in_13 : decode cX8_in 13 = .ok (.iconst 1, 1) := by decide +kernel
theorem dX8_in_14 : decode cX8_in 14 = .ok (.goto 4, 3) := by decide +kernel
theorem dX8_in_17 : decode cX8_in 17 = .ok (.iconst 0, 1) := by decide +kernel
theorem dX8_in_18 : decode cX8_in 18 = .ok (.ireturn, 1) := by decide +kernel
theorem dX8_rack_0 : decode cX8_rack 0 = .ok (.iload_n 1, 1) := by decide +kernel
theorem dX8_rack_1 : decode cX8_rack 1 = .ok (.i2l, 1) := by decide +kernel
theorem dX8_rack_2 : decode cX8_rack 2 = .ok (.lconst 0, 1) := by decide +kernel
theorem dX8_rack_3 : decode cX8_rack 3 = .ok (.ldc2_w 100, 3) := by decide +kernel
theorem dX8_rack_6 : decode cX8_rack 6 = .ok (.invokestatic 102, 3) := by decide +kernel
theorem dX8_rack_9 : decode cX8_rack 9 = .ok (.ifCond .eq 42, 3) := by decide +kernel
theorem dX8_rack_12 : decode cX8_rack 12 = .ok (.iload_n 2, 1) := by decide +kernel
theorem dX8_rack_13 : decode cX8_rack 13 = .ok (.i2l, 1) := by decide +kernel
theorem dX8_rack_14 : decode cX8_rack 14 = .ok (.ldc2_w 106, 3) := by decide +kernel
theorem dX8_rack_17 : decode cX8_rack 17 = .ok (.ldc2_w 108, 3) := by decide +kernel
theorem dX8_rack_20 : decode cX8_rack 20 = .ok (.invokestatic 102, 3) := by decide +kernel
theorem dX8_rack_23 : decode cX8_rack 23 = .ok (.ifCond .eq 28, 3) := by decide +kernel
theorem dX8_rack_26 : decode cX8_rack 26 = .ok (.iload_n 3, 1) := by decide +kernel
theorem dX8_rack_27 : decode cX8_rack 27 = .ok (.i2l, 1) := by decide +kernel
theorem dX8_rack_28 : decode cX8_rack 28 = .ok (.lconst 1, 1) := by decide +kernel
theorem dX8_rack_29 : decode cX8_rack 29 = .ok (.ldc2_w 100, 3) := by decide +kernel
theorem dX8_rack_32 : decode cX8_rack 32 = .ok (.invokestatic 102, 3) := by decide +kernel
theorem dX8_rack_35 : decode cX8_rack 35 = .ok (.ifCond .eq 16, 3) := by decide +kernel
theorem dX8_rack_38 : decode cX8_rack 38 = .ok (.iload 4, 2) := by decide +kernel
theorem dX8_rack_40 : decode cX8_rack 40 = .ok (.i2l, 1) := by decide +kernel
theorem dX8_rack_41 : decode cX8_rack 41 = .ok (.lconst 0, 1) := by decide +kernel
theorem dX8_rack_42 : decode cX8_rack 42 = .ok (.ldc2_w 110, 3) := by decide +kernel
theorem dX8_rack_45 : decode cX8_rack 45 = .ok (.invokestatic 102, 3) := by decide +kernel
theorem dX8_rack_48 : decode cX8_rack 48 = .ok (.ifCond .ne 5, 3) := by decide +kernel
theorem dX8_rack_51 : decode cX8_rack 51 = .ok (.iconst (-1), 1) := by decide +kernel
theorem dX8_rack_52 : decode cX8_rack 52 = .ok (.ireturn, 1) := by decide +kernel
theorem dX8_rack_53 : decode cX8_rack 53 = .ok (.aload_n 0, 1) := by decide +kernel
theorem dX8_rack_54 : decode cX8_rack 54 = .ok (.getfield 112, 3) := by decide +kernel
theorem dX8_rack_57 : decode cX8_rack 57 = .ok (.bipush 8, 2) := by decide +kernel
theorem dX8_rack_59 : decode cX8_rack 59 = .ok (.if_icmp .ne 6, 3) := by decide +kernel
theorem dX8_rack_62 : decode cX8_rack 62 = .ok (.bipush (-3), 2) := by decide +kernel
theorem dX8_rack_64 : decode cX8_rack 64 = .ok (.ireturn, 1) := by decide +kernel
theorem dX8_rack_65 : decode cX8_rack 65 = .ok (.aload_n 0, 1) := by decide +kernel
theorem dX8_rack_66 : decode cX8_rack 66 = .ok (.getfield 7, 3) := by decide +kernel
theorem dX8_rack_69 : decode cX8_rack 69 = .ok (.aload_n 0, 1) := by decide +kernel
theorem dX8_rack_70 : decode cX8_rack 70 = .ok (.getfield 112, 3) := by decide +kernel
theorem dX8_rack_73 : decode cX8_rack 73 = .ok (.iload_n 1, 1) := by decide +kernel
theorem dX8_rack_74 : decode cX8_rack 74 = .ok (.iastore, 1) := by decide +kernel
theorem dX8_rack_75 : decode cX8_rack 75 = .ok (.aload_n 0, 1) := by decide +kernel
theorem dX8_rack_76 : decode cX8_rack 76 = .ok (.getfield 13, 3) := by decide +kernel
theorem dX8_rack_79 : decode cX8_rack 79 = .ok (.aload_n 0, 1) := by decide +kernel
theorem dX8_rack_80 : decode cX8_rack 80 = .ok (.getfield 112, 3) := by decide +kernel
theorem dX8_rack_83 : decode cX8_rack 83 = .ok (.iload_n 2, 1) := by decide +kernel
theorem dX8_rack_84 : decode cX8_rack 84 = .ok (.iastore, 1) := by decide +kernel
theorem dX8_rack_85 : decode cX8_rack 85 = .ok (.aload_n 0, 1) := by decide +kernel
theorem dX8_rack_86 : decode cX8_rack 86 = .ok (.getfield 16, 3) := by decide +kernel
theorem dX8_rack_89 : decode cX8_rack 89 = .ok (.aload_n 0, 1) := by decide +kernel
theorem dX8_rack_90 : decode cX8_rack 90 = .ok (.getfield 112, 3) := by decide +kernel
theorem dX8_rack_93 : decode cX8_rack 93 = .ok (.iload_n 3, 1) := by decide +kernel
theorem dX8_rack_94 : decode cX8_rack 94 = .ok (.iastore, 1) := by decide +kernel
theorem dX8_rack_95 : decode cX8_rack 95 = .ok (.aload_n 0, 1) := by decide +kernel
theorem dX8_rack_96 : decode cX8_rack 96 = .ok (.getfield 19, 3) := by decide +kernel
theorem dX8_rack_99 : decode cX8_rack 99 = .ok (.aload_n 0, 1) := by decide +kernel
theorem dX8_rack_100 : decode cX8_rack 100 = .ok (.getfield 112, 3) := by decide +kernel
theorem dX8_rack_103 : decode cX8_rack 103 = .ok (.iload 4, 2) := by decide +kernel
theorem dX8_rack_105 : decode cX8_rack 105 = .ok (.iastore, 1) := by decide +kernel
theorem dX8_rack_106 : decode cX8_rack 106 = .ok (.aload_n 0, 1) := by decide +kernel
theorem dX8_rack_107 : decode cX8_rack 107 = .ok (.getfield 76, 3) := by decide +kernel
theorem dX8_rack_110 : decode cX8_rack 110 = .ok (.iconst 2, 1) := by decide +kernel
theorem dX8_rack_111 : decode cX8_rack 111 = .ok (.aload_n 0, 1) := by decide +kernel
theorem dX8_rack_112 : decode cX8_rack 112 = .ok (.getfield 112, 3) := by decide +kernel
theorem dX8_rack_115 : decode cX8_rack 115 = .ok (.imul, 1) := by decide +kernel
theorem dX8_rack_116 : decode cX8_rack 116 = .ok (.bipush (-4), 2) := by decide +kernel
theorem dX8_rack_118 : decode cX8_rack 118 = .ok (.iastore, 1) := by decide +kernel
theorem dX8_rack_119 : decode cX8_rack 119 = .ok (.aload_n 0, 1) := by decide +kernel
theorem dX8_rack_120 : decode cX8_rack 120 = .ok (.getfield 76, 3) := by decide +kernel
theorem dX8_rack_123 : decode cX8_rack 123 = .ok (.iconst 2, 1) := by decide +kernel
theorem dX8_rack_124 : decode cX8_rack 124 = .ok (.aload_n 0, 1) := by decide +kernel
theorem dX8_rack_125 : decode cX8_rack 125 = .ok (.getfield 112, 3) := by decide +kernel
theorem dX8_rack_128 : decode cX8_rack 128 = .ok (.imul, 1) := by decide +kernel
theorem dX8_rack_129 : decode cX8_rack 129 = .ok (.iconst 1, 1) := by decide +kernel
theorem dX8_rack_130 : decode cX8_rack 130 = .ok (.iadd, 1) := by decide +kernel
theorem dX8_rack_131 : decode cX8_rack 131 = .ok (.bipush (-4), 2) := by decide +kernel
theorem dX8_rack_133 : decode cX8_rack 133 = .ok (.iastore, 1) := by decide +kernel
theorem dX8_rack_134 : decode cX8_rack 134 = .ok (.aload_n 0, 1) := by decide +kernel
theorem dX8_rack_135 : decode cX8_rack 135 = .ok (.dup, 1) := by decide +kernel
theorem dX8_rack_136 : decode cX8_rack 136 = .ok (.getfield 112, 3) := by decide +kernel
theorem dX8_rack_139 : decode cX8_rack 139 = .ok (.iconst 1, 1) := by decide +kernel
theorem dX8_rack_140 : decode cX8_rack 140 = .ok (.iadd, 1) := by decide +kernel
theorem dX8_rack_141 : decode cX8_rack 141 = .ok (.putfield 112, 3) := by decide +kernel
theorem dX8_rack_144 : decode cX8_rack 144 = .ok (.aload_n 0, 1) := by decide +kernel
theorem dX8_rack_145 : decode cX8_rack 145 = .ok (.getfield 112, 3) := by decide +kernel
theorem dX8_rack_148 : decode cX8_rack 148 = .ok (.iconst 1, 1) := by decide +kernel
theorem dX8_rack_149 : decode cX8_rack 149 = .ok (.isub, 1) := by decide +kernel
theorem dX8_rack_150 : decode cX8_rack 150 = .ok (.ireturn, 1) := by decide +kernel
theorem dX8_isRack_0 : decode cX8_isRack 0 = .ok (.iload_n 1, 1) := by decide +kernel
theorem dX8_isRack_1 : decode cX8_isRack 1 = .ok (.i2l, 1) := by decide +kernel
theorem dX8_isRack_2 : decode cX8_isRack 2 = .ok (.lconst 0, 1) := by decide +kernel
theorem dX8_isRack_3 : decode cX8_isRack 3 = .ok (.aload_n 0, 1) := by decide +kernel
theorem dX8_isRack_4 : decode cX8_isRack 4 = .ok (.getfield 112, 3) := by decide +kernel
theorem dX8_isRack_7 : decode cX8_isRack 7 = .ok (.iconst 1, 1) := by decide +kernel
theorem dX8_isRack_8 : decode cX8_isRack 8 = .ok (.isub, 1) := by decide +kernel
theorem dX8_isRack_9 : decode cX8_isRack 9 = .ok (.i2l, 1) := by decide +kernel
theorem dX8_isRack_10 : decode cX8_isRack 10 = .ok (.invokestatic 102, 3) := by decide +kernel
theorem dX8_isRack_13 : decode cX8_isRack 13 = .ok (.ireturn, 1) := by decide +kernel
theorem dX8_load_0 : decode cX8_load 0 = .ok (.aload_n 0, 1) := by decide +kernel
theorem dX8_load_1 : decode cX8_load 1 = .ok (.iload_n 1, 1) := by decide +kernel
theorem dX8_load_2 : decode cX8_load 2 = .ok (.invokevirtual 115, 3) := by decide +kernel
theorem dX8_load_5 : decode cX8_load 5 = .ok (.ifCond .eq 15, 3) := by decide +kernel
theorem dX8_load_8 : decode cX8_load 8 = .ok (.iload_n 2, 1) := by decide +kernel
theorem dX8_load_9 : decode cX8_load 9 = .ok (.i2l, 1) := by decide +kernel
theorem dX8_load_10 : decode cX8_load 10 = .ok (.lconst 0, 1) := by decide +kernel
theorem dX8_load_11 : decode cX8_load 11 = .ok (.ldc2_w 100, 3) := by decide +kernel
theorem dX8_load_14 : decode cX8_load 14 = .ok (.invokestatic 102, 3) := by decide +kernel
theorem dX8_load_17 : decode cX8_load 17 = .ok (.ifCond .ne 5, 3) := by decide +kernel
theorem dX8_load_20 : decode cX8_load 20 = .ok (.iconst (-1), 1) := by decide +kernel
theorem dX8_load_21 : decode cX8_load 21 = .ok (.ireturn, 1) := by decide +kernel
theorem dX8_load_22 : decode cX8_load 22 = .ok (.aload_n 0, 1) := by decide +kernel
theorem dX8_load_23 : decode cX8_load 23 = .ok (.getfield 7, 3) := by decide +kernel
theorem dX8_load_26 : decode cX8_load 26 = .ok (.iload_n 1, 1) := by decide +kernel
theorem dX8_load_27 : decode cX8_load 27 = .ok (.iaload, 1) := by decide +kernel
theorem dX8_load_28 : decode cX8_load 28 = .ok (.istore_n 3, 1) := by decide +kernel
theorem dX8_load_29 : decode cX8_load 29 = .ok (.aload_n 0, 1) := by decide +kernel
theorem dX8_load_30 : decode cX8_load 30 = .ok (.getfield 7, 3) := by decide +kernel
theorem dX8_load_33 : decode cX8_load 33 = .ok (.iload_n 1, 1) := by decide +kernel
theorem dX8_load_34 : decode cX8_load 34 = .ok (.iload_n 2, 1) := by decide +kernel
theorem dX8_load_35 : decode cX8_load 35 = .ok (.iastore, 1) := by decide +kernel
theorem dX8_load_36 : decode cX8_load 36 = .ok (.iload_n 3, 1) := by decide +kernel
theorem dX8_load_37 : decode cX8_load 37 = .ok (.ireturn, 1) := by decide +kernel
theorem dX8_share_0 : decode cX8_share 0 = .ok (.aload_n 0, 1) := by decide +kernel
theorem dX8_share_1 : decode cX8_share 1 = .ok (.iload_n 1, 1) := by decide +kernel
theorem dX8_share_2 : decode cX8_share 2 = .ok (.invokevirtual 115, 3) := by decide +kernel
theorem dX8_share_5 : decode cX8_share 5 = .ok (.ifCond .eq 23, 3) := by decide +kernel
theorem dX8_share_8 : decode cX8_share 8 = .ok (.aload_n 0, 1) := by decide +kernel
theorem dX8_share_9 : decode cX8_share 9 = .ok (.iload_n 2, 1) := by decide +kernel
theorem dX8_share_10 : decode cX8_share 10 = .ok (.invokevirtual 115, 3) := by decide +kernel
theorem dX8_share_13 : decode cX8_share 13 = .ok (.ifCond .eq 15, 3) := by decide +kernel
theorem dX8_share_16 : decode cX8_share 16 = .ok (.iload_n 3, 1) := by decide +kernel
theorem dX8_share_17 : decode cX8_share 17 = .ok (.i2l, 1) := by decide +kernel
theorem dX8_share_18 : decode cX8_share 18 = .ok (.lconst 0, 1) := by decide +kernel
theorem dX8_share_19 : decode cX8_share 19 = .ok (.ldc2_w 119, 3) := by decide +kernel
theorem dX8_share_22 : decode cX8_share 22 = .ok (.invokestatic 102, 3) := by decide +kernel
theorem dX8_share_25 : decode cX8_share 25 = .ok (.ifCond .ne 5, 3) := by decide +kernel
theorem dX8_share_28 : decode cX8_share 28 = .ok (.iconst (-1), 1) := by decide +kernel
theorem dX8_share_29 : decode cX8_share 29 = .ok (.ireturn, 1) := by decide +kernel
theorem dX8_share_30 : decode cX8_share 30 = .ok (.aload_n 0, 1) := by decide +kernel
theorem dX8_share_31 : decode cX8_share 31 = .ok (.getfield 22, 3) := by decide +kernel
theorem dX8_share_34 : decode cX8_share 34 = .ok (.bipush 8, 2) := by decide +kernel
theorem dX8_share_36 : decode cX8_share 36 = .ok (.iload_n 1, 1) := by decide +kernel
theorem dX8_share_37 : decode cX8_share 37 = .ok (.imul, 1) := by decide +kernel
theorem dX8_share_38 : decode cX8_share 38 = .ok (.iload_n 2, 1) := by decide +kernel
theorem dX8_share_39 : decode cX8_share 39 = .ok (.iadd, 1) := by decide +kernel
theorem dX8_share_40 : decode cX8_share 40 = .ok (.iaload, 1) := by decide +kernel
theorem dX8_share_41 : decode cX8_share 41 = .ok (.istore 4, 2) := by decide +kernel
theorem dX8_share_43 : decode cX8_share 43 = .ok (.aload_n 0, 1) := by decide +kernel
theorem dX8_share_44 : decode cX8_share 44 = .ok (.getfield 22, 3) := by decide +kernel
theorem dX8_share_47 : decode cX8_share 47 = .ok (.bipush 8, 2) := by decide +kernel
theorem dX8_share_49 : decode cX8_share 49 = .ok (.iload_n 1, 1) := by decide +kernel
theorem dX8_share_50 : decode cX8_share 50 = .ok (.imul, 1) := by decide +kernel
theorem dX8_share_51 : decode cX8_share 51 = .ok (.iload_n 2, 1) := by decide +kernel
theorem dX8_share_52 : decode cX8_share 52 = .ok (.iadd, 1) := by decide +kernel
theorem dX8_share_53 : decode cX8_share 53 = .ok (.iload_n 3, 1) := by decide +kernel
theorem dX8_share_54 : decode cX8_share 54 = .ok (.iastore, 1) := by decide +kernel
theorem dX8_share_55 : decode cX8_share 55 = .ok (.iload 4, 2) := by decide +kernel
theorem dX8_share_57 : decode cX8_share 57 = .ok (.ireturn, 1) := by decide +kernel
theorem dX8_sheet_0 : decode cX8_sheet 0 = .ok (.iload_n 1, 1) := by decide +kernel
theorem dX8_sheet_1 : decode cX8_sheet 1 = .ok (.i2l, 1) := by decide +kernel
theorem dX8_sheet_2 : decode cX8_sheet 2 = .ok (.lconst 0, 1) := by decide +kernel
theorem dX8_sheet_3 : decode cX8_sheet 3 = .ok (.ldc2_w 121, 3) := by decide +kernel
theorem dX8_sheet_6 : decode cX8_sheet 6 = .ok (.invokestatic 102, 3) := by decide +kernel
theorem dX8_sheet_9 : decode cX8_sheet 9 = .ok (.ifCond .eq 21, 3) := by decide +kernel
theorem dX8_sheet_12 : decode cX8_sheet 12 = .ok (.iload_n 2, 1) := by decide +kernel
theorem dX8_sheet_13 : decode cX8_sheet 13 = .ok (.i2l, 1) := by decide +kernel
theorem dX8_sheet_14 : decode cX8_sheet 14 = .ok (.lconst 0, 1) := by decide +kernel
theorem dX8_sheet_15 : decode cX8_sheet 15 = .ok (.ldc2_w 123, 3) := by decide +kernel
theorem dX8_sheet_18 : decode cX8_sheet 18 = .ok (.invokestatic 102, 3) := by decide +kernel
theorem dX8_sheet_21 : decode cX8_sheet 21 = .ok (.ifCond .eq 9, 3) := by decide +kernel
theorem dX8_sheet_24 : decode cX8_sheet 24 = .ok (.iload_n 3, 1) := by decide +kernel
theorem dX8_sheet_25 : decode cX8_sheet 25 = .ok (.bipush 64, 2) := by decide +kernel
theorem dX8_sheet_27 : decode cX8_sheet 27 = .ok (.if_icmp .le 5, 3) := by decide +kernel
theorem dX8_sheet_30 : decode cX8_sheet 30 = .ok (.iconst (-1), 1) := by decide +kernel
theorem dX8_sheet_31 : decode cX8_sheet 31 = .ok (.ireturn, 1) := by decide +kernel
theorem dX8_sheet_32 : decode cX8_sheet 32 = .ok (.iload_n 3, 1) := by decide +kernel
theorem dX8_sheet_33 : decode cX8_sheet 33 = .ok (.ifCond .ge 6, 3) := by decide +kernel
theorem dX8_sheet_36 : decode cX8_sheet 36 = .ok (.bipush (-14), 2) := by decide +kernel
theorem dX8_sheet_38 : decode cX8_sheet 38 = .ok (.ireturn, 1) := by decide +kernel
theorem dX8_sheet_39 : decode cX8_sheet 39 = .ok (.aload_n 0, 1) := by decide +kernel
theorem dX8_sheet_40 : decode cX8_sheet 40 = .ok (.getfield 47, 3) := by decide +kernel
theorem dX8_sheet_43 : decode cX8_sheet 43 = .ok (.iload_n 1, 1) := by decide +kernel
theorem dX8_sheet_44 : decode cX8_sheet 44 = .ok (.iload_n 2, 1) := by decide +kernel
theorem dX8_sheet_45 : decode cX8_sheet 45 = .ok (.iastore, 1) := by decide +kernel
theorem dX8_sheet_46 : decode cX8_sheet 46 = .ok (.aload_n 0, 1) := by decide +kernel
theorem dX8_sheet_47 : decode cX8_sheet 47 = .ok (.getfield 50, 3) := by decide +kernel
theorem dX8_sheet_50 : decode cX8_sheet 50 = .ok (.iload_n 1, 1) := by decide +kernel
theorem dX8_sheet_51 : decode cX8_sheet 51 = .ok (.iload_n 3, 1) := by decide +kernel
theorem dX8_sheet_52 : decode cX8_sheet 52 = .ok (.iastore, 1) := by decide +kernel
theorem dX8_sheet_53 : decode cX8_sheet 53 = .ok (.iconst 0, 1) := by decide +kernel
theorem dX8_sheet_54 : decode cX8_sheet 54 = .ok (.istore 4, 2) := by decide +kernel
theorem dX8_sheet_56 : decode cX8_sheet 56 = .ok (.iload 4, 2) := by decide +kernel
theorem dX8_sheet_58 : decode cX8_sheet 58 = .ok (.bipush 64, 2) := by decide +kernel
theorem dX8_sheet_60 : decode cX8_sheet 60 = .ok (.if_icmp .ge 22, 3) := by decide +kernel
theorem dX8_sheet_63 : decode cX8_sheet 63 = .ok (.aload_n 0, 1) := by decide +kernel
theorem dX8_sheet_64 : decode cX8_sheet 64 = .ok (.getfield 53, 3) := by decide +kernel
theorem dX8_sheet_67 : decode cX8_sheet 67 = .ok (.bipush 64, 2) := by decide +kernel
theorem dX8_sheet_69 : decode cX8_sheet 69 = .ok (.iload_n 1, 1) := by decide +kernel
theorem dX8_sheet_70 : decode cX8_sheet 70 = .ok (.imul, 1) := by decide +kernel
theorem dX8_sheet_71 : decode cX8_sheet 71 = .ok (.iload 4, 2) := by decide +kernel
theorem dX8_sheet_73 : decode cX8_sheet 73 = .ok (.iadd, 1) := by decide +kernel
theorem dX8_sheet_74 : decode cX8_sheet 74 = .ok (.lconst 0, 1) := by decide +kernel
theorem dX8_sheet_75 : decode cX8_sheet 75 = .ok (.lastore, 1) := by decide +kernel
theorem dX8_sheet_76 : decode cX8_sheet 76 = .ok (.iinc 4 1, 3) := by decide +kernel
theorem dX8_sheet_79 : decode cX8_sheet 79 = .ok (.goto (-23), 3) := by decide +kernel
theorem dX8_sheet_82 : decode cX8_sheet 82 = .ok (.iconst 1, 1) := by decide +kernel
theorem dX8_sheet_83 : decode cX8_sheet 83 = .ok (.ireturn, 1) := by decide +kernel
theorem dX8_lay_0 : decode cX8_lay 0 = .ok (.iload_n 1, 1) := by decide +kernel
theorem dX8_lay_1 : decode cX8_lay 1 = .ok (.i2l, 1) := by decide +kernel
theorem dX8_lay_2 : decode cX8_lay 2 = .ok (.lconst 0, 1) := by decide +kernel
theorem dX8_lay_3 : decode cX8_lay 3 = .ok (.ldc2_w 121, 3) := by decide +kernel
theorem dX8_lay_6 : decode cX8_lay 6 = .ok (.invokestatic 102, 3) := by decide +kernel
theorem dX8_lay_9 : decode cX8_lay 9 = .ok (.ifCond .ne 5, 3) := by decide +kernel
theorem dX8_lay_12 : decode cX8_lay 12 = .ok (.iconst (-1), 1) := by decide +kernel
theorem dX8_lay_13 : decode cX8_lay 13 = .ok (.ireturn, 1) := by decide +kernel
theorem dX8_lay_14 : decode cX8_lay 14 = .ok (.aload_n 0, 1) := by decide +kernel
theorem dX8_lay_15 : decode cX8_lay 15 = .ok (.getfield 47, 3) := by decide +kernel
theorem dX8_lay_18 : decode cX8_lay 18 = .ok (.iload_n 1, 1) := by decide +kernel
theorem dX8_lay_19 : decode cX8_lay 19 = .ok (.iaload, 1) := by decide +kernel
theorem dX8_lay_20 : decode cX8_lay 20 = .ok (.bipush (-4), 2) := by decide +kernel
theorem dX8_lay_22 : decode cX8_lay 22 = .ok (.if_icmp .ne 6, 3) := by decide +kernel
theorem dX8_lay_25 : decode cX8_lay 25 = .ok (.bipush (-11), 2) := by decide +kernel
theorem dX8_lay_27 : decode cX8_lay 27 = .ok (.ireturn, 1) := by decide +kernel
theorem dX8_lay_28 : decode cX8_lay 28 = .ok (.iload_n 2, 1) := by decide +kernel
theorem dX8_lay_29 : decode cX8_lay 29 = .ok (.i2l, 1) := by decide +kernel
theorem dX8_lay_30 : decode cX8_lay 30 = .ok (.lconst 0, 1) := by decide +kernel
theorem dX8_lay_31 : decode cX8_lay 31 = .ok (.aload_n 0, 1) := by decide +kernel
theorem dX8_lay_32 : decode cX8_lay 32 = .ok (.getfield 50, 3) := by decide +kernel
theorem dX8_lay_35 : decode cX8_lay 35 = .ok (.iload_n 1, 1) := by decide +kernel
theorem dX8_lay_36 : decode cX8_lay 36 = .ok (.iaload, 1) := by decide +kernel
theorem dX8_lay_37 : decode cX8_lay 37 = .ok (.iconst 1, 1) := by decide +kernel
theorem dX8_lay_38 : decode cX8_lay 38 = .ok (.isub, 1) := by decide +kernel
theorem dX8_lay_39 : decode cX8_lay 39 = .ok (.i2l, 1) := by decide +kernel
theorem dX8_lay_40 : decode cX8_lay 40 = .ok (.invokestatic 102, 3) := by decide +kernel
theorem dX8_lay_43 : decode cX8_lay 43 = .ok (.ifCond .ne 6, 3) := by decide +kernel
theorem dX8_lay_46 : decode cX8_lay 46 = .ok (.bipush (-12), 2) := by decide +kernel
theorem dX8_lay_48 : decode cX8_lay 48 = .ok (.ireturn, 1) := by decide +kernel
theorem dX8_lay_49 : decode cX8_lay 49 = .ok (.aload_n 0, 1) := by decide +kernel
theorem dX8_lay_50 : decode cX8_lay 50 = .ok (.getfield 53, 3) := by decide +kernel
theorem dX8_lay_53 : decode cX8_lay 53 = .ok (.bipush 64, 2) := by decide +kernel
theorem dX8_lay_55 : decode cX8_lay 55 = .ok (.iload_n 1, 1) := by decide +kernel
theorem dX8_lay_56 : decode cX8_lay 56 = .ok (.imul, 1) := by decide +kernel
theorem dX8_lay_57 : decode cX8_lay 57 = .ok (.iload_n 2, 1) := by decide +kernel
theorem dX8_lay_58 : decode cX8_lay 58 = .ok (.iadd, 1) := by decide +kernel
theorem dX8_lay_59 : decode cX8_lay 59 = .ok (.aload_n 0, 1) := by decide +kernel
theorem dX8_lay_60 : decode cX8_lay 60 = .ok (.getfield 47, 3) := by decide +kernel
theorem dX8_lay_63 : decode cX8_lay 63 = .ok (.iload_n 1, 1) := by decide +kernel
theorem dX8_lay_64 : decode cX8_lay 64 = .ok (.iaload, 1) := by decide +kernel
theorem dX8_lay_65 : decode cX8_lay 65 = .ok (.ifCond .ne 13, 3) := by decide +kernel
theorem dX8_lay_68 : decode cX8_lay 68 = .ok (.lload_n 3, 1) := by decide +kernel
theorem dX8_lay_69 : decode cX8_lay 69 = .ok (.bipush 56, 2) := by decide +kernel
theorem dX8_lay_71 : decode cX8_lay 71 = .ok (.lshl, 1) := by decide +kernel
theorem dX8_lay_72 : decode cX8_lay 72 = .ok (.bipush 56, 2) := by decide +kernel
theorem dX8_lay_74 : decode cX8_lay 74 = .ok (.lshr, 1) := by decide +kernel
theorem dX8_lay_75 : decode cX8_lay 75 = .ok (.goto 24, 3) := by decide +kernel
theorem dX8_lay_78 : decode cX8_lay 78 = .ok (.aload_n 0, 1) := by decide +kernel
theorem dX8_lay_79 : decode cX8_lay 79 = .ok (.getfield 47, 3) := by decide +kernel
theorem dX8_lay_82 : decode cX8_lay 82 = .ok (.iload_n 1, 1) := by decide +kernel
theorem dX8_lay_83 : decode cX8_lay 83 = .ok (.iaload, 1) := by decide +kernel
theorem dX8_lay_84 : decode cX8_lay 84 = .ok (.iconst 1, 1) := by decide +kernel
theorem dX8_lay_85 : decode cX8_lay 85 = .ok (.if_icmp .ne 13, 3) := by decide +kernel
theorem dX8_lay_88 : decode cX8_lay 88 = .ok (.lload_n 3, 1) := by decide +kernel
theorem dX8_lay_89 : decode cX8_lay 89 = .ok (.bipush 32, 2) := by decide +kernel
theorem dX8_lay_91 : decode cX8_lay 91 = .ok (.lshl, 1) := by decide +kernel
theorem dX8_lay_92 : decode cX8_lay 92 = .ok (.bipush 32, 2) := by decide +kernel
theorem dX8_lay_94 : decode cX8_lay 94 = .ok (.lshr, 1) := by decide +kernel
theorem dX8_lay_95 : decode cX8_lay 95 = .ok (.goto 4, 3) := by decide +kernel
theorem dX8_lay_98 : decode cX8_lay 98 = .ok (.lload_n 3, 1) := by decide +kernel
theorem dX8_lay_99 : decode cX8_lay 99 = .ok (.lastore, 1) := by decide +kernel
theorem dX8_lay_100 : decode cX8_lay 100 = .ok (.iconst 1, 1) := by decide +kernel
theorem dX8_lay_101 : decode cX8_lay 101 = .ok (.ireturn, 1) := by decide +kernel
theorem dX8_draw_0 : decode cX8_draw 0 = .ok (.iload_n 1, 1) := by decide +kernel
theorem dX8_draw_1 : decode cX8_draw 1 = .ok (.i2l, 1) := by decide +kernel
theorem dX8_draw_2 : decode cX8_draw 2 = .ok (.lconst 0, 1) := by decide +kernel
theorem dX8_draw_3 : decode cX8_draw 3 = .ok (.ldc2_w 121, 3) := by decide +kernel
theorem dX8_draw_6 : decode cX8_draw 6 = .ok (.invokestatic 102, 3) := by decide +kernel
theorem dX8_draw_9 : decode cX8_draw 9 = .ok (.ifCond .eq 15, 3) := by decide +kernel
theorem dX8_draw_12 : decode cX8_draw 12 = .ok (.iload_n 2, 1) := by decide +kernel
theorem dX8_draw_13 : decode cX8_draw 13 = .ok (.i2l, 1) := by decide +kernel
theorem dX8_draw_14 : decode cX8_draw 14 = .ok (.lconst 0, 1) := by decide +kernel
theorem dX8_draw_15 : decode cX8_draw 15 = .ok (.ldc2_w 123, 3) := by decide +kernel
theorem dX8_draw_18 : decode cX8_draw 18 = .ok (.invokestatic 102, 3) := by decide +kernel
theorem dX8_draw_21 : decode cX8_draw 21 = .ok (.ifCond .ne 5, 3) := by decide +kernel
theorem dX8_draw_24 : decode cX8_draw 24 = .ok (.iconst (-1), 1) := by decide +kernel
theorem dX8_draw_25 : decode cX8_draw 25 = .ok (.ireturn, 1) := by decide +kernel
theorem dX8_draw_26 : decode cX8_draw 26 = .ok (.aload_n 0, 1) := by decide +kernel
theorem dX8_draw_27 : decode cX8_draw 27 = .ok (.getfield 47, 3) := by decide +kernel
theorem dX8_draw_30 : decode cX8_draw 30 = .ok (.iload_n 1, 1) := by decide +kernel
theorem dX8_draw_31 : decode cX8_draw 31 = .ok (.iaload, 1) := by decide +kernel
theorem dX8_draw_32 : decode cX8_draw 32 = .ok (.iload_n 2, 1) := by decide +kernel
theorem dX8_draw_33 : decode cX8_draw 33 = .ok (.if_icmp .eq 22, 3) := by decide +kernel
theorem dX8_draw_36 : decode cX8_draw 36 = .ok (.aload_n 0, 1) := by decide +kernel
theorem dX8_draw_37 : decode cX8_draw 37 = .ok (.getfield 47, 3) := by decide +kernel
theorem dX8_draw_40 : decode cX8_draw 40 = .ok (.iload_n 1, 1) := by decide +kernel
theorem dX8_draw_41 : decode cX8_draw 41 = .ok (.iaload, 1) := by decide +kernel
theorem dX8_draw_42 : decode cX8_draw 42 = .ok (.bipush (-4), 2) := by decide +kernel
theorem dX8_draw_44 : decode cX8_draw 44 = .ok (.if_icmp .ne 8, 3) := by decide +kernel
theorem dX8_draw_47 : decode cX8_draw 47 = .ok (.bipush (-11), 2) := by decide +kernel
theorem dX8_draw_49 : decode cX8_draw 49 = .ok (.goto 5, 3) := by decide +kernel
theorem dX8_draw_52 : decode cX8_draw 52 = .ok (.bipush (-13), 2) := by decide +kernel
theorem dX8_draw_54 : decode cX8_draw 54 = .ok (.ireturn, 1) := by decide +kernel
theorem dX8_draw_55 : decode cX8_draw 55 = .ok (.iconst 0, 1) := by decide +kernel
theorem dX8_draw_56 : decode cX8_draw 56 = .ok (.istore 4, 2) := by decide +kernel
theorem dX8_draw_58 : decode cX8_draw 58 = .ok (.iload 4, 2) := by decide +kernel
theorem dX8_draw_60 : decode cX8_draw 60 = .ok (.aload_n 0, 1) := by decide +kernel
theorem dX8_draw_61 : decode cX8_draw 61 = .ok (.getfield 112, 3) := by decide +kernel
theorem dX8_draw_64 : decode cX8_draw 64 = .ok (.aload_n 0, 1) := by decide +kernel
theorem dX8_draw_65 : decode cX8_draw 65 = .ok (.getfield 112, 3) := by decide +kernel
theorem dX8_draw_68 : decode cX8_draw 68 = .ok (.imul, 1) := by decide +kernel
theorem dX8_draw_69 : decode cX8_draw 69 = .ok (.if_icmp .ge 64, 3) := by decide +kernel
theorem dX8_draw_72 : decode cX8_draw 72 = .ok (.iload_n 3, 1) := by decide +kernel
theorem dX8_draw_73 : decode cX8_draw 73 = .ok (.i2l, 1) := by decide +kernel
theorem dX8_draw_74 : decode cX8_draw 74 = .ok (.iload 4, 2) := by decide +kernel
theorem dX8_draw_76 : decode cX8_draw 76 = .ok (.i2l, 1) := by decide +kernel
theorem dX8_draw_77 : decode cX8_draw 77 = .ok (.ladd, 1) := by decide +kernel
theorem dX8_draw_78 : decode cX8_draw 78 = .ok (.lconst 0, 1) := by decide +kernel
theorem dX8_draw_79 : decode cX8_draw 79 = .ok (.aload_n 0, 1) := by decide +kernel
theorem dX8_draw_80 : decode cX8_draw 80 = .ok (.getfield 50, 3) := by decide +kernel
theorem dX8_draw_83 : decode cX8_draw 83 = .ok (.iload_n 1, 1) := by decide +kernel
theorem dX8_draw_84 : decode cX8_draw 84 = .ok (.iaload, 1) := by decide +kernel
theorem dX8_draw_85 : decode cX8_draw 85 = .ok (.iconst 1, 1) := by decide +kernel
theorem dX8_draw_86 : decode cX8_draw 86 = .ok (.isub, 1) := by decide +kernel
theorem dX8_draw_87 : decode cX8_draw 87 = .ok (.i2l, 1) := by decide +kernel
theorem dX8_draw_88 : decode cX8_draw 88 = .ok (.invokestatic 102, 3) := by decide +kernel
theorem dX8_draw_91 : decode cX8_draw 91 = .ok (.ifCond .ne 6, 3) := by decide +kernel
theorem dX8_draw_94 : decode cX8_draw 94 = .ok (.bipush (-12), 2) := by decide +kernel
theorem dX8_draw_96 : decode cX8_draw 96 = .ok (.ireturn, 1) := by decide +kernel
theorem dX8_draw_97 : decode cX8_draw 97 = .ok (.aload_n 0, 1) := by decide +kernel
theorem dX8_draw_98 : decode cX8_draw 98 = .ok (.getfield 53, 3) := by decide +kernel
theorem dX8_draw_101 : decode cX8_draw 101 = .ok (.bipush 64, 2) := by decide +kernel
theorem dX8_draw_103 : decode cX8_draw 103 = .ok (.iload_n 1, 1) := by decide +kernel
theorem dX8_draw_104 : decode cX8_draw 104 = .ok (.imul, 1) := by decide +kernel
theorem dX8_draw_105 : decode cX8_draw 105 = .ok (.iload_n 3, 1) := by decide +kernel
theorem dX8_draw_106 : decode cX8_draw 106 = .ok (.iadd, 1) := by decide +kernel
theorem dX8_draw_107 : decode cX8_draw 107 = .ok (.iload 4, 2) := by decide +kernel
theorem dX8_draw_109 : decode cX8_draw 109 = .ok (.iadd, 1) := by decide +kernel
theorem dX8_draw_110 : decode cX8_draw 110 = .ok (.laload, 1) := by decide +kernel
theorem dX8_draw_111 : decode cX8_draw 111 = .ok (.lconst 0, 1) := by decide +kernel
theorem dX8_draw_112 : decode cX8_draw 112 = .ok (.ldc2_w 119, 3) := by decide +kernel
theorem dX8_draw_115 : decode cX8_draw 115 = .ok (.invokestatic 102, 3) := by decide +kernel
theorem dX8_draw_118 : decode cX8_draw 118 = .ok (.ifCond .ne 9, 3) := by decide +kernel
theorem dX8_draw_121 : decode cX8_draw 121 = .ok (.bipush (-20), 2) := by decide +kernel
theorem dX8_draw_123 : decode cX8_draw 123 = .ok (.iload 4, 2) := by decide +kernel
theorem dX8_draw_125 : decode cX8_draw 125 = .ok (.isub, 1) := by decide +kernel
theorem dX8_draw_126 : decode cX8_draw 126 = .ok (.ireturn, 1) := by decide +kernel
theorem dX8_draw_127 : decode cX8_draw 127 = .ok (.iinc 4 1, 3) := by decide +kernel
theorem dX8_draw_130 : decode cX8_draw 130 = .ok (.goto (-72), 3) := by decide +kernel
theorem dX8_draw_133 : decode cX8_draw 133 = .ok (.iconst 0, 1) := by decide +kernel
theorem dX8_draw_134 : decode cX8_draw 134 = .ok (.istore 4, 2) := by decide +kernel
theorem dX8_draw_136 : decode cX8_draw 136 = .ok (.iload 4, 2) := by decide +kernel
theorem dX8_draw_138 : decode cX8_draw 138 = .ok (.aload_n 0, 1) := by decide +kernel
theorem dX8_draw_139 : decode cX8_draw 139 = .ok (.getfield 112, 3) := by decide +kernel
theorem dX8_draw_142 : decode cX8_draw 142 = .ok (.if_icmp .ge 63, 3) := by decide +kernel
theorem dX8_draw_145 : decode cX8_draw 145 = .ok (.iconst 0, 1) := by decide +kernel
theorem dX8_draw_146 : decode cX8_draw 146 = .ok (.istore 5, 2) := by decide +kernel
theorem dX8_draw_148 : decode cX8_draw 148 = .ok (.iload 5, 2) := by decide +kernel
theorem dX8_draw_150 : decode cX8_draw 150 = .ok (.aload_n 0, 1) := by decide +kernel
theorem dX8_draw_151 : decode cX8_draw 151 = .ok (.getfield 112, 3) := by decide +kernel
theorem dX8_draw_154 : decode cX8_draw 154 = .ok (.if_icmp .ge 45, 3) := by decide +kernel
theorem dX8_draw_157 : decode cX8_draw 157 = .ok (.aload_n 0, 1) := by decide +kernel
theorem dX8_draw_158 : decode cX8_draw 158 = .ok (.getfield 22, 3) := by decide +kernel
theorem dX8_draw_161 : decode cX8_draw 161 = .ok (.bipush 8, 2) := by decide +kernel
theorem dX8_draw_163 : decode cX8_draw 163 = .ok (.iload 4, 2) := by decide +kernel
theorem dX8_draw_165 : decode cX8_draw 165 = .ok (.imul, 1) := by decide +kernel
theorem dX8_draw_166 : decode cX8_draw 166 = .ok (.iload 5, 2) := by decide +kernel
theorem dX8_draw_168 : decode cX8_draw 168 = .ok (.iadd, 1) := by decide +kernel
theorem dX8_draw_169 : decode cX8_draw 169 = .ok (.aload_n 0, 1) := by decide +kernel
theorem dX8_draw_170 : decode cX8_draw 170 = .ok (.getfield 53, 3) := by decide +kernel
theorem dX8_draw_173 : decode cX8_draw 173 = .ok (.bipush 64, 2) := by decide +kernel
theorem dX8_draw_175 : decode cX8_draw 175 = .ok (.iload_n 1, 1) := by decide +kernel
theorem dX8_draw_176 : decode cX8_draw 176 = .ok (.imul, 1) := by decide +kernel
theorem dX8_draw_177 : decode cX8_draw 177 = .ok (.iload_n 3, 1) := by decide +kernel
theorem dX8_draw_178 : decode cX8_draw 178 = .ok (.iadd, 1) := by decide +kernel
theorem dX8_draw_179 : decode cX8_draw 179 = .ok (.aload_n 0, 1) := by decide +kernel
theorem dX8_draw_180 : decode cX8_draw 180 = .ok (.getfield 112, 3) := by decide +kernel
theorem dX8_draw_183 : decode cX8_draw 183 = .ok (.iload 4, 2) := by decide +kernel
theorem dX8_draw_185 : decode cX8_draw 185 = .ok (.imul, 1) := by decide +kernel
theorem dX8_draw_186 : decode cX8_draw 186 = .ok (.iadd, 1) := by decide +kernel
theorem dX8_draw_187 : decode cX8_draw 187 = .ok (.iload 5, 2) := by decide +kernel
theorem dX8_draw_189 : decode cX8_draw 189 = .ok (.iadd, 1) := by decide +kernel
theorem dX8_draw_190 : decode cX8_draw 190 = .ok (.laload, 1) := by decide +kernel
theorem dX8_draw_191 : decode cX8_draw 191 = .ok (.l2i, 1) := by decide +kernel
theorem dX8_draw_192 : decode cX8_draw 192 = .ok (.iastore, 1) := by decide +kernel
theorem dX8_draw_193 : decode cX8_draw 193 = .ok (.iinc 5 1, 3) := by decide +kernel
theorem dX8_draw_196 : decode cX8_draw 196 = .ok (.goto (-48), 3) := by decide +kernel
theorem dX8_draw_199 : decode cX8_draw 199 = .ok (.iinc 4 1, 3) := by decide +kernel
theorem dX8_draw_202 : decode cX8_draw 202 = .ok (.goto (-66), 3) := by decide +kernel
theorem dX8_draw_205 : decode cX8_draw 205 = .ok (.aload_n 0, 1) := by decide +kernel
theorem dX8_draw_206 : decode cX8_draw 206 = .ok (.getfield 112, 3) := by decide +kernel
theorem dX8_draw_209 : decode cX8_draw 209 = .ok (.ireturn, 1) := by decide +kernel
theorem dX8_set_0 : decode cX8_set 0 = .ok (.iload_n 1, 1) := by decide +kernel
theorem dX8_set_1 : decode cX8_set 1 = .ok (.i2l, 1) := by decide +kernel
theorem dX8_set_2 : decode cX8_set 2 = .ok (.ldc2_w 125, 3) := by decide +kernel
theorem dX8_set_5 : decode cX8_set 5 = .ok (.ldc2_w 127, 3) := by decide +kernel
theorem dX8_set_8 : decode cX8_set 8 = .ok (.invokestatic 102, 3) := by decide +kernel
theorem dX8_set_11 : decode cX8_set 11 = .ok (.ifCond .eq 15, 3) := by decide +kernel
theorem dX8_set_14 : decode cX8_set 14 = .ok (.iload_n 2, 1) := by decide +kernel
theorem dX8_set_15 : decode cX8_set 15 = .ok (.i2l, 1) := by decide +kernel
theorem dX8_set_16 : decode cX8_set 16 = .ok (.lconst 1, 1) := by decide +kernel
theorem dX8_set_17 : decode cX8_set 17 = .ok (.ldc2_w 129, 3) := by decide +kernel
theorem dX8_set_20 : decode cX8_set 20 = .ok (.invokestatic 102, 3) := by decide +kernel
theorem dX8_set_23 : decode cX8_set 23 = .ok (.ifCond .ne 5, 3) := by decide +kernel
theorem dX8_set_26 : decode cX8_set 26 = .ok (.iconst (-1), 1) := by decide +kernel
theorem dX8_set_27 : decode cX8_set 27 = .ok (.ireturn, 1) := by decide +kernel
theorem dX8_set_28 : decode cX8_set 28 = .ok (.aload_n 0, 1) := by decide +kernel
theorem dX8_set_29 : decode cX8_set 29 = .ok (.iload_n 1, 1) := by decide +kernel
theorem dX8_set_30 : decode cX8_set 30 = .ok (.putfield 25, 3) := by decide +kernel
theorem dX8_set_33 : decode cX8_set 33 = .ok (.aload_n 0, 1) := by decide +kernel
theorem dX8_set_34 : decode cX8_set 34 = .ok (.iload_n 2, 1) := by decide +kernel
theorem dX8_set_35 : decode cX8_set 35 = .ok (.putfield 29, 3) := by decide +kernel
theorem dX8_set_38 : decode cX8_set 38 = .ok (.iconst 1, 1) := by decide +kernel
theorem dX8_set_39 : decode cX8_set 39 = .ok (.ireturn, 1) := by decide +kernel
theorem dX8_price_0 : decode cX8_price 0 = .ok (.iload_n 1, 1) := by decide +kernel
theorem dX8_price_1 : decode cX8_price 1 = .ok (.ifCond .ne 7, 3) := by decide +kernel
theorem dX8_price_4 : decode cX8_price 4 = .ok (.iconst 1, 1) := by decide +kernel
theorem dX8_price_5 : decode cX8_price 5 = .ok (.goto 4, 3) := by decide +kernel
theorem dX8_price_8 : decode cX8_price 8 = .ok (.iconst 0, 1) := by decide +kernel
theorem dX8_price_9 : decode cX8_price 9 = .ok (.istore_n 3, 1) := by decide +kernel
theorem dX8_price_10 : decode cX8_price 10 = .ok (.iload_n 3, 1) := by decide +kernel
theorem dX8_price_11 : decode cX8_price 11 = .ok (.ifCond .ne 17, 3) := by decide +kernel
theorem dX8_price_14 : decode cX8_price 14 = .ok (.iload_n 1, 1) := by decide +kernel
theorem dX8_price_15 : decode cX8_price 15 = .ok (.i2l, 1) := by decide +kernel
theorem dX8_price_16 : decode cX8_price 16 = .ok (.ldc2_w 125, 3) := by decide +kernel
theorem dX8_price_19 : decode cX8_price 19 = .ok (.ldc2_w 127, 3) := by decide +kernel
theorem dX8_price_22 : decode cX8_price 22 = .ok (.invokestatic 102, 3) := by decide +kernel
theorem dX8_price_25 : decode cX8_price 25 = .ok (.ifCond .eq 25, 3) := by decide +kernel
theorem dX8_price_28 : decode cX8_price 28 = .ok (.iload_n 2, 1) := by decide +kernel
theorem dX8_price_29 : decode cX8_price 29 = .ok (.i2l, 1) := by decide +kernel
theorem dX8_price_30 : decode cX8_price 30 = .ok (.lconst 0, 1) := by decide +kernel
theorem dX8_price_31 : decode cX8_price 31 = .ok (.iload_n 3, 1) := by decide +kernel
theorem dX8_price_32 : decode cX8_price 32 = .ok (.ifCond .eq 9, 3) := by decide +kernel
theorem dX8_price_35 : decode cX8_price 35 = .ok (.ldc2_w 131, 3) := by decide +kernel
theorem dX8_price_38 : decode cX8_price 38 = .ok (.goto 6, 3) := by decide +kernel
theorem dX8_price_41 : decode cX8_price 41 = .ok (.ldc2_w 100, 3) := by decide +kernel
theorem dX8_price_44 : decode cX8_price 44 = .ok (.invokestatic 102, 3) := by decide +kernel
theorem dX8_price_47 : decode cX8_price 47 = .ok (.ifCond .ne 5, 3) := by decide +kernel
theorem dX8_price_50 : decode cX8_price 50 = .ok (.iconst (-1), 1) := by decide +kernel
theorem dX8_price_51 : decode cX8_price 51 = .ok (.ireturn, 1) := by decide +kernel
theorem dX8_price_52 : decode cX8_price 52 = .ok (.iload_n 3, 1) := by decide +kernel
theorem dX8_price_53 : decode cX8_price 53 = .ok (.ifCond .eq 10, 3) := by decide +kernel
theorem dX8_price_56 : decode cX8_price 56 = .ok (.aload_n 0, 1) := by decide +kernel
theorem dX8_price_57 : decode cX8_price 57 = .ok (.getfield 35, 3) := by decide +kernel
theorem dX8_price_60 : decode cX8_price 60 = .ok (.goto 12, 3) := by decide +kernel
theorem dX8_price_63 : decode cX8_price 63 = .ok (.aload_n 0, 1) := by decide +kernel
theorem dX8_price_64 : decode cX8_price 64 = .ok (.getfield 32, 3) := by decide +kernel
theorem dX8_price_67 : decode cX8_price 67 = .ok (.iload_n 1, 1) := by decide +kernel
theorem dX8_price_68 : decode cX8_price 68 = .ok (.bipush 10, 2) := by decide +kernel
theorem dX8_price_70 : decode cX8_price 70 = .ok (.isub, 1) := by decide +kernel
theorem dX8_price_71 : decode cX8_price 71 = .ok (.iaload, 1) := by decide +kernel
theorem dX8_price_72 : decode cX8_price 72 = .ok (.istore 4, 2) := by decide +kernel
theorem dX8_price_74 : decode cX8_price 74 = .ok (.iload_n 3, 1) := by decide +kernel
theorem dX8_price_75 : decode cX8_price 75 = .ok (.ifCond .eq 11, 3) := by decide +kernel
theorem dX8_price_78 : decode cX8_price 78 = .ok (.aload_n 0, 1) := by decide +kernel
theorem dX8_price_79 : decode cX8_price 79 = .ok (.iload_n 2, 1) := by decide +kernel
theorem dX8_price_80 : decode cX8_price 80 = .ok (.putfield 35, 3) := by decide +kernel
theorem dX8_price_83 : decode cX8_price 83 = .ok (.goto 13, 3) := by decide +kernel
theorem dX8_price_86 : decode cX8_price 86 = .ok (.aload_n 0, 1) := by decide +kernel
theorem dX8_price_87 : decode cX8_price 87 = .ok (.getfield 32, 3) := by decide +kernel
theorem dX8_price_90 : decode cX8_price 90 = .ok (.iload_n 1, 1) := by decide +kernel
theorem dX8_price_91 : decode cX8_price 91 = .ok (.bipush 10, 2) := by decide +kernel
theorem dX8_price_93 : decode cX8_price 93 = .ok (.isub, 1) := by decide +kernel
theorem dX8_price_94 : decode cX8_price 94 = .ok (.iload_n 2, 1) := by decide +kernel
theorem dX8_price_95 : decode cX8_price 95 = .ok (.iastore, 1) := by decide +kernel
theorem dX8_price_96 : decode cX8_price 96 = .ok (.iload 4, 2) := by decide +kernel
theorem dX8_price_98 : decode cX8_price 98 = .ok (.ireturn, 1) := by decide +kernel
theorem dX8_comes_0 : decode cX8_comes 0 = .ok (.iconst 0, 1) := by decide +kernel
theorem dX8_comes_1 : decode cX8_comes 1 = .ok (.istore 4, 2) := by decide +kernel
theorem dX8_comes_3 : decode cX8_comes 3 = .ok (.iconst 0, 1) := by decide +kernel
theorem dX8_comes_4 : decode cX8_comes 4 = .ok (.istore 5, 2) := by decide +kernel
theorem dX8_comes_6 : decode cX8_comes 6 = .ok (.iload 5, 2) := by decide +kernel
theorem dX8_comes_8 : decode cX8_comes 8 = .ok (.aload_n 0, 1) := by decide +kernel
theorem dX8_comes_9 : decode cX8_comes 9 = .ok (.getfield 112, 3) := by decide +kernel
theorem dX8_comes_12 : decode cX8_comes 12 = .ok (.if_icmp .ge 42, 3) := by decide +kernel
theorem dX8_comes_15 : decode cX8_comes 15 = .ok (.iload 4, 2) := by decide +kernel
theorem dX8_comes_17 : decode cX8_comes 17 = .ok (.aload_n 0, 1) := by decide +kernel
theorem dX8_comes_18 : decode cX8_comes 18 = .ok (.getfield 7, 3) := by decide +kernel
theorem dX8_comes_21 : decode cX8_comes 21 = .ok (.iload 5, 2) := by decide +kernel
theorem dX8_comes_23 : decode cX8_comes 23 = .ok (.iaload, 1) := by decide +kernel
theorem dX8_comes_24 : decode cX8_comes 24 = .ok (.aload_n 0, 1) := by decide +kernel
theorem dX8_comes_25 : decode cX8_comes 25 = .ok (.getfield 44, 3) := by decide +kernel
theorem dX8_comes_28 : decode cX8_comes 28 = .ok (.iload 5, 2) := by decide +kernel
theorem dX8_comes_30 : decode cX8_comes 30 = .ok (.iaload, 1) := by decide +kernel
theorem dX8_comes_31 : decode cX8_comes 31 = .ok (.iadd, 1) := by decide +kernel
theorem dX8_comes_32 : decode cX8_comes 32 = .ok (.aload_n 0, 1) := by decide +kernel
theorem dX8_comes_33 : decode cX8_comes 33 = .ok (.getfield 22, 3) := by decide +kernel
theorem dX8_comes_36 : decode cX8_comes 36 = .ok (.bipush 8, 2) := by decide +kernel
theorem dX8_comes_38 : decode cX8_comes 38 = .ok (.iload_n 1, 1) := by decide +kernel
theorem dX8_comes_39 : decode cX8_comes 39 = .ok (.imul, 1) := by decide +kernel
theorem dX8_comes_40 : decode cX8_comes 40 = .ok (.iload 5, 2) := by decide +kernel
theorem dX8_comes_42 : decode cX8_comes 42 = .ok (.iadd, 1) := by decide +kernel
theorem dX8_comes_43 : decode cX8_comes 43 = .ok (.iaload, 1) := by decide +kernel
theorem dX8_comes_44 : decode cX8_comes 44 = .ok (.imul, 1) := by decide +kernel
theorem dX8_comes_45 : decode cX8_comes 45 = .ok (.iadd, 1) := by decide +kernel
theorem dX8_comes_46 : decode cX8_comes 46 = .ok (.istore 4, 2) := by decide +kernel
theorem dX8_comes_48 : decode cX8_comes 48 = .ok (.iinc 5 1, 3) := by decide +kernel
theorem dX8_comes_51 : decode cX8_comes 51 = .ok (.goto (-45), 3) := by decide +kernel
theorem dX8_comes_54 : decode cX8_comes 54 = .ok (.sipush 1000, 3) := by decide +kernel
theorem dX8_comes_57 : decode cX8_comes 57 = .ok (.iload_n 2, 1) := by decide +kernel
theorem dX8_comes_58 : decode cX8_comes 58 = .ok (.imul, 1) := by decide +kernel
theorem dX8_comes_59 : decode cX8_comes 59 = .ok (.iload 4, 2) := by decide +kernel
theorem dX8_comes_61 : decode cX8_comes 61 = .ok (.iload_n 3, 1) := by decide +kernel
theorem dX8_comes_62 : decode cX8_comes 62 = .ok (.iadd, 1) := by decide +kernel
theorem dX8_comes_63 : decode cX8_comes 63 = .ok (.iconst 1, 1) := by decide +kernel
theorem dX8_comes_64 : decode cX8_comes 64 = .ok (.isub, 1) := by decide +kernel
theorem dX8_comes_65 : decode cX8_comes 65 = .ok (.iload_n 3, 1) := by decide +kernel
theorem dX8_comes_66 : decode cX8_comes 66 = .ok (.idiv, 1) := by decide +kernel
theorem dX8_comes_67 : decode cX8_comes 67 = .ok (.iadd, 1) := by decide +kernel
theorem dX8_comes_68 : decode cX8_comes 68 = .ok (.ireturn, 1) := by decide +kernel
theorem dX8_clearAdded_0 : decode cX8_clearAdded 0 = .ok (.iconst 0, 1) := by decide +kernel
theorem dX8_clearAdded_1 : decode cX8_clearAdded 1 = .ok (.istore_n 1, 1) := by decide +kernel
theorem dX8_clearAdded_2 : decode cX8_clearAdded 2 = .ok (.iload_n 1, 1) := by decide +kernel
theorem dX8_clearAdded_3 : decode cX8_clearAdded 3 = .ok (.bipush 8, 2) := by decide +kernel
theorem dX8_clearAdded_5 : decode cX8_clearAdded 5 = .ok (.if_icmp .ge 16, 3) := by decide +kernel
theorem dX8_clearAdded_8 : decode cX8_clearAdded 8 = .ok (.aload_n 0, 1) := by decide +kernel
theorem dX8_clearAdded_9 : decode cX8_clearAdded 9 = .ok (.getfield 44, 3) := by decide +kernel
theorem dX8_clearAdded_12 : decode cX8_clearAdded 12 = .ok (.iload_n 1, 1) := by decide +kernel
theorem dX8_clearAdded_13 : decode cX8_clearAdded 13 = .ok (.iconst 0, 1) := by decide +kernel
theorem dX8_clearAdded_14 : decode cX8_clearAdded 14 = .ok (.iastore, 1) := by decide +kernel
theorem dX8_clearAdded_15 : decode cX8_clearAdded 15 = .ok (.iinc 1 1, 3) := by decide +kernel
theorem dX8_clearAdded_18 : decode cX8_clearAdded 18 = .ok (.goto (-16), 3) := by decide +kernel
theorem dX8_clearAdded_21 : decode cX8_clearAdded 21 = .ok (.return_, 1) := by decide +kernel
theorem dX8_into_0 : decode cX8_into 0 = .ok (.aload_n 0, 1) := by decide +kernel
theorem dX8_into_1 : decode cX8_into 1 = .ok (.invokevirtual 133, 3) := by decide +kernel
theorem dX8_into_4 : decode cX8_into 4 = .ok (.aload_n 0, 1) := by decide +kernel
theorem dX8_into_5 : decode cX8_into 5 = .ok (.iload_n 1, 1) := by decide +kernel
theorem dX8_into_6 : decode cX8_into 6 = .ok (.invokevirtual 115, 3) := by decide +kernel
theorem dX8_into_9 : decode cX8_into 9 = .ok (.ifCond .eq 19, 3) := by decide +kernel
theorem dX8_into_12 : decode cX8_into 12 = .ok (.aload_n 0, 1) := by decide +kernel
theorem dX8_into_13 : decode cX8_into 13 = .ok (.iload_n 1, 1) := by decide +kernel
theorem dX8_into_14 : decode cX8_into 14 = .ok (.aload_n 0, 1) := by decide +kernel
theorem dX8_into_15 : decode cX8_into 15 = .ok (.getfield 25, 3) := by decide +kernel
theorem dX8_into_18 : decode cX8_into 18 = .ok (.aload_n 0, 1) := by decide +kernel
theorem dX8_into_19 : decode cX8_into 19 = .ok (.getfield 29, 3) := by decide +kernel
theorem dX8_into_22 : decode cX8_into 22 = .ok (.invokevirtual 136, 3) := by decide +kernel
theorem dX8_into_25 : decode cX8_into 25 = .ok (.goto 4, 3) := by decide +kernel
theorem dX8_into_28 : decode cX8_into 28 = .ok (.iconst (-1), 1) := by decide +kernel
theorem dX8_into_29 : decode cX8_into 29 = .ok (.ireturn, 1) := by decide +kernel
theorem dX8_hots_0 : decode cX8_hots 0 = .ok (.iconst 0, 1) := by decide +kernel
theorem dX8_hots_1 : decode cX8_hots 1 = .ok (.istore_n 3, 1) := by decide +kernel
theorem dX8_hots_2 : decode cX8_hots 2 = .ok (.iconst 0, 1) := by decide +kernel
theorem dX8_hots_3 : decode cX8_hots 3 = .ok (.istore 4, 2) := by decide +kernel
theorem dX8_hots_5 : decode cX8_hots 5 = .ok (.iload 4, 2) := by decide +kernel
theorem dX8_hots_7 : decode cX8_hots 7 = .ok (.aload_n 0, 1) := by decide +kernel
theorem dX8_hots_8 : decode cX8_hots 8 = .ok (.getfield 112, 3) := by decide +kernel
theorem dX8_hots_11 : decode cX8_hots 11 = .ok (.if_icmp .ge 35, 3) := by decide +kernel
theorem dX8_hots_14 : decode cX8_hots 14 = .ok (.iload_n 3, 1) := by decide +kernel
theorem dX8_hots_15 : decode cX8_hots 15 = .ok (.aload_n 0, 1) := by decide +kernel
theorem dX8_hots_16 : decode cX8_hots 16 = .ok (.iload 4, 2) := by decide +kernel
theorem dX8_hots_18 : decode cX8_hots 18 = .ok (.iload_n 1, 1) := by decide +kernel
theorem dX8_hots_19 : decode cX8_hots 19 = .ok (.iload_n 2, 1) := by decide +kernel
theorem dX8_hots_20 : decode cX8_hots 20 = .ok (.invokevirtual 136, 3) := by decide +kernel
theorem dX8_hots_23 : decode cX8_hots 23 = .ok (.aload_n 0, 1) := by decide +kernel
theorem dX8_hots_24 : decode cX8_hots 24 = .ok (.getfield 13, 3) := by decide +kernel
theorem dX8_hots_27 : decode cX8_hots 27 = .ok (.iload 4, 2) := by decide +kernel
theorem dX8_hots_29 : decode cX8_hots 29 = .ok (.iaload, 1) := by decide +kernel
theorem dX8_hots_30 : decode cX8_hots 30 = .ok (.if_icmp .le 7, 3) := by decide +kernel
theorem dX8_hots_33 : decode cX8_hots 33 = .ok (.iconst 1, 1) := by decide +kernel
theorem dX8_hots_34 : decode cX8_hots 34 = .ok (.goto 4, 3) := by decide +kernel
theorem dX8_hots_37 : decode cX8_hots 37 = .ok (.iconst 0, 1) := by decide +kernel
theorem dX8_hots_38 : decode cX8_hots 38 = .ok (.iadd, 1) := by decide +kernel
theorem dX8_hots_39 : decode cX8_hots 39 = .ok (.istore_n 3, 1) := by decide +kernel
theorem dX8_hots_40 : decode cX8_hots 40 = .ok (.iinc 4 1, 3) := by decide +kernel
theorem dX8_hots_43 : decode cX8_hots 43 = .ok (.goto (-38), 3) := by decide +kernel
theorem dX8_hots_46 : decode cX8_hots 46 = .ok (.iload_n 3, 1) := by decide +kernel
theorem dX8_hots_47 : decode cX8_hots 47 = .ok (.ireturn, 1) := by decide +kernel
theorem dX8_hot_0 : decode cX8_hot 0 = .ok (.aload_n 0, 1) := by decide +kernel
theorem dX8_hot_1 : decode cX8_hot 1 = .ok (.invokevirtual 133, 3) := by decide +kernel
theorem dX8_hot_4 : decode cX8_hot 4 = .ok (.iload_n 1, 1) := by decide +kernel
theorem dX8_hot_5 : decode cX8_hot 5 = .ok (.i2l, 1) := by decide +kernel
theorem dX8_hot_6 : decode cX8_hot 6 = .ok (.lconst 0, 1) := by decide +kernel
theorem dX8_hot_7 : decode cX8_hot 7 = .ok (.ldc2_w 123, 3) := by decide +kernel
theorem dX8_hot_10 : decode cX8_hot 10 = .ok (.invokestatic 102, 3) := by decide +kernel
theorem dX8_hot_13 : decode cX8_hot 13 = .ok (.ifCond .ne 5, 3) := by decide +kernel
theorem dX8_hot_16 : decode cX8_hot 16 = .ok (.iconst (-1), 1) := by decide +kernel
theorem dX8_hot_17 : decode cX8_hot 17 = .ok (.ireturn, 1) := by decide +kernel
theorem dX8_hot_18 : decode cX8_hot 18 = .ok (.iload_n 1, 1) := by decide +kernel
theorem dX8_hot_19 : decode cX8_hot 19 = .ok (.ifCond .ne 16, 3) := by decide +kernel
theorem dX8_hot_22 : decode cX8_hot 22 = .ok (.aload_n 0, 1) := by decide +kernel
theorem dX8_hot_23 : decode cX8_hot 23 = .ok (.aload_n 0, 1) := by decide +kernel
theorem dX8_hot_24 : decode cX8_hot 24 = .ok (.getfield 25, 3) := by decide +kernel
theorem dX8_hot_27 : decode cX8_hot 27 = .ok (.aload_n 0, 1) := by decide +kernel
theorem dX8_hot_28 : decode cX8_hot 28 = .ok (.getfield 29, 3) := by decide +kernel
theorem dX8_hot_31 : decode cX8_hot 31 = .ok (.invokevirtual 140, 3) := by decide +kernel
theorem dX8_hot_34 : decode cX8_hot 34 = .ok (.ireturn, 1) := by decide +kernel
theorem dX8_hot_35 : decode cX8_hot 35 = .ok (.bipush (-4), 2) := by decide +kernel
theorem dX8_hot_37 : decode cX8_hot 37 = .ok (.istore_n 2, 1) := by decide +kernel
theorem dX8_hot_38 : decode cX8_hot 38 = .ok (.iconst 0, 1) := by decide +kernel
theorem dX8_hot_39 : decode cX8_hot 39 = .ok (.istore_n 3, 1) := by decide +kernel
theorem dX8_hot_40 : decode cX8_hot 40 = .ok (.iload_n 3, 1) := by decide +kernel
theorem dX8_hot_41 : decode cX8_hot 41 = .ok (.aload_n 0, 1) := by decide +kernel
theorem dX8_hot_42 : decode cX8_hot 42 = .ok (.getfield 112, 3) := by decide +kernel
theorem dX8_hot_45 : decode cX8_hot 45 = .ok (.if_icmp .ge 85, 3) := by decide +kernel
theorem dX8_hot_48 : decode cX8_hot 48 = .ok (.aload_n 0, 1) := by decide +kernel
theorem dX8_hot_49 : decode cX8_hot 49 = .ok (.getfield 13, 3) := by decide +kernel
theorem dX8_hot_52 : decode cX8_hot 52 = .ok (.iload_n 3, 1) := by decide +kernel
theorem dX8_hot_53 : decode cX8_hot 53 = .ok (.iaload, 1) := by decide +kernel
theorem dX8_hot_54 : decode cX8_hot 54 = .ok (.aload_n 0, 1) := by decide +kernel
theorem dX8_hot_55 : decode cX8_hot 55 = .ok (.iload_n 3, 1) := by decide +kernel
theorem dX8_hot_56 : decode cX8_hot 56 = .ok (.aload_n 0, 1) := by decide +kernel
theorem dX8_hot_57 : decode cX8_hot 57 = .ok (.getfield 25, 3) := by decide +kernel
theorem dX8_hot_60 : decode cX8_hot 60 = .ok (.aload_n 0, 1) := by decide +kernel
theorem dX8_hot_61 : decode cX8_hot 61 = .ok (.getfield 29, 3) := by decide +kernel
theorem dX8_hot_64 : decode cX8_hot 64 = .ok (.invokevirtual 136, 3) := by decide +kernel
theorem dX8_hot_67 : decode cX8_hot 67 = .ok (.isub, 1) := by decide +kernel
theorem dX8_hot_68 : decode cX8_hot 68 = .ok (.istore 4, 2) := by decide +kernel
theorem dX8_hot_70 : decode cX8_hot 70 = .ok (.iload_n 1, 1) := by decide +kernel
theorem dX8_hot_71 : decode cX8_hot 71 = .ok (.iconst 1, 1) := by decide +kernel
theorem dX8_hot_72 : decode cX8_hot 72 = .ok (.if_icmp .ne 10, 3) := by decide +kernel
theorem dX8_hot_75 : decode cX8_hot 75 = .ok (.iload 4, 2) := by decide +kernel
theorem dX8_hot_77 : decode cX8_hot 77 = .ok (.ifCond .ge 5, 3) := by decide +kernel
theorem dX8_hot_80 : decode cX8_hot 80 = .ok (.iload_n 3, 1) := by decide +kernel
theorem dX8_hot_81 : decode cX8_hot 81 = .ok (.ireturn, 1) := by decide +kernel
theorem dX8_hot_82 : decode cX8_hot 82 = .ok (.iload_n 1, 1) := by decide +kernel
theorem dX8_hot_83 : decode cX8_hot 83 = .ok (.iconst 2, 1) := by decide +kernel
theorem dX8_hot_84 : decode cX8_hot 84 = .ok (.if_icmp .ne 38, 3) := by decide +kernel
theorem dX8_hot_87 : decode cX8_hot 87 = .ok (.iload_n 2, 1) := by decide +kernel
theorem dX8_hot_88 : decode cX8_hot 88 = .ok (.bipush (-4), 2) := by decide +kernel
theorem dX8_hot_90 : decode cX8_hot 90 = .ok (.if_icmp .eq 28, 3) := by decide +kernel
theorem dX8_hot_93 : decode cX8_hot 93 = .ok (.iload 4, 2) := by decide +kernel
theorem dX8_hot_95 : decode cX8_hot 95 = .ok (.aload_n 0, 1) := by decide +kernel
theorem dX8_hot_96 : decode cX8_hot 96 = .ok (.getfield 13, 3) := by decide +kernel
theorem dX8_hot_99 : decode cX8_hot 99 = .ok (.iload_n 2, 1) := by decide +kernel
theorem dX8_hot_100 : decode cX8_hot 100 = .ok (.iaload, 1) := by decide +kernel
theorem dX8_hot_101 : decode cX8_hot 101 = .ok (.aload_n 0, 1) := by decide +kernel
theorem dX8_hot_102 : decode cX8_hot 102 = .ok (.iload_n 2, 1) := by decide +kernel
theorem dX8_hot_103 : decode cX8_hot 103 = .ok (.aload_n 0, 1) := by decide +kernel
theorem dX8_hot_104 : decode cX8_hot 104 = .ok (.getfield 25, 3) := by decide +kernel
theorem dX8_hot_107 : decode cX8_hot 107 = .ok (.aload_n 0, 1) := by decide +kernel
theorem dX8_hot_108 : decode cX8_hot 108 = .ok (.getfield 29, 3) := by decide +kernel
theorem dX8_hot_111 : decode cX8_hot 111 = .ok (.invokevirtual 136, 3) := by decide +kernel
theorem dX8_hot_114 : decode cX8_hot 114 = .ok (.isub, 1) := by decide +kernel
theorem dX8_hot_115 : decode cX8_hot 115 = .ok (.if_icmp .ge 7, 3) := by decide +kernel
theorem dX8_hot_118 : decode cX8_hot 118 = .ok (.iload_n 3, 1) := by decide +kernel
theorem dX8_hot_119 : decode cX8_hot 119 = .ok (.goto 4, 3) := by decide +kernel
theorem dX8_hot_122 : decode cX8_hot 122 = .ok (.iload_n 2, 1) := by decide +kernel
theorem dX8_hot_123 : decode cX8_hot 123 = .ok (.istore_n 2, 1) := by decide +kernel
theorem dX8_hot_124 : decode cX8_hot 124 = .ok (.iinc 3 1, 3) := by decide +kernel
theorem dX8_hot_127 : decode cX8_hot 127 = .ok (.goto (-87), 3) := by decide +kernel
theorem dX8_hot_130 : decode cX8_hot 130 = .ok (.iload_n 2, 1) := by decide +kernel
theorem dX8_hot_131 : decode cX8_hot 131 = .ok (.ireturn, 1) := by decide +kernel
theorem dX8_powerOf_0 : decode cX8_powerOf 0 = .ok (.aload_n 0, 1) := by decide +kernel
theorem dX8_powerOf_1 : decode cX8_powerOf 1 = .ok (.getfield 35, 3) := by decide +kernel
theorem dX8_powerOf_4 : decode cX8_powerOf 4 = .ok (.iload_n 2, 1) := by decide +kernel
theorem dX8_powerOf_5 : decode cX8_powerOf 5 = .ok (.imul, 1) := by decide +kernel
theorem dX8_powerOf_6 : decode cX8_powerOf 6 = .ok (.iload_n 2, 1) := by decide +kernel
theorem dX8_powerOf_7 : decode cX8_powerOf 7 = .ok (.imul, 1) := by decide +kernel
theorem dX8_powerOf_8 : decode cX8_powerOf 8 = .ok (.iload_n 2, 1) := by decide +kernel
theorem dX8_powerOf_9 : decode cX8_powerOf 9 = .ok (.imul, 1) := by decide +kernel
theorem dX8_powerOf_10 : decode cX8_powerOf 10 = .ok (.istore_n 3, 1) := by decide +kernel
theorem dX8_powerOf_11 : decode cX8_powerOf 11 = .ok (.iload_n 3, 1) := by decide +kernel
theorem dX8_powerOf_12 : decode cX8_powerOf 12 = .ok (.istore 4, 2) := by decide +kernel
theorem dX8_powerOf_14 : decode cX8_powerOf 14 = .ok (.iconst 0, 1) := by decide +kernel
theorem dX8_powerOf_15 : decode cX8_powerOf 15 = .ok (.istore 5, 2) := by decide +kernel
theorem dX8_powerOf_17 : decode cX8_powerOf 17 = .ok (.iload 5, 2) := by decide +kernel
theorem dX8_powerOf_19 : decode cX8_powerOf 19 = .ok (.aload_n 0, 1) := by decide +kernel
theorem dX8_powerOf_20 : decode cX8_powerOf 20 = .ok (.getfield 112, 3) := by decide +kernel
theorem dX8_powerOf_23 : decode cX8_powerOf 23 = .ok (.if_icmp .ge 21, 3) := by decide +kernel
theorem dX8_powerOf_26 : decode cX8_powerOf 26 = .ok (.iload 4, 2) := by decide +kernel
theorem dX8_powerOf_28 : decode cX8_powerOf 28 = .ok (.aload_n 0, 1) := by decide +kernel
theorem dX8_powerOf_29 : decode cX8_powerOf 29 = .ok (.getfield 7, 3) := by decide +kernel
theorem dX8_powerOf_32 : decode cX8_powerOf 32 = .ok (.iload 5, 2) := by decide +kernel
theorem dX8_powerOf_34 : decode cX8_powerOf 34 = .ok (.iaload, 1) := by decide +kernel
theorem dX8_powerOf_35 : decode cX8_powerOf 35 = .ok (.iadd, 1) := by decide +kernel
theorem dX8_powerOf_36 : decode cX8_powerOf 36 = .ok (.istore 4, 2) := by decide +kernel
theorem dX8_powerOf_38 : decode cX8_powerOf 38 = .ok (.iinc 5 1, 3) := by decide +kernel
theorem dX8_powerOf_41 : decode cX8_powerOf 41 = .ok (.goto (-24), 3) := by decide +kernel
theorem dX8_powerOf_44 : decode cX8_powerOf 44 = .ok (.iload_n 3, 1) := by decide +kernel
theorem dX8_powerOf_45 : decode cX8_powerOf 45 = .ok (.iload 4, 2) := by decide +kernel
theorem dX8_powerOf_47 : decode cX8_powerOf 47 = .ok (.aload_n 0, 1) := by decide +kernel
theorem dX8_powerOf_48 : decode cX8_powerOf 48 = .ok (.getfield 32, 3) := by decide +kernel
theorem dX8_powerOf_51 : decode cX8_powerOf 51 = .ok (.iload_n 1, 1) := by decide +kernel
theorem dX8_powerOf_52 : decode cX8_powerOf 52 = .ok (.bipush 10, 2) := by decide +kernel
theorem dX8_powerOf_54 : decode cX8_powerOf 54 = .ok (.isub, 1) := by decide +kernel
theorem dX8_powerOf_55 : decode cX8_powerOf 55 = .ok (.iaload, 1) := by decide +kernel
theorem dX8_powerOf_56 : decode cX8_powerOf 56 = .ok (.imul, 1) := by decide +kernel
theorem dX8_powerOf_57 : decode cX8_powerOf 57 = .ok (.sipush 999, 3) := by decide +kernel
theorem dX8_powerOf_60 : decode cX8_powerOf 60 = .ok (.iadd, 1) := by decide +kernel
theorem dX8_powerOf_61 : decode cX8_powerOf 61 = .ok (.sipush 1000, 3) := by decide +kernel
theorem dX8_powerOf_64 : decode cX8_powerOf 64 = .ok (.idiv, 1) := by decide +kernel
theorem dX8_powerOf_65 : decode cX8_powerOf 65 = .ok (.iadd, 1) := by decide +kernel
theorem dX8_powerOf_66 : decode cX8_powerOf 66 = .ok (.ireturn, 1) := by decide +kernel
theorem dX8_power_0 : decode cX8_power 0 = .ok (.iload_n 1, 1) := by decide +kernel
theorem dX8_power_1 : decode cX8_power 1 = .ok (.i2l, 1) := by decide +kernel
theorem dX8_power_2 : decode cX8_power 2 = .ok (.ldc2_w 125, 3) := by decide +kernel
theorem dX8_power_5 : decode cX8_power 5 = .ok (.ldc2_w 127, 3) := by decide +kernel
theorem dX8_power_8 : decode cX8_power 8 = .ok (.invokestatic 102, 3) := by decide +kernel
theorem dX8_power_11 : decode cX8_power 11 = .ok (.ifCond .eq 24, 3) := by decide +kernel
theorem dX8_power_14 : decode cX8_power 14 = .ok (.iload_n 2, 1) := by decide +kernel
theorem dX8_power_15 : decode cX8_power 15 = .ok (.i2l, 1) := by decide +kernel
theorem dX8_power_16 : decode cX8_power 16 = .ok (.lconst 1, 1) := by decide +kernel
theorem dX8_power_17 : decode cX8_power 17 = .ok (.ldc2_w 129, 3) := by decide +kernel
theorem dX8_power_20 : decode cX8_power 20 = .ok (.invokestatic 102, 3) := by decide +kernel
theorem dX8_power_23 : decode cX8_power 23 = .ok (.ifCond .eq 12, 3) := by decide +kernel
theorem dX8_power_26 : decode cX8_power 26 = .ok (.aload_n 0, 1) := by decide +kernel
theorem dX8_power_27 : decode cX8_power 27 = .ok (.iload_n 1, 1) := by decide +kernel
theorem dX8_power_28 : decode cX8_power 28 = .ok (.iload_n 2, 1) := by decide +kernel
theorem dX8_power_29 : decode cX8_power 29 = .ok (.invokevirtual 144, 3) := by decide +kernel
theorem dX8_power_32 : decode cX8_power 32 = .ok (.goto 4, 3) := by decide +kernel
theorem dX8_power_35 : decode cX8_power 35 = .ok (.iconst (-1), 1) := by decide +kernel
theorem dX8_power_36 : decode cX8_power 36 = .ok (.ireturn, 1) := by decide +kernel
theorem dX8_best_0 : decode cX8_best 0 = .ok (.aload_n 0, 1) := by decide +kernel
theorem dX8_best_1 : decode cX8_best 1 = .ok (.invokevirtual 133, 3) := by decide +kernel
theorem dX8_best_4 : decode cX8_best 4 = .ok (.bipush (-4), 2) := by decide +kernel
theorem dX8_best_6 : decode cX8_best 6 = .ok (.istore_n 1, 1) := by decide +kernel
theorem dX8_best_7 : decode cX8_best 7 = .ok (.iconst 1, 1) := by decide +kernel
theorem dX8_best_8 : decode cX8_best 8 = .ok (.istore_n 2, 1) := by decide +kernel
theorem dX8_best_9 : decode cX8_best 9 = .ok (.iload_n 2, 1) := by decide +kernel
theorem dX8_best_10 : decode cX8_best 10 = .ok (.iconst 5, 1) := by decide +kernel
theorem dX8_best_11 : decode cX8_best 11 = .ok (.if_icmp .gt 67, 3) := by decide +kernel
theorem dX8_best_14 : decode cX8_best 14 = .ok (.bipush 10, 2) := by decide +kernel
theorem dX8_best_16 : decode cX8_best 16 = .ok (.istore_n 3, 1) := by decide +kernel
theorem dX8_best_17 : decode cX8_best 17 = .ok (.iload_n 3, 1) := by decide +kernel
theorem dX8_best_18 : decode cX8_best 18 = .ok (.bipush 30, 2) := by decide +kernel
theorem dX8_best_20 : decode cX8_best 20 = .ok (.if_icmp .gt 52, 3) := by decide +kernel
theorem dX8_best_23 : decode cX8_best 23 = .ok (.aload_n 0, 1) := by decide +kernel
theorem dX8_best_24 : decode cX8_best 24 = .ok (.iload_n 3, 1) := by decide +kernel
theorem dX8_best_25 : decode cX8_best 25 = .ok (.iload_n 2, 1) := by decide +kernel
theorem dX8_best_26 : decode cX8_best 26 = .ok (.invokevirtual 140, 3) := by decide +kernel
theorem dX8_best_29 : decode cX8_best 29 = .ok (.ifCond .ne 37, 3) := by decide +kernel
theorem dX8_best_32 : decode cX8_best 32 = .ok (.iload_n 1, 1) := by decide +kernel
theorem dX8_best_33 : decode cX8_best 33 = .ok (.bipush (-4), 2) := by decide +kernel
theorem dX8_best_35 : decode cX8_best 35 = .ok (.if_icmp .eq 24, 3) := by decide +kernel
theorem dX8_best_38 : decode cX8_best 38 = .ok (.aload_n 0, 1) := by decide +kernel
theorem dX8_best_39 : decode cX8_best 39 = .ok (.iload_n 3, 1) := by decide +kernel
theorem dX8_best_40 : decode cX8_best 40 = .ok (.iload_n 2, 1) := by decide +kernel
theorem dX8_best_41 : decode cX8_best 41 = .ok (.invokevirtual 144, 3) := by decide +kernel
theorem dX8_best_44 : decode cX8_best 44 = .ok (.aload_n 0, 1) := by decide +kernel
theorem dX8_best_45 : decode cX8_best 45 = .ok (.iload_n 1, 1) := by decide +kernel
theorem dX8_best_46 : decode cX8_best 46 = .ok (.bipush 10, 2) := by decide +kernel
theorem dX8_best_48 : decode cX8_best 48 = .ok (.idiv, 1) := by decide +kernel
theorem dX8_best_49 : decode cX8_best 49 = .ok (.iload_n 1, 1) := by decide +kernel
theorem dX8_best_50 : decode cX8_best 50 = .ok (.bipush 10, 2) := by decide +kernel
theorem dX8_best_52 : decode cX8_best 52 = .ok (.irem, 1) := by decide +kernel
theorem dX8_best_53 : decode cX8_best 53 = .ok (.invokevirtual 144, 3) := by decide +kernel
theorem dX8_best_56 : decode cX8_best 56 = .ok (.if_icmp .ge 10, 3) := by decide +kernel
theorem dX8_best_59 : decode cX8_best 59 = .ok (.bipush 10, 2) := by decide +kernel
theorem dX8_best_61 : decode cX8_best 61 = .ok (.iload_n 3, 1) := by decide +kernel
theorem dX8_best_62 : decode cX8_best 62 = .ok (.imul, 1) := by decide +kernel
theorem dX8_best_63 : decode cX8_best 63 = .ok (.iload_n 2, 1) := by decide +kernel
theorem dX8_best_64 : decode cX8_best 64 = .ok (.iadd, 1) := by decide +kernel
theorem dX8_best_65 : decode cX8_best 65 = .ok (.istore_n 1, 1) := by decide +kernel
theorem dX8_best_66 : decode cX8_best 66 = .ok (.iinc 3 1, 3) := by decide +kernel
theorem dX8_best_69 : decode cX8_best 69 = .ok (.goto (-52), 3) := by decide +kernel
theorem dX8_best_72 : decode cX8_best 72 = .ok (.iinc 2 1, 3) := by decide +kernel
theorem dX8_best_75 : decode cX8_best 75 = .ok (.goto (-66), 3) := by decide +kernel
theorem dX8_best_78 : decode cX8_best 78 = .ok (.iload_n 1, 1) := by decide +kernel
theorem dX8_best_79 : decode cX8_best 79 = .ok (.ireturn, 1) := by decide +kernel
theorem dX8_minutes_0 : decode cX8_minutes 0 = .ok (.aload_n 0, 1) := by decide +kernel
theorem dX8_minutes_1 : decode cX8_minutes 1 = .ok (.iload_n 1, 1) := by decide +kernel
theorem dX8_minutes_2 : decode cX8_minutes 2 = .ok (.invokevirtual 115, 3) := by decide +kernel
theorem dX8_minutes_5 : decode cX8_minutes 5 = .ok (.ifCond .ne 5, 3) := by decide +kernel
theorem dX8_minutes_8 : decode cX8_minutes 8 = .ok (.iconst (-1), 1) := by decide +kernel
theorem dX8_minutes_9 : decode cX8_minutes 9 = .ok (.ireturn, 1) := by decide +kernel
theorem dX8_minutes_10 : decode cX8_minutes 10 = .ok (.aload_n 0, 1) := by decide +kernel
theorem dX8_minutes_11 : decode cX8_minutes 11 = .ok (.invokevirtual 133, 3) := by decide +kernel
theorem dX8_minutes_14 : decode cX8_minutes 14 = .ok (.aload_n 0, 1) := by decide +kernel
theorem dX8_minutes_15 : decode cX8_minutes 15 = .ok (.getfield 13, 3) := by decide +kernel
theorem dX8_minutes_18 : decode cX8_minutes 18 = .ok (.iload_n 1, 1) := by decide +kernel
theorem dX8_minutes_19 : decode cX8_minutes 19 = .ok (.iaload, 1) := by decide +kernel
theorem dX8_minutes_20 : decode cX8_minutes 20 = .ok (.aload_n 0, 1) := by decide +kernel
theorem dX8_minutes_21 : decode cX8_minutes 21 = .ok (.iload_n 1, 1) := by decide +kernel
theorem dX8_minutes_22 : decode cX8_minutes 22 = .ok (.aload_n 0, 1) := by decide +kernel
theorem dX8_minutes_23 : decode cX8_minutes 23 = .ok (.getfield 25, 3) := by decide +kernel
theorem dX8_minutes_26 : decode cX8_minutes 26 = .ok (.aload_n 0, 1) := by decide +kernel
theorem dX8_minutes_27 : decode cX8_minutes 27 = .ok (.getfield 29, 3) := by decide +kernel
theorem dX8_minutes_30 : decode cX8_minutes 30 = .ok (.invokevirtual 136, 3) := by decide +kernel
theorem dX8_minutes_33 : decode cX8_minutes 33 = .ok (.isub, 1) := by decide +kernel
theorem dX8_minutes_34 : decode cX8_minutes 34 = .ok (.istore_n 2, 1) := by decide +kernel
theorem dX8_minutes_35 : decode cX8_minutes 35 = .ok (.aload_n 0, 1) := by decide +kernel
theorem dX8_minutes_36 : decode cX8_minutes 36 = .ok (.getfield 7, 3) := by decide +kernel
theorem dX8_minutes_39 : decode cX8_minutes 39 = .ok (.iload_n 1, 1) := by decide +kernel
theorem dX8_minutes_40 : decode cX8_minutes 40 = .ok (.iaload, 1) := by decide +kernel
theorem dX8_minutes_41 : decode cX8_minutes 41 = .ok (.sipush 1000, 3) := by decide +kernel
theorem dX8_minutes_44 : decode cX8_minutes 44 = .ok (.imul, 1) := by decide +kernel
theorem dX8_minutes_45 : decode cX8_minutes 45 = .ok (.aload_n 0, 1) := by decide +kernel
theorem dX8_minutes_46 : decode cX8_minutes 46 = .ok (.getfield 16, 3) := by decide +kernel
theorem dX8_minutes_49 : decode cX8_minutes 49 = .ok (.iload_n 1, 1) := by decide +kernel
theorem dX8_minutes_50 : decode cX8_minutes 50 = .ok (.iaload, 1) := by decide +kernel
theorem dX8_minutes_51 : decode cX8_minutes 51 = .ok (.idiv, 1) := by decide +kernel
theorem dX8_minutes_52 : decode cX8_minutes 52 = .ok (.istore_n 3, 1) := by decide +kernel
theorem dX8_minutes_53 : decode cX8_minutes 53 = .ok (.iload_n 2, 1) := by decide +kernel
theorem dX8_minutes_54 : decode cX8_minutes 54 = .ok (.ifCond .ge 7, 3) := by decide +kernel
theorem dX8_minutes_57 : decode cX8_minutes 57 = .ok (.iconst 0, 1) := by decide +kernel
theorem dX8_minutes_58 : decode cX8_minutes 58 = .ok (.goto 17, 3) := by decide +kernel
theorem dX8_minutes_61 : decode cX8_minutes 61 = .ok (.iload_n 3, 1) := by decide +kernel
theorem dX8_minutes_62 : decode cX8_minutes 62 = .ok (.ifCond .ne 8, 3) := by decide +kernel
theorem dX8_minutes_65 : decode cX8_minutes 65 = .ok (.bipush (-4), 2) := by decide +kernel
theorem dX8_minutes_67 : decode cX8_minutes 67 = .ok (.goto 8, 3) := by decide +kernel
theorem dX8_minutes_70 : decode cX8_minutes 70 = .ok (.iload_n 2, 1) := by decide +kernel
theorem dX8_minutes_71 : decode cX8_minutes 71 = .ok (.iload_n 3, 1) := by decide +kernel
theorem dX8_minutes_72 : decode cX8_minutes 72 = .ok (.idiv, 1) := by decide +kernel
theorem dX8_minutes_73 : decode cX8_minutes 73 = .ok (.iconst 1, 1) := by decide +kernel
theorem dX8_minutes_74 : decode cX8_minutes 74 = .ok (.iadd, 1) := by decide +kernel
theorem dX8_minutes_75 : decode cX8_minutes 75 = .ok (.ireturn, 1) := by decide +kernel
theorem dX8_machine_0 : decode cX8_machine 0 = .ok (.iload_n 1, 1) := by decide +kernel
theorem dX8_machine_1 : decode cX8_machine 1 = .ok (.i2l, 1) := by decide +kernel
theorem dX8_machine_2 : decode cX8_machine 2 = .ok (.lconst 1, 1) := by decide +kernel
theorem dX8_machine_3 : decode cX8_machine 3 = .ok (.ldc2_w 147, 3) := by decide +kernel
theorem dX8_machine_6 : decode cX8_machine 6 = .ok (.invokestatic 102, 3) := by decide +kernel
theorem dX8_machine_9 : decode cX8_machine 9 = .ok (.ifCond .eq 15, 3) := by decide +kernel
theorem dX8_machine_12 : decode cX8_machine 12 = .ok (.iload_n 2, 1) := by decide +kernel
theorem dX8_machine_13 : decode cX8_machine 13 = .ok (.i2l, 1) := by decide +kernel
theorem dX8_machine_14 : decode cX8_machine 14 = .ok (.lconst 1, 1) := by decide +kernel
theorem dX8_machine_15 : decode cX8_machine 15 = .ok (.ldc2_w 125, 3) := by decide +kernel
theorem dX8_machine_18 : decode cX8_machine 18 = .ok (.invokestatic 102, 3) := by decide +kernel
theorem dX8_machine_21 : decode cX8_machine 21 = .ok (.ifCond .ne 5, 3) := by decide +kernel
theorem dX8_machine_24 : decode cX8_machine 24 = .ok (.iconst (-1), 1) := by decide +kernel
theorem dX8_machine_25 : decode cX8_machine 25 = .ok (.ireturn, 1) := by decide +kernel
theorem dX8_machine_26 : decode cX8_machine 26 = .ok (.aload_n 0, 1) := by decide +kernel
theorem dX8_machine_27 : decode cX8_machine 27 = .ok (.getfield 149, 3) := by decide +kernel
theorem dX8_machine_30 : decode cX8_machine 30 = .ok (.iconst 5, 1) := by decide +kernel
theorem dX8_machine_31 : decode cX8_machine 31 = .ok (.if_icmp .ne 6, 3) := by decide +kernel
theorem dX8_machine_34 : decode cX8_machine 34 = .ok (.bipush (-3), 2) := by decide +kernel
theorem dX8_machine_36 : decode cX8_machine 36 = .ok (.ireturn, 1) := by decide +kernel
theorem dX8_machine_37 : decode cX8_machine 37 = .ok (.aload_n 0, 1) := by decide +kernel
theorem dX8_machine_38 : decode cX8_machine 38 = .ok (.getfield 38, 3) := by decide +kernel
theorem dX8_machine_41 : decode cX8_machine 41 = .ok (.aload_n 0, 1) := by decide +kernel
theorem dX8_machine_42 : decode cX8_machine 42 = .ok (.getfield 149, 3) := by decide +kernel
theorem dX8_machine_45 : decode cX8_machine 45 = .ok (.iload_n 1, 1) := by decide +kernel
theorem dX8_machine_46 : decode cX8_machine 46 = .ok (.iastore, 1) := by decide +kernel
theorem dX8_machine_47 : decode cX8_machine 47 = .ok (.aload_n 0, 1) := by decide +kernel
theorem dX8_machine_48 : decode cX8_machine 48 = .ok (.getfield 41, 3) := by decide +kernel
theorem dX8_machine_51 : decode cX8_machine 51 = .ok (.aload_n 0, 1) := by decide +kernel
theorem dX8_machine_52 : decode cX8_machine 52 = .ok (.getfield 149, 3) := by decide +kernel
theorem dX8_machine_55 : decode cX8_machine 55 = .ok (.iload_n 2, 1) := by decide +kernel
theorem dX8_machine_56 : decode cX8_machine 56 = .ok (.iastore, 1) := by decide +kernel
theorem dX8_machine_57 : decode cX8_machine 57 = .ok (.aload_n 0, 1) := by decide +kernel
theorem dX8_machine_58 : decode cX8_machine 58 = .ok (.dup, 1) := by decide +kernel
theorem dX8_machine_59 : decode cX8_machine 59 = .ok (.getfield 149, 3) := by decide +kernel
theorem dX8_machine_62 : decode cX8_machine 62 = .ok (.iconst 1, 1) := by decide +kernel
theorem dX8_machine_63 : decode cX8_machine 63 = .ok (.iadd, 1) := by decide +kernel
theorem dX8_machine_64 : decode cX8_machine 64 = .ok (.putfield 149, 3) := by decide +kernel
theorem dX8_machine_67 : decode cX8_machine 67 = .ok (.aload_n 0, 1) := by decide +kernel
theorem dX8_machine_68 : decode cX8_machine 68 = .ok (.getfield 149, 3) := by decide +kernel
theorem dX8_machine_71 : decode cX8_machine 71 = .ok (.iconst 1, 1) := by decide +kernel
theorem dX8_machine_72 : decode cX8_machine 72 = .ok (.isub, 1) := by decide +kernel
theorem dX8_machine_73 : decode cX8_machine 73 = .ok (.ireturn, 1) := by decide +kernel
theorem dX8_leave_0 : decode cX8_leave 0 = .ok (.aload_n 0, 1) := by decide +kernel
theorem dX8_leave_1 : decode cX8_leave 1 = .ok (.getfield 149, 3) := by decide +kernel
theorem dX8_leave_4 : decode cX8_leave 4 = .ok (.ifCond .ne 6, 3) := by decide +kernel
theorem dX8_leave_7 : decode cX8_leave 7 = .ok (.bipush (-4), 2) := by decide +kernel
theorem dX8_leave_9 : decode cX8_leave 9 = .ok (.ireturn, 1) := by decide +kernel
theorem dX8_leave_10 : decode cX8_leave 10 = .ok (.aload_n 0, 1) := by decide +kernel
theorem dX8_leave_11 : decode cX8_leave 11 = .ok (.dup, 1) := by decide +kernel
theorem dX8_leave_12 : decode cX8_leave 12 = .ok (.getfield 149, 3) := by decide +kernel
theorem dX8_leave_15 : decode cX8_leave 15 = .ok (.iconst 1, 1) := by decide +kernel
theorem dX8_leave_16 : decode cX8_leave 16 = .ok (.isub, 1) := by decide +kernel
theorem dX8_leave_17 : decode cX8_leave 17 = .ok (.putfield 149, 3) := by decide +kernel
theorem dX8_leave_20 : decode cX8_leave 20 = .ok (.aload_n 0, 1) := by decide +kernel
theorem dX8_leave_21 : decode cX8_leave 21 = .ok (.getfield 149, 3) := by decide +kernel
theorem dX8_leave_24 : decode cX8_leave 24 = .ok (.ireturn, 1) := by decide +kernel
theorem dX8_tryAll_0 : decode cX8_tryAll 0 = .ok (.aload_n 0, 1) := by decide +kernel
theorem dX8_tryAll_1 : decode cX8_tryAll 1 = .ok (.iconst 0, 1) := by decide +kernel
theorem dX8_tryAll_2 : decode cX8_tryAll 2 = .ok (.putfield 152, 3) := by decide +kernel
theorem dX8_tryAll_5 : decode cX8_tryAll 5 = .ok (.aload_n 0, 1) := by decide +kernel
theorem dX8_tryAll_6 : decode cX8_tryAll 6 = .ok (.bipush (-4), 2) := by decide +kernel
theorem dX8_tryAll_8 : decode cX8_tryAll 8 = .ok (.putfield 155, 3) := by decide +kernel
theorem dX8_tryAll_11 : decode cX8_tryAll 11 = .ok (.iconst 1, 1) := by decide +kernel
theorem dX8_tryAll_12 : decode cX8_tryAll 12 = .ok (.istore_n 1, 1) := by decide +kernel
theorem dX8_tryAll_13 : decode cX8_tryAll 13 = .ok (.iconst 0, 1) := by decide +kernel
theorem dX8_tryAll_14 : decode cX8_tryAll 14 = .ok (.istore_n 2, 1) := by decide +kernel
theorem dX8_tryAll_15 : decode cX8_tryAll 15 = .ok (.iload_n 2, 1) := by decide +kernel
theorem dX8_tryAll_16 : decode cX8_tryAll 16 = .ok (.aload_n 0, 1) := by decide +kernel
theorem dX8_tryAll_17 : decode cX8_tryAll 17 = .ok (.getfield 149, 3) := by decide +kernel
theorem dX8_tryAll_20 : decode cX8_tryAll 20 = .ok (.if_icmp .ge 23, 3) := by decide +kernel
theorem dX8_tryAll_23 : decode cX8_tryAll 23 = .ok (.iload_n 1, 1) := by decide +kernel
theorem dX8_tryAll_24 : decode cX8_tryAll 24 = .ok (.aload_n 0, 1) := by decide +kernel
theorem dX8_tryAll_25 : decode cX8_tryAll 25 = .ok (.getfield 112, 3) := by decide +kernel
theorem dX8_tryAll_28 : decode cX8_tryAll 28 = .ok (.imul, 1) := by decide +kernel
theorem dX8_tryAll_29 : decode cX8_tryAll 29 = .ok (.istore_n 1, 1) := by decide +kernel
theorem dX8_tryAll_30 : decode cX8_tryAll 30 = .ok (.aload_n 0, 1) := by decide +kernel
theorem dX8_tryAll_31 : decode cX8_tryAll 31 = .ok (.getfield 57, 3) := by decide +kernel
theorem dX8_tryAll_34 : decode cX8_tryAll 34 = .ok (.iload_n 2, 1) := by decide +kernel
theorem dX8_tryAll_35 : decode cX8_tryAll 35 = .ok (.iconst 0, 1) := by decide +kernel
theorem dX8_tryAll_36 : decode cX8_tryAll 36 = .ok (.iastore, 1) := by decide +kernel
theorem dX8_tryAll_37 : decode cX8_tryAll 37 = .ok (.iinc 2 1, 3) := by decide +kernel
theorem dX8_tryAll_40 : decode cX8_tryAll 40 = .ok (.goto (-25), 3) := by decide +kernel
theorem dX8_tryAll_43 : decode cX8_tryAll 43 = .ok (.iconst 0, 1) := by decide +kernel
theorem dX8_tryAll_44 : decode cX8_tryAll 44 = .ok (.istore_n 2, 1) := by decide +kernel
theorem dX8_tryAll_45 : decode cX8_tryAll 45 = .ok (.iload_n 2, 1) := by decide +kernel
theorem dX8_tryAll_46 : decode cX8_tryAll 46 = .ok (.iload_n 1, 1) := by decide +kernel
theorem dX8_tryAll_47 : decode cX8_tryAll 47 = .ok (.if_icmp .ge 54, 3) := by decide +kernel
theorem dX8_tryAll_50 : decode cX8_tryAll 50 = .ok (.iload_n 2, 1) := by decide +kernel
theorem dX8_tryAll_51 : decode cX8_tryAll 51 = .ok (.istore_n 3, 1) := by decide +kernel
theorem dX8_tryAll_52 : decode cX8_tryAll 52 = .ok (.aload_n 0, 1) := by decide +kernel
theorem dX8_tryAll_53 : decode cX8_tryAll 53 = .ok (.getfield 149, 3) := by decide +kernel
theorem dX8_tryAll_56 : decode cX8_tryAll 56 = .ok (.iconst 1, 1) := by decide +kernel
theorem dX8_tryAll_57 : decode cX8_tryAll 57 = .ok (.isub, 1) := by decide +kernel
theorem dX8_tryAll_58 : decode cX8_tryAll 58 = .ok (.istore 4, 2) := by decide +kernel
theorem dX8_tryAll_60 : decode cX8_tryAll 60 = .ok (.iload 4, 2) := by decide +kernel
theorem dX8_tryAll_62 : decode cX8_tryAll 62 = .ok (.ifCond .lt 29, 3) := by decide +kernel
theorem dX8_tryAll_65 : decode cX8_tryAll 65 = .ok (.aload_n 0, 1) := by decide +kernel
theorem dX8_tryAll_66 : decode cX8_tryAll 66 = .ok (.getfield 57, 3) := by decide +kernel
theorem dX8_tryAll_69 : decode cX8_tryAll 69 = .ok (.iload 4, 2) := by decide +kernel
theorem dX8_tryAll_71 : decode cX8_tryAll 71 = .ok (.iload_n 3, 1) := by decide +kernel
theorem dX8_tryAll_72 : decode cX8_tryAll 72 = .ok (.aload_n 0, 1) := by decide +kernel
theorem dX8_tryAll_73 : decode cX8_tryAll 73 = .ok (.getfield 112, 3) := by decide +kernel
theorem dX8_tryAll_76 : decode cX8_tryAll 76 = .ok (.irem, 1) := by decide +kernel
theorem dX8_tryAll_77 : decode cX8_tryAll 77 = .ok (.iastore, 1) := by decide +kernel
theorem dX8_tryAll_78 : decode cX8_tryAll 78 = .ok (.iload_n 3, 1) := by decide +kernel
theorem dX8_tryAll_79 : decode cX8_tryAll 79 = .ok (.aload_n 0, 1) := by decide +kernel
theorem dX8_tryAll_80 : decode cX8_tryAll 80 = .ok (.getfield 112, 3) := by decide +kernel
theorem dX8_tryAll_83 : decode cX8_tryAll 83 = .ok (.idiv, 1) := by decide +kernel
theorem dX8_tryAll_84 : decode cX8_tryAll 84 = .ok (.istore_n 3, 1) := by decide +kernel
theorem dX8_tryAll_85 : decode cX8_tryAll 85 = .ok (.iinc 4 (-1), 3) := by decide +kernel
theorem dX8_tryAll_88 : decode cX8_tryAll 88 = .ok (.goto (-28), 3) := by decide +kernel
theorem dX8_tryAll_91 : decode cX8_tryAll 91 = .ok (.aload_n 0, 1) := by decide +kernel
theorem dX8_tryAll_92 : decode cX8_tryAll 92 = .ok (.invokevirtual 158, 3) := by decide +kernel
theorem dX8_tryAll_95 : decode cX8_tryAll 95 = .ok (.iinc 2 1, 3) := by decide +kernel
theorem dX8_tryAll_98 : decode cX8_tryAll 98 = .ok (.goto (-53), 3) := by decide +kernel
theorem dX8_tryAll_101 : decode cX8_tryAll 101 = .ok (.aload_n 0, 1) := by decide +kernel
theorem dX8_tryAll_102 : decode cX8_tryAll 102 = .ok (.invokevirtual 133, 3) := by decide +kernel
theorem dX8_tryAll_105 : decode cX8_tryAll 105 = .ok (.return_, 1) := by decide +kernel
theorem dX8_tryRow_0 : decode cX8_tryRow 0 = .ok (.aload_n 0, 1) := by decide +kernel
theorem dX8_tryRow_1 : decode cX8_tryRow 1 = .ok (.invokevirtual 133, 3) := by decide +kernel
theorem dX8_tryRow_4 : decode cX8_tryRow 4 = .ok (.iconst 0, 1) := by decide +kernel
theorem dX8_tryRow_5 : decode cX8_tryRow 5 = .ok (.istore_n 1, 1) := by decide +kernel
theorem dX8_tryRow_6 : decode cX8_tryRow 6 = .ok (.iload_n 1, 1) := by decide +kernel
theorem dX8_tryRow_7 : decode cX8_tryRow 7 = .ok (.bipush 8, 2) := by decide +kernel
theorem dX8_tryRow_9 : decode cX8_tryRow 9 = .ok (.if_icmp .ge 16, 3) := by decide +kernel
theorem dX8_tryRow_12 : decode cX8_tryRow 12 = .ok (.aload_n 0, 1) := by decide +kernel
theorem dX8_tryRow_13 : decode cX8_tryRow 13 = .ok (.getfield 60, 3) := by decide +kernel
theorem dX8_tryRow_16 : decode cX8_tryRow 16 = .ok (.iload_n 1, 1) := by decide +kernel
theorem dX8_tryRow_17 : decode cX8_tryRow 17 = .ok (.iconst 0, 1) := by decide +kernel
theorem dX8_tryRow_18 : decode cX8_tryRow 18 = .ok (.iastore, 1) := by decide +kernel
theorem dX8_tryRow_19 : decode cX8_tryRow 19 = .ok (.iinc 1 1, 3) := by decide +kernel
theorem dX8_tryRow_22 : decode cX8_tryRow 22 = .ok (.goto (-16), 3) := by decide +kernel
theorem dX8_tryRow_25 : decode cX8_tryRow 25 = .ok (.iconst 1, 1) := by decide +kernel
theorem dX8_tryRow_26 : decode cX8_tryRow 26 = .ok (.istore_n 1, 1) := by decide +kernel
theorem dX8_tryRow_27 : decode cX8_tryRow 27 = .ok (.iconst 0, 1) := by decide +kernel
theorem dX8_tryRow_28 : decode cX8_tryRow 28 = .ok (.istore_n 2, 1) := by decide +kernel
theorem dX8_tryRow_29 : decode cX8_tryRow 29 = .ok (.iload_n 2, 1) := by decide +kernel
theorem dX8_tryRow_30 : decode cX8_tryRow 30 = .ok (.aload_n 0, 1) := by decide +kernel
theorem dX8_tryRow_31 : decode cX8_tryRow 31 = .ok (.getfield 149, 3) := by decide +kernel
theorem dX8_tryRow_34 : decode cX8_tryRow 34 = .ok (.if_icmp .ge 84, 3) := by decide +kernel
theorem dX8_tryRow_37 : decode cX8_tryRow 37 = .ok (.aload_n 0, 1) := by decide +kernel
theorem dX8_tryRow_38 : decode cX8_tryRow 38 = .ok (.getfield 60, 3) := by decide +kernel
theorem dX8_tryRow_41 : decode cX8_tryRow 41 = .ok (.aload_n 0, 1) := by decide +kernel
theorem dX8_tryRow_42 : decode cX8_tryRow 42 = .ok (.getfield 57, 3) := by decide +kernel
theorem dX8_tryRow_45 : decode cX8_tryRow 45 = .ok (.iload_n 2, 1) := by decide +kernel
theorem dX8_tryRow_46 : decode cX8_tryRow 46 = .ok (.iaload, 1) := by decide +kernel
theorem dX8_tryRow_47 : decode cX8_tryRow 47 = .ok (.dup2, 1) := by decide +kernel
