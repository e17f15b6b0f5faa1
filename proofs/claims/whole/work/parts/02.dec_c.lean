theorem dX11_init_0 : decode cX11_init 0 = .ok (.aload_n 0, 1) := by decide +kernel
theorem dX11_init_1 : decode cX11_init 1 = .ok (.invokespecial 1, 3) := by decide +kernel
theorem dX11_init_4 : decode cX11_init 4 = .ok (.aload_n 0, 1) := by decide +kernel
theorem dX11_init_5 : decode cX11_init 5 = .ok (.bipush 8, 2) := by decide +kernel
theorem dX11_init_7 : decode cX11_init 7 = .ok (.newarray .int, 2) := by decide +kernel
theorem dX11_init_9 : decode cX11_init 9 = .ok (.dup, 1) := by decide +kernel
theorem dX11_init_10 : decode cX11_init 10 = .ok (.iconst 0, 1) := by decide +kernel
theorem dX11_init_11 : decode cX11_init 11 = .ok (.iconst (-1), 1) := by decide +kernel
theorem dX11_init_12 : decode cX11_init 12 = .ok (.iastore, 1) := by decide +kernel
theorem dX11_init_13 : decode cX11_init 13 = .ok (.dup, 1) := by decide +kernel
theorem dX11_init_14 : decode cX11_init 14 = .ok (.iconst 1, 1) := by decide +kernel
theorem dX11_init_15 : decode cX11_init 15 = .ok (.iconst (-1), 1) := by decide +kernel
theorem dX11_init_16 : decode cX11_init 16 = .ok (.iastore, 1) := by decide +kernel
theorem dX11_init_17 : decode cX11_init 17 = .ok (.dup, 1) := by decide +kernel
theorem dX11_init_18 : decode cX11_init 18 = .ok (.iconst 2, 1) := by decide +kernel
theorem dX11_init_19 : decode cX11_init 19 = .ok (.iconst (-1), 1) := by decide +kernel
theorem dX11_init_20 : decode cX11_init 20 = .ok (.iastore, 1) := by decide +kernel
theorem dX11_init_21 : decode cX11_init 21 = .ok (.dup, 1) := by decide +kernel
theorem dX11_init_22 : decode cX11_init 22 = .ok (.iconst 3, 1) := by decide +kernel
theorem dX11_init_23 : decode cX11_init 23 = .ok (.iconst (-1), 1) := by decide +kernel
theorem dX11_init_24 : decode cX11_init 24 = .ok (.iastore, 1) := by decide +kernel
theorem dX11_init_25 : decode cX11_init 25 = .ok (.dup, 1) := by decide +kernel
theorem dX11_init_26 : decode cX11_init 26 = .ok (.iconst 4, 1) := by decide +kernel
theorem dX11_init_27 : decode cX11_init 27 = .ok (.iconst (-1), 1) := by decide +kernel
theorem dX11_init_28 : decode cX11_init 28 = .ok (.iastore, 1) := by decide +kernel
theorem dX11_init_29 : decode cX11_init 29 = .ok (.dup, 1) := by decide +kernel
theorem dX11_init_30 : decode cX11_init 30 = .ok (.iconst 5, 1) := by decide +kernel
theorem dX11_init_31 : decode cX11_init 31 = .ok (.iconst (-1), 1) := by decide +kernel
theorem dX11_init_32 : decode cX11_init 32 = .ok (.iastore, 1) := by decide +kernel
theorem dX11_init_33 : decode cX11_init 33 = .ok (.dup, 1) := by decide +kernel
theorem dX11_init_34 : decode cX11_init 34 = .ok (.bipush 6, 2) := by decide +kernel
theorem dX11_init_36 : decode cX11_init 36 = .ok (.iconst (-1), 1) := by decide +kernel
theorem dX11_init_37 : decode cX11_init 37 = .ok (.iastore, 1) := by decide +kernel
theorem dX11_init_38 : decode cX11_init 38 = .ok (.dup, 1) := by decide +kernel
theorem dX11_init_39 : decode cX11_init 39 = .ok (.bipush 7, 2) := by decide +kernel
theorem dX11_init_41 : decode cX11_init 41 = .ok (.iconst (-1), 1) := by decide +kernel
theorem dX11_init_42 : decode cX11_init 42 = .ok (.iastore, 1) := by decide +kernel
theorem dX11_init_43 : decode cX11_init 43 = .ok (.putfield 7, 3) := by decide +kernel
theorem dX11_init_46 : decode cX11_init 46 = .ok (.aload_n 0, 1) := by decide +kernel
theorem dX11_init_47 : decode cX11_init 47 = .ok (.bipush 8, 2) := by decide +kernel
theorem dX11_init_49 : decode cX11_init 49 = .ok (.newarray .int, 2) := by decide +kernel
theorem dX11_init_51 : decode cX11_init 51 = .ok (.putfield 13, 3) := by decide +kernel
theorem dX11_init_54 : decode cX11_init 54 = .ok (.aload_n 0, 1) := by decide +kernel
theorem dX11_init_55 : decode cX11_init 55 = .ok (.sipush 1152, 3) := by decide +kernel
theorem dX11_init_58 : decode cX11_init 58 = .ok (.newarray .long, 2) := by decide +kernel
theorem dX11_init_60 : decode cX11_init 60 = .ok (.putfield 16, 3) := by decide +kernel
theorem dX11_init_63 : decode cX11_init 63 = .ok (.aload_n 0, 1) := by decide +kernel
theorem dX11_init_64 : decode cX11_init 64 = .ok (.bipush 10, 2) := by decide +kernel
theorem dX11_init_66 : decode cX11_init 66 = .ok (.newarray .int, 2) := by decide +kernel
theorem dX11_init_68 : decode cX11_init 68 = .ok (.dup, 1) := by decide +kernel
theorem dX11_init_69 : decode cX11_init 69 = .ok (.iconst 0, 1) := by decide +kernel
theorem dX11_init_70 : decode cX11_init 70 = .ok (.iconst (-1), 1) := by decide +kernel
theorem dX11_init_71 : decode cX11_init 71 = .ok (.iastore, 1) := by decide +kernel
theorem dX11_init_72 : decode cX11_init 72 = .ok (.dup, 1) := by decide +kernel
theorem dX11_init_73 : decode cX11_init 73 = .ok (.iconst 1, 1) := by decide +kernel
theorem dX11_init_74 : decode cX11_init 74 = .ok (.iconst (-1), 1) := by decide +kernel
theorem dX11_init_75 : decode cX11_init 75 = .ok (.iastore, 1) := by decide +kernel
theorem dX11_init_76 : decode cX11_init 76 = .ok (.dup, 1) := by decide +kernel
theorem dX11_init_77 : decode cX11_init 77 = .ok (.iconst 2, 1) := by decide +kernel
theorem dX11_init_78 : decode cX11_init 78 = .ok (.iconst (-1), 1) := by decide +kernel
theorem dX11_init_79 : decode cX11_init 79 = .ok (.iastore, 1) := by decide +kernel
theorem dX11_init_80 : decode cX11_init 80 = .ok (.dup, 1) := by decide +kernel
theorem dX11_init_81 : decode cX11_init 81 = .ok (.iconst 3, 1) := by decide +kernel
theorem dX11_init_82 : decode cX11_init 82 = .ok (.iconst (-1), 1) := by decide +kernel
theorem dX11_init_83 : decode cX11_init 83 = .ok (.iastore, 1) := by decide +kernel
theorem dX11_init_84 : decode cX11_init 84 = .ok (.dup, 1) := by decide +kernel
theorem dX11_init_85 : decode cX11_init 85 = .ok (.iconst 4, 1) := by decide +kernel
theorem dX11_init_86 : decode cX11_init 86 = .ok (.iconst (-1), 1) := by decide +kernel
theorem dX11_init_87 : decode cX11_init 87 = .ok (.iastore, 1) := by decide +kernel
theorem dX11_init_88 : decode cX11_init 88 = .ok (.dup, 1) := by decide +kernel
theorem dX11_init_89 : decode cX11_init 89 = .ok (.iconst 5, 1) := by decide +kernel
theorem dX11_init_90 : decode cX11_init 90 = .ok (.iconst (-1), 1) := by decide +kernel
theorem dX11_init_91 : decode cX11_init 91 = .ok (.iastore, 1) := by decide +kernel
theorem dX11_init_92 : decode cX11_init 92 = .ok (.dup, 1) := by decide +kernel
theorem dX11_init_93 : decode cX11_init 93 = .ok (.bipush 6, 2) := by decide +kernel
theorem dX11_init_95 : decode cX11_init 95 = .ok (.iconst (-1), 1) := by decide +kernel
theorem dX11_init_96 : decode cX11_init 96 = .ok (.iastore, 1) := by decide +kernel
theorem dX11_init_97 : decode cX11_init 97 = .ok (.dup, 1) := by decide +kernel
theorem dX11_init_98 : decode cX11_init 98 = .ok (.bipush 7, 2) := by decide +kernel
theorem dX11_init_100 : decode cX11_init 100 = .ok (.iconst (-1), 1) := by decide +kernel
theorem dX11_init_101 : decode cX11_init 101 = .ok (.iastore, 1) := by decide +kernel
theorem dX11_init_102 : decode cX11_init 102 = .ok (.dup, 1) := by decide +kernel
theorem dX11_init_103 : decode cX11_init 103 = .ok (.bipush 8, 2) := by decide +kernel
theorem dX11_init_105 : decode cX11_init 105 = .ok (.iconst (-1), 1) := by decide +kernel
theorem dX11_init_106 : decode cX11_init 106 = .ok (.iastore, 1) := by decide +kernel
theorem dX11_init_107 : decode cX11_init 107 = .ok (.dup, 1) := by decide +kernel
theorem dX11_init_108 : decode cX11_init 108 = .ok (.bipush 9, 2) := by decide +kernel
theorem dX11_init_110 : decode cX11_init 110 = .ok (.iconst (-1), 1) := by decide +kernel
theorem dX11_init_111 : decode cX11_init 111 = .ok (.iastore, 1) := by decide +kernel
theorem dX11_init_112 : decode cX11_init 112 = .ok (.putfield 20, 3) := by decide +kernel
theorem dX11_init_115 : decode cX11_init 115 = .ok (.aload_n 0, 1) := by decide +kernel
theorem dX11_init_116 : decode cX11_init 116 = .ok (.bipush 10, 2) := by decide +kernel
theorem dX11_init_118 : decode cX11_init 118 = .ok (.newarray .int, 2) := by decide +kernel
theorem dX11_init_120 : decode cX11_init 120 = .ok (.putfield 23, 3) := by decide +kernel
theorem dX11_init_123 : decode cX11_init 123 = .ok (.aload_n 0, 1) := by decide +kernel
theorem dX11_init_124 : decode cX11_init 124 = .ok (.bipush 10, 2) := by decide +kernel
theorem dX11_init_126 : decode cX11_init 126 = .ok (.newarray .int, 2) := by decide +kernel
theorem dX11_init_128 : decode cX11_init 128 = .ok (.putfield 26, 3) := by decide +kernel
theorem dX11_init_131 : decode cX11_init 131 = .ok (.aload_n 0, 1) := by decide +kernel
theorem dX11_init_132 : decode cX11_init 132 = .ok (.sipush 1440, 3) := by decide +kernel
theorem dX11_init_135 : decode cX11_init 135 = .ok (.newarray .int, 2) := by decide +kernel
theorem dX11_init_137 : decode cX11_init 137 = .ok (.putfield 29, 3) := by decide +kernel
theorem dX11_init_140 : decode cX11_init 140 = .ok (.aload_n 0, 1) := by decide +kernel
theorem dX11_init_141 : decode cX11_init 141 = .ok (.bipush 10, 2) := by decide +kernel
theorem dX11_init_143 : decode cX11_init 143 = .ok (.newarray .int, 2) := by decide +kernel
theorem dX11_init_145 : decode cX11_init 145 = .ok (.putfield 32, 3) := by decide +kernel
theorem dX11_init_148 : decode cX11_init 148 = .ok (.aload_n 0, 1) := by decide +kernel
theorem dX11_init_149 : decode cX11_init 149 = .ok (.bipush 40, 2) := by decide +kernel
theorem dX11_init_151 : decode cX11_init 151 = .ok (.newarray .int, 2) := by decide +kernel
theorem dX11_init_153 : decode cX11_init 153 = .ok (.putfield 35, 3) := by decide +kernel
theorem dX11_init_156 : decode cX11_init 156 = .ok (.aload_n 0, 1) := by decide +kernel
theorem dX11_init_157 : decode cX11_init 157 = .ok (.sipush 1440, 3) := by decide +kernel
theorem dX11_init_160 : decode cX11_init 160 = .ok (.newarray .boolean, 2) := by decide +kernel
theorem dX11_init_162 : decode cX11_init 162 = .ok (.putfield 38, 3) := by decide +kernel
theorem dX11_init_165 : decode cX11_init 165 = .ok (.aload_n 0, 1) := by decide +kernel
theorem dX11_init_166 : decode cX11_init 166 = .ok (.sipush 200, 3) := by decide +kernel
theorem dX11_init_169 : decode cX11_init 169 = .ok (.newarray .int, 2) := by decide +kernel
theorem dX11_init_171 : decode cX11_init 171 = .ok (.putfield 42, 3) := by decide +kernel
theorem dX11_init_174 : decode cX11_init 174 = .ok (.aload_n 0, 1) := by decide +kernel
theorem dX11_init_175 : decode cX11_init 175 = .ok (.bipush 10, 2) := by decide +kernel
theorem dX11_init_177 : decode cX11_init 177 = .ok (.newarray .int, 2) := by decide +kernel
theorem dX11_init_179 : decode cX11_init 179 = .ok (.putfield 45, 3) := by decide +kernel
theorem dX11_init_182 : decode cX11_init 182 = .ok (.aload_n 0, 1) := by decide +kernel
theorem dX11_init_183 : decode cX11_init 183 = .ok (.bipush 10, 2) := by decide +kernel
theorem dX11_init_185 : decode cX11_init 185 = .ok (.newarray .int, 2) := by decide +kernel
theorem dX11_init_187 : decode cX11_init 187 = .ok (.putfield 48, 3) := by decide +kernel
theorem dX11_init_190 : decode cX11_init 190 = .ok (.aload_n 0, 1) := by decide +kernel
theorem dX11_init_191 : decode cX11_init 191 = .ok (.bipush 10, 2) := by decide +kernel
theorem dX11_init_193 : decode cX11_init 193 = .ok (.newarray .int, 2) := by decide +kernel
theorem dX11_init_195 : decode cX11_init 195 = .ok (.dup, 1) := by decide +kernel
theorem dX11_init_196 : decode cX11_init 196 = .ok (.iconst 0, 1) := by decide +kernel
theorem dX11_init_197 : decode cX11_init 197 = .ok (.iconst (-1), 1) := by decide +kernel
theorem dX11_init_198 : decode cX11_init 198 = .ok (.iastore, 1) := by decide +kernel
theorem dX11_init_199 : decode cX11_init 199 = .ok (.dup, 1) := by decide +kernel
theorem dX11_init_200 : decode cX11_init 200 = .ok (.iconst 1, 1) := by decide +kernel
theorem dX11_init_201 : decode cX11_init 201 = .ok (.iconst (-1), 1) := by decide +kernel
theorem dX11_init_202 : decode cX11_init 202 = .ok (.iastore, 1) := by decide +kernel
theorem dX11_init_203 : decode cX11_init 203 = .ok (.dup, 1) := by decide +kernel
theorem dX11_init_204 : decode cX11_init 204 = .ok (.iconst 2, 1) := by decide +kernel
theorem dX11_init_205 : decode cX11_init 205 = .ok (.iconst (-1), 1) := by decide +kernel
theorem dX11_init_206 : decode cX11_init 206 = .ok (.iastore, 1) := by decide +kernel
theorem dX11_init_207 : decode cX11_init 207 = .ok (.dup, 1) := by decide +kernel
theorem dX11_init_208 : decode cX11_init 208 = .ok (.iconst 3, 1) := by decide +kernel
theorem dX11_init_209 : decode cX11_init 209 = .ok (.iconst (-1), 1) := by decide +kernel
theorem dX11_init_210 : decode cX11_init 210 = .ok (.iastore, 1) := by decide +kernel
theorem dX11_init_211 : decode cX11_init 211 = .ok (.dup, 1) := by decide +kernel
theorem dX11_init_212 : decode cX11_init 212 = .ok (.iconst 4, 1) := by decide +kernel
theorem dX11_init_213 : decode cX11_init 213 = .ok (.iconst (-1), 1) := by decide +kernel
theorem dX11_init_214 : decode cX11_init 214 = .ok (.iastore, 1) := by decide +kernel
theorem dX11_init_215 : decode cX11_init 215 = .ok (.dup, 1) := by decide +kernel
theorem dX11_init_216 : decode cX11_init 216 = .ok (.iconst 5, 1) := by decide +kernel
theorem dX11_init_217 : decode cX11_init 217 = .ok (.iconst (-1), 1) := by decide +kernel
theorem dX11_init_218 : decode cX11_init 218 = .ok (.iastore, 1) := by decide +kernel
theorem dX11_init_219 : decode cX11_init 219 = .ok (.dup, 1) := by decide +kernel
theorem dX11_init_220 : decode cX11_init 220 = .ok (.bipush 6, 2) := by decide +kernel
theorem dX11_init_222 : decode cX11_init 222 = .ok (.iconst (-1), 1) := by decide +kernel
theorem dX11_init_223 : decode cX11_init 223 = .ok (.iastore, 1) := by decide +kernel
theorem dX11_init_224 : decode cX11_init 224 = .ok (.dup, 1) := by decide +kernel
theorem dX11_init_225 : decode cX11_init 225 = .ok (.bipush 7, 2) := by decide +kernel
theorem dX11_init_227 : decode cX11_init 227 = .ok (.iconst (-1), 1) := by decide +kernel
theorem dX11_init_228 : decode cX11_init 228 = .ok (.iastore, 1) := by decide +kernel
theorem dX11_init_229 : decode cX11_init 229 = .ok (.dup, 1) := by decide +kernel
theorem dX11_init_230 : decode cX11_init 230 = .ok (.bipush 8, 2) := by decide +kernel
theorem dX11_init_232 : decode cX11_init 232 = .ok (.iconst (-1), 1) := by decide +kernel
theorem dX11_init_233 : decode cX11_init 233 = .ok (.iastore, 1) := by decide +kernel
theorem dX11_init_234 : decode cX11_init 234 = .ok (.dup, 1) := by decide +kernel
theorem dX11_init_235 : decode cX11_init 235 = .ok (.bipush 9, 2) := by decide +kernel
theorem dX11_init_237 : decode cX11_init 237 = .ok (.iconst (-1), 1) := by decide +kernel
theorem dX11_init_238 : decode cX11_init 238 = .ok (.iastore, 1) := by decide +kernel
theorem dX11_init_239 : decode cX11_init 239 = .ok (.putfield 51, 3) := by decide +kernel
theorem dX11_init_242 : decode cX11_init 242 = .ok (.aload_n 0, 1) := by decide +kernel
theorem dX11_init_243 : decode cX11_init 243 = .ok (.bipush 16, 2) := by decide +kernel
theorem dX11_init_245 : decode cX11_init 245 = .ok (.newarray .int, 2) := by decide +kernel
theorem dX11_init_247 : decode cX11_init 247 = .ok (.putfield 54, 3) := by decide +kernel
theorem dX11_init_250 : decode cX11_init 250 = .ok (.aload_n 0, 1) := by decide +kernel
theorem dX11_init_251 : decode cX11_init 251 = .ok (.sipush 144, 3) := by decide +kernel
theorem dX11_init_254 : decode cX11_init 254 = .ok (.newarray .int, 2) := by decide +kernel
theorem dX11_init_256 : decode cX11_init 256 = .ok (.putfield 57, 3) := by decide +kernel
theorem dX11_init_259 : decode cX11_init 259 = .ok (.aload_n 0, 1) := by decide +kernel
theorem dX11_init_260 : decode cX11_init 260 = .ok (.sipush 144, 3) := by decide +kernel
theorem dX11_init_263 : decode cX11_init 263 = .ok (.newarray .int, 2) := by decide +kernel
theorem dX11_init_265 : decode cX11_init 265 = .ok (.putfield 60, 3) := by decide +kernel
theorem dX11_init_268 : decode cX11_init 268 = .ok (.aload_n 0, 1) := by decide +kernel
theorem dX11_init_269 : decode cX11_init 269 = .ok (.sipush 144, 3) := by decide +kernel
theorem dX11_init_272 : decode cX11_init 272 = .ok (.newarray .int, 2) := by decide +kernel
theorem dX11_init_274 : decode cX11_init 274 = .ok (.putfield 63, 3) := by decide +kernel
theorem dX11_init_277 : decode cX11_init 277 = .ok (.aload_n 0, 1) := by decide +kernel
theorem dX11_init_278 : decode cX11_init 278 = .ok (.sipush 144, 3) := by decide +kernel
theorem dX11_init_281 : decode cX11_init 281 = .ok (.newarray .int, 2) := by decide +kernel
theorem dX11_init_283 : decode cX11_init 283 = .ok (.putfield 66, 3) := by decide +kernel
theorem dX11_init_286 : decode cX11_init 286 = .ok (.aload_n 0, 1) := by decide +kernel
theorem dX11_init_287 : decode cX11_init 287 = .ok (.sipush 144, 3) := by decide +kernel
theorem dX11_init_290 : decode cX11_init 290 = .ok (.newarray .boolean, 2) := by decide +kernel
theorem dX11_init_292 : decode cX11_init 292 = .ok (.putfield 69, 3) := by decide +kernel
theorem dX11_init_295 : decode cX11_init 295 = .ok (.aload_n 0, 1) := by decide +kernel
theorem dX11_init_296 : decode cX11_init 296 = .ok (.bipush 8, 2) := by decide +kernel
theorem dX11_init_298 : decode cX11_init 298 = .ok (.newarray .int, 2) := by decide +kernel
theorem dX11_init_300 : decode cX11_init 300 = .ok (.putfield 72, 3) := by decide +kernel
theorem dX11_init_303 : decode cX11_init 303 = .ok (.aload_n 0, 1) := by decide +kernel
theorem dX11_init_304 : decode cX11_init 304 = .ok (.bipush 8, 2) := by decide +kernel
theorem dX11_init_306 : decode cX11_init 306 = .ok (.newarray .int, 2) := by decide +kernel
theorem dX11_init_308 : decode cX11_init 308 = .ok (.putfield 75, 3) := by decide +kernel
theorem dX11_init_311 : decode cX11_init 311 = .ok (.aload_n 0, 1) := by decide +kernel
theorem dX11_init_312 : decode cX11_init 312 = .ok (.bipush 8, 2) := by decide +kernel
theorem dX11_init_314 : decode cX11_init 314 = .ok (.newarray .int, 2) := by decide +kernel
theorem dX11_init_316 : decode cX11_init 316 = .ok (.putfield 78, 3) := by decide +kernel
theorem dX11_init_319 : decode cX11_init 319 = .ok (.aload_n 0, 1) := by decide +kernel
theorem dX11_init_320 : decode cX11_init 320 = .ok (.bipush 8, 2) := by decide +kernel
theorem dX11_init_322 : decode cX11_init 322 = .ok (.newarray .int, 2) := by decide +kernel
theorem dX11_init_324 : decode cX11_init 324 = .ok (.putfield 81, 3) := by decide +kernel
theorem dX11_init_327 : decode cX11_init 327 = .ok (.aload_n 0, 1) := by decide +kernel
theorem dX11_init_328 : decode cX11_init 328 = .ok (.bipush 8, 2) := by decide +kernel
theorem dX11_init_330 : decode cX11_init 330 = .ok (.newarray .int, 2) := by decide +kernel
theorem dX11_init_332 : decode cX11_init 332 = .ok (.putfield 84, 3) := by decide +kernel
theorem dX11_init_335 : decode cX11_init 335 = .ok (.aload_n 0, 1) := by decide +kernel
theorem dX11_init_336 : decode cX11_init 336 = .ok (.iconst 3, 1) := by decide +kernel
theorem dX11_init_337 : decode cX11_init 337 = .ok (.newarray .int, 2) := by decide +kernel
theorem dX11_init_339 : decode cX11_init 339 = .ok (.putfield 87, 3) := by decide +kernel
theorem dX11_init_342 : decode cX11_init 342 = .ok (.aload_n 0, 1) := by decide +kernel
theorem dX11_init_343 : decode cX11_init 343 = .ok (.bipush 8, 2) := by decide +kernel
theorem dX11_init_345 : decode cX11_init 345 = .ok (.newarray .int, 2) := by decide +kernel
theorem dX11_init_347 : decode cX11_init 347 = .ok (.putfield 90, 3) := by decide +kernel
theorem dX11_init_350 : decode cX11_init 350 = .ok (.aload_n 0, 1) := by decide +kernel
theorem dX11_init_351 : decode cX11_init 351 = .ok (.bipush 22, 2) := by decide +kernel
theorem dX11_init_353 : decode cX11_init 353 = .ok (.newarray .int, 2) := by decide +kernel
theorem dX11_init_355 : decode cX11_init 355 = .ok (.putfield 93, 3) := by decide +kernel
theorem dX11_init_358 : decode cX11_init 358 = .ok (.aload_n 0, 1) := by decide +kernel
theorem dX11_init_359 : decode cX11_init 359 = .ok (.bipush 6, 2) := by decide +kernel
theorem dX11_init_361 : decode cX11_init 361 = .ok (.newarray .int, 2) := by decide +kernel
theorem dX11_init_363 : decode cX11_init 363 = .ok (.putfield 96, 3) := by decide +kernel
theorem dX11_init_366 : decode cX11_init 366 = .ok (.aload_n 0, 1) := by decide +kernel
theorem dX11_init_367 : decode cX11_init 367 = .ok (.bipush 12, 2) := by decide +kernel
theorem dX11_init_369 : decode cX11_init 369 = .ok (.newarray .int, 2) := by decide +kernel
theorem dX11_init_371 : decode cX11_init 371 = .ok (.putfield 99, 3) := by decide +kernel
theorem dX11_init_374 : decode cX11_init 374 = .ok (.aload_n 0, 1) := by decide +kernel
theorem dX11_init_375 : decode cX11_init 375 = .ok (.bipush 12, 2) := by decide +kernel
theorem dX11_init_377 : decode cX11_init 377 = .ok (.newarray .int, 2) := by decide +kernel
theorem dX11_init_379 : decode cX11_init 379 = .ok (.putfield 102, 3) := by decide +kernel
theorem dX11_init_382 : decode cX11_init 382 = .ok (.aload_n 0, 1) := by decide +kernel
theorem dX11_init_383 : decode cX11_init 383 = .ok (.bipush 12, 2) := by decide +kernel
theorem dX11_init_385 : decode cX11_init 385 = .ok (.newarray .int, 2) := by decide +kernel
theorem dX11_init_387 : decode cX11_init 387 = .ok (.putfield 105, 3) := by decide +kernel
theorem dX11_init_390 : decode cX11_init 390 = .ok (.aload_n 0, 1) := by decide +kernel
theorem dX11_init_391 : decode cX11_init 391 = .ok (.bipush 72, 2) := by decide +kernel
theorem dX11_init_393 : decode cX11_init 393 = .ok (.newarray .int, 2) := by decide +kernel
theorem dX11_init_395 : decode cX11_init 395 = .ok (.putfield 108, 3) := by decide +kernel
theorem dX11_init_398 : decode cX11_init 398 = .ok (.aload_n 0, 1) := by decide +kernel
theorem dX11_init_399 : decode cX11_init 399 = .ok (.bipush 6, 2) := by decide +kernel
theorem dX11_init_401 : decode cX11_init 401 = .ok (.newarray .int, 2) := by decide +kernel
theorem dX11_init_403 : decode cX11_init 403 = .ok (.putfield 111, 3) := by decide +kernel
theorem dX11_init_406 : decode cX11_init 406 = .ok (.aload_n 0, 1) := by decide +kernel
theorem dX11_init_407 : decode cX11_init 407 = .ok (.bipush 6, 2) := by decide +kernel
theorem dX11_init_409 : decode cX11_init 409 = .ok (.newarray .int, 2) := by decide +kernel
theorem dX11_init_411 : decode cX11_init 411 = .ok (.putfield 114, 3) := by decide +kernel
theorem dX11_init_414 : decode cX11_init 414 = .ok (.aload_n 0, 1) := by decide +kernel
theorem dX11_init_415 : decode cX11_init 415 = .ok (.ldc 117, 2) := by decide +kernel
theorem dX11_init_417 : decode cX11_init 417 = .ok (.newarray .int, 2) := by decide +kernel
theorem dX11_init_419 : decode cX11_init 419 = .ok (.putfield 118, 3) := by decide +kernel
theorem dX11_init_422 : decode cX11_init 422 = .ok (.aload_n 0, 1) := by decide +kernel
theorem dX11_init_423 : decode cX11_init 423 = .ok (.bipush 12, 2) := by decide +kernel
theorem dX11_init_425 : decode cX11_init 425 = .ok (.newarray .int, 2) := by decide +kernel
theorem dX11_init_427 : decode cX11_init 427 = .ok (.putfield 121, 3) := by decide +kernel
theorem dX11_init_430 : decode cX11_init 430 = .ok (.return_, 1) := by decide +kernel
theorem dX11_in_0 : decode cX11_in 0 = .ok (.lload_n 0, 1) := by decide +kernel
theorem dX11_in_1 : decode cX11_in 1 = .ok (.lload_n 2, 1) := by decide +kernel
theorem dX11_in_2 : decode cX11_in 2 = .ok (.lcmp, 1) := by decide +kernel
theorem dX11_in_3 : decode cX11_in 3 = .ok (.ifCond .lt 14, 3) := by decide +kernel
theorem dX11_in_6 : decode cX11_in 6 = .ok (.lload_n 0, 1) := by decide +kernel
theorem dX11_in_7 : decode cX11_in 7 = .ok (.lload 4, 2) := by decide +kernel
theorem dX11_in_9 : decode cX11_in 9 = .ok (.lcmp, 1) := by decide +kernel
theorem dX11_in_10 : decode cX11_in 10 = .ok (.ifCond .gt 7, 3) := by decide +kernel
theorem dX11_in_13 : decode cX11_in 13 = .ok (.iconst 1, 1) := by decide +kernel
theorem dX11_in_14 : decode cX11_in 14 = .ok (.goto 4, 3) := by decide +kernel
theorem dX11_in_17 : decode cX11_in 17 = .ok (.iconst 0, 1) := by decide +kernel
theorem dX11_in_18 : decode cX11_in 18 = .ok (.ireturn, 1) := by decide +kernel
theorem dX11_found_0 : decode cX11_found 0 = .ok (.aload_n 0, 1) := by decide +kernel
theorem dX11_found_1 : decode cX11_found 1 = .ok (.iload_n 1, 1) := by decide +kernel
theorem dX11_found_2 : decode cX11_found 2 = .ok (.putfield 128, 3) := by decide +kernel
theorem dX11_found_5 : decode cX11_found 5 = .ok (.ldc 131, 2) := by decide +kernel
theorem dX11_found_7 : decode cX11_found 7 = .ok (.iload_n 1, 1) := by decide +kernel
theorem dX11_found_8 : decode cX11_found 8 = .ok (.isub, 1) := by decide +kernel
theorem dX11_found_9 : decode cX11_found 9 = .ok (.ireturn, 1) := by decide +kernel
theorem dX11_isSheet_0 : decode cX11_isSheet 0 = .ok (.iload_n 0, 1) := by decide +kernel
theorem dX11_isSheet_1 : decode cX11_isSheet 1 = .ok (.i2l, 1) := by decide +kernel
theorem dX11_isSheet_2 : decode cX11_isSheet 2 = .ok (.lconst 0, 1) := by decide +kernel
theorem dX11_isSheet_3 : decode cX11_isSheet 3 = .ok (.ldc2_w 132, 3) := by decide +kernel
theorem dX11_isSheet_6 : decode cX11_isSheet 6 = .ok (.invokestatic 134, 3) := by decide +kernel
theorem dX11_isSheet_9 : decode cX11_isSheet 9 = .ok (.ireturn, 1) := by decide +kernel
theorem dX11_sheet_0 : decode cX11_sheet 0 = .ok (.aload_n 0, 1) := by decide +kernel
theorem dX11_sheet_1 : decode cX11_sheet 1 = .ok (.iconst 0, 1) := by decide +kernel
theorem dX11_sheet_2 : decode cX11_sheet 2 = .ok (.putfield 124, 3) := by decide +kernel
theorem dX11_sheet_5 : decode cX11_sheet 5 = .ok (.iload_n 1, 1) := by decide +kernel
theorem dX11_sheet_6 : decode cX11_sheet 6 = .ok (.invokestatic 138, 3) := by decide +kernel
theorem dX11_sheet_9 : decode cX11_sheet 9 = .ok (.ifCond .eq 22, 3) := by decide +kernel
theorem dX11_sheet_12 : decode cX11_sheet 12 = .ok (.iload_n 2, 1) := by decide +kernel
theorem dX11_sheet_13 : decode cX11_sheet 13 = .ok (.i2l, 1) := by decide +kernel
theorem dX11_sheet_14 : decode cX11_sheet 14 = .ok (.lconst 0, 1) := by decide +kernel
theorem dX11_sheet_15 : decode cX11_sheet 15 = .ok (.ldc2_w 142, 3) := by decide +kernel
theorem dX11_sheet_18 : decode cX11_sheet 18 = .ok (.invokestatic 134, 3) := by decide +kernel
theorem dX11_sheet_21 : decode cX11_sheet 21 = .ok (.ifCond .eq 10, 3) := by decide +kernel
theorem dX11_sheet_24 : decode cX11_sheet 24 = .ok (.iload_n 3, 1) := by decide +kernel
theorem dX11_sheet_25 : decode cX11_sheet 25 = .ok (.sipush 144, 3) := by decide +kernel
theorem dX11_sheet_28 : decode cX11_sheet 28 = .ok (.if_icmp .le 6, 3) := by decide +kernel
theorem dX11_sheet_31 : decode cX11_sheet 31 = .ok (.ldc 144, 2) := by decide +kernel
theorem dX11_sheet_33 : decode cX11_sheet 33 = .ok (.ireturn, 1) := by decide +kernel
theorem dX11_sheet_34 : decode cX11_sheet 34 = .ok (.aload_n 0, 1) := by decide +kernel
theorem dX11_sheet_35 : decode cX11_sheet 35 = .ok (.iconst 0, 1) := by decide +kernel
theorem dX11_sheet_36 : decode cX11_sheet 36 = .ok (.putfield 128, 3) := by decide +kernel
theorem dX11_sheet_39 : decode cX11_sheet 39 = .ok (.iload_n 3, 1) := by decide +kernel
theorem dX11_sheet_40 : decode cX11_sheet 40 = .ok (.ifCond .ge 9, 3) := by decide +kernel
theorem dX11_sheet_43 : decode cX11_sheet 43 = .ok (.aload_n 0, 1) := by decide +kernel
theorem dX11_sheet_44 : decode cX11_sheet 44 = .ok (.iconst 4, 1) := by decide +kernel
theorem dX11_sheet_45 : decode cX11_sheet 45 = .ok (.invokevirtual 145, 3) := by decide +kernel
theorem dX11_sheet_48 : decode cX11_sheet 48 = .ok (.ireturn, 1) := by decide +kernel
theorem dX11_sheet_49 : decode cX11_sheet 49 = .ok (.aload_n 0, 1) := by decide +kernel
theorem dX11_sheet_50 : decode cX11_sheet 50 = .ok (.getfield 7, 3) := by decide +kernel
theorem dX11_sheet_53 : decode cX11_sheet 53 = .ok (.iload_n 1, 1) := by decide +kernel
theorem dX11_sheet_54 : decode cX11_sheet 54 = .ok (.iload_n 2, 1) := by decide +kernel
theorem dX11_sheet_55 : decode cX11_sheet 55 = .ok (.iastore, 1) := by decide +kernel
theorem dX11_sheet_56 : decode cX11_sheet 56 = .ok (.aload_n 0, 1) := by decide +kernel
theorem dX11_sheet_57 : decode cX11_sheet 57 = .ok (.getfield 13, 3) := by decide +kernel
theorem dX11_sheet_60 : decode cX11_sheet 60 = .ok (.iload_n 1, 1) := by decide +kernel
theorem dX11_sheet_61 : decode cX11_sheet 61 = .ok (.iload_n 3, 1) := by decide +kernel
theorem dX11_sheet_62 : decode cX11_sheet 62 = .ok (.iastore, 1) := by decide +kernel
theorem dX11_sheet_63 : decode cX11_sheet 63 = .ok (.iconst 0, 1) := by decide +kernel
theorem dX11_sheet_64 : decode cX11_sheet 64 = .ok (.istore 4, 2) := by decide +kernel
theorem dX11_sheet_66 : decode cX11_sheet 66 = .ok (.iload 4, 2) := by decide +kernel
theorem dX11_sheet_68 : decode cX11_sheet 68 = .ok (.sipush 144, 3) := by decide +kernel
theorem dX11_sheet_71 : decode cX11_sheet 71 = .ok (.if_icmp .ge 23, 3) := by decide +kernel
theorem dX11_sheet_74 : decode cX11_sheet 74 = .ok (.aload_n 0, 1) := by decide +kernel
theorem dX11_sheet_75 : decode cX11_sheet 75 = .ok (.getfield 16, 3) := by decide +kernel
theorem dX11_sheet_78 : decode cX11_sheet 78 = .ok (.sipush 144, 3) := by decide +kernel
theorem dX11_sheet_81 : decode cX11_sheet 81 = .ok (.iload_n 1, 1) := by decide +kernel
theorem dX11_sheet_82 : decode cX11_sheet 82 = .ok (.imul, 1) := by decide +kernel
theorem dX11_sheet_83 : decode cX11_sheet 83 = .ok (.iload 4, 2) := by decide +kernel
theorem dX11_sheet_85 : decode cX11_sheet 85 = .ok (.iadd, 1) := by decide +kernel
theorem dX11_sheet_86 : decode cX11_sheet 86 = .ok (.lconst 0, 1) := by decide +kernel
theorem dX11_sheet_87 : decode cX11_sheet 87 = .ok (.lastore, 1) := by decide +kernel
theorem dX11_sheet_88 : decode cX11_sheet 88 = .ok (.iinc 4 1, 3) := by decide +kernel
theorem dX11_sheet_91 : decode cX11_sheet 91 = .ok (.goto (-25), 3) := by decide +kernel
theorem dX11_sheet_94 : decode cX11_sheet 94 = .ok (.iload_n 3, 1) := by decide +kernel
theorem dX11_sheet_95 : decode cX11_sheet 95 = .ok (.ireturn, 1) := by decide +kernel
theorem dX11_set_0 : decode cX11_set 0 = .ok (.aload_n 0, 1) := by decide +kernel
theorem dX11_set_1 : decode cX11_set 1 = .ok (.iconst 0, 1) := by decide +kernel
theorem dX11_set_2 : decode cX11_set 2 = .ok (.putfield 124, 3) := by decide +kernel
theorem dX11_set_5 : decode cX11_set 5 = .ok (.iload_n 1, 1) := by decide +kernel
theorem dX11_set_6 : decode cX11_set 6 = .ok (.invokestatic 138, 3) := by decide +kernel
theorem dX11_set_9 : decode cX11_set 9 = .ok (.ifCond .ne 7, 3) := by decide +kernel
theorem dX11_set_12 : decode cX11_set 12 = .ok (.ldc2_w 149, 3) := by decide +kernel
theorem dX11_set_15 : decode cX11_set 15 = .ok (.lreturn, 1) := by decide +kernel
theorem dX11_set_16 : decode cX11_set 16 = .ok (.aload_n 0, 1) := by decide +kernel
theorem dX11_set_17 : decode cX11_set 17 = .ok (.iconst 0, 1) := by decide +kernel
theorem dX11_set_18 : decode cX11_set 18 = .ok (.putfield 128, 3) := by decide +kernel
theorem dX11_set_21 : decode cX11_set 21 = .ok (.aload_n 0, 1) := by decide +kernel
theorem dX11_set_22 : decode cX11_set 22 = .ok (.getfield 7, 3) := by decide +kernel
theorem dX11_set_25 : decode cX11_set 25 = .ok (.iload_n 1, 1) := by decide +kernel
theorem dX11_set_26 : decode cX11_set 26 = .ok (.iaload, 1) := by decide +kernel
theorem dX11_set_27 : decode cX11_set 27 = .ok (.ifCond .ge 10, 3) := by decide +kernel
theorem dX11_set_30 : decode cX11_set 30 = .ok (.aload_n 0, 1) := by decide +kernel
theorem dX11_set_31 : decode cX11_set 31 = .ok (.iconst 1, 1) := by decide +kernel
theorem dX11_set_32 : decode cX11_set 32 = .ok (.invokevirtual 145, 3) := by decide +kernel
theorem dX11_set_35 : decode cX11_set 35 = .ok (.i2l, 1) := by decide +kernel
theorem dX11_set_36 : decode cX11_set 36 = .ok (.lreturn, 1) := by decide +kernel
theorem dX11_set_37 : decode cX11_set 37 = .ok (.iload_n 2, 1) := by decide +kernel
theorem dX11_set_38 : decode cX11_set 38 = .ok (.i2l, 1) := by decide +kernel
theorem dX11_set_39 : decode cX11_set 39 = .ok (.lconst 0, 1) := by decide +kernel
theorem dX11_set_40 : decode cX11_set 40 = .ok (.aload_n 0, 1) := by decide +kernel
theorem dX11_set_41 : decode cX11_set 41 = .ok (.getfield 13, 3) := by decide +kernel
theorem dX11_set_44 : decode cX11_set 44 = .ok (.iload_n 1, 1) := by decide +kernel
theorem dX11_set_45 : decode cX11_set 45 = .ok (.iaload, 1) := by decide +kernel
theorem dX11_set_46 : decode cX11_set 46 = .ok (.iconst 1, 1) := by decide +kernel
theorem dX11_set_47 : decode cX11_set 47 = .ok (.isub, 1) := by decide +kernel
theorem dX11_set_48 : decode cX11_set 48 = .ok (.i2l, 1) := by decide +kernel
theorem dX11_set_49 : decode cX11_set 49 = .ok (.invokestatic 134, 3) := by decide +kernel
theorem dX11_set_52 : decode cX11_set 52 = .ok (.ifCond .ne 10, 3) := by decide +kernel
theorem dX11_set_55 : decode cX11_set 55 = .ok (.aload_n 0, 1) := by decide +kernel
theorem dX11_set_56 : decode cX11_set 56 = .ok (.iconst 2, 1) := by decide +kernel
theorem dX11_set_57 : decode cX11_set 57 = .ok (.invokevirtual 145, 3) := by decide +kernel
theorem dX11_set_60 : decode cX11_set 60 = .ok (.i2l, 1) := by decide +kernel
theorem dX11_set_61 : decode cX11_set 61 = .ok (.lreturn, 1) := by decide +kernel
theorem dX11_set_62 : decode cX11_set 62 = .ok (.aload_n 0, 1) := by decide +kernel
theorem dX11_set_63 : decode cX11_set 63 = .ok (.getfield 16, 3) := by decide +kernel
theorem dX11_set_66 : decode cX11_set 66 = .ok (.sipush 144, 3) := by decide +kernel
theorem dX11_set_69 : decode cX11_set 69 = .ok (.iload_n 1, 1) := by decide +kernel
theorem dX11_set_70 : decode cX11_set 70 = .ok (.imul, 1) := by decide +kernel
theorem dX11_set_71 : decode cX11_set 71 = .ok (.iload_n 2, 1) := by decide +kernel
theorem dX11_set_72 : decode cX11_set 72 = .ok (.iadd, 1) := by decide +kernel
theorem dX11_set_73 : decode cX11_set 73 = .ok (.aload_n 0, 1) := by decide +kernel
theorem dX11_set_74 : decode cX11_set 74 = .ok (.getfield 7, 3) := by decide +kernel
theorem dX11_set_77 : decode cX11_set 77 = .ok (.iload_n 1, 1) := by decide +kernel
theorem dX11_set_78 : decode cX11_set 78 = .ok (.iaload, 1) := by decide +kernel
theorem dX11_set_79 : decode cX11_set 79 = .ok (.ifCond .ne 10, 3) := by decide +kernel
theorem dX11_set_82 : decode cX11_set 82 = .ok (.lload_n 3, 1) := by decide +kernel
theorem dX11_set_83 : decode cX11_set 83 = .ok (.l2i, 1) := by decide +kernel
theorem dX11_set_84 : decode cX11_set 84 = .ok (.i2b, 1) := by decide +kernel
theorem dX11_set_85 : decode cX11_set 85 = .ok (.i2l, 1) := by decide +kernel
theorem dX11_set_86 : decode cX11_set 86 = .ok (.goto 20, 3) := by decide +kernel
theorem dX11_set_89 : decode cX11_set 89 = .ok (.aload_n 0, 1) := by decide +kernel
theorem dX11_set_90 : decode cX11_set 90 = .ok (.getfield 7, 3) := by decide +kernel
theorem dX11_set_93 : decode cX11_set 93 = .ok (.iload_n 1, 1) := by decide +kernel
theorem dX11_set_94 : decode cX11_set 94 = .ok (.iaload, 1) := by decide +kernel
theorem dX11_set_95 : decode cX11_set 95 = .ok (.iconst 1, 1) := by decide +kernel
theorem dX11_set_96 : decode cX11_set 96 = .ok (.if_icmp .ne 9, 3) := by decide +kernel
theorem dX11_set_99 : decode cX11_set 99 = .ok (.lload_n 3, 1) := by decide +kernel
theorem dX11_set_100 : decode cX11_set 100 = .ok (.l2i, 1) := by decide +kernel
theorem dX11_set_101 : decode cX11_set 101 = .ok (.i2l, 1) := by decide +kernel
theorem dX11_set_102 : decode cX11_set 102 = .ok (.goto 4, 3) := by decide +kernel
theorem dX11_set_105 : decode cX11_set 105 = .ok (.lload_n 3, 1) := by decide +kernel
theorem dX11_set_106 : decode cX11_set 106 = .ok (.lastore, 1) := by decide +kernel
theorem dX11_set_107 : decode cX11_set 107 = .ok (.aload_n 0, 1) := by decide +kernel
theorem dX11_set_108 : decode cX11_set 108 = .ok (.getfield 16, 3) := by decide +kernel
theorem dX11_set_111 : decode cX11_set 111 = .ok (.sipush 144, 3) := by decide +kernel
theorem dX11_set_114 : decode cX11_set 114 = .ok (.iload_n 1, 1) := by decide +kernel
theorem dX11_set_115 : decode cX11_set 115 = .ok (.imul, 1) := by decide +kernel
theorem dX11_set_116 : decode cX11_set 116 = .ok (.iload_n 2, 1) := by decide +kernel
theorem dX11_set_117 : decode cX11_set 117 = .ok (.iadd, 1) := by decide +kernel
theorem dX11_set_118 : decode cX11_set 118 = .ok (.laload, 1) := by decide +kernel
theorem dX11_set_119 : decode cX11_set 119 = .ok (.lreturn, 1) := by decide +kernel
theorem dX11_copy_0 : decode cX11_copy 0 = .ok (.aload_n 0, 1) := by decide +kernel
theorem dX11_copy_1 : decode cX11_copy 1 = .ok (.iconst 0, 1) := by decide +kernel
theorem dX11_copy_2 : decode cX11_copy 2 = .ok (.putfield 124, 3) := by decide +kernel
theorem dX11_copy_5 : decode cX11_copy 5 = .ok (.iload_n 1, 1) := by decide +kernel
theorem dX11_copy_6 : decode cX11_copy 6 = .ok (.invokestatic 138, 3) := by decide +kernel
theorem dX11_copy_9 : decode cX11_copy 9 = .ok (.ifCond .eq 10, 3) := by decide +kernel
theorem dX11_copy_12 : decode cX11_copy 12 = .ok (.iload_n 3, 1) := by decide +kernel
theorem dX11_copy_13 : decode cX11_copy 13 = .ok (.invokestatic 138, 3) := by decide +kernel
theorem dX11_copy_16 : decode cX11_copy 16 = .ok (.ifCond .ne 6, 3) := by decide +kernel
theorem dX11_copy_19 : decode cX11_copy 19 = .ok (.ldc 144, 2) := by decide +kernel
theorem dX11_copy_21 : decode cX11_copy 21 = .ok (.ireturn, 1) := by decide +kernel
theorem dX11_copy_22 : decode cX11_copy 22 = .ok (.aload_n 0, 1) := by decide +kernel
theorem dX11_copy_23 : decode cX11_copy 23 = .ok (.iconst 0, 1) := by decide +kernel
theorem dX11_copy_24 : decode cX11_copy 24 = .ok (.putfield 128, 3) := by decide +kernel
theorem dX11_copy_27 : decode cX11_copy 27 = .ok (.aload_n 0, 1) := by decide +kernel
theorem dX11_copy_28 : decode cX11_copy 28 = .ok (.getfield 7, 3) := by decide +kernel
theorem dX11_copy_31 : decode cX11_copy 31 = .ok (.iload_n 1, 1) := by decide +kernel
theorem dX11_copy_32 : decode cX11_copy 32 = .ok (.iaload, 1) := by decide +kernel
theorem dX11_copy_33 : decode cX11_copy 33 = .ok (.ifCond .lt 12, 3) := by decide +kernel
theorem dX11_copy_36 : decode cX11_copy 36 = .ok (.aload_n 0, 1) := by decide +kernel
theorem dX11_copy_37 : decode cX11_copy 37 = .ok (.getfield 7, 3) := by decide +kernel
theorem dX11_copy_40 : decode cX11_copy 40 = .ok (.iload_n 3, 1) := by decide +kernel
theorem dX11_copy_41 : decode cX11_copy 41 = .ok (.iaload, 1) := by decide +kernel
theorem dX11_copy_42 : decode cX11_copy 42 = .ok (.ifCond .ge 9, 3) := by decide +kernel
theorem dX11_copy_45 : decode cX11_copy 45 = .ok (.aload_n 0, 1) := by decide +kernel
theorem dX11_copy_46 : decode cX11_copy 46 = .ok (.iconst 1, 1) := by decide +kernel
theorem dX11_copy_47 : decode cX11_copy 47 = .ok (.invokevirtual 145, 3) := by decide +kernel
theorem dX11_copy_50 : decode cX11_copy 50 = .ok (.ireturn, 1) := by decide +kernel
theorem dX11_copy_51 : decode cX11_copy 51 = .ok (.aload_n 0, 1) := by decide +kernel
theorem dX11_copy_52 : decode cX11_copy 52 = .ok (.getfield 7, 3) := by decide +kernel
theorem dX11_copy_55 : decode cX11_copy 55 = .ok (.iload_n 1, 1) := by decide +kernel
theorem dX11_copy_56 : decode cX11_copy 56 = .ok (.iaload, 1) := by decide +kernel
theorem dX11_copy_57 : decode cX11_copy 57 = .ok (.aload_n 0, 1) := by decide +kernel
theorem dX11_copy_58 : decode cX11_copy 58 = .ok (.getfield 7, 3) := by decide +kernel
theorem dX11_copy_61 : decode cX11_copy 61 = .ok (.iload_n 3, 1) := by decide +kernel
theorem dX11_copy_62 : decode cX11_copy 62 = .ok (.iaload, 1) := by decide +kernel
theorem dX11_copy_63 : decode cX11_copy 63 = .ok (.if_icmp .eq 9, 3) := by decide +kernel
theorem dX11_copy_66 : decode cX11_copy 66 = .ok (.aload_n 0, 1) := by decide +kernel
theorem dX11_copy_67 : decode cX11_copy 67 = .ok (.iconst 5, 1) := by decide +kernel
theorem dX11_copy_68 : decode cX11_copy 68 = .ok (.invokevirtual 145, 3) := by decide +kernel
theorem dX11_copy_71 : decode cX11_copy 71 = .ok (.ireturn, 1) := by decide +kernel
theorem dX11_copy_72 : decode cX11_copy 72 = .ok (.iload_n 2, 1) := by decide +kernel
theorem dX11_copy_73 : decode cX11_copy 73 = .ok (.ifCond .lt 48, 3) := by decide +kernel
theorem dX11_copy_76 : decode cX11_copy 76 = .ok (.iload 4, 2) := by decide +kernel
theorem dX11_copy_78 : decode cX11_copy 78 = .ok (.ifCond .lt 43, 3) := by decide +kernel
theorem dX11_copy_81 : decode cX11_copy 81 = .ok (.iload 5, 2) := by decide +kernel
theorem dX11_copy_83 : decode cX11_copy 83 = .ok (.ifCond .lt 38, 3) := by decide +kernel
theorem dX11_copy_86 : decode cX11_copy 86 = .ok (.iload_n 2, 1) := by decide +kernel
theorem dX11_copy_87 : decode cX11_copy 87 = .ok (.i2l, 1) := by decide +kernel
theorem dX11_copy_88 : decode cX11_copy 88 = .ok (.iload 5, 2) := by decide +kernel
theorem dX11_copy_90 : decode cX11_copy 90 = .ok (.i2l, 1) := by decide +kernel
theorem dX11_copy_91 : decode cX11_copy 91 = .ok (.ladd, 1) := by decide +kernel
theorem dX11_copy_92 : decode cX11_copy 92 = .ok (.aload_n 0, 1) := by decide +kernel
theorem dX11_copy_93 : decode cX11_copy 93 = .ok (.getfield 13, 3) := by decide +kernel
theorem dX11_copy_96 : decode cX11_copy 96 = .ok (.iload_n 1, 1) := by decide +kernel
theorem dX11_copy_97 : decode cX11_copy 97 = .ok (.iaload, 1) := by decide +kernel
theorem dX11_copy_98 : decode cX11_copy 98 = .ok (.i2l, 1) := by decide +kernel
theorem dX11_copy_99 : decode cX11_copy 99 = .ok (.lcmp, 1) := by decide +kernel
theorem dX11_copy_100 : decode cX11_copy 100 = .ok (.ifCond .gt 21, 3) := by decide +kernel
theorem dX11_copy_103 : decode cX11_copy 103 = .ok (.iload 4, 2) := by decide +kernel
theorem dX11_copy_105 : decode cX11_copy 105 = .ok (.i2l, 1) := by decide +kernel
theorem dX11_copy_106 : decode cX11_copy 106 = .ok (.iload 5, 2) := by decide +kernel
theorem dX11_copy_108 : decode cX11_copy 108 = .ok (.i2l, 1) := by decide +kernel
theorem dX11_copy_109 : decode cX11_copy 109 = .ok (.ladd, 1) := by decide +kernel
theorem dX11_copy_110 : decode cX11_copy 110 = .ok (.aload_n 0, 1) := by decide +kernel
theorem dX11_copy_111 : decode cX11_copy 111 = .ok (.getfield 13, 3) := by decide +kernel
theorem dX11_copy_114 : decode cX11_copy 114 = .ok (.iload_n 3, 1) := by decide +kernel
theorem dX11_copy_115 : decode cX11_copy 115 = .ok (.iaload, 1) := by decide +kernel
theorem dX11_copy_116 : decode cX11_copy 116 = .ok (.i2l, 1) := by decide +kernel
theorem dX11_copy_117 : decode cX11_copy 117 = .ok (.lcmp, 1) := by decide +kernel
theorem dX11_copy_118 : decode cX11_copy 118 = .ok (.ifCond .le 9, 3) := by decide +kernel
theorem dX11_copy_121 : decode cX11_copy 121 = .ok (.aload_n 0, 1) := by decide +kernel
theorem dX11_copy_122 : decode cX11_copy 122 = .ok (.iconst 2, 1) := by decide +kernel
theorem dX11_copy_123 : decode cX11_copy 123 = .ok (.invokevirtual 145, 3) := by decide +kernel
theorem dX11_copy_126 : decode cX11_copy 126 = .ok (.ireturn, 1) := by decide +kernel
theorem dX11_copy_127 : decode cX11_copy 127 = .ok (.iload_n 2, 1) := by decide +kernel
theorem dX11_copy_128 : decode cX11_copy 128 = .ok (.iload 4, 2) := by decide +kernel
theorem dX11_copy_130 : decode cX11_copy 130 = .ok (.if_icmp .lt 7, 3) := by decide +kernel
theorem dX11_copy_133 : decode cX11_copy 133 = .ok (.iconst 1, 1) := by decide +kernel
theorem dX11_copy_134 : decode cX11_copy 134 = .ok (.goto 4, 3) := by decide +kernel
theorem dX11_copy_137 : decode cX11_copy 137 = .ok (.iconst 0, 1) := by decide +kernel
theorem dX11_copy_138 : decode cX11_copy 138 = .ok (.istore 6, 2) := by decide +kernel
theorem dX11_copy_140 : decode cX11_copy 140 = .ok (.iconst 0, 1) := by decide +kernel
theorem dX11_copy_141 : decode cX11_copy 141 = .ok (.istore 7, 2) := by decide +kernel
theorem dX11_copy_143 : decode cX11_copy 143 = .ok (.iload 7, 2) := by decide +kernel
theorem dX11_copy_145 : decode cX11_copy 145 = .ok (.iload 5, 2) := by decide +kernel
theorem dX11_copy_147 : decode cX11_copy 147 = .ok (.if_icmp .ge 59, 3) := by decide +kernel
theorem dX11_copy_150 : decode cX11_copy 150 = .ok (.iload 6, 2) := by decide +kernel
theorem dX11_copy_152 : decode cX11_copy 152 = .ok (.ifCond .eq 8, 3) := by decide +kernel
theorem dX11_copy_155 : decode cX11_copy 155 = .ok (.iload 7, 2) := by decide +kernel
theorem dX11_copy_157 : decode cX11_copy 157 = .ok (.goto 10, 3) := by decide +kernel
theorem dX11_copy_160 : decode cX11_copy 160 = .ok (.iload 5, 2) := by decide +kernel
theorem dX11_copy_162 : decode cX11_copy 162 = .ok (.iconst 1, 1) := by decide +kernel
theorem dX11_copy_163 : decode cX11_copy 163 = .ok (.isub, 1) := by decide +kernel
theorem dX11_copy_164 : decode cX11_copy 164 = .ok (.iload 7, 2) := by decide +kernel
theorem dX11_copy_166 : decode cX11_copy 166 = .ok (.isub, 1) := by decide +kernel
theorem dX11_copy_167 : decode cX11_copy 167 = .ok (.istore 8, 2) := by decide +kernel
theorem dX11_copy_169 : decode cX11_copy 169 = .ok (.aload_n 0, 1) := by decide +kernel
theorem dX11_copy_170 : decode cX11_copy 170 = .ok (.getfield 16, 3) := by decide +kernel
theorem dX11_copy_173 : decode cX11_copy 173 = .ok (.sipush 144, 3) := by decide +kernel
theorem dX11_copy_176 : decode cX11_copy 176 = .ok (.iload_n 3, 1) := by decide +kernel
theorem dX11_copy_177 : decode cX11_copy 177 = .ok (.imul, 1) := by decide +kernel
theorem dX11_copy_178 : decode cX11_copy 178 = .ok (.iload 4, 2) := by decide +kernel
theorem dX11_copy_180 : decode cX11_copy 180 = .ok (.iadd, 1) := by decide +kernel
theorem dX11_copy_181 : decode cX11_copy 181 = .ok (.iload 8, 2) := by decide +kernel
theorem dX11_copy_183 : decode cX11_copy 183 = .ok (.iadd, 1) := by decide +kernel
theorem dX11_copy_184 : decode cX11_copy 184 = .ok (.aload_n 0, 1) := by decide +kernel
theorem dX11_copy_185 : decode cX11_copy 185 = .ok (.getfield 16, 3) := by decide +kernel
theorem dX11_copy_188 : decode cX11_copy 188 = .ok (.sipush 144, 3) := by decide +kernel
theorem dX11_copy_191 : decode cX11_copy 191 = .ok (.iload_n 1, 1) := by decide +kernel
theorem dX11_copy_192 : decode cX11_copy 192 = .ok (.imul, 1) := by decide +kernel
theorem dX11_copy_193 : decode cX11_copy 193 = .ok (.iload_n 2, 1) := by decide +kernel
theorem dX11_copy_194 : decode cX11_copy 194 = .ok (.iadd, 1) := by decide +kernel
theorem dX11_copy_195 : decode cX11_copy 195 = .ok (.iload 8, 2) := by decide +kernel
theorem dX11_copy_197 : decode cX11_copy 197 = .ok (.iadd, 1) := by decide +kernel
theorem dX11_copy_198 : decode cX11_copy 198 = .ok (.laload, 1) := by decide +kernel
theorem dX11_copy_199 : decode cX11_copy 199 = .ok (.lastore, 1) := by decide +kernel
theorem dX11_copy_200 : decode cX11_copy 200 = .ok (.iinc 7 1, 3) := by decide +kernel
theorem dX11_copy_203 : decode cX11_copy 203 = .ok (.goto (-60), 3) := by decide +kernel
theorem dX11_copy_206 : decode cX11_copy 206 = .ok (.iload 5, 2) := by decide +kernel
theorem dX11_copy_208 : decode cX11_copy 208 = .ok (.ireturn, 1) := by decide +kernel
theorem dX11_drop_0 : decode cX11_drop 0 = .ok (.aload_n 0, 1) := by decide +kernel
theorem dX11_drop_1 : decode cX11_drop 1 = .ok (.iconst 0, 1) := by decide +kernel
theorem dX11_drop_2 : decode cX11_drop 2 = .ok (.putfield 124, 3) := by decide +kernel
theorem dX11_drop_5 : decode cX11_drop 5 = .ok (.iload_n 1, 1) := by decide +kernel
theorem dX11_drop_6 : decode cX11_drop 6 = .ok (.invokestatic 138, 3) := by decide +kernel
theorem dX11_drop_9 : decode cX11_drop 9 = .ok (.ifCond .ne 6, 3) := by decide +kernel
theorem dX11_drop_12 : decode cX11_drop 12 = .ok (.ldc 144, 2) := by decide +kernel
theorem dX11_drop_14 : decode cX11_drop 14 = .ok (.ireturn, 1) := by decide +kernel
theorem dX11_drop_15 : decode cX11_drop 15 = .ok (.aload_n 0, 1) := by decide +kernel
theorem dX11_drop_16 : decode cX11_drop 16 = .ok (.iconst 0, 1) := by decide +kernel
theorem dX11_drop_17 : decode cX11_drop 17 = .ok (.putfield 128, 3) := by decide +kernel
theorem dX11_drop_20 : decode cX11_drop 20 = .ok (.aload_n 0, 1) := by decide +kernel
theorem dX11_drop_21 : decode cX11_drop 21 = .ok (.getfield 7, 3) := by decide +kernel
theorem dX11_drop_24 : decode cX11_drop 24 = .ok (.iload_n 1, 1) := by decide +kernel
theorem dX11_drop_25 : decode cX11_drop 25 = .ok (.iaload, 1) := by decide +kernel
theorem dX11_drop_26 : decode cX11_drop 26 = .ok (.ifCond .ge 9, 3) := by decide +kernel
theorem dX11_drop_29 : decode cX11_drop 29 = .ok (.aload_n 0, 1) := by decide +kernel
theorem dX11_drop_30 : decode cX11_drop 30 = .ok (.iconst 1, 1) := by decide +kernel
theorem dX11_drop_31 : decode cX11_drop 31 = .ok (.invokevirtual 145, 3) := by decide +kernel
theorem dX11_drop_34 : decode cX11_drop 34 = .ok (.ireturn, 1) := by decide +kernel
theorem dX11_drop_35 : decode cX11_drop 35 = .ok (.aload_n 0, 1) := by decide +kernel
theorem dX11_drop_36 : decode cX11_drop 36 = .ok (.getfield 7, 3) := by decide +kernel
theorem dX11_drop_39 : decode cX11_drop 39 = .ok (.iload_n 1, 1) := by decide +kernel
theorem dX11_drop_40 : decode cX11_drop 40 = .ok (.iconst (-1), 1) := by decide +kernel
theorem dX11_drop_41 : decode cX11_drop 41 = .ok (.iastore, 1) := by decide +kernel
theorem dX11_drop_42 : decode cX11_drop 42 = .ok (.aload_n 0, 1) := by decide +kernel
theorem dX11_drop_43 : decode cX11_drop 43 = .ok (.getfield 13, 3) := by decide +kernel
theorem dX11_drop_46 : decode cX11_drop 46 = .ok (.iload_n 1, 1) := by decide +kernel
theorem dX11_drop_47 : decode cX11_drop 47 = .ok (.iaload, 1) := by decide +kernel
theorem dX11_drop_48 : decode cX11_drop 48 = .ok (.ireturn, 1) := by decide +kernel
theorem dX11_isPlace_0 : decode cX11_isPlace 0 = .ok (.iload_n 0, 1) := by decide +kernel
theorem dX11_isPlace_1 : decode cX11_isPlace 1 = .ok (.i2l, 1) := by decide +kernel
theorem dX11_isPlace_2 : decode cX11_isPlace 2 = .ok (.lconst 0, 1) := by decide +kernel
theorem dX11_isPlace_3 : decode cX11_isPlace 3 = .ok (.ldc2_w 151, 3) := by decide +kernel
theorem dX11_isPlace_6 : decode cX11_isPlace 6 = .ok (.invokestatic 134, 3) := by decide +kernel
theorem dX11_isPlace_9 : decode cX11_isPlace 9 = .ok (.ireturn, 1) := by decide +kernel
theorem dX11_hasItems_0 : decode cX11_hasItems 0 = .ok (.iload_n 2, 1) := by decide +kernel
theorem dX11_hasItems_1 : decode cX11_hasItems 1 = .ok (.ifCond .lt 23, 3) := by decide +kernel
theorem dX11_hasItems_4 : decode cX11_hasItems 4 = .ok (.iload_n 2, 1) := by decide +kernel
theorem dX11_hasItems_5 : decode cX11_hasItems 5 = .ok (.i2l, 1) := by decide +kernel
theorem dX11_hasItems_6 : decode cX11_hasItems 6 = .ok (.iload_n 3, 1) := by decide +kernel
theorem dX11_hasItems_7 : decode cX11_hasItems 7 = .ok (.i2l, 1) := by decide +kernel
theorem dX11_hasItems_8 : decode cX11_hasItems 8 = .ok (.ladd, 1) := by decide +kernel
theorem dX11_hasItems_9 : decode cX11_hasItems 9 = .ok (.aload_n 0, 1) := by decide +kernel
theorem dX11_hasItems_10 : decode cX11_hasItems 10 = .ok (.getfield 13, 3) := by decide +kernel
theorem dX11_hasItems_13 : decode cX11_hasItems 13 = .ok (.iload_n 1, 1) := by decide +kernel
theorem dX11_hasItems_14 : decode cX11_hasItems 14 = .ok (.iaload, 1) := by decide +kernel
theorem dX11_hasItems_15 : decode cX11_hasItems 15 = .ok (.i2l, 1) := by decide +kernel
theorem dX11_hasItems_16 : decode cX11_hasItems 16 = .ok (.lcmp, 1) := by decide +kernel
theorem dX11_hasItems_17 : decode cX11_hasItems 17 = .ok (.ifCond .gt 7, 3) := by decide +kernel
theorem dX11_hasItems_20 : decode cX11_hasItems 20 = .ok (.iconst 1, 1) := by decide +kernel
theorem dX11_hasItems_21 : decode cX11_hasItems 21 = .ok (.goto 4, 3) := by decide +kernel
theorem dX11_hasItems_24 : decode cX11_hasItems 24 = .ok (.iconst 0, 1) := by decide +kernel
theorem dX11_hasItems_25 : decode cX11_hasItems 25 = .ok (.ireturn, 1) := by decide +kernel
theorem dX11_part_0 : decode cX11_part 0 = .ok (.aload_n 0, 1) := by decide +kernel
theorem dX11_part_1 : decode cX11_part 1 = .ok (.iconst 0, 1) := by decide +kernel
theorem dX11_part_2 : decode cX11_part 2 = .ok (.putfield 124, 3) := by decide +kernel
theorem dX11_part_5 : decode cX11_part 5 = .ok (.iload_n 1, 1) := by decide +kernel
theorem dX11_part_6 : decode cX11_part 6 = .ok (.invokestatic 153, 3) := by decide +kernel
theorem dX11_part_9 : decode cX11_part 9 = .ok (.ifCond .eq 36, 3) := by decide +kernel
theorem dX11_part_12 : decode cX11_part 12 = .ok (.iload_n 2, 1) := by decide +kernel
theorem dX11_part_13 : decode cX11_part 13 = .ok (.invokestatic 138, 3) := by decide +kernel
theorem dX11_part_16 : decode cX11_part 16 = .ok (.ifCond .eq 29, 3) := by decide +kernel
theorem dX11_part_19 : decode cX11_part 19 = .ok (.iload 4, 2) := by decide +kernel
theorem dX11_part_21 : decode cX11_part 21 = .ok (.i2l, 1) := by decide +kernel
theorem dX11_part_22 : decode cX11_part 22 = .ok (.lconst 1, 1) := by decide +kernel
theorem dX11_part_23 : decode cX11_part 23 = .ok (.ldc2_w 156, 3) := by decide +kernel
theorem dX11_part_26 : decode cX11_part 26 = .ok (.invokestatic 134, 3) := by decide +kernel
theorem dX11_part_29 : decode cX11_part 29 = .ok (.ifCond .eq 16, 3) := by decide +kernel
theorem dX11_part_32 : decode cX11_part 32 = .ok (.iload 5, 2) := by decide +kernel
theorem dX11_part_34 : decode cX11_part 34 = .ok (.i2l, 1) := by decide +kernel
theorem dX11_part_35 : decode cX11_part 35 = .ok (.lconst 1, 1) := by decide +kernel
theorem dX11_part_36 : decode cX11_part 36 = .ok (.ldc2_w 156, 3) := by decide +kernel
theorem dX11_part_39 : decode cX11_part 39 = .ok (.invokestatic 134, 3) := by decide +kernel
theorem dX11_part_42 : decode cX11_part 42 = .ok (.ifCond .ne 6, 3) := by decide +kernel
theorem dX11_part_45 : decode cX11_part 45 = .ok (.ldc 144, 2) := by decide +kernel
theorem dX11_part_47 : decode cX11_part 47 = .ok (.ireturn, 1) := by decide +kernel
theorem dX11_part_48 : decode cX11_part 48 = .ok (.aload_n 0, 1) := by decide +kernel
theorem dX11_part_49 : decode cX11_part 49 = .ok (.getfield 51, 3) := by decide +kernel
theorem dX11_part_52 : decode cX11_part 52 = .ok (.iload_n 1, 1) := by decide +kernel
theorem dX11_part_53 : decode cX11_part 53 = .ok (.iaload, 1) := by decide +kernel
theorem dX11_part_54 : decode cX11_part 54 = .ok (.ifCond .lt 6, 3) := by decide +kernel
theorem dX11_part_57 : decode cX11_part 57 = .ok (.ldc 158, 2) := by decide +kernel
theorem dX11_part_59 : decode cX11_part 59 = .ok (.ireturn, 1) := by decide +kernel
theorem dX11_part_60 : decode cX11_part 60 = .ok (.aload_n 0, 1) := by decide +kernel
theorem dX11_part_61 : decode cX11_part 61 = .ok (.getfield 7, 3) := by decide +kernel
theorem dX11_part_64 : decode cX11_part 64 = .ok (.iload_n 2, 1) := by decide +kernel
theorem dX11_part_65 : decode cX11_part 65 = .ok (.iaload, 1) := by decide +kernel
theorem dX11_part_66 : decode cX11_part 66 = .ok (.ifCond .ge 9, 3) := by decide +kernel
theorem dX11_part_69 : decode cX11_part 69 = .ok (.aload_n 0, 1) := by decide +kernel
theorem dX11_part_70 : decode cX11_part 70 = .ok (.iconst 1, 1) := by decide +kernel
theorem dX11_part_71 : decode cX11_part 71 = .ok (.invokevirtual 145, 3) := by decide +kernel
theorem dX11_part_74 : decode cX11_part 74 = .ok (.ireturn, 1) := by decide +kernel
theorem dX11_part_75 : decode cX11_part 75 = .ok (.aload_n 0, 1) := by decide +kernel
theorem dX11_part_76 : decode cX11_part 76 = .ok (.iload_n 2, 1) := by decide +kernel
theorem dX11_part_77 : decode cX11_part 77 = .ok (.iload_n 3, 1) := by decide +kernel
theorem dX11_part_78 : decode cX11_part 78 = .ok (.iload 4, 2) := by decide +kernel
theorem dX11_part_80 : decode cX11_part 80 = .ok (.iload 5, 2) := by decide +kernel
theorem dX11_part_82 : decode cX11_part 82 = .ok (.imul, 1) := by decide +kernel
theorem dX11_part_83 : decode cX11_part 83 = .ok (.invokevirtual 159, 3) := by decide +kernel
theorem dX11_part_86 : decode cX11_part 86 = .ok (.ifCond .ne 9, 3) := by decide +kernel
theorem dX11_part_89 : decode cX11_part 89 = .ok (.aload_n 0, 1) := by decide +kernel
theorem dX11_part_90 : decode cX11_part 90 = .ok (.iconst 2, 1) := by decide +kernel
theorem dX11_part_91 : decode cX11_part 91 = .ok (.invokevirtual 145, 3) := by decide +kernel
theorem dX11_part_94 : decode cX11_part 94 = .ok (.ireturn, 1) := by decide +kernel
theorem dX11_part_95 : decode cX11_part 95 = .ok (.iconst 1, 1) := by decide +kernel
theorem dX11_part_96 : decode cX11_part 96 = .ok (.istore 6, 2) := by decide +kernel
theorem dX11_part_98 : decode cX11_part 98 = .ok (.iconst 0, 1) := by decide +kernel
theorem dX11_part_99 : decode cX11_part 99 = .ok (.istore 7, 2) := by decide +kernel
theorem dX11_part_101 : decode cX11_part 101 = .ok (.iconst 0, 1) := by decide +kernel
theorem dX11_part_102 : decode cX11_part 102 = .ok (.istore 8, 2) := by decide +kernel
theorem dX11_part_104 : decode cX11_part 104 = .ok (.iconst 1, 1) := by decide +kernel
theorem dX11_part_105 : decode cX11_part 105 = .ok (.istore 9, 2) := by decide +kernel
theorem dX11_part_107 : decode cX11_part 107 = .ok (.iconst 0, 1) := by decide +kernel
theorem dX11_part_108 : decode cX11_part 108 = .ok (.istore 10, 2) := by decide +kernel
theorem dX11_part_110 : decode cX11_part 110 = .ok (.iload 10, 2) := by decide +kernel
theorem dX11_part_112 : decode cX11_part 112 = .ok (.iload 4, 2) := by decide +kernel
theorem dX11_part_114 : decode cX11_part 114 = .ok (.iload 5, 2) := by decide +kernel
theorem dX11_part_116 : decode cX11_part 116 = .ok (.imul, 1) := by decide +kernel
theorem dX11_part_117 : decode cX11_part 117 = .ok (.if_icmp .ge 96, 3) := by decide +kernel
theorem dX11_part_120 : decode cX11_part 120 = .ok (.aload_n 0, 1) := by decide +kernel
theorem dX11_part_121 : decode cX11_part 121 = .ok (.getfield 16, 3) := by decide +kernel
theorem dX11_part_124 : decode cX11_part 124 = .ok (.sipush 144, 3) := by decide +kernel
theorem dX11_part_127 : decode cX11_part 127 = .ok (.iload_n 2, 1) := by decide +kernel
theorem dX11_part_128 : decode cX11_part 128 = .ok (.imul, 1) := by decide +kernel
theorem dX11_part_129 : decode cX11_part 129 = .ok (.iload_n 3, 1) := by decide +kernel
theorem dX11_part_130 : decode cX11_part 130 = .ok (.iadd, 1) := by decide +kernel
theorem dX11_part_131 : decode cX11_part 131 = .ok (.iload 10, 2) := by decide +kernel
theorem dX11_part_133 : decode cX11_part 133 = .ok (.iadd, 1) := by decide +kernel
theorem dX11_part_134 : decode cX11_part 134 = .ok (.laload, 1) := by decide +kernel
theorem dX11_part_135 : decode cX11_part 135 = .ok (.lstore 11, 2) := by decide +kernel
theorem dX11_part_137 : decode cX11_part 137 = .ok (.iload 6, 2) := by decide +kernel
theorem dX11_part_139 : decode cX11_part 139 = .ok (.ifCond .eq 19, 3) := by decide +kernel
theorem dX11_part_142 : decode cX11_part 142 = .ok (.lload 11, 2) := by decide +kernel
theorem dX11_part_144 : decode cX11_part 144 = .ok (.lconst 0, 1) := by decide +kernel
theorem dX11_part_145 : decode cX11_part 145 = .ok (.ldc2_w 151, 3) := by decide +kernel
theorem dX11_part_148 : decode cX11_part 148 = .ok (.invokestatic 134, 3) := by decide +kernel
theorem dX11_part_151 : decode cX11_part 151 = .ok (.ifCond .eq 7, 3) := by decide +kernel
theorem dX11_part_154 : decode cX11_part 154 = .ok (.iconst 1, 1) := by decide +kernel
theorem dX11_part_155 : decode cX11_part 155 = .ok (.goto 4, 3) := by decide +kernel
theorem dX11_part_158 : decode cX11_part 158 = .ok (.iconst 0, 1) := by decide +kernel
theorem dX11_part_159 : decode cX11_part 159 = .ok (.istore 6, 2) := by decide +kernel
theorem dX11_part_161 : decode cX11_part 161 = .ok (.lload 11, 2) := by decide +kernel
theorem dX11_part_163 : decode cX11_part 163 = .ok (.lconst 0, 1) := by decide +kernel
theorem dX11_part_164 : decode cX11_part 164 = .ok (.lcmp, 1) := by decide +kernel
theorem dX11_part_165 : decode cX11_part 165 = .ok (.ifCond .eq 42, 3) := by decide +kernel
theorem dX11_part_168 : decode cX11_part 168 = .ok (.iinc 7 1, 3) := by decide +kernel
theorem dX11_part_171 : decode cX11_part 171 = .ok (.iload 8, 2) := by decide +kernel
theorem dX11_part_173 : decode cX11_part 173 = .ok (.ifCond .ne 9, 3) := by decide +kernel
theorem dX11_part_176 : decode cX11_part 176 = .ok (.lload 11, 2) := by decide +kernel
theorem dX11_part_178 : decode cX11_part 178 = .ok (.l2i, 1) := by decide +kernel
theorem dX11_part_179 : decode cX11_part 179 = .ok (.goto 5, 3) := by decide +kernel
theorem dX11_part_182 : decode cX11_part 182 = .ok (.iload 8, 2) := by decide +kernel
theorem dX11_part_184 : decode cX11_part 184 = .ok (.istore 8, 2) := by decide +kernel
theorem dX11_part_186 : decode cX11_part 186 = .ok (.iload 9, 2) := by decide +kernel
theorem dX11_part_188 : decode cX11_part 188 = .ok (.ifCond .eq 16, 3) := by decide +kernel
theorem dX11_part_191 : decode cX11_part 191 = .ok (.lload 11, 2) := by decide +kernel
theorem dX11_part_193 : decode cX11_part 193 = .ok (.iload 8, 2) := by decide +kernel
theorem dX11_part_195 : decode cX11_part 195 = .ok (.i2l, 1) := by decide +kernel
theorem dX11_part_196 : decode cX11_part 196 = .ok (.lcmp, 1) := by decide +kernel
theorem dX11_part_197 : decode cX11_part 197 = .ok (.ifCond .ne 7, 3) := by decide +kernel
theorem dX11_part_200 : decode cX11_part 200 = .ok (.iconst 1, 1) := by decide +kernel
theorem dX11_part_201 : decode cX11_part 201 = .ok (.goto 4, 3) := by decide +kernel
theorem dX11_part_204 : decode cX11_part 204 = .ok (.iconst 0, 1) := by decide +kernel
theorem dX11_part_205 : decode cX11_part 205 = .ok (.istore 9, 2) := by decide +kernel
theorem dX11_part_207 : decode cX11_part 207 = .ok (.iinc 10 1, 3) := by decide +kernel
theorem dX11_part_210 : decode cX11_part 210 = .ok (.goto (-100), 3) := by decide +kernel
theorem dX11_part_213 : decode cX11_part 213 = .ok (.iload 6, 2) := by decide +kernel
theorem dX11_part_215 : decode cX11_part 215 = .ok (.ifCond .eq 8, 3) := by decide +kernel
theorem dX11_part_218 : decode cX11_part 218 = .ok (.iload 7, 2) := by decide +kernel
theorem dX11_part_220 : decode cX11_part 220 = .ok (.ifCond .ne 6, 3) := by decide +kernel
theorem dX11_part_223 : decode cX11_part 223 = .ok (.ldc 144, 2) := by decide +kernel
theorem dX11_part_225 : decode cX11_part 225 = .ok (.ireturn, 1) := by decide +kernel
theorem dX11_part_226 : decode cX11_part 226 = .ok (.aload_n 0, 1) := by decide +kernel
theorem dX11_part_227 : decode cX11_part 227 = .ok (.iconst 0, 1) := by decide +kernel
theorem dX11_part_228 : decode cX11_part 228 = .ok (.putfield 128, 3) := by decide +kernel
theorem dX11_part_231 : decode cX11_part 231 = .ok (.aload_n 0, 1) := by decide +kernel
theorem dX11_part_232 : decode cX11_part 232 = .ok (.getfield 23, 3) := by decide +kernel
theorem dX11_part_235 : decode cX11_part 235 = .ok (.iload_n 1, 1) := by decide +kernel
theorem dX11_part_236 : decode cX11_part 236 = .ok (.iload 4, 2) := by decide +kernel
theorem dX11_part_238 : decode cX11_part 238 = .ok (.iastore, 1) := by decide +kernel
theorem dX11_part_239 : decode cX11_part 239 = .ok (.aload_n 0, 1) := by decide +kernel
theorem dX11_part_240 : decode cX11_part 240 = .ok (.getfield 26, 3) := by decide +kernel
theorem dX11_part_243 : decode cX11_part 243 = .ok (.iload_n 1, 1) := by decide +kernel
theorem dX11_part_244 : decode cX11_part 244 = .ok (.iload 5, 2) := by decide +kernel
theorem dX11_part_246 : decode cX11_part 246 = .ok (.iastore, 1) := by decide +kernel
theorem dX11_part_247 : decode cX11_part 247 = .ok (.aload_n 0, 1) := by decide +kernel
theorem dX11_part_248 : decode cX11_part 248 = .ok (.getfield 32, 3) := by decide +kernel
theorem dX11_part_251 : decode cX11_part 251 = .ok (.iload_n 1, 1) := by decide +kernel
theorem dX11_part_252 : decode cX11_part 252 = .ok (.iconst 0, 1) := by decide +kernel
theorem dX11_part_253 : decode cX11_part 253 = .ok (.iastore, 1) := by decide +kernel
theorem dX11_part_254 : decode cX11_part 254 = .ok (.iconst 0, 1) := by decide +kernel
theorem dX11_part_255 : decode cX11_part 255 = .ok (.istore 10, 2) := by decide +kernel
theorem dX11_part_257 : decode cX11_part 257 = .ok (.iload 10, 2) := by decide +kernel
theorem dX11_part_259 : decode cX11_part 259 = .ok (.sipush 144, 3) := by decide +kernel
theorem dX11_part_262 : decode cX11_part 262 = .ok (.if_icmp .ge 66, 3) := by decide +kernel
theorem dX11_part_265 : decode cX11_part 265 = .ok (.aload_n 0, 1) := by decide +kernel
theorem dX11_part_266 : decode cX11_part 266 = .ok (.getfield 29, 3) := by decide +kernel
theorem dX11_part_269 : decode cX11_part 269 = .ok (.sipush 144, 3) := by decide +kernel
theorem dX11_part_272 : decode cX11_part 272 = .ok (.iload_n 1, 1) := by decide +kernel
theorem dX11_part_273 : decode cX11_part 273 = .ok (.imul, 1) := by decide +kernel
theorem dX11_part_274 : decode cX11_part 274 = .ok (.iload 10, 2) := by decide +kernel
theorem dX11_part_276 : decode cX11_part 276 = .ok (.iadd, 1) := by decide +kernel
theorem dX11_part_277 : decode cX11_part 277 = .ok (.iload 10, 2) := by decide +kernel
theorem dX11_part_279 : decode cX11_part 279 = .ok (.iload 4, 2) := by decide +kernel
theorem dX11_part_281 : decode cX11_part 281 = .ok (.iload 5, 2) := by decide +kernel
theorem dX11_part_283 : decode cX11_part 283 = .ok (.imul, 1) := by decide +kernel
theorem dX11_part_284 : decode cX11_part 284 = .ok (.if_icmp .ge 22, 3) := by decide +kernel
theorem dX11_part_287 : decode cX11_part 287 = .ok (.aload_n 0, 1) := by decide +kernel
theorem dX11_part_288 : decode cX11_part 288 = .ok (.getfield 16, 3) := by decide +kernel
theorem dX11_part_291 : decode cX11_part 291 = .ok (.sipush 144, 3) := by decide +kernel
theorem dX11_part_294 : decode cX11_part 294 = .ok (.iload_n 2, 1) := by decide +kernel
theorem dX11_part_295 : decode cX11_part 295 = .ok (.imul, 1) := by decide +kernel
theorem dX11_part_296 : decode cX11_part 296 = .ok (.iload_n 3, 1) := by decide +kernel
theorem dX11_part_297 : decode cX11_part 297 = .ok (.iadd, 1) := by decide +kernel
theorem dX11_part_298 : decode cX11_part 298 = .ok (.iload 10, 2) := by decide +kernel
theorem dX11_part_300 : decode cX11_part 300 = .ok (.iadd, 1) := by decide +kernel
theorem dX11_part_301 : decode cX11_part 301 = .ok (.laload, 1) := by decide +kernel
theorem dX11_part_302 : decode cX11_part 302 = .ok (.l2i, 1) := by decide +kernel
theorem dX11_part_303 : decode cX11_part 303 = .ok (.goto 4, 3) := by decide +kernel
theorem dX11_part_306 : decode cX11_part 306 = .ok (.iconst 0, 1) := by decide +kernel
theorem dX11_part_307 : decode cX11_part 307 = .ok (.iastore, 1) := by decide +kernel
theorem dX11_part_308 : decode cX11_part 308 = .ok (.aload_n 0, 1) := by decide +kernel
theorem dX11_part_309 : decode cX11_part 309 = .ok (.getfield 38, 3) := by decide +kernel
theorem dX11_part_312 : decode cX11_part 312 = .ok (.sipush 144, 3) := by decide +kernel
theorem dX11_part_315 : decode cX11_part 315 = .ok (.iload_n 1, 1) := by decide +kernel
theorem dX11_part_316 : decode cX11_part 316 = .ok (.imul, 1) := by decide +kernel
theorem dX11_part_317 : decode cX11_part 317 = .ok (.iload 10, 2) := by decide +kernel
theorem dX11_part_319 : decode cX11_part 319 = .ok (.iadd, 1) := by decide +kernel
theorem dX11_part_320 : decode cX11_part 320 = .ok (.iconst 0, 1) := by decide +kernel
theorem dX11_part_321 : decode cX11_part 321 = .ok (.bastore, 1) := by decide +kernel
theorem dX11_part_322 : decode cX11_part 322 = .ok (.iinc 10 1, 3) := by decide +kernel
theorem dX11_part_325 : decode cX11_part 325 = .ok (.goto (-68), 3) := by decide +kernel
theorem dX11_part_328 : decode cX11_part 328 = .ok (.aload_n 0, 1) := by decide +kernel
theorem dX11_part_329 : decode cX11_part 329 = .ok (.getfield 20, 3) := by decide +kernel
theorem dX11_part_332 : decode cX11_part 332 = .ok (.iload_n 1, 1) := by decide +kernel
theorem dX11_part_333 : decode cX11_part 333 = .ok (.iload 9, 2) := by decide +kernel
theorem dX11_part_335 : decode cX11_part 335 = .ok (.ifCond .ne 7, 3) := by decide +kernel
theorem dX11_part_338 : decode cX11_part 338 = .ok (.iconst 1, 1) := by decide +kernel
theorem dX11_part_339 : decode cX11_part 339 = .ok (.goto 18, 3) := by decide +kernel
theorem dX11_part_342 : decode cX11_part 342 = .ok (.iload 7, 2) := by decide +kernel
theorem dX11_part_344 : decode cX11_part 344 = .ok (.iload 4, 2) := by decide +kernel
theorem dX11_part_346 : decode cX11_part 346 = .ok (.iload 5, 2) := by decide +kernel
theorem dX11_part_348 : decode cX11_part 348 = .ok (.imul, 1) := by decide +kernel
theorem dX11_part_349 : decode cX11_part 349 = .ok (.if_icmp .ne 7, 3) := by decide +kernel
theorem dX11_part_352 : decode cX11_part 352 = .ok (.iconst 3, 1) := by decide +kernel
theorem dX11_part_353 : decode cX11_part 353 = .ok (.goto 4, 3) := by decide +kernel
theorem dX11_part_356 : decode cX11_part 356 = .ok (.iconst 2, 1) := by decide +kernel
theorem dX11_part_357 : decode cX11_part 357 = .ok (.iastore, 1) := by decide +kernel
theorem dX11_part_358 : decode cX11_part 358 = .ok (.aload_n 0, 1) := by decide +kernel
theorem dX11_part_359 : decode cX11_part 359 = .ok (.getfield 20, 3) := by decide +kernel
theorem dX11_part_362 : decode cX11_part 362 = .ok (.iload_n 1, 1) := by decide +kernel
theorem dX11_part_363 : decode cX11_part 363 = .ok (.iaload, 1) := by decide +kernel
theorem dX11_part_364 : decode cX11_part 364 = .ok (.ireturn, 1) := by decide +kernel
theorem dX11_layers_0 : decode cX11_layers 0 = .ok (.aload_n 0, 1) := by decide +kernel
theorem dX11_layers_1 : decode cX11_layers 1 = .ok (.iconst 0, 1) := by decide +kernel
theorem dX11_layers_2 : decode cX11_layers 2 = .ok (.putfield 124, 3) := by decide +kernel
theorem dX11_layers_5 : decode cX11_layers 5 = .ok (.iload_n 1, 1) := by decide +kernel
theorem dX11_layers_6 : decode cX11_layers 6 = .ok (.invokestatic 153, 3) := by decide +kernel
theorem dX11_layers_9 : decode cX11_layers 9 = .ok (.ifCond .eq 38, 3) := by decide +kernel
theorem dX11_layers_12 : decode cX11_layers 12 = .ok (.iload_n 2, 1) := by decide +kernel
theorem dX11_layers_13 : decode cX11_layers 13 = .ok (.invokestatic 138, 3) := by decide +kernel
theorem dX11_layers_16 : decode cX11_layers 16 = .ok (.ifCond .eq 31, 3) := by decide +kernel
theorem dX11_layers_19 : decode cX11_layers 19 = .ok (.iload 4, 2) := by decide +kernel
theorem dX11_layers_21 : decode cX11_layers 21 = .ok (.i2l, 1) := by decide +kernel
theorem dX11_layers_22 : decode cX11_layers 22 = .ok (.ldc2_w 142, 3) := by decide +kernel
theorem dX11_layers_25 : decode cX11_layers 25 = .ok (.ldc2_w 163, 3) := by decide +kernel
theorem dX11_layers_28 : decode cX11_layers 28 = .ok (.invokestatic 134, 3) := by decide +kernel
theorem dX11_layers_31 : decode cX11_layers 31 = .ok (.ifCond .eq 16, 3) := by decide +kernel
theorem dX11_layers_34 : decode cX11_layers 34 = .ok (.iload 5, 2) := by decide +kernel
theorem dX11_layers_36 : decode cX11_layers 36 = .ok (.i2l, 1) := by decide +kernel
theorem dX11_layers_37 : decode cX11_layers 37 = .ok (.lconst 0, 1) := by decide +kernel
theorem dX11_layers_38 : decode cX11_layers 38 = .ok (.ldc2_w 165, 3) := by decide +kernel
theorem dX11_layers_41 : decode cX11_layers 41 = .ok (.invokestatic 134, 3) := by decide +kernel
theorem dX11_layers_44 : decode cX11_layers 44 = .ok (.ifCond .ne 6, 3) := by decide +kernel
theorem dX11_layers_47 : decode cX11_layers 47 = .ok (.ldc 144, 2) := by decide +kernel
theorem dX11_layers_49 : decode cX11_layers 49 = .ok (.ireturn, 1) := by decide +kernel
theorem dX11_layers_50 : decode cX11_layers 50 = .ok (.aload_n 0, 1) := by decide +kernel
theorem dX11_layers_51 : decode cX11_layers 51 = .ok (.getfield 51, 3) := by decide +kernel
theorem dX11_layers_54 : decode cX11_layers 54 = .ok (.iload_n 1, 1) := by decide +kernel
theorem dX11_layers_55 : decode cX11_layers 55 = .ok (.iaload, 1) := by decide +kernel
theorem dX11_layers_56 : decode cX11_layers 56 = .ok (.ifCond .lt 6, 3) := by decide +kernel
theorem dX11_layers_59 : decode cX11_layers 59 = .ok (.ldc 158, 2) := by decide +kernel
theorem dX11_layers_61 : decode cX11_layers 61 = .ok (.ireturn, 1) := by decide +kernel
theorem dX11_layers_62 : decode cX11_layers 62 = .ok (.aload_n 0, 1) := by decide +kernel
theorem dX11_layers_63 : decode cX11_layers 63 = .ok (.getfield 7, 3) := by decide +kernel
theorem dX11_layers_66 : decode cX11_layers 66 = .ok (.iload_n 2, 1) := by decide +kernel
theorem dX11_layers_67 : decode cX11_layers 67 = .ok (.iaload, 1) := by decide +kernel
theorem dX11_layers_68 : decode cX11_layers 68 = .ok (.ifCond .ge 9, 3) := by decide +kernel
theorem dX11_layers_71 : decode cX11_layers 71 = .ok (.aload_n 0, 1) := by decide +kernel
theorem dX11_layers_72 : decode cX11_layers 72 = .ok (.iconst 1, 1) := by decide +kernel
theorem dX11_layers_73 : decode cX11_layers 73 = .ok (.invokevirtual 145, 3) := by decide +kernel
theorem dX11_layers_76 : decode cX11_layers 76 = .ok (.ireturn, 1) := by decide +kernel
theorem dX11_layers_77 : decode cX11_layers 77 = .ok (.aload_n 0, 1) := by decide +kernel
theorem dX11_layers_78 : decode cX11_layers 78 = .ok (.iload_n 2, 1) := by decide +kernel
theorem dX11_layers_79 : decode cX11_layers 79 = .ok (.iload_n 3, 1) := by decide +kernel
theorem dX11_layers_80 : decode cX11_layers 80 = .ok (.iload 4, 2) := by decide +kernel
theorem dX11_layers_82 : decode cX11_layers 82 = .ok (.invokevirtual 159, 3) := by decide +kernel
theorem dX11_layers_85 : decode cX11_layers 85 = .ok (.ifCond .ne 9, 3) := by decide +kernel
theorem dX11_layers_88 : decode cX11_layers 88 = .ok (.aload_n 0, 1) := by decide +kernel
theorem dX11_layers_89 : decode cX11_layers 89 = .ok (.iconst 2, 1) := by decide +kernel
theorem dX11_layers_90 : decode cX11_layers 90 = .ok (.invokevirtual 145, 3) := by decide +kernel
theorem dX11_layers_93 : decode cX11_layers 93 = .ok (.ireturn, 1) := by decide +kernel
theorem dX11_layers_94 : decode cX11_layers 94 = .ok (.iconst 0, 1) := by decide +kernel
theorem dX11_layers_95 : decode cX11_layers 95 = .ok (.istore 6, 2) := by decide +kernel
theorem dX11_layers_97 : decode cX11_layers 97 = .ok (.iload 6, 2) := by decide +kernel
theorem dX11_layers_99 : decode cX11_layers 99 = .ok (.iload 4, 2) := by decide +kernel
theorem dX11_layers_101 : decode cX11_layers 101 = .ok (.if_icmp .ge 37, 3) := by decide +kernel
theorem dX11_layers_104 : decode cX11_layers 104 = .ok (.aload_n 0, 1) := by decide +kernel
theorem dX11_layers_105 : decode cX11_layers 105 = .ok (.getfield 16, 3) := by decide +kernel
theorem dX11_layers_108 : decode cX11_layers 108 = .ok (.sipush 144, 3) := by decide +kernel
theorem dX11_layers_111 : decode cX11_layers 111 = .ok (.iload_n 2, 1) := by decide +kernel
theorem dX11_layers_112 : decode cX11_layers 112 = .ok (.imul, 1) := by decide +kernel
theorem dX11_layers_113 : decode cX11_layers 113 = .ok (.iload_n 3, 1) := by decide +kernel
theorem dX11_layers_114 : decode cX11_layers 114 = .ok (.iadd, 1) := by decide +kernel
theorem dX11_layers_115 : decode cX11_layers 115 = .ok (.iload 6, 2) := by decide +kernel
theorem dX11_layers_117 : decode cX11_layers 117 = .ok (.iadd, 1) := by decide +kernel
theorem dX11_layers_118 : decode cX11_layers 118 = .ok (.laload, 1) := by decide +kernel
theorem dX11_layers_119 : decode cX11_layers 119 = .ok (.lconst 0, 1) := by decide +kernel
theorem dX11_layers_120 : decode cX11_layers 120 = .ok (.ldc2_w 165, 3) := by decide +kernel
theorem dX11_layers_123 : decode cX11_layers 123 = .ok (.invokestatic 134, 3) := by decide +kernel
theorem dX11_layers_126 : decode cX11_layers 126 = .ok (.ifCond .ne 6, 3) := by decide +kernel
theorem dX11_layers_129 : decode cX11_layers 129 = .ok (.ldc 144, 2) := by decide +kernel
theorem dX11_layers_131 : decode cX11_layers 131 = .ok (.ireturn, 1) := by decide +kernel
theorem dX11_layers_132 : decode cX11_layers 132 = .ok (.iinc 6 1, 3) := by decide +kernel
theorem dX11_layers_135 : decode cX11_layers 135 = .ok (.goto (-38), 3) := by decide +kernel
theorem dX11_layers_138 : decode cX11_layers 138 = .ok (.aload_n 0, 1) := by decide +kernel
theorem dX11_layers_139 : decode cX11_layers 139 = .ok (.iconst 0, 1) := by decide +kernel
theorem dX11_layers_140 : decode cX11_layers 140 = .ok (.putfield 128, 3) := by decide +kernel
theorem dX11_layers_143 : decode cX11_layers 143 = .ok (.iconst 0, 1) := by decide +kernel
theorem dX11_layers_144 : decode cX11_layers 144 = .ok (.istore 6, 2) := by decide +kernel
theorem dX11_layers_146 : decode cX11_layers 146 = .ok (.iload 6, 2) := by decide +kernel
theorem dX11_layers_148 : decode cX11_layers 148 = .ok (.iload 4, 2) := by decide +kernel
theorem dX11_layers_150 : decode cX11_layers 150 = .ok (.if_icmp .ge 37, 3) := by decide +kernel
theorem dX11_layers_153 : decode cX11_layers 153 = .ok (.aload_n 0, 1) := by decide +kernel
theorem dX11_layers_154 : decode cX11_layers 154 = .ok (.getfield 42, 3) := by decide +kernel
theorem dX11_layers_157 : decode cX11_layers 157 = .ok (.bipush 20, 2) := by decide +kernel
theorem dX11_layers_159 : decode cX11_layers 159 = .ok (.iload_n 1, 1) := by decide +kernel
theorem dX11_layers_160 : decode cX11_layers 160 = .ok (.imul, 1) := by decide +kernel
theorem dX11_layers_161 : decode cX11_layers 161 = .ok (.iload 6, 2) := by decide +kernel
theorem dX11_layers_163 : decode cX11_layers 163 = .ok (.iadd, 1) := by decide +kernel
theorem dX11_layers_164 : decode cX11_layers 164 = .ok (.aload_n 0, 1) := by decide +kernel
theorem dX11_layers_165 : decode cX11_layers 165 = .ok (.getfield 16, 3) := by decide +kernel
theorem dX11_layers_168 : decode cX11_layers 168 = .ok (.sipush 144, 3) := by decide +kernel
theorem dX11_layers_171 : decode cX11_layers 171 = .ok (.iload_n 2, 1) := by decide +kernel
theorem dX11_layers_172 : decode cX11_layers 172 = .ok (.imul, 1) := by decide +kernel
theorem dX11_layers_173 : decode cX11_layers 173 = .ok (.iload_n 3, 1) := by decide +kernel
theorem dX11_layers_174 : decode cX11_layers 174 = .ok (.iadd, 1) := by decide +kernel
theorem dX11_layers_175 : decode cX11_layers 175 = .ok (.iload 6, 2) := by decide +kernel
theorem dX11_layers_177 : decode cX11_layers 177 = .ok (.iadd, 1) := by decide +kernel
theorem dX11_layers_178 : decode cX11_layers 178 = .ok (.laload, 1) := by decide +kernel
theorem dX11_layers_179 : decode cX11_layers 179 = .ok (.l2i, 1) := by decide +kernel
theorem dX11_layers_180 : decode cX11_layers 180 = .ok (.iastore, 1) := by decide +kernel
theorem dX11_layers_181 : decode cX11_layers 181 = .ok (.iinc 6 1, 3) := by decide +kernel
theorem dX11_layers_184 : decode cX11_layers 184 = .ok (.goto (-38), 3) := by decide +kernel
theorem dX11_layers_187 : decode cX11_layers 187 = .ok (.aload_n 0, 1) := by decide +kernel
theorem dX11_layers_188 : decode cX11_layers 188 = .ok (.getfield 23, 3) := by decide +kernel
theorem dX11_layers_191 : decode cX11_layers 191 = .ok (.iload_n 1, 1) := by decide +kernel
theorem dX11_layers_192 : decode cX11_layers 192 = .ok (.iload 4, 2) := by decide +kernel
theorem dX11_layers_194 : decode cX11_layers 194 = .ok (.iastore, 1) := by decide +kernel
theorem dX11_layers_195 : decode cX11_layers 195 = .ok (.aload_n 0, 1) := by decide +kernel
theorem dX11_layers_196 : decode cX11_layers 196 = .ok (.getfield 45, 3) := by decide +kernel
theorem dX11_layers_199 : decode cX11_layers 199 = .ok (.iload_n 1, 1) := by decide +kernel
theorem dX11_layers_200 : decode cX11_layers 200 = .ok (.iload 5, 2) := by decide +kernel
theorem dX11_layers_202 : decode cX11_layers 202 = .ok (.iastore, 1) := by decide +kernel
theorem dX11_layers_203 : decode cX11_layers 203 = .ok (.aload_n 0, 1) := by decide +kernel
theorem dX11_layers_204 : decode cX11_layers 204 = .ok (.getfield 48, 3) := by decide +kernel
theorem dX11_layers_207 : decode cX11_layers 207 = .ok (.iload_n 1, 1) := by decide +kernel
theorem dX11_layers_208 : decode cX11_layers 208 = .ok (.iconst 0, 1) := by decide +kernel
theorem dX11_layers_209 : decode cX11_layers 209 = .ok (.iastore, 1) := by decide +kernel
theorem dX11_layers_210 : decode cX11_layers 210 = .ok (.aload_n 0, 1) := by decide +kernel
theorem dX11_layers_211 : decode cX11_layers 211 = .ok (.getfield 20, 3) := by decide +kernel
theorem dX11_layers_214 : decode cX11_layers 214 = .ok (.iload_n 1, 1) := by decide +kernel
theorem dX11_layers_215 : decode cX11_layers 215 = .ok (.iconst 4, 1) := by decide +kernel
theorem dX11_layers_216 : decode cX11_layers 216 = .ok (.iastore, 1) := by decide +kernel
theorem dX11_layers_217 : decode cX11_layers 217 = .ok (.iconst 4, 1) := by decide +kernel
theorem dX11_layers_218 : decode cX11_layers 218 = .ok (.ireturn, 1) := by decide +kernel
theorem dX11_clear_0 : decode cX11_clear 0 = .ok (.aload_n 0, 1) := by decide +kernel
theorem dX11_clear_1 : decode cX11_clear 1 = .ok (.iconst 0, 1) := by decide +kernel
theorem dX11_clear_2 : decode cX11_clear 2 = .ok (.putfield 124, 3) := by decide +kernel
theorem dX11_clear_5 : decode cX11_clear 5 = .ok (.iload_n 1, 1) := by decide +kernel
theorem dX11_clear_6 : decode cX11_clear 6 = .ok (.invokestatic 153, 3) := by decide +kernel
theorem dX11_clear_9 : decode cX11_clear 9 = .ok (.ifCond .ne 6, 3) := by decide +kernel
theorem dX11_clear_12 : decode cX11_clear 12 = .ok (.ldc 144, 2) := by decide +kernel
theorem dX11_clear_14 : decode cX11_clear 14 = .ok (.ireturn, 1) := by decide +kernel
theorem dX11_clear_15 : decode cX11_clear 15 = .ok (.aload_n 0, 1) := by decide +kernel
theorem dX11_clear_16 : decode cX11_clear 16 = .ok (.getfield 51, 3) := by decide +kernel
theorem dX11_clear_19 : decode cX11_clear 19 = .ok (.iload_n 1, 1) := by decide +kernel
theorem dX11_clear_20 : decode cX11_clear 20 = .ok (.iaload, 1) := by decide +kernel
theorem dX11_clear_21 : decode cX11_clear 21 = .ok (.ifCond .lt 6, 3) := by decide +kernel
theorem dX11_clear_24 : decode cX11_clear 24 = .ok (.ldc 158, 2) := by decide +kernel
theorem dX11_clear_26 : decode cX11_clear 26 = .ok (.ireturn, 1) := by decide +kernel
theorem dX11_clear_27 : decode cX11_clear 27 = .ok (.aload_n 0, 1) := by decide +kernel
theorem dX11_clear_28 : decode cX11_clear 28 = .ok (.getfield 20, 3) := by decide +kernel
theorem dX11_clear_31 : decode cX11_clear 31 = .ok (.iload_n 1, 1) := by decide +kernel
theorem dX11_clear_32 : decode cX11_clear 32 = .ok (.iaload, 1) := by decide +kernel
theorem dX11_clear_33 : decode cX11_clear 33 = .ok (.ifCond .ge 7, 3) := by decide +kernel
theorem dX11_clear_36 : decode cX11_clear 36 = .ok (.iconst 0, 1) := by decide +kernel
theorem dX11_clear_37 : decode cX11_clear 37 = .ok (.goto 4, 3) := by decide +kernel
theorem dX11_clear_40 : decode cX11_clear 40 = .ok (.iconst 1, 1) := by decide +kernel
theorem dX11_clear_41 : decode cX11_clear 41 = .ok (.istore_n 2, 1) := by decide +kernel
theorem dX11_clear_42 : decode cX11_clear 42 = .ok (.aload_n 0, 1) := by decide +kernel
theorem dX11_clear_43 : decode cX11_clear 43 = .ok (.getfield 20, 3) := by decide +kernel
theorem dX11_clear_46 : decode cX11_clear 46 = .ok (.iload_n 1, 1) := by decide +kernel
theorem dX11_clear_47 : decode cX11_clear 47 = .ok (.iconst (-1), 1) := by decide +kernel
theorem dX11_clear_48 : decode cX11_clear 48 = .ok (.iastore, 1) := by decide +kernel
theorem dX11_clear_49 : decode cX11_clear 49 = .ok (.iload_n 2, 1) := by decide +kernel
theorem dX11_clear_50 : decode cX11_clear 50 = .ok (.ireturn, 1) := by decide +kernel
theorem dX11_kind_0 : decode cX11_kind 0 = .ok (.aload_n 0, 1) := by decide +kernel
theorem dX11_kind_1 : decode cX11_kind 1 = .ok (.iconst 0, 1) := by decide +kernel
theorem dX11_kind_2 : decode cX11_kind 2 = .ok (.putfield 124, 3) := by decide +kernel
theorem dX11_kind_5 : decode cX11_kind 5 = .ok (.iload_n 1, 1) := by decide +kernel
theorem dX11_kind_6 : decode cX11_kind 6 = .ok (.invokestatic 153, 3) := by decide +kernel
theorem dX11_kind_9 : decode cX11_kind 9 = .ok (.ifCond .ne 6, 3) := by decide +kernel
theorem dX11_kind_12 : decode cX11_kind 12 = .ok (.ldc 144, 2) := by decide +kernel
theorem dX11_kind_14 : decode cX11_kind 14 = .ok (.ireturn, 1) := by decide +kernel
theorem dX11_kind_15 : decode cX11_kind 15 = .ok (.aload_n 0, 1) := by decide +kernel
theorem dX11_kind_16 : decode cX11_kind 16 = .ok (.iconst 0, 1) := by decide +kernel
theorem dX11_kind_17 : decode cX11_kind 17 = .ok (.putfield 128, 3) := by decide +kernel
theorem dX11_kind_20 : decode cX11_kind 20 = .ok (.aload_n 0, 1) := by decide +kernel
theorem dX11_kind_21 : decode cX11_kind 21 = .ok (.getfield 20, 3) := by decide +kernel
theorem dX11_kind_24 : decode cX11_kind 24 = .ok (.iload_n 1, 1) := by decide +kernel
theorem dX11_kind_25 : decode cX11_kind 25 = .ok (.iaload, 1) := by decide +kernel
theorem dX11_kind_26 : decode cX11_kind 26 = .ok (.ifCond .ge 11, 3) := by decide +kernel
theorem dX11_kind_29 : decode cX11_kind 29 = .ok (.aload_n 0, 1) := by decide +kernel
theorem dX11_kind_30 : decode cX11_kind 30 = .ok (.iconst 1, 1) := by decide +kernel
theorem dX11_kind_31 : decode cX11_kind 31 = .ok (.invokevirtual 145, 3) := by decide +kernel
theorem dX11_kind_34 : decode cX11_kind 34 = .ok (.goto 9, 3) := by decide +kernel
theorem dX11_kind_37 : decode cX11_kind 37 = .ok (.aload_n 0, 1) := by decide +kernel
theorem dX11_kind_38 : decode cX11_kind 38 = .ok (.getfield 20, 3) := by decide +kernel
theorem dX11_kind_41 : decode cX11_kind 41 = .ok (.iload_n 1, 1) := by decide +kernel
theorem dX11_kind_42 : decode cX11_kind 42 = .ok (.iaload, 1) := by decide +kernel
theorem dX11_kind_43 : decode cX11_kind 43 = .ok (.ireturn, 1) := by decide +kernel
theorem dX11_isOf_0 : decode cX11_isOf 0 = .ok (.iload_n 0, 1) := by decide +kernel
theorem dX11_isOf_1 : decode cX11_isOf 1 = .ok (.ifCond .lt 36, 3) := by decide +kernel
theorem dX11_isOf_4 : decode cX11_isOf 4 = .ok (.iload_n 1, 1) := by decide +kernel
theorem dX11_isOf_5 : decode cX11_isOf 5 = .ok (.ifCond .eq 28, 3) := by decide +kernel
theorem dX11_isOf_8 : decode cX11_isOf 8 = .ok (.iload_n 0, 1) := by decide +kernel
theorem dX11_isOf_9 : decode cX11_isOf 9 = .ok (.iload_n 1, 1) := by decide +kernel
theorem dX11_isOf_10 : decode cX11_isOf 10 = .ok (.if_icmp .eq 23, 3) := by decide +kernel
theorem dX11_isOf_13 : decode cX11_isOf 13 = .ok (.iload_n 1, 1) := by decide +kernel
theorem dX11_isOf_14 : decode cX11_isOf 14 = .ok (.iconst 1, 1) := by decide +kernel
theorem dX11_isOf_15 : decode cX11_isOf 15 = .ok (.if_icmp .ne 8, 3) := by decide +kernel
theorem dX11_isOf_18 : decode cX11_isOf 18 = .ok (.iload_n 0, 1) := by decide +kernel
theorem dX11_isOf_19 : decode cX11_isOf 19 = .ok (.iconst 3, 1) := by decide +kernel
theorem dX11_isOf_20 : decode cX11_isOf 20 = .ok (.if_icmp .le 13, 3) := by decide +kernel
theorem dX11_isOf_23 : decode cX11_isOf 23 = .ok (.iload_n 1, 1) := by decide +kernel
theorem dX11_isOf_24 : decode cX11_isOf 24 = .ok (.iconst 2, 1) := by decide +kernel
theorem dX11_isOf_25 : decode cX11_isOf 25 = .ok (.if_icmp .ne 12, 3) := by decide +kernel
theorem dX11_isOf_28 : decode cX11_isOf 28 = .ok (.iload_n 0, 1) := by decide +kernel
theorem dX11_isOf_29 : decode cX11_isOf 29 = .ok (.iconst 3, 1) := by decide +kernel
theorem dX11_isOf_30 : decode cX11_isOf 30 = .ok (.if_icmp .ne 7, 3) := by decide +kernel
theorem dX11_isOf_33 : decode cX11_isOf 33 = .ok (.iconst 1, 1) := by decide +kernel
theorem dX11_isOf_34 : decode cX11_isOf 34 = .ok (.goto 4, 3) := by decide +kernel
theorem dX11_isOf_37 : decode cX11_isOf 37 = .ok (.iconst 0, 1) := by decide +kernel
theorem dX11_isOf_38 : decode cX11_isOf 38 = .ok (.ireturn, 1) := by decide +kernel
theorem dX11_is_0 : decode cX11_is 0 = .ok (.aload_n 0, 1) := by decide +kernel
theorem dX11_is_1 : decode cX11_is 1 = .ok (.iconst 0, 1) := by decide +kernel
theorem dX11_is_2 : decode cX11_is 2 = .ok (.putfield 124, 3) := by decide +kernel
theorem dX11_is_5 : decode cX11_is 5 = .ok (.iload_n 1, 1) := by decide +kernel
theorem dX11_is_6 : decode cX11_is 6 = .ok (.invokestatic 153, 3) := by decide +kernel
theorem dX11_is_9 : decode cX11_is 9 = .ok (.ifCond .eq 15, 3) := by decide +kernel
theorem dX11_is_12 : decode cX11_is 12 = .ok (.iload_n 2, 1) := by decide +kernel
theorem dX11_is_13 : decode cX11_is 13 = .ok (.i2l, 1) := by decide +kernel
theorem dX11_is_14 : decode cX11_is 14 = .ok (.lconst 0, 1) := by decide +kernel
theorem dX11_is_15 : decode cX11_is 15 = .ok (.ldc2_w 167, 3) := by decide +kernel
theorem dX11_is_18 : decode cX11_is 18 = .ok (.invokestatic 134, 3) := by decide +kernel
theorem dX11_is_21 : decode cX11_is 21 = .ok (.ifCond .ne 8, 3) := by decide +kernel
theorem dX11_is_24 : decode cX11_is 24 = .ok (.ldc 144, 2) := by decide +kernel
theorem dX11_is_26 : decode cX11_is 26 = .ok (.goto 21, 3) := by decide +kernel
theorem dX11_is_29 : decode cX11_is 29 = .ok (.aload_n 0, 1) := by decide +kernel
theorem dX11_is_30 : decode cX11_is 30 = .ok (.getfield 20, 3) := by decide +kernel
theorem dX11_is_33 : decode cX11_is 33 = .ok (.iload_n 1, 1) := by decide +kernel
theorem dX11_is_34 : decode cX11_is 34 = .ok (.iaload, 1) := by decide +kernel
theorem dX11_is_35 : decode cX11_is 35 = .ok (.iload_n 2, 1) := by decide +kernel
theorem dX11_is_36 : decode cX11_is 36 = .ok (.invokestatic 169, 3) := by decide +kernel
theorem dX11_is_39 : decode cX11_is 39 = .ok (.ifCond .eq 7, 3) := by decide +kernel
theorem dX11_is_42 : decode cX11_is 42 = .ok (.iconst 1, 1) := by decide +kernel
theorem dX11_is_43 : decode cX11_is 43 = .ok (.goto 4, 3) := by decide +kernel
theorem dX11_is_46 : decode cX11_is 46 = .ok (.iconst 0, 1) := by decide +kernel
theorem dX11_is_47 : decode cX11_is 47 = .ok (.ireturn, 1) := by decide +kernel
theorem dX11_began_0 : decode cX11_began 0 = .ok (.aload_n 0, 1) := by decide +kernel
theorem dX11_began_1 : decode cX11_began 1 = .ok (.getfield 173, 3) := by decide +kernel
theorem dX11_began_4 : decode cX11_began 4 = .ok (.bipush 16, 2) := by decide +kernel
theorem dX11_began_6 : decode cX11_began 6 = .ok (.if_icmp .ge 23, 3) := by decide +kernel
theorem dX11_began_9 : decode cX11_began 9 = .ok (.aload_n 0, 1) := by decide +kernel
theorem dX11_began_10 : decode cX11_began 10 = .ok (.getfield 54, 3) := by decide +kernel
theorem dX11_began_13 : decode cX11_began 13 = .ok (.aload_n 0, 1) := by decide +kernel
theorem dX11_began_14 : decode cX11_began 14 = .ok (.getfield 173, 3) := by decide +kernel
theorem dX11_began_17 : decode cX11_began 17 = .ok (.iload_n 1, 1) := by decide +kernel
theorem dX11_began_18 : decode cX11_began 18 = .ok (.iastore, 1) := by decide +kernel
theorem dX11_began_19 : decode cX11_began 19 = .ok (.aload_n 0, 1) := by decide +kernel
theorem dX11_began_20 : decode cX11_began 20 = .ok (.dup, 1) := by decide +kernel
theorem dX11_began_21 : decode cX11_began 21 = .ok (.getfield 173, 3) := by decide +kernel
theorem dX11_began_24 : decode cX11_began 24 = .ok (.iconst 1, 1) := by decide +kernel
theorem dX11_began_25 : decode cX11_began 25 = .ok (.iadd, 1) := by decide +kernel
theorem dX11_began_26 : decode cX11_began 26 = .ok (.putfield 173, 3) := by decide +kernel
theorem dX11_began_29 : decode cX11_began 29 = .ok (.return_, 1) := by decide +kernel
theorem dX11_weight_0 : decode cX11_weight 0 = .ok (.iconst 0, 1) := by decide +kernel
theorem dX11_weight_1 : decode cX11_weight 1 = .ok (.istore_n 2, 1) := by decide +kernel
theorem dX11_weight_2 : decode cX11_weight 2 = .ok (.aload_n 0, 1) := by decide +kernel
theorem dX11_weight_3 : decode cX11_weight 3 = .ok (.getfield 20, 3) := by decide +kernel
theorem dX11_weight_6 : decode cX11_weight 6 = .ok (.iload_n 1, 1) := by decide +kernel
theorem dX11_weight_7 : decode cX11_weight 7 = .ok (.iaload, 1) := by decide +kernel
theorem dX11_weight_8 : decode cX11_weight 8 = .ok (.iconst 4, 1) := by decide +kernel
theorem dX11_weight_9 : decode cX11_weight 9 = .ok (.if_icmp .ne 16, 3) := by decide +kernel
theorem dX11_weight_12 : decode cX11_weight 12 = .ok (.aload_n 0, 1) := by decide +kernel
theorem dX11_weight_13 : decode cX11_weight 13 = .ok (.bipush 13, 2) := by decide +kernel
theorem dX11_weight_15 : decode cX11_weight 15 = .ok (.invokevirtual 176, 3) := by decide +kernel
theorem dX11_weight_18 : decode cX11_weight 18 = .ok (.aload_n 0, 1) := by decide +kernel
theorem dX11_weight_19 : decode cX11_weight 19 = .ok (.getfield 23, 3) := by decide +kernel
theorem dX11_weight_22 : decode cX11_weight 22 = .ok (.iload_n 1, 1) := by decide +kernel
theorem dX11_weight_23 : decode cX11_weight 23 = .ok (.iaload, 1) := by decide +kernel
theorem dX11_weight_24 : decode cX11_weight 24 = .ok (.ireturn, 1) := by decide +kernel
theorem dX11_weight_25 : decode cX11_weight 25 = .ok (.aload_n 0, 1) := by decide +kernel
theorem dX11_weight_26 : decode cX11_weight 26 = .ok (.getfield 20, 3) := by decide +kernel
theorem dX11_weight_29 : decode cX11_weight 29 = .ok (.iload_n 1, 1) := by decide +kernel
theorem dX11_weight_30 : decode cX11_weight 30 = .ok (.iaload, 1) := by decide +kernel
theorem dX11_weight_31 : decode cX11_weight 31 = .ok (.iconst 2, 1) := by decide +kernel
theorem dX11_weight_32 : decode cX11_weight 32 = .ok (.invokestatic 169, 3) := by decide +kernel
theorem dX11_weight_35 : decode cX11_weight 35 = .ok (.istore_n 3, 1) := by decide +kernel
theorem dX11_weight_36 : decode cX11_weight 36 = .ok (.iload_n 3, 1) := by decide +kernel
theorem dX11_weight_37 : decode cX11_weight 37 = .ok (.ifCond .eq 9, 3) := by decide +kernel
theorem dX11_weight_40 : decode cX11_weight 40 = .ok (.aload_n 0, 1) := by decide +kernel
theorem dX11_weight_41 : decode cX11_weight 41 = .ok (.bipush 12, 2) := by decide +kernel
theorem dX11_weight_43 : decode cX11_weight 43 = .ok (.invokevirtual 176, 3) := by decide +kernel
theorem dX11_weight_46 : decode cX11_weight 46 = .ok (.aload_n 0, 1) := by decide +kernel
theorem dX11_weight_47 : decode cX11_weight 47 = .ok (.bipush 11, 2) := by decide +kernel
theorem dX11_weight_49 : decode cX11_weight 49 = .ok (.invokevirtual 176, 3) := by decide +kernel
theorem dX11_weight_52 : decode cX11_weight 52 = .ok (.iconst 0, 1) := by decide +kernel
theorem dX11_weight_53 : decode cX11_weight 53 = .ok (.istore 4, 2) := by decide +kernel
theorem dX11_weight_55 : decode cX11_weight 55 = .ok (.iload 4, 2) := by decide +kernel
theorem dX11_weight_57 : decode cX11_weight 57 = .ok (.sipush 144, 3) := by decide +kernel
theorem dX11_weight_60 : decode cX11_weight 60 = .ok (.if_icmp .ge 25, 3) := by decide +kernel
theorem dX11_weight_63 : decode cX11_weight 63 = .ok (.iload_n 2, 1) := by decide +kernel
theorem dX11_weight_64 : decode cX11_weight 64 = .ok (.aload_n 0, 1) := by decide +kernel
theorem dX11_weight_65 : decode cX11_weight 65 = .ok (.getfield 29, 3) := by decide +kernel
theorem dX11_weight_68 : decode cX11_weight 68 = .ok (.sipush 144, 3) := by decide +kernel
theorem dX11_weight_71 : decode cX11_weight 71 = .ok (.iload_n 1, 1) := by decide +kernel
theorem dX11_weight_72 : decode cX11_weight 72 = .ok (.imul, 1) := by decide +kernel
theorem dX11_weight_73 : decode cX11_weight 73 = .ok (.iload 4, 2) := by decide +kernel
theorem dX11_weight_75 : decode cX11_weight 75 = .ok (.iadd, 1) := by decide +kernel
theorem dX11_weight_76 : decode cX11_weight 76 = .ok (.iaload, 1) := by decide +kernel
theorem dX11_weight_77 : decode cX11_weight 77 = .ok (.iadd, 1) := by decide +kernel
theorem dX11_weight_78 : decode cX11_weight 78 = .ok (.istore_n 2, 1) := by decide +kernel
theorem dX11_weight_79 : decode cX11_weight 79 = .ok (.iinc 4 1, 3) := by decide +kernel
theorem dX11_weight_82 : decode cX11_weight 82 = .ok (.goto (-27), 3) := by decide +kernel
theorem dX11_weight_85 : decode cX11_weight 85 = .ok (.aload_n 0, 1) := by decide +kernel
theorem dX11_weight_86 : decode cX11_weight 86 = .ok (.bipush 10, 2) := by decide +kernel
theorem dX11_weight_88 : decode cX11_weight 88 = .ok (.invokevirtual 176, 3) := by decide +kernel
theorem dX11_weight_91 : decode cX11_weight 91 = .ok (.iload_n 2, 1) := by decide +kernel
theorem dX11_weight_92 : decode cX11_weight 92 = .ok (.iconst 1, 1) := by decide +kernel
theorem dX11_weight_93 : decode cX11_weight 93 = .ok (.iadd, 1) := by decide +kernel
theorem dX11_weight_94 : decode cX11_weight 94 = .ok (.iload_n 3, 1) := by decide +kernel
theorem dX11_weight_95 : decode cX11_weight 95 = .ok (.ifCond .eq 12, 3) := by decide +kernel
theorem dX11_weight_98 : decode cX11_weight 98 = .ok (.aload_n 0, 1) := by decide +kernel
theorem dX11_weight_99 : decode cX11_weight 99 = .ok (.getfield 32, 3) := by decide +kernel
theorem dX11_weight_102 : decode cX11_weight 102 = .ok (.iload_n 1, 1) := by decide +kernel
theorem dX11_weight_103 : decode cX11_weight 103 = .ok (.iaload, 1) := by decide +kernel
theorem dX11_weight_104 : decode cX11_weight 104 = .ok (.goto 4, 3) := by decide +kernel
theorem dX11_weight_107 : decode cX11_weight 107 = .ok (.iconst 0, 1) := by decide +kernel
theorem dX11_weight_108 : decode cX11_weight 108 = .ok (.iadd, 1) := by decide +kernel
theorem dX11_weight_109 : decode cX11_weight 109 = .ok (.ireturn, 1) := by decide +kernel
theorem dX11_marked_0 : decode cX11_marked 0 = .ok (.aload_n 0, 1) := by decide +kernel
theorem dX11_marked_1 : decode cX11_marked 1 = .ok (.getfield 20, 3) := by decide +kernel
theorem dX11_marked_4 : decode cX11_marked 4 = .ok (.iload_n 1, 1) := by decide +kernel
theorem dX11_marked_5 : decode cX11_marked 5 = .ok (.iaload, 1) := by decide +kernel
theorem dX11_marked_6 : decode cX11_marked 6 = .ok (.iconst 4, 1) := by decide +kernel
theorem dX11_marked_7 : decode cX11_marked 7 = .ok (.if_icmp .ne 62, 3) := by decide +kernel
theorem dX11_marked_10 : decode cX11_marked 10 = .ok (.aload_n 0, 1) := by decide +kernel
theorem dX11_marked_11 : decode cX11_marked 11 = .ok (.bipush 22, 2) := by decide +kernel
theorem dX11_marked_13 : decode cX11_marked 13 = .ok (.invokevirtual 176, 3) := by decide +kernel
theorem dX11_marked_16 : decode cX11_marked 16 = .ok (.iconst 0, 1) := by decide +kernel
theorem dX11_marked_17 : decode cX11_marked 17 = .ok (.istore_n 2, 1) := by decide +kernel
theorem dX11_marked_18 : decode cX11_marked 18 = .ok (.iconst 0, 1) := by decide +kernel
theorem dX11_marked_19 : decode cX11_marked 19 = .ok (.istore_n 3, 1) := by decide +kernel
theorem dX11_marked_20 : decode cX11_marked 20 = .ok (.iload_n 3, 1) := by decide +kernel
theorem dX11_marked_21 : decode cX11_marked 21 = .ok (.aload_n 0, 1) := by decide +kernel
theorem dX11_marked_22 : decode cX11_marked 22 = .ok (.getfield 23, 3) := by decide +kernel
theorem dX11_marked_25 : decode cX11_marked 25 = .ok (.iload_n 1, 1) := by decide +kernel
theorem dX11_marked_26 : decode cX11_marked 26 = .ok (.iaload, 1) := by decide +kernel
theorem dX11_marked_27 : decode cX11_marked 27 = .ok (.if_icmp .ge 40, 3) := by decide +kernel
theorem dX11_marked_30 : decode cX11_marked 30 = .ok (.aload_n 0, 1) := by decide +kernel
theorem dX11_marked_31 : decode cX11_marked 31 = .ok (.getfield 42, 3) := by decide +kernel
theorem dX11_marked_34 : decode cX11_marked 34 = .ok (.bipush 20, 2) := by decide +kernel
theorem dX11_marked_36 : decode cX11_marked 36 = .ok (.iload_n 1, 1) := by decide +kernel
theorem dX11_marked_37 : decode cX11_marked 37 = .ok (.imul, 1) := by decide +kernel
theorem dX11_marked_38 : decode cX11_marked 38 = .ok (.iload_n 3, 1) := by decide +kernel
theorem dX11_marked_39 : decode cX11_marked 39 = .ok (.iadd, 1) := by decide +kernel
theorem dX11_marked_40 : decode cX11_marked 40 = .ok (.iaload, 1) := by decide +kernel
theorem dX11_marked_41 : decode cX11_marked 41 = .ok (.iload_n 2, 1) := by decide +kernel
theorem dX11_marked_42 : decode cX11_marked 42 = .ok (.if_icmp .le 17, 3) := by decide +kernel
theorem dX11_marked_45 : decode cX11_marked 45 = .ok (.aload_n 0, 1) := by decide +kernel
theorem dX11_marked_46 : decode cX11_marked 46 = .ok (.getfield 42, 3) := by decide +kernel
theorem dX11_marked_49 : decode cX11_marked 49 = .ok (.bipush 20, 2) := by decide +kernel
theorem dX11_marked_51 : decode cX11_marked 51 = .ok (.iload_n 1, 1) := by decide +kernel
theorem dX11_marked_52 : decode cX11_marked 52 = .ok (.imul, 1) := by decide +kernel
theorem dX11_marked_53 : decode cX11_marked 53 = .ok (.iload_n 3, 1) := by decide +kernel
theorem dX11_marked_54 : decode cX11_marked 54 = .ok (.iadd, 1) := by decide +kernel
theorem dX11_marked_55 : decode cX11_marked 55 = .ok (.iaload, 1) := by decide +kernel
theorem dX11_marked_56 : decode cX11_marked 56 = .ok (.goto 4, 3) := by decide +kernel
theorem dX11_marked_59 : decode cX11_marked 59 = .ok (.iload_n 2, 1) := by decide +kernel
theorem dX11_marked_60 : decode cX11_marked 60 = .ok (.istore_n 2, 1) := by decide +kernel
theorem dX11_marked_61 : decode cX11_marked 61 = .ok (.iinc 3 1, 3) := by decide +kernel
theorem dX11_marked_64 : decode cX11_marked 64 = .ok (.goto (-44), 3) := by decide +kernel
theorem dX11_marked_67 : decode cX11_marked 67 = .ok (.iload_n 2, 1) := by decide +kernel
theorem dX11_marked_68 : decode cX11_marked 68 = .ok (.ireturn, 1) := by decide +kernel
theorem dX11_marked_69 : decode cX11_marked 69 = .ok (.aload_n 0, 1) := by decide +kernel
theorem dX11_marked_70 : decode cX11_marked 70 = .ok (.getfield 20, 3) := by decide +kernel
theorem dX11_marked_73 : decode cX11_marked 73 = .ok (.iload_n 1, 1) := by decide +kernel
theorem dX11_marked_74 : decode cX11_marked 74 = .ok (.iaload, 1) := by decide +kernel
theorem dX11_marked_75 : decode cX11_marked 75 = .ok (.iconst 3, 1) := by decide +kernel
theorem dX11_marked_76 : decode cX11_marked 76 = .ok (.if_icmp .ne 9, 3) := by decide +kernel
theorem dX11_marked_79 : decode cX11_marked 79 = .ok (.aload_n 0, 1) := by decide +kernel
theorem dX11_marked_80 : decode cX11_marked 80 = .ok (.bipush 21, 2) := by decide +kernel
theorem dX11_marked_82 : decode cX11_marked 82 = .ok (.invokevirtual 176, 3) := by decide +kernel
theorem dX11_marked_85 : decode cX11_marked 85 = .ok (.aload_n 0, 1) := by decide +kernel
theorem dX11_marked_86 : decode cX11_marked 86 = .ok (.bipush 20, 2) := by decide +kernel
theorem dX11_marked_88 : decode cX11_marked 88 = .ok (.invokevirtual 176, 3) := by decide +kernel
theorem dX11_marked_91 : decode cX11_marked 91 = .ok (.aload_n 0, 1) := by decide +kernel
theorem dX11_marked_92 : decode cX11_marked 92 = .ok (.iload_n 1, 1) := by decide +kernel
theorem dX11_marked_93 : decode cX11_marked 93 = .ok (.invokevirtual 180, 3) := by decide +kernel
theorem dX11_marked_96 : decode cX11_marked 96 = .ok (.iconst 5, 1) := by decide +kernel
theorem dX11_marked_97 : decode cX11_marked 97 = .ok (.iadd, 1) := by decide +kernel
theorem dX11_marked_98 : decode cX11_marked 98 = .ok (.istore_n 2, 1) := by decide +kernel
theorem dX11_marked_99 : decode cX11_marked 99 = .ok (.aload_n 0, 1) := by decide +kernel
theorem dX11_marked_100 : decode cX11_marked 100 = .ok (.getfield 20, 3) := by decide +kernel
theorem dX11_marked_103 : decode cX11_marked 103 = .ok (.iload_n 1, 1) := by decide +kernel
theorem dX11_marked_104 : decode cX11_marked 104 = .ok (.iaload, 1) := by decide +kernel
theorem dX11_marked_105 : decode cX11_marked 105 = .ok (.iconst 3, 1) := by decide +kernel
theorem dX11_marked_106 : decode cX11_marked 106 = .ok (.if_icmp .ne 9, 3) := by decide +kernel
theorem dX11_marked_109 : decode cX11_marked 109 = .ok (.iconst 2, 1) := by decide +kernel
theorem dX11_marked_110 : decode cX11_marked 110 = .ok (.iload_n 2, 1) := by decide +kernel
theorem dX11_marked_111 : decode cX11_marked 111 = .ok (.imul, 1) := by decide +kernel
theorem dX11_marked_112 : decode cX11_marked 112 = .ok (.goto 4, 3) := by decide +kernel
theorem dX11_marked_115 : decode cX11_marked 115 = .ok (.iload_n 2, 1) := by decide +kernel
theorem dX11_marked_116 : decode cX11_marked 116 = .ok (.ireturn, 1) := by decide +kernel
theorem dX11_ask_0 : decode cX11_ask 0 = .ok (.aload_n 0, 1) := by decide +kernel
theorem dX11_ask_1 : decode cX11_ask 1 = .ok (.iconst 0, 1) := by decide +kernel
theorem dX11_ask_2 : decode cX11_ask 2 = .ok (.putfield 124, 3) := by decide +kernel
theorem dX11_ask_5 : decode cX11_ask 5 = .ok (.iload_n 1, 1) := by decide +kernel
theorem dX11_ask_6 : decode cX11_ask 6 = .ok (.invokestatic 153, 3) := by decide +kernel
theorem dX11_ask_9 : decode cX11_ask 9 = .ok (.ifCond .eq 13, 3) := by decide +kernel
theorem dX11_ask_12 : decode cX11_ask 12 = .ok (.iload_n 2, 1) := by decide +kernel
theorem dX11_ask_13 : decode cX11_ask 13 = .ok (.i2l, 1) := by decide +kernel
theorem dX11_ask_14 : decode cX11_ask 14 = .ok (.lconst 0, 1) := by decide +kernel
theorem dX11_ask_15 : decode cX11_ask 15 = .ok (.lconst 1, 1) := by decide +kernel
theorem dX11_ask_16 : decode cX11_ask 16 = .ok (.invokestatic 134, 3) := by decide +kernel
theorem dX11_ask_19 : decode cX11_ask 19 = .ok (.ifCond .ne 6, 3) := by decide +kernel
theorem dX11_ask_22 : decode cX11_ask 22 = .ok (.ldc 144, 2) := by decide +kernel
theorem dX11_ask_24 : decode cX11_ask 24 = .ok (.ireturn, 1) := by decide +kernel
theorem dX11_ask_25 : decode cX11_ask 25 = .ok (.aload_n 0, 1) := by decide +kernel
theorem dX11_ask_26 : decode cX11_ask 26 = .ok (.iconst 0, 1) := by decide +kernel
theorem dX11_ask_27 : decode cX11_ask 27 = .ok (.putfield 173, 3) := by decide +kernel
theorem dX11_ask_30 : decode cX11_ask 30 = .ok (.aload_n 0, 1) := by decide +kernel
theorem dX11_ask_31 : decode cX11_ask 31 = .ok (.iconst 0, 1) := by decide +kernel
theorem dX11_ask_32 : decode cX11_ask 32 = .ok (.putfield 128, 3) := by decide +kernel
theorem dX11_ask_35 : decode cX11_ask 35 = .ok (.aload_n 0, 1) := by decide +kernel
theorem dX11_ask_36 : decode cX11_ask 36 = .ok (.getfield 20, 3) := by decide +kernel
theorem dX11_ask_39 : decode cX11_ask 39 = .ok (.iload_n 1, 1) := by decide +kernel
theorem dX11_ask_40 : decode cX11_ask 40 = .ok (.iaload, 1) := by decide +kernel
theorem dX11_ask_41 : decode cX11_ask 41 = .ok (.ifCond .ge 11, 3) := by decide +kernel
theorem dX11_ask_44 : decode cX11_ask 44 = .ok (.aload_n 0, 1) := by decide +kernel
theorem dX11_ask_45 : decode cX11_ask 45 = .ok (.iconst 1, 1) := by decide +kernel
theorem dX11_ask_46 : decode cX11_ask 46 = .ok (.invokevirtual 145, 3) := by decide +kernel
theorem dX11_ask_49 : decode cX11_ask 49 = .ok (.goto 20, 3) := by decide +kernel
theorem dX11_ask_52 : decode cX11_ask 52 = .ok (.iload_n 2, 1) := by decide +kernel
theorem dX11_ask_53 : decode cX11_ask 53 = .ok (.ifCond .ne 11, 3) := by decide +kernel
theorem dX11_ask_56 : decode cX11_ask 56 = .ok (.aload_n 0, 1) := by decide +kernel
theorem dX11_ask_57 : decode cX11_ask 57 = .ok (.iload_n 1, 1) := by decide +kernel
theorem dX11_ask_58 : decode cX11_ask 58 = .ok (.invokevirtual 180, 3) := by decide +kernel
theorem dX11_ask_61 : decode cX11_ask 61 = .ok (.goto 8, 3) := by decide +kernel
theorem dX11_ask_64 : decode cX11_ask 64 = .ok (.aload_n 0, 1) := by decide +kernel
theorem dX11_ask_65 : decode cX11_ask 65 = .ok (.iload_n 1, 1) := by decide +kernel
theorem dX11_ask_66 : decode cX11_ask 66 = .ok (.invokevirtual 183, 3) := by decide +kernel
theorem dX11_ask_69 : decode cX11_ask 69 = .ok (.ireturn, 1) := by decide +kernel
theorem dX11_trace_0 : decode cX11_trace 0 = .ok (.aload_n 0, 1) := by decide +kernel
theorem dX11_trace_1 : decode cX11_trace 1 = .ok (.iconst 0, 1) := by decide +kernel
theorem dX11_trace_2 : decode cX11_trace 2 = .ok (.putfield 124, 3) := by decide +kernel
theorem dX11_trace_5 : decode cX11_trace 5 = .ok (.iload_n 1, 1) := by decide +kernel
theorem dX11_trace_6 : decode cX11_trace 6 = .ok (.i2l, 1) := by decide +kernel
theorem dX11_trace_7 : decode cX11_trace 7 = .ok (.lconst 0, 1) := by decide +kernel
theorem dX11_trace_8 : decode cX11_trace 8 = .ok (.aload_n 0, 1) := by decide +kernel
theorem dX11_trace_9 : decode cX11_trace 9 = .ok (.getfield 173, 3) := by decide +kernel
theorem dX11_trace_12 : decode cX11_trace 12 = .ok (.iconst 1, 1) := by decide +kernel
theorem dX11_trace_13 : decode cX11_trace 13 = .ok (.isub, 1) := by decide +kernel
theorem dX11_trace_14 : decode cX11_trace 14 = .ok (.i2l, 1) := by decide +kernel
theorem dX11_trace_15 : decode cX11_trace 15 = .ok (.invokestatic 134, 3) := by decide +kernel
theorem dX11_trace_18 : decode cX11_trace 18 = .ok (.ifCond .eq 12, 3) := by decide +kernel
theorem dX11_trace_21 : decode cX11_trace 21 = .ok (.aload_n 0, 1) := by decide +kernel
theorem dX11_trace_22 : decode cX11_trace 22 = .ok (.getfield 54, 3) := by decide +kernel
theorem dX11_trace_25 : decode cX11_trace 25 = .ok (.iload_n 1, 1) := by decide +kernel
theorem dX11_trace_26 : decode cX11_trace 26 = .ok (.iaload, 1) := by decide +kernel
theorem dX11_trace_27 : decode cX11_trace 27 = .ok (.goto 5, 3) := by decide +kernel
theorem dX11_trace_30 : decode cX11_trace 30 = .ok (.ldc 186, 2) := by decide +kernel
theorem dX11_trace_32 : decode cX11_trace 32 = .ok (.ireturn, 1) := by decide +kernel
theorem dX11_asked_0 : decode cX11_asked 0 = .ok (.aload_n 0, 1) := by decide +kernel
theorem dX11_asked_1 : decode cX11_asked 1 = .ok (.getfield 20, 3) := by decide +kernel
theorem dX11_asked_4 : decode cX11_asked 4 = .ok (.iload_n 1, 1) := by decide +kernel
theorem dX11_asked_5 : decode cX11_asked 5 = .ok (.iaload, 1) := by decide +kernel
theorem dX11_asked_6 : decode cX11_asked 6 = .ok (.ifCond .ge 7, 3) := by decide +kernel
theorem dX11_asked_9 : decode cX11_asked 9 = .ok (.iconst 1, 1) := by decide +kernel
theorem dX11_asked_10 : decode cX11_asked 10 = .ok (.goto 21, 3) := by decide +kernel
theorem dX11_asked_13 : decode cX11_asked 13 = .ok (.aload_n 0, 1) := by decide +kernel
theorem dX11_asked_14 : decode cX11_asked 14 = .ok (.getfield 20, 3) := by decide +kernel
theorem dX11_asked_17 : decode cX11_asked 17 = .ok (.iload_n 1, 1) := by decide +kernel
theorem dX11_asked_18 : decode cX11_asked 18 = .ok (.iaload, 1) := by decide +kernel
theorem dX11_asked_19 : decode cX11_asked 19 = .ok (.iload_n 2, 1) := by decide +kernel
theorem dX11_asked_20 : decode cX11_asked 20 = .ok (.invokestatic 169, 3) := by decide +kernel
theorem dX11_asked_23 : decode cX11_asked 23 = .ok (.ifCond .eq 7, 3) := by decide +kernel
theorem dX11_asked_26 : decode cX11_asked 26 = .ok (.iconst 0, 1) := by decide +kernel
theorem dX11_asked_27 : decode cX11_asked 27 = .ok (.goto 4, 3) := by decide +kernel
theorem dX11_asked_30 : decode cX11_asked 30 = .ok (.iconst 3, 1) := by decide +kernel
theorem dX11_asked_31 : decode cX11_asked 31 = .ok (.ireturn, 1) := by decide +kernel
theorem dX11_isCell_0 : decode cX11_isCell 0 = .ok (.iload_n 2, 1) := by decide +kernel
theorem dX11_isCell_1 : decode cX11_isCell 1 = .ok (.i2l, 1) := by decide +kernel
theorem dX11_isCell_2 : decode cX11_isCell 2 = .ok (.lconst 0, 1) := by decide +kernel
theorem dX11_isCell_3 : decode cX11_isCell 3 = .ok (.aload_n 0, 1) := by decide +kernel
theorem dX11_isCell_4 : decode cX11_isCell 4 = .ok (.getfield 23, 3) := by decide +kernel
theorem dX11_isCell_7 : decode cX11_isCell 7 = .ok (.iload_n 1, 1) := by decide +kernel
theorem dX11_isCell_8 : decode cX11_isCell 8 = .ok (.iaload, 1) := by decide +kernel
theorem dX11_isCell_9 : decode cX11_isCell 9 = .ok (.aload_n 0, 1) := by decide +kernel
theorem dX11_isCell_10 : decode cX11_isCell 10 = .ok (.getfield 26, 3) := by decide +kernel
theorem dX11_isCell_13 : decode cX11_isCell 13 = .ok (.iload_n 1, 1) := by decide +kernel
theorem dX11_isCell_14 : decode cX11_isCell 14 = .ok (.iaload, 1) := by decide +kernel
theorem dX11_isCell_15 : decode cX11_isCell 15 = .ok (.imul, 1) := by decide +kernel
theorem dX11_isCell_16 : decode cX11_isCell 16 = .ok (.iconst 1, 1) := by decide +kernel
theorem dX11_isCell_17 : decode cX11_isCell 17 = .ok (.isub, 1) := by decide +kernel
theorem dX11_isCell_18 : decode cX11_isCell 18 = .ok (.i2l, 1) := by decide +kernel
theorem dX11_isCell_19 : decode cX11_isCell 19 = .ok (.invokestatic 134, 3) := by decide +kernel
theorem dX11_isCell_22 : decode cX11_isCell 22 = .ok (.ifCond .eq 22, 3) := by decide +kernel
theorem dX11_isCell_25 : decode cX11_isCell 25 = .ok (.aload_n 0, 1) := by decide +kernel
theorem dX11_isCell_26 : decode cX11_isCell 26 = .ok (.getfield 29, 3) := by decide +kernel
theorem dX11_isCell_29 : decode cX11_isCell 29 = .ok (.sipush 144, 3) := by decide +kernel
theorem dX11_isCell_32 : decode cX11_isCell 32 = .ok (.iload_n 1, 1) := by decide +kernel
theorem dX11_isCell_33 : decode cX11_isCell 33 = .ok (.imul, 1) := by decide +kernel
theorem dX11_isCell_34 : decode cX11_isCell 34 = .ok (.iload_n 2, 1) := by decide +kernel
theorem dX11_isCell_35 : decode cX11_isCell 35 = .ok (.iadd, 1) := by decide +kernel
theorem dX11_isCell_36 : decode cX11_isCell 36 = .ok (.iaload, 1) := by decide +kernel
theorem dX11_isCell_37 : decode cX11_isCell 37 = .ok (.ifCond .le 7, 3) := by decide +kernel
theorem dX11_isCell_40 : decode cX11_isCell 40 = .ok (.iconst 1, 1) := by decide +kernel
theorem dX11_isCell_41 : decode cX11_isCell 41 = .ok (.goto 4, 3) := by decide +kernel
theorem dX11_isCell_44 : decode cX11_isCell 44 = .ok (.iconst 0, 1) := by decide +kernel
theorem dX11_isCell_45 : decode cX11_isCell 45 = .ok (.ireturn, 1) := by decide +kernel
theorem dX11_gate_0 : decode cX11_gate 0 = .ok (.aload_n 0, 1) := by decide +kernel
theorem dX11_gate_1 : decode cX11_gate 1 = .ok (.iconst 0, 1) := by decide +kernel
theorem dX11_gate_2 : decode cX11_gate 2 = .ok (.putfield 124, 3) := by decide +kernel
theorem dX11_gate_5 : decode cX11_gate 5 = .ok (.iload_n 1, 1) := by decide +kernel
theorem dX11_gate_6 : decode cX11_gate 6 = .ok (.invokestatic 153, 3) := by decide +kernel
theorem dX11_gate_9 : decode cX11_gate 9 = .ok (.ifCond .ne 6, 3) := by decide +kernel
theorem dX11_gate_12 : decode cX11_gate 12 = .ok (.ldc 144, 2) := by decide +kernel
theorem dX11_gate_14 : decode cX11_gate 14 = .ok (.ireturn, 1) := by decide +kernel
theorem dX11_gate_15 : decode cX11_gate 15 = .ok (.aload_n 0, 1) := by decide +kernel
theorem dX11_gate_16 : decode cX11_gate 16 = .ok (.iload_n 1, 1) := by decide +kernel
theorem dX11_gate_17 : decode cX11_gate 17 = .ok (.iconst 1, 1) := by decide +kernel
theorem dX11_gate_18 : decode cX11_gate 18 = .ok (.invokevirtual 187, 3) := by decide +kernel
theorem dX11_gate_21 : decode cX11_gate 21 = .ok (.istore_n 3, 1) := by decide +kernel
theorem dX11_gate_22 : decode cX11_gate 22 = .ok (.iload_n 3, 1) := by decide +kernel
theorem dX11_gate_23 : decode cX11_gate 23 = .ok (.ifCond .le 9, 3) := by decide +kernel
theorem dX11_gate_26 : decode cX11_gate 26 = .ok (.aload_n 0, 1) := by decide +kernel
theorem dX11_gate_27 : decode cX11_gate 27 = .ok (.iload_n 3, 1) := by decide +kernel
theorem dX11_gate_28 : decode cX11_gate 28 = .ok (.invokevirtual 145, 3) := by decide +kernel
theorem dX11_gate_31 : decode cX11_gate 31 = .ok (.ireturn, 1) := by decide +kernel
theorem dX11_gate_32 : decode cX11_gate 32 = .ok (.iconst 0, 1) := by decide +kernel
theorem dX11_gate_33 : decode cX11_gate 33 = .ok (.istore 4, 2) := by decide +kernel
theorem dX11_gate_35 : decode cX11_gate 35 = .ok (.iconst 0, 1) := by decide +kernel
theorem dX11_gate_36 : decode cX11_gate 36 = .ok (.istore 5, 2) := by decide +kernel
theorem dX11_gate_38 : decode cX11_gate 38 = .ok (.iload 5, 2) := by decide +kernel
theorem dX11_gate_40 : decode cX11_gate 40 = .ok (.aload_n 0, 1) := by decide +kernel
theorem dX11_gate_41 : decode cX11_gate 41 = .ok (.getfield 32, 3) := by decide +kernel
theorem dX11_gate_44 : decode cX11_gate 44 = .ok (.iload_n 1, 1) := by decide +kernel
theorem dX11_gate_45 : decode cX11_gate 45 = .ok (.iaload, 1) := by decide +kernel
theorem dX11_gate_46 : decode cX11_gate 46 = .ok (.if_icmp .ge 36, 3) := by decide +kernel
theorem dX11_gate_49 : decode cX11_gate 49 = .ok (.iload 4, 2) := by decide +kernel
theorem dX11_gate_51 : decode cX11_gate 51 = .ok (.ifCond .ne 18, 3) := by decide +kernel
theorem dX11_gate_54 : decode cX11_gate 54 = .ok (.aload_n 0, 1) := by decide +kernel
theorem dX11_gate_55 : decode cX11_gate 55 = .ok (.getfield 35, 3) := by decide +kernel
theorem dX11_gate_58 : decode cX11_gate 58 = .ok (.iconst 4, 1) := by decide +kernel
theorem dX11_gate_59 : decode cX11_gate 59 = .ok (.iload_n 1, 1) := by decide +kernel
theorem dX11_gate_60 : decode cX11_gate 60 = .ok (.imul, 1) := by decide +kernel
theorem dX11_gate_61 : decode cX11_gate 61 = .ok (.iload 5, 2) := by decide +kernel
theorem dX11_gate_63 : decode cX11_gate 63 = .ok (.iadd, 1) := by decide +kernel
theorem dX11_gate_64 : decode cX11_gate 64 = .ok (.iaload, 1) := by decide +kernel
theorem dX11_gate_65 : decode cX11_gate 65 = .ok (.iload_n 2, 1) := by decide +kernel
theorem dX11_gate_66 : decode cX11_gate 66 = .ok (.if_icmp .ne 7, 3) := by decide +kernel
theorem dX11_gate_69 : decode cX11_gate 69 = .ok (.iconst 1, 1) := by decide +kernel
theorem dX11_gate_70 : decode cX11_gate 70 = .ok (.goto 4, 3) := by decide +kernel
theorem dX11_gate_73 : decode cX11_gate 73 = .ok (.iconst 0, 1) := by decide +kernel
theorem dX11_gate_74 : decode cX11_gate 74 = .ok (.istore 4, 2) := by decide +kernel
theorem dX11_gate_76 : decode cX11_gate 76 = .ok (.iinc 5 1, 3) := by decide +kernel
theorem dX11_gate_79 : decode cX11_gate 79 = .ok (.goto (-41), 3) := by decide +kernel
theorem dX11_gate_82 : decode cX11_gate 82 = .ok (.aload_n 0, 1) := by decide +kernel
theorem dX11_gate_83 : decode cX11_gate 83 = .ok (.iload_n 1, 1) := by decide +kernel
theorem dX11_gate_84 : decode cX11_gate 84 = .ok (.iload_n 2, 1) := by decide +kernel
theorem dX11_gate_85 : decode cX11_gate 85 = .ok (.invokevirtual 191, 3) := by decide +kernel
theorem dX11_gate_88 : decode cX11_gate 88 = .ok (.ifCond .eq 8, 3) := by decide +kernel
theorem dX11_gate_91 : decode cX11_gate 91 = .ok (.iload 4, 2) := by decide +kernel
theorem dX11_gate_93 : decode cX11_gate 93 = .ok (.ifCond .eq 6, 3) := by decide +kernel
theorem dX11_gate_96 : decode cX11_gate 96 = .ok (.ldc 144, 2) := by decide +kernel
theorem dX11_gate_98 : decode cX11_gate 98 = .ok (.ireturn, 1) := by decide +kernel
theorem dX11_gate_99 : decode cX11_gate 99 = .ok (.aload_n 0, 1) := by decide +kernel
theorem dX11_gate_100 : decode cX11_gate 100 = .ok (.getfield 32, 3) := by decide +kernel
theorem dX11_gate_103 : decode cX11_gate 103 = .ok (.iload_n 1, 1) := by decide +kernel
theorem dX11_gate_104 : decode cX11_gate 104 = .ok (.iaload, 1) := by decide +kernel
theorem dX11_gate_105 : decode cX11_gate 105 = .ok (.iconst 4, 1) := by decide +kernel
theorem dX11_gate_106 : decode cX11_gate 106 = .ok (.if_icmp .ne 6, 3) := by decide +kernel
theorem dX11_gate_109 : decode cX11_gate 109 = .ok (.ldc 194, 2) := by decide +kernel
theorem dX11_gate_111 : decode cX11_gate 111 = .ok (.ireturn, 1) := by decide +kernel
theorem dX11_gate_112 : decode cX11_gate 112 = .ok (.aload_n 0, 1) := by decide +kernel
theorem dX11_gate_113 : decode cX11_gate 113 = .ok (.iconst 0, 1) := by decide +kernel
theorem dX11_gate_114 : decode cX11_gate 114 = .ok (.putfield 128, 3) := by decide +kernel
theorem dX11_gate_117 : decode cX11_gate 117 = .ok (.aload_n 0, 1) := by decide +kernel
theorem dX11_gate_118 : decode cX11_gate 118 = .ok (.getfield 35, 3) := by decide +kernel
theorem dX11_gate_121 : decode cX11_gate 121 = .ok (.iconst 4, 1) := by decide +kernel
theorem dX11_gate_122 : decode cX11_gate 122 = .ok (.iload_n 1, 1) := by decide +kernel
theorem dX11_gate_123 : decode cX11_gate 123 = .ok (.imul, 1) := by decide +kernel
theorem dX11_gate_124 : decode cX11_gate 124 = .ok (.aload_n 0, 1) := by decide +kernel
theorem dX11_gate_125 : decode cX11_gate 125 = .ok (.getfield 32, 3) := by decide +kernel
theorem dX11_gate_128 : decode cX11_gate 128 = .ok (.iload_n 1, 1) := by decide +kernel
theorem dX11_gate_129 : decode cX11_gate 129 = .ok (.iaload, 1) := by decide +kernel
theorem dX11_gate_130 : decode cX11_gate 130 = .ok (.iadd, 1) := by decide +kernel
theorem dX11_gate_131 : decode cX11_gate 131 = .ok (.iload_n 2, 1) := by decide +kernel
theorem dX11_gate_132 : decode cX11_gate 132 = .ok (.iastore, 1) := by decide +kernel
theorem dX11_gate_133 : decode cX11_gate 133 = .ok (.aload_n 0, 1) := by decide +kernel
theorem dX11_gate_134 : decode cX11_gate 134 = .ok (.getfield 32, 3) := by decide +kernel
theorem dX11_gate_137 : decode cX11_gate 137 = .ok (.iload_n 1, 1) := by decide +kernel
theorem dX11_gate_138 : decode cX11_gate 138 = .ok (.dup2, 1) := by decide +kernel
theorem dX11_gate_139 : decode cX11_gate 139 = .ok (.iaload, 1) := by decide +kernel
theorem dX11_gate_140 : decode cX11_gate 140 = .ok (.iconst 1, 1) := by decide +kernel
theorem dX11_gate_141 : decode cX11_gate 141 = .ok (.iadd, 1) := by decide +kernel
theorem dX11_gate_142 : decode cX11_gate 142 = .ok (.iastore, 1) := by decide +kernel
theorem dX11_gate_143 : decode cX11_gate 143 = .ok (.aload_n 0, 1) := by decide +kernel
theorem dX11_gate_144 : decode cX11_gate 144 = .ok (.getfield 32, 3) := by decide +kernel
theorem dX11_gate_147 : decode cX11_gate 147 = .ok (.iload_n 1, 1) := by decide +kernel
theorem dX11_gate_148 : decode cX11_gate 148 = .ok (.iaload, 1) := by decide +kernel
theorem dX11_gate_149 : decode cX11_gate 149 = .ok (.iconst 1, 1) := by decide +kernel
theorem dX11_gate_150 : decode cX11_gate 150 = .ok (.isub, 1) := by decide +kernel
theorem dX11_gate_151 : decode cX11_gate 151 = .ok (.ireturn, 1) := by decide +kernel
theorem dX11_vent_0 : decode cX11_vent 0 = .ok (.aload_n 0, 1) := by decide +kernel
theorem dX11_vent_1 : decode cX11_vent 1 = .ok (.iconst 0, 1) := by decide +kernel
theorem dX11_vent_2 : decode cX11_vent 2 = .ok (.putfield 124, 3) := by decide +kernel
theorem dX11_vent_5 : decode cX11_vent 5 = .ok (.iload_n 1, 1) := by decide +kernel
theorem dX11_vent_6 : decode cX11_vent 6 = .ok (.invokestatic 153, 3) := by decide +kernel
theorem dX11_vent_9 : decode cX11_vent 9 = .ok (.ifCond .ne 6, 3) := by decide +kernel
theorem dX11_vent_12 : decode cX11_vent 12 = .ok (.ldc 144, 2) := by decide +kernel
theorem dX11_vent_14 : decode cX11_vent 14 = .ok (.ireturn, 1) := by decide +kernel
theorem dX11_vent_15 : decode cX11_vent 15 = .ok (.aload_n 0, 1) := by decide +kernel
theorem dX11_vent_16 : decode cX11_vent 16 = .ok (.iload_n 1, 1) := by decide +kernel
theorem dX11_vent_17 : decode cX11_vent 17 = .ok (.iconst 1, 1) := by decide +kernel
theorem dX11_vent_18 : decode cX11_vent 18 = .ok (.invokevirtual 187, 3) := by decide +kernel
theorem dX11_vent_21 : decode cX11_vent 21 = .ok (.istore_n 3, 1) := by decide +kernel
theorem dX11_vent_22 : decode cX11_vent 22 = .ok (.iload_n 3, 1) := by decide +kernel
theorem dX11_vent_23 : decode cX11_vent 23 = .ok (.ifCond .le 9, 3) := by decide +kernel
theorem dX11_vent_26 : decode cX11_vent 26 = .ok (.aload_n 0, 1) := by decide +kernel
theorem dX11_vent_27 : decode cX11_vent 27 = .ok (.iload_n 3, 1) := by decide +kernel
theorem dX11_vent_28 : decode cX11_vent 28 = .ok (.invokevirtual 145, 3) := by decide +kernel
theorem dX11_vent_31 : decode cX11_vent 31 = .ok (.ireturn, 1) := by decide +kernel
theorem dX11_vent_32 : decode cX11_vent 32 = .ok (.aload_n 0, 1) := by decide +kernel
theorem dX11_vent_33 : decode cX11_vent 33 = .ok (.iload_n 1, 1) := by decide +kernel
theorem dX11_vent_34 : decode cX11_vent 34 = .ok (.iload_n 2, 1) := by decide +kernel
theorem dX11_vent_35 : decode cX11_vent 35 = .ok (.invokevirtual 191, 3) := by decide +kernel
theorem dX11_vent_38 : decode cX11_vent 38 = .ok (.ifCond .ne 6, 3) := by decide +kernel
theorem dX11_vent_41 : decode cX11_vent 41 = .ok (.ldc 144, 2) := by decide +kernel
theorem dX11_vent_43 : decode cX11_vent 43 = .ok (.ireturn, 1) := by decide +kernel
theorem dX11_vent_44 : decode cX11_vent 44 = .ok (.aload_n 0, 1) := by decide +kernel
theorem dX11_vent_45 : decode cX11_vent 45 = .ok (.iconst 0, 1) := by decide +kernel
theorem dX11_vent_46 : decode cX11_vent 46 = .ok (.putfield 128, 3) := by decide +kernel
theorem dX11_vent_49 : decode cX11_vent 49 = .ok (.aload_n 0, 1) := by decide +kernel
theorem dX11_vent_50 : decode cX11_vent 50 = .ok (.getfield 38, 3) := by decide +kernel
theorem dX11_vent_53 : decode cX11_vent 53 = .ok (.sipush 144, 3) := by decide +kernel
theorem dX11_vent_56 : decode cX11_vent 56 = .ok (.iload_n 1, 1) := by decide +kernel
theorem dX11_vent_57 : decode cX11_vent 57 = .ok (.imul, 1) := by decide +kernel
theorem dX11_vent_58 : decode cX11_vent 58 = .ok (.iload_n 2, 1) := by decide +kernel
theorem dX11_vent_59 : decode cX11_vent 59 = .ok (.iadd, 1) := by decide +kernel
theorem dX11_vent_60 : decode cX11_vent 60 = .ok (.aload_n 0, 1) := by decide +kernel
theorem dX11_vent_61 : decode cX11_vent 61 = .ok (.getfield 38, 3) := by decide +kernel
theorem dX11_vent_64 : decode cX11_vent 64 = .ok (.sipush 144, 3) := by decide +kernel
theorem dX11_vent_67 : decode cX11_vent 67 = .ok (.iload_n 1, 1) := by decide +kernel
theorem dX11_vent_68 : decode cX11_vent 68 = .ok (.imul, 1) := by decide +kernel
theorem dX11_vent_69 : decode cX11_vent 69 = .ok (.iload_n 2, 1) := by decide +kernel
theorem dX11_vent_70 : decode cX11_vent 70 = .ok (.iadd, 1) := by decide +kernel
theorem dX11_vent_71 : decode cX11_vent 71 = .ok (.baload, 1) := by decide +kernel
theorem dX11_vent_72 : decode cX11_vent 72 = .ok (.ifCond .ne 7, 3) := by decide +kernel
theorem dX11_vent_75 : decode cX11_vent 75 = .ok (.iconst 1, 1) := by decide +kernel
theorem dX11_vent_76 : decode cX11_vent 76 = .ok (.goto 4, 3) := by decide +kernel
theorem dX11_vent_79 : decode cX11_vent 79 = .ok (.iconst 0, 1) := by decide +kernel
theorem dX11_vent_80 : decode cX11_vent 80 = .ok (.bastore, 1) := by decide +kernel
theorem dX11_vent_81 : decode cX11_vent 81 = .ok (.aload_n 0, 1) := by decide +kernel
theorem dX11_vent_82 : decode cX11_vent 82 = .ok (.getfield 38, 3) := by decide +kernel
theorem dX11_vent_85 : decode cX11_vent 85 = .ok (.sipush 144, 3) := by decide +kernel
theorem dX11_vent_88 : decode cX11_vent 88 = .ok (.iload_n 1, 1) := by decide +kernel
theorem dX11_vent_89 : decode cX11_vent 89 = .ok (.imul, 1) := by decide +kernel
theorem dX11_vent_90 : decode cX11_vent 90 = .ok (.iload_n 2, 1) := by decide +kernel
theorem dX11_vent_91 : decode cX11_vent 91 = .ok (.iadd, 1) := by decide +kernel
theorem dX11_vent_92 : decode cX11_vent 92 = .ok (.baload, 1) := by decide +kernel
theorem dX11_vent_93 : decode cX11_vent 93 = .ok (.ifCond .eq 7, 3) := by decide +kernel
theorem dX11_vent_96 : decode cX11_vent 96 = .ok (.iconst 1, 1) := by decide +kernel
theorem dX11_vent_97 : decode cX11_vent 97 = .ok (.goto 4, 3) := by decide +kernel
theorem dX11_vent_100 : decode cX11_vent 100 = .ok (.iconst 0, 1) := by decide +kernel
theorem dX11_vent_101 : decode cX11_vent 101 = .ok (.ireturn, 1) := by decide +kernel
theorem dX11_drag_0 : decode cX11_drag 0 = .ok (.sipush 5000, 3) := by decide +kernel
theorem dX11_drag_3 : decode cX11_drag 3 = .ok (.iload_n 0, 1) := by decide +kernel
theorem dX11_drag_4 : decode cX11_drag 4 = .ok (.iload_n 0, 1) := by decide +kernel
theorem dX11_drag_5 : decode cX11_drag 5 = .ok (.imul, 1) := by decide +kernel
theorem dX11_drag_6 : decode cX11_drag 6 = .ok (.iload_n 0, 1) := by decide +kernel
theorem dX11_drag_7 : decode cX11_drag 7 = .ok (.imul, 1) := by decide +kernel
theorem dX11_drag_8 : decode cX11_drag 8 = .ok (.idiv, 1) := by decide +kernel
theorem dX11_drag_9 : decode cX11_drag 9 = .ok (.ireturn, 1) := by decide +kernel
theorem dX11_neighbour_0 : decode cX11_neighbour 0 = .ok (.aload_n 0, 1) := by decide +kernel
theorem dX11_neighbour_1 : decode cX11_neighbour 1 = .ok (.getfield 23, 3) := by decide +kernel
theorem dX11_neighbour_4 : decode cX11_neighbour 4 = .ok (.iload_n 1, 1) := by decide +kernel
theorem dX11_neighbour_5 : decode cX11_neighbour 5 = .ok (.iaload, 1) := by decide +kernel
theorem dX11_neighbour_6 : decode cX11_neighbour 6 = .ok (.istore 4, 2) := by decide +kernel
theorem dX11_neighbour_8 : decode cX11_neighbour 8 = .ok (.iload_n 2, 1) := by decide +kernel
theorem dX11_neighbour_9 : decode cX11_neighbour 9 = .ok (.iload 4, 2) := by decide +kernel
theorem dX11_neighbour_11 : decode cX11_neighbour 11 = .ok (.irem, 1) := by decide +kernel
theorem dX11_neighbour_12 : decode cX11_neighbour 12 = .ok (.iload_n 3, 1) := by decide +kernel
theorem dX11_neighbour_13 : decode cX11_neighbour 13 = .ok (.ifCond .ne 7, 3) := by decide +kernel
theorem dX11_neighbour_16 : decode cX11_neighbour 16 = .ok (.iconst 1, 1) := by decide +kernel
theorem dX11_neighbour_17 : decode cX11_neighbour 17 = .ok (.goto 13, 3) := by decide +kernel
theorem dX11_neighbour_20 : decode cX11_neighbour 20 = .ok (.iload_n 3, 1) := by decide +kernel
theorem dX11_neighbour_21 : decode cX11_neighbour 21 = .ok (.iconst 1, 1) := by decide +kernel
theorem dX11_neighbour_22 : decode cX11_neighbour 22 = .ok (.if_icmp .ne 7, 3) := by decide +kernel
theorem dX11_neighbour_25 : decode cX11_neighbour 25 = .ok (.iconst (-1), 1) := by decide +kernel
theorem dX11_neighbour_26 : decode cX11_neighbour 26 = .ok (.goto 4, 3) := by decide +kernel
theorem dX11_neighbour_29 : decode cX11_neighbour 29 = .ok (.iconst 0, 1) := by decide +kernel
theorem dX11_neighbour_30 : decode cX11_neighbour 30 = .ok (.iadd, 1) := by decide +kernel
theorem dX11_neighbour_31 : decode cX11_neighbour 31 = .ok (.istore 5, 2) := by decide +kernel
theorem dX11_neighbour_33 : decode cX11_neighbour 33 = .ok (.iload_n 2, 1) := by decide +kernel
theorem dX11_neighbour_34 : decode cX11_neighbour 34 = .ok (.iload 4, 2) := by decide +kernel
theorem dX11_neighbour_36 : decode cX11_neighbour 36 = .ok (.idiv, 1) := by decide +kernel
theorem dX11_neighbour_37 : decode cX11_neighbour 37 = .ok (.iload_n 3, 1) := by decide +kernel
theorem dX11_neighbour_38 : decode cX11_neighbour 38 = .ok (.iconst 2, 1) := by decide +kernel
theorem dX11_neighbour_39 : decode cX11_neighbour 39 = .ok (.if_icmp .ne 7, 3) := by decide +kernel
theorem dX11_neighbour_42 : decode cX11_neighbour 42 = .ok (.iconst 1, 1) := by decide +kernel
theorem dX11_neighbour_43 : decode cX11_neighbour 43 = .ok (.goto 13, 3) := by decide +kernel
theorem dX11_neighbour_46 : decode cX11_neighbour 46 = .ok (.iload_n 3, 1) := by decide +kernel
theorem dX11_neighbour_47 : decode cX11_neighbour 47 = .ok (.iconst 3, 1) := by decide +kernel
theorem dX11_neighbour_48 : decode cX11_neighbour 48 = .ok (.if_icmp .ne 7, 3) := by decide +kernel
theorem dX11_neighbour_51 : decode cX11_neighbour 51 = .ok (.iconst (-1), 1) := by decide +kernel
theorem dX11_neighbour_52 : decode cX11_neighbour 52 = .ok (.goto 4, 3) := by decide +kernel
theorem dX11_neighbour_55 : decode cX11_neighbour 55 = .ok (.iconst 0, 1) := by decide +kernel
theorem dX11_neighbour_56 : decode cX11_neighbour 56 = .ok (.iadd, 1) := by decide +kernel
theorem dX11_neighbour_57 : decode cX11_neighbour 57 = .ok (.istore 6, 2) := by decide +kernel
theorem dX11_neighbour_59 : decode cX11_neighbour 59 = .ok (.iload 5, 2) := by decide +kernel
theorem dX11_neighbour_61 : decode cX11_neighbour 61 = .ok (.i2l, 1) := by decide +kernel
theorem dX11_neighbour_62 : decode cX11_neighbour 62 = .ok (.lconst 0, 1) := by decide +kernel
theorem dX11_neighbour_63 : decode cX11_neighbour 63 = .ok (.iload 4, 2) := by decide +kernel
theorem dX11_neighbour_65 : decode cX11_neighbour 65 = .ok (.iconst 1, 1) := by decide +kernel
theorem dX11_neighbour_66 : decode cX11_neighbour 66 = .ok (.isub, 1) := by decide +kernel
theorem dX11_neighbour_67 : decode cX11_neighbour 67 = .ok (.i2l, 1) := by decide +kernel
theorem dX11_neighbour_68 : decode cX11_neighbour 68 = .ok (.invokestatic 134, 3) := by decide +kernel
theorem dX11_neighbour_71 : decode cX11_neighbour 71 = .ok (.ifCond .eq 55, 3) := by decide +kernel
theorem dX11_neighbour_74 : decode cX11_neighbour 74 = .ok (.iload 6, 2) := by decide +kernel
theorem dX11_neighbour_76 : decode cX11_neighbour 76 = .ok (.i2l, 1) := by decide +kernel
theorem dX11_neighbour_77 : decode cX11_neighbour 77 = .ok (.lconst 0, 1) := by decide +kernel
theorem dX11_neighbour_78 : decode cX11_neighbour 78 = .ok (.aload_n 0, 1) := by decide +kernel
theorem dX11_neighbour_79 : decode cX11_neighbour 79 = .ok (.getfield 26, 3) := by decide +kernel
theorem dX11_neighbour_82 : decode cX11_neighbour 82 = .ok (.iload_n 1, 1) := by decide +kernel
theorem dX11_neighbour_83 : decode cX11_neighbour 83 = .ok (.iaload, 1) := by decide +kernel
theorem dX11_neighbour_84 : decode cX11_neighbour 84 = .ok (.iconst 1, 1) := by decide +kernel
theorem dX11_neighbour_85 : decode cX11_neighbour 85 = .ok (.isub, 1) := by decide +kernel
theorem dX11_neighbour_86 : decode cX11_neighbour 86 = .ok (.i2l, 1) := by decide +kernel
theorem dX11_neighbour_87 : decode cX11_neighbour 87 = .ok (.invokestatic 134, 3) := by decide +kernel
theorem dX11_neighbour_90 : decode cX11_neighbour 90 = .ok (.ifCond .eq 36, 3) := by decide +kernel
theorem dX11_neighbour_93 : decode cX11_neighbour 93 = .ok (.aload_n 0, 1) := by decide +kernel
theorem dX11_neighbour_94 : decode cX11_neighbour 94 = .ok (.getfield 29, 3) := by decide +kernel
theorem dX11_neighbour_97 : decode cX11_neighbour 97 = .ok (.sipush 144, 3) := by decide +kernel
theorem dX11_neighbour_100 : decode cX11_neighbour 100 = .ok (.iload_n 1, 1) := by decide +kernel
theorem dX11_neighbour_101 : decode cX11_neighbour 101 = .ok (.imul, 1) := by decide +kernel
theorem dX11_neighbour_102 : decode cX11_neighbour 102 = .ok (.iload 4, 2) := by decide +kernel
theorem dX11_neighbour_104 : decode cX11_neighbour 104 = .ok (.iload 6, 2) := by decide +kernel
theorem dX11_neighbour_106 : decode cX11_neighbour 106 = .ok (.imul, 1) := by decide +kernel
theorem dX11_neighbour_107 : decode cX11_neighbour 107 = .ok (.iadd, 1) := by decide +kernel
theorem dX11_neighbour_108 : decode cX11_neighbour 108 = .ok (.iload 5, 2) := by decide +kernel
theorem dX11_neighbour_110 : decode cX11_neighbour 110 = .ok (.iadd, 1) := by decide +kernel
theorem dX11_neighbour_111 : decode cX11_neighbour 111 = .ok (.iaload, 1) := by decide +kernel
theorem dX11_neighbour_112 : decode cX11_neighbour 112 = .ok (.ifCond .le 14, 3) := by decide +kernel
theorem dX11_neighbour_115 : decode cX11_neighbour 115 = .ok (.iload 4, 2) := by decide +kernel
theorem dX11_neighbour_117 : decode cX11_neighbour 117 = .ok (.iload 6, 2) := by decide +kernel
theorem dX11_neighbour_119 : decode cX11_neighbour 119 = .ok (.imul, 1) := by decide +kernel
theorem dX11_neighbour_120 : decode cX11_neighbour 120 = .ok (.iload 5, 2) := by decide +kernel
theorem dX11_neighbour_122 : decode cX11_neighbour 122 = .ok (.iadd, 1) := by decide +kernel
theorem dX11_neighbour_123 : decode cX11_neighbour 123 = .ok (.goto 5, 3) := by decide +kernel
theorem dX11_neighbour_126 : decode cX11_neighbour 126 = .ok (.ldc 186, 2) := by decide +kernel
theorem dX11_neighbour_128 : decode cX11_neighbour 128 = .ok (.ireturn, 1) := by decide +kernel
theorem dX11_fill_0 : decode cX11_fill 0 = .ok (.aload_n 0, 1) := by decide +kernel
theorem dX11_fill_1 : decode cX11_fill 1 = .ok (.iconst 0, 1) := by decide +kernel
theorem dX11_fill_2 : decode cX11_fill 2 = .ok (.putfield 195, 3) := by decide +kernel
theorem dX11_fill_5 : decode cX11_fill 5 = .ok (.iconst 0, 1) := by decide +kernel
theorem dX11_fill_6 : decode cX11_fill 6 = .ok (.istore_n 3, 1) := by decide +kernel
theorem dX11_fill_7 : decode cX11_fill 7 = .ok (.iload_n 3, 1) := by decide +kernel
theorem dX11_fill_8 : decode cX11_fill 8 = .ok (.sipush 144, 3) := by decide +kernel
theorem dX11_fill_11 : decode cX11_fill 11 = .ok (.if_icmp .ge 40, 3) := by decide +kernel
theorem dX11_fill_14 : decode cX11_fill 14 = .ok (.aload_n 0, 1) := by decide +kernel
theorem dX11_fill_15 : decode cX11_fill 15 = .ok (.getfield 57, 3) := by decide +kernel
theorem dX11_fill_18 : decode cX11_fill 18 = .ok (.iload_n 3, 1) := by decide +kernel
theorem dX11_fill_19 : decode cX11_fill 19 = .ok (.ldc 186, 2) := by decide +kernel
theorem dX11_fill_21 : decode cX11_fill 21 = .ok (.iastore, 1) := by decide +kernel
theorem dX11_fill_22 : decode cX11_fill 22 = .ok (.aload_n 0, 1) := by decide +kernel
theorem dX11_fill_23 : decode cX11_fill 23 = .ok (.getfield 60, 3) := by decide +kernel
theorem dX11_fill_26 : decode cX11_fill 26 = .ok (.iload_n 3, 1) := by decide +kernel
theorem dX11_fill_27 : decode cX11_fill 27 = .ok (.ldc 186, 2) := by decide +kernel
theorem dX11_fill_29 : decode cX11_fill 29 = .ok (.iastore, 1) := by decide +kernel
theorem dX11_fill_30 : decode cX11_fill 30 = .ok (.aload_n 0, 1) := by decide +kernel
theorem dX11_fill_31 : decode cX11_fill 31 = .ok (.getfield 66, 3) := by decide +kernel
theorem dX11_fill_34 : decode cX11_fill 34 = .ok (.iload_n 3, 1) := by decide +kernel
theorem dX11_fill_35 : decode cX11_fill 35 = .ok (.ldc 186, 2) := by decide +kernel
theorem dX11_fill_37 : decode cX11_fill 37 = .ok (.iastore, 1) := by decide +kernel
theorem dX11_fill_38 : decode cX11_fill 38 = .ok (.aload_n 0, 1) := by decide +kernel
theorem dX11_fill_39 : decode cX11_fill 39 = .ok (.getfield 69, 3) := by decide +kernel
theorem dX11_fill_42 : decode cX11_fill 42 = .ok (.iload_n 3, 1) := by decide +kernel
theorem dX11_fill_43 : decode cX11_fill 43 = .ok (.iconst 0, 1) := by decide +kernel
theorem dX11_fill_44 : decode cX11_fill 44 = .ok (.bastore, 1) := by decide +kernel
theorem dX11_fill_45 : decode cX11_fill 45 = .ok (.iinc 3 1, 3) := by decide +kernel
theorem dX11_fill_48 : decode cX11_fill 48 = .ok (.goto (-41), 3) := by decide +kernel
theorem dX11_fill_51 : decode cX11_fill 51 = .ok (.iconst 0, 1) := by decide +kernel
theorem dX11_fill_52 : decode cX11_fill 52 = .ok (.istore_n 3, 1) := by decide +kernel
theorem dX11_fill_53 : decode cX11_fill 53 = .ok (.iload_n 3, 1) := by decide +kernel
theorem dX11_fill_54 : decode cX11_fill 54 = .ok (.iload_n 2, 1) := by decide +kernel
theorem dX11_fill_55 : decode cX11_fill 55 = .ok (.ldc 186, 2) := by decide +kernel
theorem dX11_fill_57 : decode cX11_fill 57 = .ok (.if_icmp .ne 12, 3) := by decide +kernel
theorem dX11_fill_60 : decode cX11_fill 60 = .ok (.aload_n 0, 1) := by decide +kernel
theorem dX11_fill_61 : decode cX11_fill 61 = .ok (.getfield 32, 3) := by decide +kernel
theorem dX11_fill_64 : decode cX11_fill 64 = .ok (.iload_n 1, 1) := by decide +kernel
theorem dX11_fill_65 : decode cX11_fill 65 = .ok (.iaload, 1) := by decide +kernel
theorem dX11_fill_66 : decode cX11_fill 66 = .ok (.goto 4, 3) := by decide +kernel
theorem dX11_fill_69 : decode cX11_fill 69 = .ok (.iconst 1, 1) := by decide +kernel
theorem dX11_fill_70 : decode cX11_fill 70 = .ok (.if_icmp .ge 62, 3) := by decide +kernel
theorem dX11_fill_73 : decode cX11_fill 73 = .ok (.iload_n 2, 1) := by decide +kernel
theorem dX11_fill_74 : decode cX11_fill 74 = .ok (.ldc 186, 2) := by decide +kernel
theorem dX11_fill_76 : decode cX11_fill 76 = .ok (.if_icmp .ne 16, 3) := by decide +kernel
theorem dX11_fill_79 : decode cX11_fill 79 = .ok (.aload_n 0, 1) := by decide +kernel
theorem dX11_fill_80 : decode cX11_fill 80 = .ok (.getfield 35, 3) := by decide +kernel
theorem dX11_fill_83 : decode cX11_fill 83 = .ok (.iconst 4, 1) := by decide +kernel
theorem dX11_fill_84 : decode cX11_fill 84 = .ok (.iload_n 1, 1) := by decide +kernel
theorem dX11_fill_85 : decode cX11_fill 85 = .ok (.imul, 1) := by decide +kernel
theorem dX11_fill_86 : decode cX11_fill 86 = .ok (.iload_n 3, 1) := by decide +kernel
theorem dX11_fill_87 : decode cX11_fill 87 = .ok (.iadd, 1) := by decide +kernel
theorem dX11_fill_88 : decode cX11_fill 88 = .ok (.iaload, 1) := by decide +kernel
theorem dX11_fill_89 : decode cX11_fill 89 = .ok (.goto 4, 3) := by decide +kernel
theorem dX11_fill_92 : decode cX11_fill 92 = .ok (.iload_n 2, 1) := by decide +kernel
theorem dX11_fill_93 : decode cX11_fill 93 = .ok (.istore 4, 2) := by decide +kernel
theorem dX11_fill_95 : decode cX11_fill 95 = .ok (.aload_n 0, 1) := by decide +kernel
theorem dX11_fill_96 : decode cX11_fill 96 = .ok (.getfield 57, 3) := by decide +kernel
theorem dX11_fill_99 : decode cX11_fill 99 = .ok (.iload 4, 2) := by decide +kernel
theorem dX11_fill_101 : decode cX11_fill 101 = .ok (.aload_n 0, 1) := by decide +kernel
theorem dX11_fill_102 : decode cX11_fill 102 = .ok (.getfield 29, 3) := by decide +kernel
theorem dX11_fill_105 : decode cX11_fill 105 = .ok (.sipush 144, 3) := by decide +kernel
theorem dX11_fill_108 : decode cX11_fill 108 = .ok (.iload_n 1, 1) := by decide +kernel
theorem dX11_fill_109 : decode cX11_fill 109 = .ok (.imul, 1) := by decide +kernel
theorem dX11_fill_110 : decode cX11_fill 110 = .ok (.iload 4, 2) := by decide +kernel
theorem dX11_fill_112 : decode cX11_fill 112 = .ok (.iadd, 1) := by decide +kernel
theorem dX11_fill_113 : decode cX11_fill 113 = .ok (.iaload, 1) := by decide +kernel
theorem dX11_fill_114 : decode cX11_fill 114 = .ok (.invokestatic 198, 3) := by decide +kernel
theorem dX11_fill_117 : decode cX11_fill 117 = .ok (.iastore, 1) := by decide +kernel
theorem dX11_fill_118 : decode cX11_fill 118 = .ok (.aload_n 0, 1) := by decide +kernel
theorem dX11_fill_119 : decode cX11_fill 119 = .ok (.getfield 60, 3) := by decide +kernel
theorem dX11_fill_122 : decode cX11_fill 122 = .ok (.iload 4, 2) := by decide +kernel
theorem dX11_fill_124 : decode cX11_fill 124 = .ok (.iload_n 3, 1) := by decide +kernel
theorem dX11_fill_125 : decode cX11_fill 125 = .ok (.iastore, 1) := by decide +kernel
theorem dX11_fill_126 : decode cX11_fill 126 = .ok (.iinc 3 1, 3) := by decide +kernel
theorem dX11_fill_129 : decode cX11_fill 129 = .ok (.goto (-76), 3) := by decide +kernel
theorem dX11_fill_132 : decode cX11_fill 132 = .ok (.aload_n 0, 1) := by decide +kernel
theorem dX11_fill_133 : decode cX11_fill 133 = .ok (.invokevirtual 201, 3) := by decide +kernel
theorem dX11_fill_136 : decode cX11_fill 136 = .ok (.istore_n 3, 1) := by decide +kernel
theorem dX11_fill_137 : decode cX11_fill 137 = .ok (.iload_n 3, 1) := by decide +kernel
theorem dX11_fill_138 : decode cX11_fill 138 = .ok (.ldc 186, 2) := by decide +kernel
theorem dX11_fill_140 : decode cX11_fill 140 = .ok (.if_icmp .eq 213, 3) := by decide +kernel
theorem dX11_fill_143 : decode cX11_fill 143 = .ok (.aload_n 0, 1) := by decide +kernel
theorem dX11_fill_144 : decode cX11_fill 144 = .ok (.getfield 69, 3) := by decide +kernel
theorem dX11_fill_147 : decode cX11_fill 147 = .ok (.iload_n 3, 1) := by decide +kernel
theorem dX11_fill_148 : decode cX11_fill 148 = .ok (.iconst 1, 1) := by decide +kernel
theorem dX11_fill_149 : decode cX11_fill 149 = .ok (.bastore, 1) := by decide +kernel
theorem dX11_fill_150 : decode cX11_fill 150 = .ok (.aload_n 0, 1) := by decide +kernel
theorem dX11_fill_151 : decode cX11_fill 151 = .ok (.getfield 63, 3) := by decide +kernel
theorem dX11_fill_154 : decode cX11_fill 154 = .ok (.aload_n 0, 1) := by decide +kernel
theorem dX11_fill_155 : decode cX11_fill 155 = .ok (.getfield 195, 3) := by decide +kernel
theorem dX11_fill_158 : decode cX11_fill 158 = .ok (.iload_n 3, 1) := by decide +kernel
theorem dX11_fill_159 : decode cX11_fill 159 = .ok (.iastore, 1) := by decide +kernel
theorem dX11_fill_160 : decode cX11_fill 160 = .ok (.aload_n 0, 1) := by decide +kernel
theorem dX11_fill_161 : decode cX11_fill 161 = .ok (.getfield 66, 3) := by decide +kernel
theorem dX11_fill_164 : decode cX11_fill 164 = .ok (.iload_n 3, 1) := by decide +kernel
theorem dX11_fill_165 : decode cX11_fill 165 = .ok (.aload_n 0, 1) := by decide +kernel
theorem dX11_fill_166 : decode cX11_fill 166 = .ok (.getfield 195, 3) := by decide +kernel
theorem dX11_fill_169 : decode cX11_fill 169 = .ok (.iastore, 1) := by decide +kernel
theorem dX11_fill_170 : decode cX11_fill 170 = .ok (.aload_n 0, 1) := by decide +kernel
theorem dX11_fill_171 : decode cX11_fill 171 = .ok (.dup, 1) := by decide +kernel
theorem dX11_fill_172 : decode cX11_fill 172 = .ok (.getfield 195, 3) := by decide +kernel
theorem dX11_fill_175 : decode cX11_fill 175 = .ok (.iconst 1, 1) := by decide +kernel
theorem dX11_fill_176 : decode cX11_fill 176 = .ok (.iadd, 1) := by decide +kernel
theorem dX11_fill_177 : decode cX11_fill 177 = .ok (.putfield 195, 3) := by decide +kernel
theorem dX11_fill_180 : decode cX11_fill 180 = .ok (.iconst 0, 1) := by decide +kernel
theorem dX11_fill_181 : decode cX11_fill 181 = .ok (.istore 4, 2) := by decide +kernel
theorem dX11_fill_183 : decode cX11_fill 183 = .ok (.iload 4, 2) := by decide +kernel
theorem dX11_fill_185 : decode cX11_fill 185 = .ok (.iconst 4, 1) := by decide +kernel
theorem dX11_fill_186 : decode cX11_fill 186 = .ok (.if_icmp .ge 159, 3) := by decide +kernel
theorem dX11_fill_189 : decode cX11_fill 189 = .ok (.aload_n 0, 1) := by decide +kernel
theorem dX11_fill_190 : decode cX11_fill 190 = .ok (.iload_n 1, 1) := by decide +kernel
theorem dX11_fill_191 : decode cX11_fill 191 = .ok (.iload_n 3, 1) := by decide +kernel
theorem dX11_fill_192 : decode cX11_fill 192 = .ok (.iload 4, 2) := by decide +kernel
theorem dX11_fill_194 : decode cX11_fill 194 = .ok (.invokevirtual 205, 3) := by decide +kernel
theorem dX11_fill_197 : decode cX11_fill 197 = .ok (.istore 5, 2) := by decide +kernel
theorem dX11_fill_199 : decode cX11_fill 199 = .ok (.iload 5, 2) := by decide +kernel
theorem dX11_fill_201 : decode cX11_fill 201 = .ok (.ldc 186, 2) := by decide +kernel
theorem dX11_fill_203 : decode cX11_fill 203 = .ok (.if_icmp .ne 7, 3) := by decide +kernel
theorem dX11_fill_206 : decode cX11_fill 206 = .ok (.iconst 0, 1) := by decide +kernel
theorem dX11_fill_207 : decode cX11_fill 207 = .ok (.goto 26, 3) := by decide +kernel
theorem dX11_fill_210 : decode cX11_fill 210 = .ok (.aload_n 0, 1) := by decide +kernel
theorem dX11_fill_211 : decode cX11_fill 211 = .ok (.getfield 57, 3) := by decide +kernel
theorem dX11_fill_214 : decode cX11_fill 214 = .ok (.iload_n 3, 1) := by decide +kernel
theorem dX11_fill_215 : decode cX11_fill 215 = .ok (.iaload, 1) := by decide +kernel
theorem dX11_fill_216 : decode cX11_fill 216 = .ok (.aload_n 0, 1) := by decide +kernel
theorem dX11_fill_217 : decode cX11_fill 217 = .ok (.getfield 29, 3) := by decide +kernel
theorem dX11_fill_220 : decode cX11_fill 220 = .ok (.sipush 144, 3) := by decide +kernel
theorem dX11_fill_223 : decode cX11_fill 223 = .ok (.iload_n 1, 1) := by decide +kernel
theorem dX11_fill_224 : decode cX11_fill 224 = .ok (.imul, 1) := by decide +kernel
theorem dX11_fill_225 : decode cX11_fill 225 = .ok (.iload 5, 2) := by decide +kernel
theorem dX11_fill_227 : decode cX11_fill 227 = .ok (.iadd, 1) := by decide +kernel
theorem dX11_fill_228 : decode cX11_fill 228 = .ok (.iaload, 1) := by decide +kernel
theorem dX11_fill_229 : decode cX11_fill 229 = .ok (.invokestatic 198, 3) := by decide +kernel
theorem dX11_fill_232 : decode cX11_fill 232 = .ok (.iadd, 1) := by decide +kernel
theorem dX11_fill_233 : decode cX11_fill 233 = .ok (.istore 6, 2) := by decide +kernel
theorem dX11_fill_235 : decode cX11_fill 235 = .ok (.iload 5, 2) := by decide +kernel
theorem dX11_fill_237 : decode cX11_fill 237 = .ok (.ldc 186, 2) := by decide +kernel
theorem dX11_fill_239 : decode cX11_fill 239 = .ok (.if_icmp .eq 52, 3) := by decide +kernel
theorem dX11_fill_242 : decode cX11_fill 242 = .ok (.aload_n 0, 1) := by decide +kernel
theorem dX11_fill_243 : decode cX11_fill 243 = .ok (.getfield 57, 3) := by decide +kernel
theorem dX11_fill_246 : decode cX11_fill 246 = .ok (.iload 5, 2) := by decide +kernel
theorem dX11_fill_248 : decode cX11_fill 248 = .ok (.iaload, 1) := by decide +kernel
theorem dX11_fill_249 : decode cX11_fill 249 = .ok (.ldc 186, 2) := by decide +kernel
theorem dX11_fill_251 : decode cX11_fill 251 = .ok (.if_icmp .eq 15, 3) := by decide +kernel
theorem dX11_fill_254 : decode cX11_fill 254 = .ok (.iload 6, 2) := by decide +kernel
theorem dX11_fill_256 : decode cX11_fill 256 = .ok (.aload_n 0, 1) := by decide +kernel
theorem dX11_fill_257 : decode cX11_fill 257 = .ok (.getfield 57, 3) := by decide +kernel
theorem dX11_fill_260 : decode cX11_fill 260 = .ok (.iload 5, 2) := by decide +kernel
theorem dX11_fill_262 : decode cX11_fill 262 = .ok (.iaload, 1) := by decide +kernel
theorem dX11_fill_263 : decode cX11_fill 263 = .ok (.if_icmp .ge 28, 3) := by decide +kernel
theorem dX11_fill_266 : decode cX11_fill 266 = .ok (.aload_n 0, 1) := by decide +kernel
theorem dX11_fill_267 : decode cX11_fill 267 = .ok (.getfield 57, 3) := by decide +kernel
theorem dX11_fill_270 : decode cX11_fill 270 = .ok (.iload 5, 2) := by decide +kernel
theorem dX11_fill_272 : decode cX11_fill 272 = .ok (.iload 6, 2) := by decide +kernel
theorem dX11_fill_274 : decode cX11_fill 274 = .ok (.iastore, 1) := by decide +kernel
theorem dX11_fill_275 : decode cX11_fill 275 = .ok (.aload_n 0, 1) := by decide +kernel
theorem dX11_fill_276 : decode cX11_fill 276 = .ok (.getfield 60, 3) := by decide +kernel
theorem dX11_fill_279 : decode cX11_fill 279 = .ok (.iload 5, 2) := by decide +kernel
theorem dX11_fill_281 : decode cX11_fill 281 = .ok (.aload_n 0, 1) := by decide +kernel
theorem dX11_fill_282 : decode cX11_fill 282 = .ok (.getfield 60, 3) := by decide +kernel
theorem dX11_fill_285 : decode cX11_fill 285 = .ok (.iload_n 3, 1) := by decide +kernel
theorem dX11_fill_286 : decode cX11_fill 286 = .ok (.iaload, 1) := by decide +kernel
theorem dX11_fill_287 : decode cX11_fill 287 = .ok (.iastore, 1) := by decide +kernel
theorem dX11_fill_288 : decode cX11_fill 288 = .ok (.goto 51, 3) := by decide +kernel
theorem dX11_fill_291 : decode cX11_fill 291 = .ok (.iload 5, 2) := by decide +kernel
theorem dX11_fill_293 : decode cX11_fill 293 = .ok (.ldc 186, 2) := by decide +kernel
theorem dX11_fill_295 : decode cX11_fill 295 = .ok (.if_icmp .eq 44, 3) := by decide +kernel
theorem dX11_fill_298 : decode cX11_fill 298 = .ok (.iload 6, 2) := by decide +kernel
theorem dX11_fill_300 : decode cX11_fill 300 = .ok (.aload_n 0, 1) := by decide +kernel
theorem dX11_fill_301 : decode cX11_fill 301 = .ok (.getfield 57, 3) := by decide +kernel
theorem dX11_fill_304 : decode cX11_fill 304 = .ok (.iload 5, 2) := by decide +kernel
theorem dX11_fill_306 : decode cX11_fill 306 = .ok (.iaload, 1) := by decide +kernel
theorem dX11_fill_307 : decode cX11_fill 307 = .ok (.if_icmp .ne 32, 3) := by decide +kernel
theorem dX11_fill_310 : decode cX11_fill 310 = .ok (.aload_n 0, 1) := by decide +kernel
theorem dX11_fill_311 : decode cX11_fill 311 = .ok (.getfield 60, 3) := by decide +kernel
theorem dX11_fill_314 : decode cX11_fill 314 = .ok (.iload_n 3, 1) := by decide +kernel
theorem dX11_fill_315 : decode cX11_fill 315 = .ok (.iaload, 1) := by decide +kernel
theorem dX11_fill_316 : decode cX11_fill 316 = .ok (.aload_n 0, 1) := by decide +kernel
theorem dX11_fill_317 : decode cX11_fill 317 = .ok (.getfield 60, 3) := by decide +kernel
theorem dX11_fill_320 : decode cX11_fill 320 = .ok (.iload 5, 2) := by decide +kernel
theorem dX11_fill_322 : decode cX11_fill 322 = .ok (.iaload, 1) := by decide +kernel
theorem dX11_fill_323 : decode cX11_fill 323 = .ok (.if_icmp .ge 16, 3) := by decide +kernel
theorem dX11_fill_326 : decode cX11_fill 326 = .ok (.aload_n 0, 1) := by decide +kernel
theorem dX11_fill_327 : decode cX11_fill 327 = .ok (.getfield 60, 3) := by decide +kernel
theorem dX11_fill_330 : decode cX11_fill 330 = .ok (.iload 5, 2) := by decide +kernel
theorem dX11_fill_332 : decode cX11_fill 332 = .ok (.aload_n 0, 1) := by decide +kernel
theorem dX11_fill_333 : decode cX11_fill 333 = .ok (.getfield 60, 3) := by decide +kernel
theorem dX11_fill_336 : decode cX11_fill 336 = .ok (.iload_n 3, 1) := by decide +kernel
theorem dX11_fill_337 : decode cX11_fill 337 = .ok (.iaload, 1) := by decide +kernel
theorem dX11_fill_338 : decode cX11_fill 338 = .ok (.iastore, 1) := by decide +kernel
theorem dX11_fill_339 : decode cX11_fill 339 = .ok (.iinc 4 1, 3) := by decide +kernel
theorem dX11_fill_342 : decode cX11_fill 342 = .ok (.goto (-159), 3) := by decide +kernel
theorem dX11_fill_345 : decode cX11_fill 345 = .ok (.aload_n 0, 1) := by decide +kernel
theorem dX11_fill_346 : decode cX11_fill 346 = .ok (.invokevirtual 201, 3) := by decide +kernel
theorem dX11_fill_349 : decode cX11_fill 349 = .ok (.istore_n 3, 1) := by decide +kernel
theorem dX11_fill_350 : decode cX11_fill 350 = .ok (.goto (-213), 3) := by decide +kernel
theorem dX11_fill_353 : decode cX11_fill 353 = .ok (.return_, 1) := by decide +kernel
theorem dX11_next_0 : decode cX11_next 0 = .ok (.ldc 186, 2) := by decide +kernel
theorem dX11_next_2 : decode cX11_next 2 = .ok (.istore_n 1, 1) := by decide +kernel
theorem dX11_next_3 : decode cX11_next 3 = .ok (.iconst 0, 1) := by decide +kernel
theorem dX11_next_4 : decode cX11_next 4 = .ok (.istore_n 2, 1) := by decide +kernel
theorem dX11_next_5 : decode cX11_next 5 = .ok (.iload_n 2, 1) := by decide +kernel
theorem dX11_next_6 : decode cX11_next 6 = .ok (.sipush 144, 3) := by decide +kernel
theorem dX11_next_9 : decode cX11_next 9 = .ok (.if_icmp .ge 52, 3) := by decide +kernel
theorem dX11_next_12 : decode cX11_next 12 = .ok (.aload_n 0, 1) := by decide +kernel
theorem dX11_next_13 : decode cX11_next 13 = .ok (.getfield 57, 3) := by decide +kernel
theorem dX11_next_16 : decode cX11_next 16 = .ok (.iload_n 2, 1) := by decide +kernel
theorem dX11_next_17 : decode cX11_next 17 = .ok (.iaload, 1) := by decide +kernel
theorem dX11_next_18 : decode cX11_next 18 = .ok (.ldc 186, 2) := by decide +kernel
theorem dX11_next_20 : decode cX11_next 20 = .ok (.if_icmp .eq 35, 3) := by decide +kernel
theorem dX11_next_23 : decode cX11_next 23 = .ok (.aload_n 0, 1) := by decide +kernel
theorem dX11_next_24 : decode cX11_next 24 = .ok (.getfield 69, 3) := by decide +kernel
theorem dX11_next_27 : decode cX11_next 27 = .ok (.iload_n 2, 1) := by decide +kernel
theorem dX11_next_28 : decode cX11_next 28 = .ok (.baload, 1) := by decide +kernel
theorem dX11_next_29 : decode cX11_next 29 = .ok (.ifCond .ne 26, 3) := by decide +kernel
theorem dX11_next_32 : decode cX11_next 32 = .ok (.iload_n 1, 1) := by decide +kernel
theorem dX11_next_33 : decode cX11_next 33 = .ok (.ldc 186, 2) := by decide +kernel
theorem dX11_next_35 : decode cX11_next 35 = .ok (.if_icmp .eq 18, 3) := by decide +kernel
theorem dX11_next_38 : decode cX11_next 38 = .ok (.aload_n 0, 1) := by decide +kernel
theorem dX11_next_39 : decode cX11_next 39 = .ok (.getfield 57, 3) := by decide +kernel
theorem dX11_next_42 : decode cX11_next 42 = .ok (.iload_n 2, 1) := by decide +kernel
theorem dX11_next_43 : decode cX11_next 43 = .ok (.iaload, 1) := by decide +kernel
theorem dX11_next_44 : decode cX11_next 44 = .ok (.aload_n 0, 1) := by decide +kernel
theorem dX11_next_45 : decode cX11_next 45 = .ok (.getfield 57, 3) := by decide +kernel
theorem dX11_next_48 : decode cX11_next 48 = .ok (.iload_n 1, 1) := by decide +kernel
theorem dX11_next_49 : decode cX11_next 49 = .ok (.iaload, 1) := by decide +kernel
theorem dX11_next_50 : decode cX11_next 50 = .ok (.if_icmp .ge 5, 3) := by decide +kernel
theorem dX11_next_53 : decode cX11_next 53 = .ok (.iload_n 2, 1) := by decide +kernel
theorem dX11_next_54 : decode cX11_next 54 = .ok (.istore_n 1, 1) := by decide +kernel
theorem dX11_next_55 : decode cX11_next 55 = .ok (.iinc 2 1, 3) := by decide +kernel
theorem dX11_next_58 : decode cX11_next 58 = .ok (.goto (-53), 3) := by decide +kernel
theorem dX11_next_61 : decode cX11_next 61 = .ok (.iload_n 1, 1) := by decide +kernel
theorem dX11_next_62 : decode cX11_next 62 = .ok (.ireturn, 1) := by decide +kernel
theorem dX11_ends_0 : decode cX11_ends 0 = .ok (.aload_n 0, 1) := by decide +kernel
theorem dX11_ends_1 : decode cX11_ends 1 = .ok (.getfield 195, 3) := by decide +kernel
theorem dX11_ends_4 : decode cX11_ends 4 = .ok (.ifCond .ne 7, 3) := by decide +kernel
theorem dX11_ends_7 : decode cX11_ends 7 = .ok (.iconst 0, 1) := by decide +kernel
theorem dX11_ends_8 : decode cX11_ends 8 = .ok (.goto 19, 3) := by decide +kernel
theorem dX11_ends_11 : decode cX11_ends 11 = .ok (.aload_n 0, 1) := by decide +kernel
theorem dX11_ends_12 : decode cX11_ends 12 = .ok (.getfield 57, 3) := by decide +kernel
theorem dX11_ends_15 : decode cX11_ends 15 = .ok (.aload_n 0, 1) := by decide +kernel
theorem dX11_ends_16 : decode cX11_ends 16 = .ok (.getfield 63, 3) := by decide +kernel
theorem dX11_ends_19 : decode cX11_ends 19 = .ok (.aload_n 0, 1) := by decide +kernel
theorem dX11_ends_20 : decode cX11_ends 20 = .ok (.getfield 195, 3) := by decide +kernel
theorem dX11_ends_23 : decode cX11_ends 23 = .ok (.iconst 1, 1) := by decide +kernel
theorem dX11_ends_24 : decode cX11_ends 24 = .ok (.isub, 1) := by decide +kernel
theorem dX11_ends_25 : decode cX11_ends 25 = .ok (.iaload, 1) := by decide +kernel
theorem dX11_ends_26 : decode cX11_ends 26 = .ok (.iaload, 1) := by decide +kernel
theorem dX11_ends_27 : decode cX11_ends 27 = .ok (.ireturn, 1) := by decide +kernel
theorem dX11_cell_0 : decode cX11_cell 0 = .ok (.aload_n 0, 1) := by decide +kernel
theorem dX11_cell_1 : decode cX11_cell 1 = .ok (.iconst 0, 1) := by decide +kernel
theorem dX11_cell_2 : decode cX11_cell 2 = .ok (.putfield 124, 3) := by decide +kernel
theorem dX11_cell_5 : decode cX11_cell 5 = .ok (.iload_n 1, 1) := by decide +kernel
theorem dX11_cell_6 : decode cX11_cell 6 = .ok (.invokestatic 153, 3) := by decide +kernel
theorem dX11_cell_9 : decode cX11_cell 9 = .ok (.ifCond .eq 15, 3) := by decide +kernel
theorem dX11_cell_12 : decode cX11_cell 12 = .ok (.iload_n 3, 1) := by decide +kernel
theorem dX11_cell_13 : decode cX11_cell 13 = .ok (.i2l, 1) := by decide +kernel
theorem dX11_cell_14 : decode cX11_cell 14 = .ok (.lconst 0, 1) := by decide +kernel
theorem dX11_cell_15 : decode cX11_cell 15 = .ok (.ldc2_w 167, 3) := by decide +kernel
theorem dX11_cell_18 : decode cX11_cell 18 = .ok (.invokestatic 134, 3) := by decide +kernel
theorem dX11_cell_21 : decode cX11_cell 21 = .ok (.ifCond .ne 6, 3) := by decide +kernel
theorem dX11_cell_24 : decode cX11_cell 24 = .ok (.ldc 144, 2) := by decide +kernel
theorem dX11_cell_26 : decode cX11_cell 26 = .ok (.ireturn, 1) := by decide +kernel
theorem dX11_cell_27 : decode cX11_cell 27 = .ok (.aload_n 0, 1) := by decide +kernel
theorem dX11_cell_28 : decode cX11_cell 28 = .ok (.iload_n 1, 1) := by decide +kernel
theorem dX11_cell_29 : decode cX11_cell 29 = .ok (.iconst 1, 1) := by decide +kernel
theorem dX11_cell_30 : decode cX11_cell 30 = .ok (.invokevirtual 187, 3) := by decide +kernel
theorem dX11_cell_33 : decode cX11_cell 33 = .ok (.istore 4, 2) := by decide +kernel
theorem dX11_cell_35 : decode cX11_cell 35 = .ok (.iload 4, 2) := by decide +kernel
theorem dX11_cell_37 : decode cX11_cell 37 = .ok (.ifCond .le 10, 3) := by decide +kernel
theorem dX11_cell_40 : decode cX11_cell 40 = .ok (.aload_n 0, 1) := by decide +kernel
theorem dX11_cell_41 : decode cX11_cell 41 = .ok (.iload 4, 2) := by decide +kernel
theorem dX11_cell_43 : decode cX11_cell 43 = .ok (.invokevirtual 145, 3) := by decide +kernel
theorem dX11_cell_46 : decode cX11_cell 46 = .ok (.ireturn, 1) := by decide +kernel
theorem dX11_cell_47 : decode cX11_cell 47 = .ok (.iload_n 2, 1) := by decide +kernel
theorem dX11_cell_48 : decode cX11_cell 48 = .ok (.i2l, 1) := by decide +kernel
theorem dX11_cell_49 : decode cX11_cell 49 = .ok (.lconst 0, 1) := by decide +kernel
theorem dX11_cell_50 : decode cX11_cell 50 = .ok (.aload_n 0, 1) := by decide +kernel
theorem dX11_cell_51 : decode cX11_cell 51 = .ok (.getfield 23, 3) := by decide +kernel
theorem dX11_cell_54 : decode cX11_cell 54 = .ok (.iload_n 1, 1) := by decide +kernel
theorem dX11_cell_55 : decode cX11_cell 55 = .ok (.iaload, 1) := by decide +kernel
theorem dX11_cell_56 : decode cX11_cell 56 = .ok (.aload_n 0, 1) := by decide +kernel
theorem dX11_cell_57 : decode cX11_cell 57 = .ok (.getfield 26, 3) := by decide +kernel
theorem dX11_cell_60 : decode cX11_cell 60 = .ok (.iload_n 1, 1) := by decide +kernel
theorem dX11_cell_61 : decode cX11_cell 61 = .ok (.iaload, 1) := by decide +kernel
theorem dX11_cell_62 : decode cX11_cell 62 = .ok (.imul, 1) := by decide +kernel
theorem dX11_cell_63 : decode cX11_cell 63 = .ok (.iconst 1, 1) := by decide +kernel
theorem dX11_cell_64 : decode cX11_cell 64 = .ok (.isub, 1) := by decide +kernel
theorem dX11_cell_65 : decode cX11_cell 65 = .ok (.i2l, 1) := by decide +kernel
theorem dX11_cell_66 : decode cX11_cell 66 = .ok (.invokestatic 134, 3) := by decide +kernel
theorem dX11_cell_69 : decode cX11_cell 69 = .ok (.ifCond .ne 6, 3) := by decide +kernel
theorem dX11_cell_72 : decode cX11_cell 72 = .ok (.ldc 144, 2) := by decide +kernel
theorem dX11_cell_74 : decode cX11_cell 74 = .ok (.ireturn, 1) := by decide +kernel
theorem dX11_cell_75 : decode cX11_cell 75 = .ok (.aload_n 0, 1) := by decide +kernel
theorem dX11_cell_76 : decode cX11_cell 76 = .ok (.iconst 0, 1) := by decide +kernel
theorem dX11_cell_77 : decode cX11_cell 77 = .ok (.putfield 128, 3) := by decide +kernel
theorem dX11_cell_80 : decode cX11_cell 80 = .ok (.aload_n 0, 1) := by decide +kernel
theorem dX11_cell_81 : decode cX11_cell 81 = .ok (.iload_n 1, 1) := by decide +kernel
theorem dX11_cell_82 : decode cX11_cell 82 = .ok (.ldc 186, 2) := by decide +kernel
theorem dX11_cell_84 : decode cX11_cell 84 = .ok (.invokevirtual 209, 3) := by decide +kernel
theorem dX11_cell_87 : decode cX11_cell 87 = .ok (.iload_n 3, 1) := by decide +kernel
theorem dX11_cell_88 : decode cX11_cell 88 = .ok (.iconst 4, 1) := by decide +kernel
theorem dX11_cell_89 : decode cX11_cell 89 = .ok (.if_icmp .ne 68, 3) := by decide +kernel
theorem dX11_cell_92 : decode cX11_cell 92 = .ok (.iconst 0, 1) := by decide +kernel
theorem dX11_cell_93 : decode cX11_cell 93 = .ok (.istore 5, 2) := by decide +kernel
theorem dX11_cell_95 : decode cX11_cell 95 = .ok (.iconst 0, 1) := by decide +kernel
theorem dX11_cell_96 : decode cX11_cell 96 = .ok (.istore 6, 2) := by decide +kernel
theorem dX11_cell_98 : decode cX11_cell 98 = .ok (.iload 6, 2) := by decide +kernel
theorem dX11_cell_100 : decode cX11_cell 100 = .ok (.aload_n 0, 1) := by decide +kernel
theorem dX11_cell_101 : decode cX11_cell 101 = .ok (.getfield 66, 3) := by decide +kernel
theorem dX11_cell_104 : decode cX11_cell 104 = .ok (.iload_n 2, 1) := by decide +kernel
theorem dX11_cell_105 : decode cX11_cell 105 = .ok (.iaload, 1) := by decide +kernel
theorem dX11_cell_106 : decode cX11_cell 106 = .ok (.if_icmp .gt 32, 3) := by decide +kernel
theorem dX11_cell_109 : decode cX11_cell 109 = .ok (.iload 5, 2) := by decide +kernel
theorem dX11_cell_111 : decode cX11_cell 111 = .ok (.aload_n 0, 1) := by decide +kernel
theorem dX11_cell_112 : decode cX11_cell 112 = .ok (.getfield 29, 3) := by decide +kernel
theorem dX11_cell_115 : decode cX11_cell 115 = .ok (.sipush 144, 3) := by decide +kernel
theorem dX11_cell_118 : decode cX11_cell 118 = .ok (.iload_n 1, 1) := by decide +kernel
theorem dX11_cell_119 : decode cX11_cell 119 = .ok (.imul, 1) := by decide +kernel
theorem dX11_cell_120 : decode cX11_cell 120 = .ok (.aload_n 0, 1) := by decide +kernel
theorem dX11_cell_121 : decode cX11_cell 121 = .ok (.getfield 63, 3) := by decide +kernel
theorem dX11_cell_124 : decode cX11_cell 124 = .ok (.iload 6, 2) := by decide +kernel
theorem dX11_cell_126 : decode cX11_cell 126 = .ok (.iaload, 1) := by decide +kernel
theorem dX11_cell_127 : decode cX11_cell 127 = .ok (.iadd, 1) := by decide +kernel
theorem dX11_cell_128 : decode cX11_cell 128 = .ok (.iaload, 1) := by decide +kernel
theorem dX11_cell_129 : decode cX11_cell 129 = .ok (.iadd, 1) := by decide +kernel
theorem dX11_cell_130 : decode cX11_cell 130 = .ok (.istore 5, 2) := by decide +kernel
theorem dX11_cell_132 : decode cX11_cell 132 = .ok (.iinc 6 1, 3) := by decide +kernel
theorem dX11_cell_135 : decode cX11_cell 135 = .ok (.goto (-37), 3) := by decide +kernel
theorem dX11_cell_138 : decode cX11_cell 138 = .ok (.aload_n 0, 1) := by decide +kernel
theorem dX11_cell_139 : decode cX11_cell 139 = .ok (.getfield 66, 3) := by decide +kernel
theorem dX11_cell_142 : decode cX11_cell 142 = .ok (.iload_n 2, 1) := by decide +kernel
theorem dX11_cell_143 : decode cX11_cell 143 = .ok (.iaload, 1) := by decide +kernel
theorem dX11_cell_144 : decode cX11_cell 144 = .ok (.ldc 186, 2) := by decide +kernel
theorem dX11_cell_146 : decode cX11_cell 146 = .ok (.if_icmp .ne 8, 3) := by decide +kernel
theorem dX11_cell_149 : decode cX11_cell 149 = .ok (.ldc 186, 2) := by decide +kernel
theorem dX11_cell_151 : decode cX11_cell 151 = .ok (.goto 5, 3) := by decide +kernel
theorem dX11_cell_154 : decode cX11_cell 154 = .ok (.iload 5, 2) := by decide +kernel
theorem dX11_cell_156 : decode cX11_cell 156 = .ok (.ireturn, 1) := by decide +kernel
theorem dX11_cell_157 : decode cX11_cell 157 = .ok (.iload_n 3, 1) := by decide +kernel
theorem dX11_cell_158 : decode cX11_cell 158 = .ok (.ifCond .ne 18, 3) := by decide +kernel
theorem dX11_cell_161 : decode cX11_cell 161 = .ok (.aload_n 0, 1) := by decide +kernel
theorem dX11_cell_162 : decode cX11_cell 162 = .ok (.getfield 29, 3) := by decide +kernel
theorem dX11_cell_165 : decode cX11_cell 165 = .ok (.sipush 144, 3) := by decide +kernel
theorem dX11_cell_168 : decode cX11_cell 168 = .ok (.iload_n 1, 1) := by decide +kernel
theorem dX11_cell_169 : decode cX11_cell 169 = .ok (.imul, 1) := by decide +kernel
theorem dX11_cell_170 : decode cX11_cell 170 = .ok (.iload_n 2, 1) := by decide +kernel
theorem dX11_cell_171 : decode cX11_cell 171 = .ok (.iadd, 1) := by decide +kernel
theorem dX11_cell_172 : decode cX11_cell 172 = .ok (.iaload, 1) := by decide +kernel
theorem dX11_cell_173 : decode cX11_cell 173 = .ok (.goto 37, 3) := by decide +kernel
theorem dX11_cell_176 : decode cX11_cell 176 = .ok (.iload_n 3, 1) := by decide +kernel
theorem dX11_cell_177 : decode cX11_cell 177 = .ok (.iconst 1, 1) := by decide +kernel
theorem dX11_cell_178 : decode cX11_cell 178 = .ok (.if_icmp .ne 12, 3) := by decide +kernel
theorem dX11_cell_181 : decode cX11_cell 181 = .ok (.aload_n 0, 1) := by decide +kernel
theorem dX11_cell_182 : decode cX11_cell 182 = .ok (.getfield 57, 3) := by decide +kernel
theorem dX11_cell_185 : decode cX11_cell 185 = .ok (.iload_n 2, 1) := by decide +kernel
theorem dX11_cell_186 : decode cX11_cell 186 = .ok (.iaload, 1) := by decide +kernel
theorem dX11_cell_187 : decode cX11_cell 187 = .ok (.goto 23, 3) := by decide +kernel
theorem dX11_cell_190 : decode cX11_cell 190 = .ok (.iload_n 3, 1) := by decide +kernel
theorem dX11_cell_191 : decode cX11_cell 191 = .ok (.iconst 2, 1) := by decide +kernel
theorem dX11_cell_192 : decode cX11_cell 192 = .ok (.if_icmp .ne 12, 3) := by decide +kernel
theorem dX11_cell_195 : decode cX11_cell 195 = .ok (.aload_n 0, 1) := by decide +kernel
theorem dX11_cell_196 : decode cX11_cell 196 = .ok (.getfield 60, 3) := by decide +kernel
theorem dX11_cell_199 : decode cX11_cell 199 = .ok (.iload_n 2, 1) := by decide +kernel
theorem dX11_cell_200 : decode cX11_cell 200 = .ok (.iaload, 1) := by decide +kernel
theorem dX11_cell_201 : decode cX11_cell 201 = .ok (.goto 9, 3) := by decide +kernel
theorem dX11_cell_204 : decode cX11_cell 204 = .ok (.aload_n 0, 1) := by decide +kernel
theorem dX11_cell_205 : decode cX11_cell 205 = .ok (.getfield 66, 3) := by decide +kernel
theorem dX11_cell_208 : decode cX11_cell 208 = .ok (.iload_n 2, 1) := by decide +kernel
theorem dX11_cell_209 : decode cX11_cell 209 = .ok (.iaload, 1) := by decide +kernel
theorem dX11_cell_210 : decode cX11_cell 210 = .ok (.ireturn, 1) := by decide +kernel
theorem dX11_meeting_0 : decode cX11_meeting 0 = .ok (.aload_n 0, 1) := by decide +kernel
theorem dX11_meeting_1 : decode cX11_meeting 1 = .ok (.iconst 0, 1) := by decide +kernel
theorem dX11_meeting_2 : decode cX11_meeting 2 = .ok (.putfield 124, 3) := by decide +kernel
theorem dX11_meeting_5 : decode cX11_meeting 5 = .ok (.iload_n 1, 1) := by decide +kernel
theorem dX11_meeting_6 : decode cX11_meeting 6 = .ok (.invokestatic 153, 3) := by decide +kernel
theorem dX11_meeting_9 : decode cX11_meeting 9 = .ok (.ifCond .eq 13, 3) := by decide +kernel
theorem dX11_meeting_12 : decode cX11_meeting 12 = .ok (.iload_n 3, 1) := by decide +kernel
theorem dX11_meeting_13 : decode cX11_meeting 13 = .ok (.i2l, 1) := by decide +kernel
theorem dX11_meeting_14 : decode cX11_meeting 14 = .ok (.lconst 0, 1) := by decide +kernel
theorem dX11_meeting_15 : decode cX11_meeting 15 = .ok (.lconst 1, 1) := by decide +kernel
theorem dX11_meeting_16 : decode cX11_meeting 16 = .ok (.invokestatic 134, 3) := by decide +kernel
theorem dX11_meeting_19 : decode cX11_meeting 19 = .ok (.ifCond .ne 6, 3) := by decide +kernel
theorem dX11_meeting_22 : decode cX11_meeting 22 = .ok (.ldc 144, 2) := by decide +kernel
theorem dX11_meeting_24 : decode cX11_meeting 24 = .ok (.ireturn, 1) := by decide +kernel
theorem dX11_meeting_25 : decode cX11_meeting 25 = .ok (.aload_n 0, 1) := by decide +kernel
theorem dX11_meeting_26 : decode cX11_meeting 26 = .ok (.iload_n 1, 1) := by decide +kernel
theorem dX11_meeting_27 : decode cX11_meeting 27 = .ok (.iconst 1, 1) := by decide +kernel
theorem dX11_meeting_28 : decode cX11_meeting 28 = .ok (.invokevirtual 187, 3) := by decide +kernel
theorem dX11_meeting_31 : decode cX11_meeting 31 = .ok (.istore 4, 2) := by decide +kernel
theorem dX11_meeting_33 : decode cX11_meeting 33 = .ok (.iload 4, 2) := by decide +kernel
theorem dX11_meeting_35 : decode cX11_meeting 35 = .ok (.ifCond .le 10, 3) := by decide +kernel
theorem dX11_meeting_38 : decode cX11_meeting 38 = .ok (.aload_n 0, 1) := by decide +kernel
theorem dX11_meeting_39 : decode cX11_meeting 39 = .ok (.iload 4, 2) := by decide +kernel
theorem dX11_meeting_41 : decode cX11_meeting 41 = .ok (.invokevirtual 145, 3) := by decide +kernel
theorem dX11_meeting_44 : decode cX11_meeting 44 = .ok (.ireturn, 1) := by decide +kernel
theorem dX11_meeting_45 : decode cX11_meeting 45 = .ok (.aload_n 0, 1) := by decide +kernel
theorem dX11_meeting_46 : decode cX11_meeting 46 = .ok (.iconst 0, 1) := by decide +kernel
theorem dX11_meeting_47 : decode cX11_meeting 47 = .ok (.putfield 128, 3) := by decide +kernel
theorem dX11_meeting_50 : decode cX11_meeting 50 = .ok (.aload_n 0, 1) := by decide +kernel
theorem dX11_meeting_51 : decode cX11_meeting 51 = .ok (.iload_n 1, 1) := by decide +kernel
theorem dX11_meeting_52 : decode cX11_meeting 52 = .ok (.ldc 186, 2) := by decide +kernel
theorem dX11_meeting_54 : decode cX11_meeting 54 = .ok (.invokevirtual 209, 3) := by decide +kernel
theorem dX11_meeting_57 : decode cX11_meeting 57 = .ok (.iconst 0, 1) := by decide +kernel
theorem dX11_meeting_58 : decode cX11_meeting 58 = .ok (.istore 5, 2) := by decide +kernel
theorem dX11_meeting_60 : decode cX11_meeting 60 = .ok (.iconst 0, 1) := by decide +kernel
theorem dX11_meeting_61 : decode cX11_meeting 61 = .ok (.istore 6, 2) := by decide +kernel
theorem dX11_meeting_63 : decode cX11_meeting 63 = .ok (.iload 6, 2) := by decide +kernel
theorem dX11_meeting_65 : decode cX11_meeting 65 = .ok (.aload_n 0, 1) := by decide +kernel
theorem dX11_meeting_66 : decode cX11_meeting 66 = .ok (.getfield 23, 3) := by decide +kernel
theorem dX11_meeting_69 : decode cX11_meeting 69 = .ok (.iload_n 1, 1) := by decide +kernel
theorem dX11_meeting_70 : decode cX11_meeting 70 = .ok (.iaload, 1) := by decide +kernel
theorem dX11_meeting_71 : decode cX11_meeting 71 = .ok (.aload_n 0, 1) := by decide +kernel
theorem dX11_meeting_72 : decode cX11_meeting 72 = .ok (.getfield 26, 3) := by decide +kernel
theorem dX11_meeting_75 : decode cX11_meeting 75 = .ok (.iload_n 1, 1) := by decide +kernel
theorem dX11_meeting_76 : decode cX11_meeting 76 = .ok (.iaload, 1) := by decide +kernel
theorem dX11_meeting_77 : decode cX11_meeting 77 = .ok (.imul, 1) := by decide +kernel
theorem dX11_meeting_78 : decode cX11_meeting 78 = .ok (.if_icmp .ge 101, 3) := by decide +kernel
theorem dX11_meeting_81 : decode cX11_meeting 81 = .ok (.iconst 0, 1) := by decide +kernel
theorem dX11_meeting_82 : decode cX11_meeting 82 = .ok (.istore 7, 2) := by decide +kernel
theorem dX11_meeting_84 : decode cX11_meeting 84 = .ok (.iload 7, 2) := by decide +kernel
theorem dX11_meeting_86 : decode cX11_meeting 86 = .ok (.iconst 3, 1) := by decide +kernel
theorem dX11_meeting_87 : decode cX11_meeting 87 = .ok (.if_icmp .ge 86, 3) := by decide +kernel
theorem dX11_meeting_90 : decode cX11_meeting 90 = .ok (.aload_n 0, 1) := by decide +kernel
theorem dX11_meeting_91 : decode cX11_meeting 91 = .ok (.getfield 29, 3) := by decide +kernel
theorem dX11_meeting_94 : decode cX11_meeting 94 = .ok (.sipush 144, 3) := by decide +kernel
theorem dX11_meeting_97 : decode cX11_meeting 97 = .ok (.iload_n 1, 1) := by decide +kernel
theorem dX11_meeting_98 : decode cX11_meeting 98 = .ok (.imul, 1) := by decide +kernel
theorem dX11_meeting_99 : decode cX11_meeting 99 = .ok (.iload 6, 2) := by decide +kernel
theorem dX11_meeting_101 : decode cX11_meeting 101 = .ok (.iadd, 1) := by decide +kernel
theorem dX11_meeting_102 : decode cX11_meeting 102 = .ok (.iaload, 1) := by decide +kernel
theorem dX11_meeting_103 : decode cX11_meeting 103 = .ok (.ifCond .le 15, 3) := by decide +kernel
theorem dX11_meeting_106 : decode cX11_meeting 106 = .ok (.aload_n 0, 1) := by decide +kernel
theorem dX11_meeting_107 : decode cX11_meeting 107 = .ok (.iload_n 1, 1) := by decide +kernel
theorem dX11_meeting_108 : decode cX11_meeting 108 = .ok (.iload 6, 2) := by decide +kernel
theorem dX11_meeting_110 : decode cX11_meeting 110 = .ok (.iload 7, 2) := by decide +kernel
theorem dX11_meeting_112 : decode cX11_meeting 112 = .ok (.invokevirtual 205, 3) := by decide +kernel
theorem dX11_meeting_115 : decode cX11_meeting 115 = .ok (.goto 5, 3) := by decide +kernel
theorem dX11_meeting_118 : decode cX11_meeting 118 = .ok (.ldc 186, 2) := by decide +kernel
theorem dX11_meeting_120 : decode cX11_meeting 120 = .ok (.istore 8, 2) := by decide +kernel
theorem dX11_meeting_122 : decode cX11_meeting 122 = .ok (.iload 8, 2) := by decide +kernel
theorem dX11_meeting_124 : decode cX11_meeting 124 = .ok (.ldc 186, 2) := by decide +kernel
theorem dX11_meeting_126 : decode cX11_meeting 126 = .ok (.if_icmp .eq 41, 3) := by decide +kernel
theorem dX11_meeting_129 : decode cX11_meeting 129 = .ok (.aload_n 0, 1) := by decide +kernel
theorem dX11_meeting_130 : decode cX11_meeting 130 = .ok (.getfield 60, 3) := by decide +kernel
theorem dX11_meeting_133 : decode cX11_meeting 133 = .ok (.iload 8, 2) := by decide +kernel
theorem dX11_meeting_135 : decode cX11_meeting 135 = .ok (.iaload, 1) := by decide +kernel
theorem dX11_meeting_136 : decode cX11_meeting 136 = .ok (.aload_n 0, 1) := by decide +kernel
theorem dX11_meeting_137 : decode cX11_meeting 137 = .ok (.getfield 60, 3) := by decide +kernel
theorem dX11_meeting_140 : decode cX11_meeting 140 = .ok (.iload 6, 2) := by decide +kernel
theorem dX11_meeting_142 : decode cX11_meeting 142 = .ok (.iaload, 1) := by decide +kernel
theorem dX11_meeting_143 : decode cX11_meeting 143 = .ok (.if_icmp .eq 24, 3) := by decide +kernel
theorem dX11_meeting_146 : decode cX11_meeting 146 = .ok (.iload 5, 2) := by decide +kernel
theorem dX11_meeting_148 : decode cX11_meeting 148 = .ok (.iload_n 2, 1) := by decide +kernel
theorem dX11_meeting_149 : decode cX11_meeting 149 = .ok (.if_icmp .ne 15, 3) := by decide +kernel
theorem dX11_meeting_152 : decode cX11_meeting 152 = .ok (.iload_n 3, 1) := by decide +kernel
theorem dX11_meeting_153 : decode cX11_meeting 153 = .ok (.ifCond .ne 8, 3) := by decide +kernel
theorem dX11_meeting_156 : decode cX11_meeting 156 = .ok (.iload 6, 2) := by decide +kernel
theorem dX11_meeting_158 : decode cX11_meeting 158 = .ok (.goto 5, 3) := by decide +kernel
theorem dX11_meeting_161 : decode cX11_meeting 161 = .ok (.iload 8, 2) := by decide +kernel
theorem dX11_meeting_163 : decode cX11_meeting 163 = .ok (.ireturn, 1) := by decide +kernel
theorem dX11_meeting_164 : decode cX11_meeting 164 = .ok (.iinc 5 1, 3) := by decide +kernel
theorem dX11_meeting_167 : decode cX11_meeting 167 = .ok (.iinc 7 2, 3) := by decide +kernel
theorem dX11_meeting_170 : decode cX11_meeting 170 = .ok (.goto (-86), 3) := by decide +kernel
theorem dX11_meeting_173 : decode cX11_meeting 173 = .ok (.iinc 6 1, 3) := by decide +kernel
theorem dX11_meeting_176 : decode cX11_meeting 176 = .ok (.goto (-113), 3) := by decide +kernel
theorem dX11_meeting_179 : decode cX11_meeting 179 = .ok (.ldc 186, 2) := by decide +kernel
theorem dX11_meeting_181 : decode cX11_meeting 181 = .ok (.ireturn, 1) := by decide +kernel
theorem dX11_trap_0 : decode cX11_trap 0 = .ok (.aload_n 0, 1) := by decide +kernel
theorem dX11_trap_1 : decode cX11_trap 1 = .ok (.iconst 0, 1) := by decide +kernel
theorem dX11_trap_2 : decode cX11_trap 2 = .ok (.putfield 124, 3) := by decide +kernel
theorem dX11_trap_5 : decode cX11_trap 5 = .ok (.iload_n 1, 1) := by decide +kernel
theorem dX11_trap_6 : decode cX11_trap 6 = .ok (.invokestatic 153, 3) := by decide +kernel
theorem dX11_trap_9 : decode cX11_trap 9 = .ok (.ifCond .ne 6, 3) := by decide +kernel
theorem dX11_trap_12 : decode cX11_trap 12 = .ok (.ldc 144, 2) := by decide +kernel
theorem dX11_trap_14 : decode cX11_trap 14 = .ok (.ireturn, 1) := by decide +kernel
theorem dX11_trap_15 : decode cX11_trap 15 = .ok (.aload_n 0, 1) := by decide +kernel
theorem dX11_trap_16 : decode cX11_trap 16 = .ok (.iload_n 1, 1) := by decide +kernel
theorem dX11_trap_17 : decode cX11_trap 17 = .ok (.iconst 1, 1) := by decide +kernel
theorem dX11_trap_18 : decode cX11_trap 18 = .ok (.invokevirtual 187, 3) := by decide +kernel
theorem dX11_trap_21 : decode cX11_trap 21 = .ok (.istore_n 3, 1) := by decide +kernel
theorem dX11_trap_22 : decode cX11_trap 22 = .ok (.iload_n 3, 1) := by decide +kernel
theorem dX11_trap_23 : decode cX11_trap 23 = .ok (.ifCond .le 9, 3) := by decide +kernel
theorem dX11_trap_26 : decode cX11_trap 26 = .ok (.aload_n 0, 1) := by decide +kernel
theorem dX11_trap_27 : decode cX11_trap 27 = .ok (.iload_n 3, 1) := by decide +kernel
theorem dX11_trap_28 : decode cX11_trap 28 = .ok (.invokevirtual 145, 3) := by decide +kernel
theorem dX11_trap_31 : decode cX11_trap 31 = .ok (.ireturn, 1) := by decide +kernel
theorem dX11_trap_32 : decode cX11_trap 32 = .ok (.aload_n 0, 1) := by decide +kernel
theorem dX11_trap_33 : decode cX11_trap 33 = .ok (.iconst 0, 1) := by decide +kernel
theorem dX11_trap_34 : decode cX11_trap 34 = .ok (.putfield 128, 3) := by decide +kernel
theorem dX11_trap_37 : decode cX11_trap 37 = .ok (.aload_n 0, 1) := by decide +kernel
theorem dX11_trap_38 : decode cX11_trap 38 = .ok (.iload_n 1, 1) := by decide +kernel
theorem dX11_trap_39 : decode cX11_trap 39 = .ok (.ldc 186, 2) := by decide +kernel
theorem dX11_trap_41 : decode cX11_trap 41 = .ok (.invokevirtual 209, 3) := by decide +kernel
theorem dX11_trap_44 : decode cX11_trap 44 = .ok (.iconst 0, 1) := by decide +kernel
theorem dX11_trap_45 : decode cX11_trap 45 = .ok (.istore 4, 2) := by decide +kernel
theorem dX11_trap_47 : decode cX11_trap 47 = .ok (.iconst 0, 1) := by decide +kernel
theorem dX11_trap_48 : decode cX11_trap 48 = .ok (.istore 5, 2) := by decide +kernel
theorem dX11_trap_50 : decode cX11_trap 50 = .ok (.iload 5, 2) := by decide +kernel
theorem dX11_trap_52 : decode cX11_trap 52 = .ok (.aload_n 0, 1) := by decide +kernel
theorem dX11_trap_53 : decode cX11_trap 53 = .ok (.getfield 23, 3) := by decide +kernel
theorem dX11_trap_56 : decode cX11_trap 56 = .ok (.iload_n 1, 1) := by decide +kernel
theorem dX11_trap_57 : decode cX11_trap 57 = .ok (.iaload, 1) := by decide +kernel
theorem dX11_trap_58 : decode cX11_trap 58 = .ok (.aload_n 0, 1) := by decide +kernel
theorem dX11_trap_59 : decode cX11_trap 59 = .ok (.getfield 26, 3) := by decide +kernel
theorem dX11_trap_62 : decode cX11_trap 62 = .ok (.iload_n 1, 1) := by decide +kernel
theorem dX11_trap_63 : decode cX11_trap 63 = .ok (.iaload, 1) := by decide +kernel
theorem dX11_trap_64 : decode cX11_trap 64 = .ok (.imul, 1) := by decide +kernel
theorem dX11_trap_65 : decode cX11_trap 65 = .ok (.if_icmp .ge 147, 3) := by decide +kernel
theorem dX11_trap_68 : decode cX11_trap 68 = .ok (.aload_n 0, 1) := by decide +kernel
theorem dX11_trap_69 : decode cX11_trap 69 = .ok (.getfield 57, 3) := by decide +kernel
theorem dX11_trap_72 : decode cX11_trap 72 = .ok (.iload 5, 2) := by decide +kernel
theorem dX11_trap_74 : decode cX11_trap 74 = .ok (.iaload, 1) := by decide +kernel
theorem dX11_trap_75 : decode cX11_trap 75 = .ok (.ldc 186, 2) := by decide +kernel
theorem dX11_trap_77 : decode cX11_trap 77 = .ok (.if_icmp .eq 23, 3) := by decide +kernel
theorem dX11_trap_80 : decode cX11_trap 80 = .ok (.aload_n 0, 1) := by decide +kernel
theorem dX11_trap_81 : decode cX11_trap 81 = .ok (.getfield 38, 3) := by decide +kernel
theorem dX11_trap_84 : decode cX11_trap 84 = .ok (.sipush 144, 3) := by decide +kernel
theorem dX11_trap_87 : decode cX11_trap 87 = .ok (.iload_n 1, 1) := by decide +kernel
theorem dX11_trap_88 : decode cX11_trap 88 = .ok (.imul, 1) := by decide +kernel
theorem dX11_trap_89 : decode cX11_trap 89 = .ok (.iload 5, 2) := by decide +kernel
theorem dX11_trap_91 : decode cX11_trap 91 = .ok (.iadd, 1) := by decide +kernel
theorem dX11_trap_92 : decode cX11_trap 92 = .ok (.baload, 1) := by decide +kernel
theorem dX11_trap_93 : decode cX11_trap 93 = .ok (.ifCond .ne 7, 3) := by decide +kernel
theorem dX11_trap_96 : decode cX11_trap 96 = .ok (.iconst 1, 1) := by decide +kernel
theorem dX11_trap_97 : decode cX11_trap 97 = .ok (.goto 4, 3) := by decide +kernel
theorem dX11_trap_100 : decode cX11_trap 100 = .ok (.iconst 0, 1) := by decide +kernel
theorem dX11_trap_101 : decode cX11_trap 101 = .ok (.istore 6, 2) := by decide +kernel
theorem dX11_trap_103 : decode cX11_trap 103 = .ok (.iconst 0, 1) := by decide +kernel
theorem dX11_trap_104 : decode cX11_trap 104 = .ok (.istore 7, 2) := by decide +kernel
theorem dX11_trap_106 : decode cX11_trap 106 = .ok (.iload 7, 2) := by decide +kernel
theorem dX11_trap_108 : decode cX11_trap 108 = .ok (.iconst 4, 1) := by decide +kernel
theorem dX11_trap_109 : decode cX11_trap 109 = .ok (.if_icmp .ge 68, 3) := by decide +kernel
theorem dX11_trap_112 : decode cX11_trap 112 = .ok (.iload 6, 2) := by decide +kernel
theorem dX11_trap_114 : decode cX11_trap 114 = .ok (.ifCond .eq 63, 3) := by decide +kernel
theorem dX11_trap_117 : decode cX11_trap 117 = .ok (.aload_n 0, 1) := by decide +kernel
theorem dX11_trap_118 : decode cX11_trap 118 = .ok (.iload_n 1, 1) := by decide +kernel
theorem dX11_trap_119 : decode cX11_trap 119 = .ok (.iload 5, 2) := by decide +kernel
theorem dX11_trap_121 : decode cX11_trap 121 = .ok (.iload 7, 2) := by decide +kernel
theorem dX11_trap_123 : decode cX11_trap 123 = .ok (.invokevirtual 205, 3) := by decide +kernel
theorem dX11_trap_126 : decode cX11_trap 126 = .ok (.istore 8, 2) := by decide +kernel
theorem dX11_trap_128 : decode cX11_trap 128 = .ok (.iload 8, 2) := by decide +kernel
theorem dX11_trap_130 : decode cX11_trap 130 = .ok (.ldc 186, 2) := by decide +kernel
theorem dX11_trap_132 : decode cX11_trap 132 = .ok (.if_icmp .eq 32, 3) := by decide +kernel
theorem dX11_trap_135 : decode cX11_trap 135 = .ok (.aload_n 0, 1) := by decide +kernel
theorem dX11_trap_136 : decode cX11_trap 136 = .ok (.getfield 57, 3) := by decide +kernel
theorem dX11_trap_139 : decode cX11_trap 139 = .ok (.iload 8, 2) := by decide +kernel
theorem dX11_trap_141 : decode cX11_trap 141 = .ok (.iaload, 1) := by decide +kernel
theorem dX11_trap_142 : decode cX11_trap 142 = .ok (.ldc 186, 2) := by decide +kernel
theorem dX11_trap_144 : decode cX11_trap 144 = .ok (.if_icmp .eq 20, 3) := by decide +kernel
theorem dX11_trap_147 : decode cX11_trap 147 = .ok (.aload_n 0, 1) := by decide +kernel
theorem dX11_trap_148 : decode cX11_trap 148 = .ok (.getfield 66, 3) := by decide +kernel
theorem dX11_trap_151 : decode cX11_trap 151 = .ok (.iload 8, 2) := by decide +kernel
theorem dX11_trap_153 : decode cX11_trap 153 = .ok (.iaload, 1) := by decide +kernel
theorem dX11_trap_154 : decode cX11_trap 154 = .ok (.aload_n 0, 1) := by decide +kernel
theorem dX11_trap_155 : decode cX11_trap 155 = .ok (.getfield 66, 3) := by decide +kernel
theorem dX11_trap_158 : decode cX11_trap 158 = .ok (.iload 5, 2) := by decide +kernel
theorem dX11_trap_160 : decode cX11_trap 160 = .ok (.iaload, 1) := by decide +kernel
theorem dX11_trap_161 : decode cX11_trap 161 = .ok (.if_icmp .ge 7, 3) := by decide +kernel
theorem dX11_trap_164 : decode cX11_trap 164 = .ok (.iconst 1, 1) := by decide +kernel
theorem dX11_trap_165 : decode cX11_trap 165 = .ok (.goto 4, 3) := by decide +kernel
theorem dX11_trap_168 : decode cX11_trap 168 = .ok (.iconst 0, 1) := by decide +kernel
theorem dX11_trap_169 : decode cX11_trap 169 = .ok (.istore 6, 2) := by decide +kernel
theorem dX11_trap_171 : decode cX11_trap 171 = .ok (.iinc 7 1, 3) := by decide +kernel
theorem dX11_trap_174 : decode cX11_trap 174 = .ok (.goto (-68), 3) := by decide +kernel
theorem dX11_trap_177 : decode cX11_trap 177 = .ok (.iload 6, 2) := by decide +kernel
theorem dX11_trap_179 : decode cX11_trap 179 = .ok (.ifCond .eq 12, 3) := by decide +kernel
theorem dX11_trap_182 : decode cX11_trap 182 = .ok (.iload 4, 2) := by decide +kernel
theorem dX11_trap_184 : decode cX11_trap 184 = .ok (.iload_n 2, 1) := by decide +kernel
theorem dX11_trap_185 : decode cX11_trap 185 = .ok (.if_icmp .ne 6, 3) := by decide +kernel
theorem dX11_trap_188 : decode cX11_trap 188 = .ok (.iload 5, 2) := by decide +kernel
theorem dX11_trap_190 : decode cX11_trap 190 = .ok (.ireturn, 1) := by decide +kernel
theorem dX11_trap_191 : decode cX11_trap 191 = .ok (.iload 4, 2) := by decide +kernel
theorem dX11_trap_193 : decode cX11_trap 193 = .ok (.iload 6, 2) := by decide +kernel
theorem dX11_trap_195 : decode cX11_trap 195 = .ok (.ifCond .eq 7, 3) := by decide +kernel
theorem dX11_trap_198 : decode cX11_trap 198 = .ok (.iconst 1, 1) := by decide +kernel
theorem dX11_trap_199 : decode cX11_trap 199 = .ok (.goto 4, 3) := by decide +kernel
theorem dX11_trap_202 : decode cX11_trap 202 = .ok (.iconst 0, 1) := by decide +kernel
theorem dX11_trap_203 : decode cX11_trap 203 = .ok (.iadd, 1) := by decide +kernel
theorem dX11_trap_204 : decode cX11_trap 204 = .ok (.istore 4, 2) := by decide +kernel
theorem dX11_trap_206 : decode cX11_trap 206 = .ok (.iinc 5 1, 3) := by decide +kernel
theorem dX11_trap_209 : decode cX11_trap 209 = .ok (.goto (-159), 3) := by decide +kernel
theorem dX11_trap_212 : decode cX11_trap 212 = .ok (.ldc 186, 2) := by decide +kernel
theorem dX11_trap_214 : decode cX11_trap 214 = .ok (.ireturn, 1) := by decide +kernel
theorem dX11_force_0 : decode cX11_force 0 = .ok (.aload_n 0, 1) := by decide +kernel
theorem dX11_force_1 : decode cX11_force 1 = .ok (.iconst 0, 1) := by decide +kernel
theorem dX11_force_2 : decode cX11_force 2 = .ok (.putfield 124, 3) := by decide +kernel
theorem dX11_force_5 : decode cX11_force 5 = .ok (.iload_n 1, 1) := by decide +kernel
theorem dX11_force_6 : decode cX11_force 6 = .ok (.invokestatic 153, 3) := by decide +kernel
theorem dX11_force_9 : decode cX11_force 9 = .ok (.ifCond .ne 7, 3) := by decide +kernel
theorem dX11_force_12 : decode cX11_force 12 = .ok (.ldc2_w 149, 3) := by decide +kernel
theorem dX11_force_15 : decode cX11_force 15 = .ok (.lreturn, 1) := by decide +kernel
theorem dX11_force_16 : decode cX11_force 16 = .ok (.aload_n 0, 1) := by decide +kernel
theorem dX11_force_17 : decode cX11_force 17 = .ok (.iload_n 1, 1) := by decide +kernel
theorem dX11_force_18 : decode cX11_force 18 = .ok (.iconst 1, 1) := by decide +kernel
theorem dX11_force_19 : decode cX11_force 19 = .ok (.invokevirtual 187, 3) := by decide +kernel
theorem dX11_force_22 : decode cX11_force 22 = .ok (.istore_n 3, 1) := by decide +kernel
theorem dX11_force_23 : decode cX11_force 23 = .ok (.iload_n 3, 1) := by decide +kernel
theorem dX11_force_24 : decode cX11_force 24 = .ok (.ifCond .le 10, 3) := by decide +kernel
theorem dX11_force_27 : decode cX11_force 27 = .ok (.aload_n 0, 1) := by decide +kernel
theorem dX11_force_28 : decode cX11_force 28 = .ok (.iload_n 3, 1) := by decide +kernel
theorem dX11_force_29 : decode cX11_force 29 = .ok (.invokevirtual 145, 3) := by decide +kernel
theorem dX11_force_32 : decode cX11_force 32 = .ok (.i2l, 1) := by decide +kernel
theorem dX11_force_33 : decode cX11_force 33 = .ok (.lreturn, 1) := by decide +kernel
theorem dX11_force_34 : decode cX11_force 34 = .ok (.aload_n 0, 1) := by decide +kernel
theorem dX11_force_35 : decode cX11_force 35 = .ok (.iconst 0, 1) := by decide +kernel
theorem dX11_force_36 : decode cX11_force 36 = .ok (.putfield 128, 3) := by decide +kernel
theorem dX11_force_39 : decode cX11_force 39 = .ok (.aload_n 0, 1) := by decide +kernel
theorem dX11_force_40 : decode cX11_force 40 = .ok (.iload_n 1, 1) := by decide +kernel
theorem dX11_force_41 : decode cX11_force 41 = .ok (.ldc 186, 2) := by decide +kernel
theorem dX11_force_43 : decode cX11_force 43 = .ok (.invokevirtual 209, 3) := by decide +kernel
theorem dX11_force_46 : decode cX11_force 46 = .ok (.iload_n 2, 1) := by decide +kernel
theorem dX11_force_47 : decode cX11_force 47 = .ok (.i2l, 1) := by decide +kernel
theorem dX11_force_48 : decode cX11_force 48 = .ok (.lconst 0, 1) := by decide +kernel
theorem dX11_force_49 : decode cX11_force 49 = .ok (.aload_n 0, 1) := by decide +kernel
theorem dX11_force_50 : decode cX11_force 50 = .ok (.getfield 195, 3) := by decide +kernel
theorem dX11_force_53 : decode cX11_force 53 = .ok (.iconst 1, 1) := by decide +kernel
theorem dX11_force_54 : decode cX11_force 54 = .ok (.isub, 1) := by decide +kernel
theorem dX11_force_55 : decode cX11_force 55 = .ok (.i2l, 1) := by decide +kernel
theorem dX11_force_56 : decode cX11_force 56 = .ok (.invokestatic 134, 3) := by decide +kernel
theorem dX11_force_59 : decode cX11_force 59 = .ok (.ifCond .ne 7, 3) := by decide +kernel
theorem dX11_force_62 : decode cX11_force 62 = .ok (.ldc2_w 213, 3) := by decide +kernel
theorem dX11_force_65 : decode cX11_force 65 = .ok (.lreturn, 1) := by decide +kernel
theorem dX11_force_66 : decode cX11_force 66 = .ok (.lconst 0, 1) := by decide +kernel
theorem dX11_force_67 : decode cX11_force 67 = .ok (.lstore 4, 2) := by decide +kernel
theorem dX11_force_69 : decode cX11_force 69 = .ok (.iconst 0, 1) := by decide +kernel
theorem dX11_force_70 : decode cX11_force 70 = .ok (.istore 6, 2) := by decide +kernel
theorem dX11_force_72 : decode cX11_force 72 = .ok (.iload 6, 2) := by decide +kernel
theorem dX11_force_74 : decode cX11_force 74 = .ok (.iload_n 2, 1) := by decide +kernel
theorem dX11_force_75 : decode cX11_force 75 = .ok (.if_icmp .gt 39, 3) := by decide +kernel
theorem dX11_force_78 : decode cX11_force 78 = .ok (.lload 4, 2) := by decide +kernel
theorem dX11_force_80 : decode cX11_force 80 = .ok (.aload_n 0, 1) := by decide +kernel
theorem dX11_force_81 : decode cX11_force 81 = .ok (.getfield 57, 3) := by decide +kernel
theorem dX11_force_84 : decode cX11_force 84 = .ok (.aload_n 0, 1) := by decide +kernel
theorem dX11_force_85 : decode cX11_force 85 = .ok (.getfield 63, 3) := by decide +kernel
theorem dX11_force_88 : decode cX11_force 88 = .ok (.iload_n 2, 1) := by decide +kernel
theorem dX11_force_89 : decode cX11_force 89 = .ok (.iaload, 1) := by decide +kernel
theorem dX11_force_90 : decode cX11_force 90 = .ok (.iaload, 1) := by decide +kernel
theorem dX11_force_91 : decode cX11_force 91 = .ok (.aload_n 0, 1) := by decide +kernel
theorem dX11_force_92 : decode cX11_force 92 = .ok (.getfield 57, 3) := by decide +kernel
theorem dX11_force_95 : decode cX11_force 95 = .ok (.aload_n 0, 1) := by decide +kernel
theorem dX11_force_96 : decode cX11_force 96 = .ok (.getfield 63, 3) := by decide +kernel
theorem dX11_force_99 : decode cX11_force 99 = .ok (.iload 6, 2) := by decide +kernel
theorem dX11_force_101 : decode cX11_force 101 = .ok (.iaload, 1) := by decide +kernel
theorem dX11_force_102 : decode cX11_force 102 = .ok (.iaload, 1) := by decide +kernel
theorem dX11_force_103 : decode cX11_force 103 = .ok (.isub, 1) := by decide +kernel
theorem dX11_force_104 : decode cX11_force 104 = .ok (.i2l, 1) := by decide +kernel
theorem dX11_force_105 : decode cX11_force 105 = .ok (.ladd, 1) := by decide +kernel
theorem dX11_force_106 : decode cX11_force 106 = .ok (.lstore 4, 2) := by decide +kernel
theorem dX11_force_108 : decode cX11_force 108 = .ok (.iinc 6 1, 3) := by decide +kernel
theorem dX11_force_111 : decode cX11_force 111 = .ok (.goto (-39), 3) := by decide +kernel
theorem dX11_force_114 : decode cX11_force 114 = .ok (.lload 4, 2) := by decide +kernel
theorem dX11_force_116 : decode cX11_force 116 = .ok (.lreturn, 1) := by decide +kernel
theorem dX11_best_0 : decode cX11_best 0 = .ok (.aload_n 0, 1) := by decide +kernel
theorem dX11_best_1 : decode cX11_best 1 = .ok (.iconst 0, 1) := by decide +kernel
theorem dX11_best_2 : decode cX11_best 2 = .ok (.putfield 124, 3) := by decide +kernel
theorem dX11_best_5 : decode cX11_best 5 = .ok (.iload_n 1, 1) := by decide +kernel
theorem dX11_best_6 : decode cX11_best 6 = .ok (.invokestatic 153, 3) := by decide +kernel
theorem dX11_best_9 : decode cX11_best 9 = .ok (.ifCond .ne 6, 3) := by decide +kernel
theorem dX11_best_12 : decode cX11_best 12 = .ok (.ldc 144, 2) := by decide +kernel
theorem dX11_best_14 : decode cX11_best 14 = .ok (.ireturn, 1) := by decide +kernel
theorem dX11_best_15 : decode cX11_best 15 = .ok (.aload_n 0, 1) := by decide +kernel
theorem dX11_best_16 : decode cX11_best 16 = .ok (.iload_n 1, 1) := by decide +kernel
theorem dX11_best_17 : decode cX11_best 17 = .ok (.iconst 1, 1) := by decide +kernel
theorem dX11_best_18 : decode cX11_best 18 = .ok (.invokevirtual 187, 3) := by decide +kernel
theorem dX11_best_21 : decode cX11_best 21 = .ok (.istore_n 2, 1) := by decide +kernel
theorem dX11_best_22 : decode cX11_best 22 = .ok (.iload_n 2, 1) := by decide +kernel
theorem dX11_best_23 : decode cX11_best 23 = .ok (.ifCond .le 9, 3) := by decide +kernel
theorem dX11_best_26 : decode cX11_best 26 = .ok (.aload_n 0, 1) := by decide +kernel
theorem dX11_best_27 : decode cX11_best 27 = .ok (.iload_n 2, 1) := by decide +kernel
theorem dX11_best_28 : decode cX11_best 28 = .ok (.invokevirtual 145, 3) := by decide +kernel
theorem dX11_best_31 : decode cX11_best 31 = .ok (.ireturn, 1) := by decide +kernel
theorem dX11_best_32 : decode cX11_best 32 = .ok (.aload_n 0, 1) := by decide +kernel
theorem dX11_best_33 : decode cX11_best 33 = .ok (.iconst 0, 1) := by decide +kernel
theorem dX11_best_34 : decode cX11_best 34 = .ok (.putfield 128, 3) := by decide +kernel
theorem dX11_best_37 : decode cX11_best 37 = .ok (.iconst 0, 1) := by decide +kernel
theorem dX11_best_38 : decode cX11_best 38 = .ok (.istore_n 3, 1) := by decide +kernel
theorem dX11_best_39 : decode cX11_best 39 = .ok (.iconst 0, 1) := by decide +kernel
theorem dX11_best_40 : decode cX11_best 40 = .ok (.istore 4, 2) := by decide +kernel
theorem dX11_best_42 : decode cX11_best 42 = .ok (.iload 4, 2) := by decide +kernel
theorem dX11_best_44 : decode cX11_best 44 = .ok (.sipush 144, 3) := by decide +kernel
theorem dX11_best_47 : decode cX11_best 47 = .ok (.if_icmp .ge 33, 3) := by decide +kernel
theorem dX11_best_50 : decode cX11_best 50 = .ok (.iload_n 3, 1) := by decide +kernel
theorem dX11_best_51 : decode cX11_best 51 = .ok (.aload_n 0, 1) := by decide +kernel
theorem dX11_best_52 : decode cX11_best 52 = .ok (.getfield 29, 3) := by decide +kernel
theorem dX11_best_55 : decode cX11_best 55 = .ok (.sipush 144, 3) := by decide +kernel
theorem dX11_best_58 : decode cX11_best 58 = .ok (.iload_n 1, 1) := by decide +kernel
theorem dX11_best_59 : decode cX11_best 59 = .ok (.imul, 1) := by decide +kernel
theorem dX11_best_60 : decode cX11_best 60 = .ok (.iload 4, 2) := by decide +kernel
theorem dX11_best_62 : decode cX11_best 62 = .ok (.iadd, 1) := by decide +kernel
theorem dX11_best_63 : decode cX11_best 63 = .ok (.iaload, 1) := by decide +kernel
theorem dX11_best_64 : decode cX11_best 64 = .ok (.ifCond .le 7, 3) := by decide +kernel
theorem dX11_best_67 : decode cX11_best 67 = .ok (.iconst 1, 1) := by decide +kernel
theorem dX11_best_68 : decode cX11_best 68 = .ok (.goto 4, 3) := by decide +kernel
theorem dX11_best_71 : decode cX11_best 71 = .ok (.iconst 0, 1) := by decide +kernel
theorem dX11_best_72 : decode cX11_best 72 = .ok (.iadd, 1) := by decide +kernel
theorem dX11_best_73 : decode cX11_best 73 = .ok (.istore_n 3, 1) := by decide +kernel
theorem dX11_best_74 : decode cX11_best 74 = .ok (.iinc 4 1, 3) := by decide +kernel
theorem dX11_best_77 : decode cX11_best 77 = .ok (.goto (-35), 3) := by decide +kernel
theorem dX11_best_80 : decode cX11_best 80 = .ok (.ldc 186, 2) := by decide +kernel
theorem dX11_best_82 : decode cX11_best 82 = .ok (.istore 4, 2) := by decide +kernel
theorem dX11_best_84 : decode cX11_best 84 = .ok (.iconst 0, 1) := by decide +kernel
theorem dX11_best_85 : decode cX11_best 85 = .ok (.istore 5, 2) := by decide +kernel
theorem dX11_best_87 : decode cX11_best 87 = .ok (.iconst 0, 1) := by decide +kernel
theorem dX11_best_88 : decode cX11_best 88 = .ok (.istore 6, 2) := by decide +kernel
theorem dX11_best_90 : decode cX11_best 90 = .ok (.iload 6, 2) := by decide +kernel
theorem dX11_best_92 : decode cX11_best 92 = .ok (.aload_n 0, 1) := by decide +kernel
theorem dX11_best_93 : decode cX11_best 93 = .ok (.getfield 23, 3) := by decide +kernel
theorem dX11_best_96 : decode cX11_best 96 = .ok (.iload_n 1, 1) := by decide +kernel
theorem dX11_best_97 : decode cX11_best 97 = .ok (.iaload, 1) := by decide +kernel
theorem dX11_best_98 : decode cX11_best 98 = .ok (.aload_n 0, 1) := by decide +kernel
theorem dX11_best_99 : decode cX11_best 99 = .ok (.getfield 26, 3) := by decide +kernel
theorem dX11_best_102 : decode cX11_best 102 = .ok (.iload_n 1, 1) := by decide +kernel
theorem dX11_best_103 : decode cX11_best 103 = .ok (.iaload, 1) := by decide +kernel
theorem dX11_best_104 : decode cX11_best 104 = .ok (.imul, 1) := by decide +kernel
theorem dX11_best_105 : decode cX11_best 105 = .ok (.if_icmp .ge 66, 3) := by decide +kernel
theorem dX11_best_108 : decode cX11_best 108 = .ok (.aload_n 0, 1) := by decide +kernel
theorem dX11_best_109 : decode cX11_best 109 = .ok (.getfield 29, 3) := by decide +kernel
theorem dX11_best_112 : decode cX11_best 112 = .ok (.sipush 144, 3) := by decide +kernel
theorem dX11_best_115 : decode cX11_best 115 = .ok (.iload_n 1, 1) := by decide +kernel
theorem dX11_best_116 : decode cX11_best 116 = .ok (.imul, 1) := by decide +kernel
theorem dX11_best_117 : decode cX11_best 117 = .ok (.iload 6, 2) := by decide +kernel
theorem dX11_best_119 : decode cX11_best 119 = .ok (.iadd, 1) := by decide +kernel
theorem dX11_best_120 : decode cX11_best 120 = .ok (.iaload, 1) := by decide +kernel
theorem dX11_best_121 : decode cX11_best 121 = .ok (.ifCond .le 44, 3) := by decide +kernel
theorem dX11_best_124 : decode cX11_best 124 = .ok (.aload_n 0, 1) := by decide +kernel
theorem dX11_best_125 : decode cX11_best 125 = .ok (.iload_n 1, 1) := by decide +kernel
theorem dX11_best_126 : decode cX11_best 126 = .ok (.iload 6, 2) := by decide +kernel
theorem dX11_best_128 : decode cX11_best 128 = .ok (.invokevirtual 209, 3) := by decide +kernel
theorem dX11_best_131 : decode cX11_best 131 = .ok (.aload_n 0, 1) := by decide +kernel
theorem dX11_best_132 : decode cX11_best 132 = .ok (.getfield 195, 3) := by decide +kernel
theorem dX11_best_135 : decode cX11_best 135 = .ok (.iload_n 3, 1) := by decide +kernel
theorem dX11_best_136 : decode cX11_best 136 = .ok (.if_icmp .ne 29, 3) := by decide +kernel
theorem dX11_best_139 : decode cX11_best 139 = .ok (.iload 4, 2) := by decide +kernel
theorem dX11_best_141 : decode cX11_best 141 = .ok (.ldc 186, 2) := by decide +kernel
theorem dX11_best_143 : decode cX11_best 143 = .ok (.if_icmp .eq 12, 3) := by decide +kernel
theorem dX11_best_146 : decode cX11_best 146 = .ok (.aload_n 0, 1) := by decide +kernel
theorem dX11_best_147 : decode cX11_best 147 = .ok (.invokevirtual 215, 3) := by decide +kernel
theorem dX11_best_150 : decode cX11_best 150 = .ok (.iload 5, 2) := by decide +kernel
theorem dX11_best_152 : decode cX11_best 152 = .ok (.if_icmp .ge 13, 3) := by decide +kernel
theorem dX11_best_155 : decode cX11_best 155 = .ok (.iload 6, 2) := by decide +kernel
theorem dX11_best_157 : decode cX11_best 157 = .ok (.istore 4, 2) := by decide +kernel
theorem dX11_best_159 : decode cX11_best 159 = .ok (.aload_n 0, 1) := by decide +kernel
theorem dX11_best_160 : decode cX11_best 160 = .ok (.invokevirtual 215, 3) := by decide +kernel
theorem dX11_best_163 : decode cX11_best 163 = .ok (.istore 5, 2) := by decide +kernel
theorem dX11_best_165 : decode cX11_best 165 = .ok (.iinc 6 1, 3) := by decide +kernel
theorem dX11_best_168 : decode cX11_best 168 = .ok (.goto (-78), 3) := by decide +kernel
theorem dX11_best_171 : decode cX11_best 171 = .ok (.iload 4, 2) := by decide +kernel
theorem dX11_best_173 : decode cX11_best 173 = .ok (.ireturn, 1) := by decide +kernel
theorem dX11_branch_0 : decode cX11_branch 0 = .ok (.aload_n 0, 1) := by decide +kernel
theorem dX11_branch_1 : decode cX11_branch 1 = .ok (.iconst 0, 1) := by decide +kernel
theorem dX11_branch_2 : decode cX11_branch 2 = .ok (.putfield 124, 3) := by decide +kernel
theorem dX11_branch_5 : decode cX11_branch 5 = .ok (.iload_n 1, 1) := by decide +kernel
theorem dX11_branch_6 : decode cX11_branch 6 = .ok (.ldc 186, 2) := by decide +kernel
theorem dX11_branch_8 : decode cX11_branch 8 = .ok (.if_icmp .eq 19, 3) := by decide +kernel
theorem dX11_branch_11 : decode cX11_branch 11 = .ok (.iload_n 1, 1) := by decide +kernel
theorem dX11_branch_12 : decode cX11_branch 12 = .ok (.i2l, 1) := by decide +kernel
theorem dX11_branch_13 : decode cX11_branch 13 = .ok (.lconst 0, 1) := by decide +kernel
theorem dX11_branch_14 : decode cX11_branch 14 = .ok (.aload_n 0, 1) := by decide +kernel
theorem dX11_branch_15 : decode cX11_branch 15 = .ok (.getfield 218, 3) := by decide +kernel
theorem dX11_branch_18 : decode cX11_branch 18 = .ok (.iconst 1, 1) := by decide +kernel
theorem dX11_branch_19 : decode cX11_branch 19 = .ok (.isub, 1) := by decide +kernel
theorem dX11_branch_20 : decode cX11_branch 20 = .ok (.i2l, 1) := by decide +kernel
theorem dX11_branch_21 : decode cX11_branch 21 = .ok (.invokestatic 134, 3) := by decide +kernel
theorem dX11_branch_24 : decode cX11_branch 24 = .ok (.ifCond .eq 27, 3) := by decide +kernel
theorem dX11_branch_27 : decode cX11_branch 27 = .ok (.iload_n 2, 1) := by decide +kernel
theorem dX11_branch_28 : decode cX11_branch 28 = .ok (.i2l, 1) := by decide +kernel
theorem dX11_branch_29 : decode cX11_branch 29 = .ok (.lconst 1, 1) := by decide +kernel
theorem dX11_branch_30 : decode cX11_branch 30 = .ok (.ldc2_w 221, 3) := by decide +kernel
theorem dX11_branch_33 : decode cX11_branch 33 = .ok (.invokestatic 134, 3) := by decide +kernel
theorem dX11_branch_36 : decode cX11_branch 36 = .ok (.ifCond .eq 15, 3) := by decide +kernel
theorem dX11_branch_39 : decode cX11_branch 39 = .ok (.iload_n 3, 1) := by decide +kernel
theorem dX11_branch_40 : decode cX11_branch 40 = .ok (.i2l, 1) := by decide +kernel
theorem dX11_branch_41 : decode cX11_branch 41 = .ok (.lconst 1, 1) := by decide +kernel
theorem dX11_branch_42 : decode cX11_branch 42 = .ok (.ldc2_w 151, 3) := by decide +kernel
theorem dX11_branch_45 : decode cX11_branch 45 = .ok (.invokestatic 134, 3) := by decide +kernel
theorem dX11_branch_48 : decode cX11_branch 48 = .ok (.ifCond .ne 6, 3) := by decide +kernel
theorem dX11_branch_51 : decode cX11_branch 51 = .ok (.ldc 144, 2) := by decide +kernel
theorem dX11_branch_53 : decode cX11_branch 53 = .ok (.ireturn, 1) := by decide +kernel
theorem dX11_branch_54 : decode cX11_branch 54 = .ok (.aload_n 0, 1) := by decide +kernel
theorem dX11_branch_55 : decode cX11_branch 55 = .ok (.getfield 218, 3) := by decide +kernel
theorem dX11_branch_58 : decode cX11_branch 58 = .ok (.bipush 8, 2) := by decide +kernel
theorem dX11_branch_60 : decode cX11_branch 60 = .ok (.if_icmp .ne 6, 3) := by decide +kernel
theorem dX11_branch_63 : decode cX11_branch 63 = .ok (.ldc 194, 2) := by decide +kernel
theorem dX11_branch_65 : decode cX11_branch 65 = .ok (.ireturn, 1) := by decide +kernel
theorem dX11_branch_66 : decode cX11_branch 66 = .ok (.aload_n 0, 1) := by decide +kernel
theorem dX11_branch_67 : decode cX11_branch 67 = .ok (.getfield 72, 3) := by decide +kernel
theorem dX11_branch_70 : decode cX11_branch 70 = .ok (.aload_n 0, 1) := by decide +kernel
theorem dX11_branch_71 : decode cX11_branch 71 = .ok (.getfield 218, 3) := by decide +kernel
theorem dX11_branch_74 : decode cX11_branch 74 = .ok (.iload_n 1, 1) := by decide +kernel
theorem dX11_branch_75 : decode cX11_branch 75 = .ok (.iastore, 1) := by decide +kernel
theorem dX11_branch_76 : decode cX11_branch 76 = .ok (.aload_n 0, 1) := by decide +kernel
theorem dX11_branch_77 : decode cX11_branch 77 = .ok (.getfield 75, 3) := by decide +kernel
theorem dX11_branch_80 : decode cX11_branch 80 = .ok (.aload_n 0, 1) := by decide +kernel
theorem dX11_branch_81 : decode cX11_branch 81 = .ok (.getfield 218, 3) := by decide +kernel
theorem dX11_branch_84 : decode cX11_branch 84 = .ok (.iload_n 2, 1) := by decide +kernel
theorem dX11_branch_85 : decode cX11_branch 85 = .ok (.iastore, 1) := by decide +kernel
theorem dX11_branch_86 : decode cX11_branch 86 = .ok (.aload_n 0, 1) := by decide +kernel
theorem dX11_branch_87 : decode cX11_branch 87 = .ok (.getfield 78, 3) := by decide +kernel
theorem dX11_branch_90 : decode cX11_branch 90 = .ok (.aload_n 0, 1) := by decide +kernel
theorem dX11_branch_91 : decode cX11_branch 91 = .ok (.getfield 218, 3) := by decide +kernel
theorem dX11_branch_94 : decode cX11_branch 94 = .ok (.iload_n 3, 1) := by decide +kernel
theorem dX11_branch_95 : decode cX11_branch 95 = .ok (.iastore, 1) := by decide +kernel
theorem dX11_branch_96 : decode cX11_branch 96 = .ok (.aload_n 0, 1) := by decide +kernel
theorem dX11_branch_97 : decode cX11_branch 97 = .ok (.getfield 81, 3) := by decide +kernel
theorem dX11_branch_100 : decode cX11_branch 100 = .ok (.aload_n 0, 1) := by decide +kernel
theorem dX11_branch_101 : decode cX11_branch 101 = .ok (.getfield 218, 3) := by decide +kernel
theorem dX11_branch_104 : decode cX11_branch 104 = .ok (.ldc 186, 2) := by decide +kernel
theorem dX11_branch_106 : decode cX11_branch 106 = .ok (.iastore, 1) := by decide +kernel
theorem dX11_branch_107 : decode cX11_branch 107 = .ok (.aload_n 0, 1) := by decide +kernel
theorem dX11_branch_108 : decode cX11_branch 108 = .ok (.dup, 1) := by decide +kernel
theorem dX11_branch_109 : decode cX11_branch 109 = .ok (.getfield 218, 3) := by decide +kernel
theorem dX11_branch_112 : decode cX11_branch 112 = .ok (.iconst 1, 1) := by decide +kernel
theorem dX11_branch_113 : decode cX11_branch 113 = .ok (.iadd, 1) := by decide +kernel
theorem dX11_branch_114 : decode cX11_branch 114 = .ok (.putfield 218, 3) := by decide +kernel
theorem dX11_branch_117 : decode cX11_branch 117 = .ok (.aload_n 0, 1) := by decide +kernel
theorem dX11_branch_118 : decode cX11_branch 118 = .ok (.getfield 218, 3) := by decide +kernel
theorem dX11_branch_121 : decode cX11_branch 121 = .ok (.iconst 1, 1) := by decide +kernel
theorem dX11_branch_122 : decode cX11_branch 122 = .ok (.isub, 1) := by decide +kernel
theorem dX11_branch_123 : decode cX11_branch 123 = .ok (.ireturn, 1) := by decide +kernel
theorem dX11_hanging_0 : decode cX11_hanging 0 = .ok (.iconst 0, 1) := by decide +kernel
theorem dX11_hanging_1 : decode cX11_hanging 1 = .ok (.istore_n 1, 1) := by decide +kernel
theorem dX11_hanging_2 : decode cX11_hanging 2 = .ok (.iconst 0, 1) := by decide +kernel
theorem dX11_hanging_3 : decode cX11_hanging 3 = .ok (.istore_n 2, 1) := by decide +kernel
theorem dX11_hanging_4 : decode cX11_hanging 4 = .ok (.iload_n 2, 1) := by decide +kernel
theorem dX11_hanging_5 : decode cX11_hanging 5 = .ok (.aload_n 0, 1) := by decide +kernel
theorem dX11_hanging_6 : decode cX11_hanging 6 = .ok (.getfield 218, 3) := by decide +kernel
theorem dX11_hanging_9 : decode cX11_hanging 9 = .ok (.if_icmp .ge 28, 3) := by decide +kernel
theorem dX11_hanging_12 : decode cX11_hanging 12 = .ok (.iload_n 1, 1) := by decide +kernel
theorem dX11_hanging_13 : decode cX11_hanging 13 = .ok (.aload_n 0, 1) := by decide +kernel
theorem dX11_hanging_14 : decode cX11_hanging 14 = .ok (.getfield 81, 3) := by decide +kernel
theorem dX11_hanging_17 : decode cX11_hanging 17 = .ok (.iload_n 2, 1) := by decide +kernel
theorem dX11_hanging_18 : decode cX11_hanging 18 = .ok (.iaload, 1) := by decide +kernel
theorem dX11_hanging_19 : decode cX11_hanging 19 = .ok (.ldc 186, 2) := by decide +kernel
theorem dX11_hanging_21 : decode cX11_hanging 21 = .ok (.if_icmp .eq 7, 3) := by decide +kernel
theorem dX11_hanging_24 : decode cX11_hanging 24 = .ok (.iconst 1, 1) := by decide +kernel
theorem dX11_hanging_25 : decode cX11_hanging 25 = .ok (.goto 4, 3) := by decide +kernel
theorem dX11_hanging_28 : decode cX11_hanging 28 = .ok (.iconst 0, 1) := by decide +kernel
theorem dX11_hanging_29 : decode cX11_hanging 29 = .ok (.iadd, 1) := by decide +kernel
theorem dX11_hanging_30 : decode cX11_hanging 30 = .ok (.istore_n 1, 1) := by decide +kernel
theorem dX11_hanging_31 : decode cX11_hanging 31 = .ok (.iinc 2 1, 3) := by decide +kernel
theorem dX11_hanging_34 : decode cX11_hanging 34 = .ok (.goto (-30), 3) := by decide +kernel
theorem dX11_hanging_37 : decode cX11_hanging 37 = .ok (.iload_n 1, 1) := by decide +kernel
theorem dX11_hanging_38 : decode cX11_hanging 38 = .ok (.ireturn, 1) := by decide +kernel
theorem dX11_hang_0 : decode cX11_hang 0 = .ok (.aload_n 0, 1) := by decide +kernel
theorem dX11_hang_1 : decode cX11_hang 1 = .ok (.iconst 0, 1) := by decide +kernel
theorem dX11_hang_2 : decode cX11_hang 2 = .ok (.putfield 124, 3) := by decide +kernel
theorem dX11_hang_5 : decode cX11_hang 5 = .ok (.iload_n 1, 1) := by decide +kernel
theorem dX11_hang_6 : decode cX11_hang 6 = .ok (.i2l, 1) := by decide +kernel
theorem dX11_hang_7 : decode cX11_hang 7 = .ok (.lconst 0, 1) := by decide +kernel
theorem dX11_hang_8 : decode cX11_hang 8 = .ok (.aload_n 0, 1) := by decide +kernel
theorem dX11_hang_9 : decode cX11_hang 9 = .ok (.getfield 218, 3) := by decide +kernel
theorem dX11_hang_12 : decode cX11_hang 12 = .ok (.iconst 1, 1) := by decide +kernel
theorem dX11_hang_13 : decode cX11_hang 13 = .ok (.isub, 1) := by decide +kernel
theorem dX11_hang_14 : decode cX11_hang 14 = .ok (.i2l, 1) := by decide +kernel
theorem dX11_hang_15 : decode cX11_hang 15 = .ok (.invokestatic 134, 3) := by decide +kernel
theorem dX11_hang_18 : decode cX11_hang 18 = .ok (.ifCond .eq 10, 3) := by decide +kernel
theorem dX11_hang_21 : decode cX11_hang 21 = .ok (.iload_n 2, 1) := by decide +kernel
theorem dX11_hang_22 : decode cX11_hang 22 = .ok (.invokestatic 153, 3) := by decide +kernel
theorem dX11_hang_25 : decode cX11_hang 25 = .ok (.ifCond .ne 6, 3) := by decide +kernel
theorem dX11_hang_28 : decode cX11_hang 28 = .ok (.ldc 144, 2) := by decide +kernel
theorem dX11_hang_30 : decode cX11_hang 30 = .ok (.ireturn, 1) := by decide +kernel
theorem dX11_hang_31 : decode cX11_hang 31 = .ok (.aload_n 0, 1) := by decide +kernel
theorem dX11_hang_32 : decode cX11_hang 32 = .ok (.getfield 81, 3) := by decide +kernel
theorem dX11_hang_35 : decode cX11_hang 35 = .ok (.iload_n 1, 1) := by decide +kernel
theorem dX11_hang_36 : decode cX11_hang 36 = .ok (.iaload, 1) := by decide +kernel
theorem dX11_hang_37 : decode cX11_hang 37 = .ok (.ldc 186, 2) := by decide +kernel
theorem dX11_hang_39 : decode cX11_hang 39 = .ok (.if_icmp .ne 12, 3) := by decide +kernel
theorem dX11_hang_42 : decode cX11_hang 42 = .ok (.aload_n 0, 1) := by decide +kernel
theorem dX11_hang_43 : decode cX11_hang 43 = .ok (.getfield 51, 3) := by decide +kernel
theorem dX11_hang_46 : decode cX11_hang 46 = .ok (.iload_n 2, 1) := by decide +kernel
theorem dX11_hang_47 : decode cX11_hang 47 = .ok (.iaload, 1) := by decide +kernel
theorem dX11_hang_48 : decode cX11_hang 48 = .ok (.ifCond .lt 6, 3) := by decide +kernel
theorem dX11_hang_51 : decode cX11_hang 51 = .ok (.ldc 158, 2) := by decide +kernel
theorem dX11_hang_53 : decode cX11_hang 53 = .ok (.ireturn, 1) := by decide +kernel
theorem dX11_hang_54 : decode cX11_hang 54 = .ok (.aload_n 0, 1) := by decide +kernel
theorem dX11_hang_55 : decode cX11_hang 55 = .ok (.iload_n 2, 1) := by decide +kernel
theorem dX11_hang_56 : decode cX11_hang 56 = .ok (.iconst 1, 1) := by decide +kernel
theorem dX11_hang_57 : decode cX11_hang 57 = .ok (.invokevirtual 187, 3) := by decide +kernel
theorem dX11_hang_60 : decode cX11_hang 60 = .ok (.istore_n 3, 1) := by decide +kernel
theorem dX11_hang_61 : decode cX11_hang 61 = .ok (.iload_n 3, 1) := by decide +kernel
theorem dX11_hang_62 : decode cX11_hang 62 = .ok (.ifCond .le 9, 3) := by decide +kernel
theorem dX11_hang_65 : decode cX11_hang 65 = .ok (.aload_n 0, 1) := by decide +kernel
theorem dX11_hang_66 : decode cX11_hang 66 = .ok (.iload_n 3, 1) := by decide +kernel
theorem dX11_hang_67 : decode cX11_hang 67 = .ok (.invokevirtual 145, 3) := by decide +kernel
theorem dX11_hang_70 : decode cX11_hang 70 = .ok (.ireturn, 1) := by decide +kernel
theorem dX11_hang_71 : decode cX11_hang 71 = .ok (.aload_n 0, 1) := by decide +kernel
theorem dX11_hang_72 : decode cX11_hang 72 = .ok (.iconst 0, 1) := by decide +kernel
theorem dX11_hang_73 : decode cX11_hang 73 = .ok (.putfield 128, 3) := by decide +kernel
theorem dX11_hang_76 : decode cX11_hang 76 = .ok (.aload_n 0, 1) := by decide +kernel
theorem dX11_hang_77 : decode cX11_hang 77 = .ok (.getfield 81, 3) := by decide +kernel
theorem dX11_hang_80 : decode cX11_hang 80 = .ok (.iload_n 1, 1) := by decide +kernel
theorem dX11_hang_81 : decode cX11_hang 81 = .ok (.iload_n 2, 1) := by decide +kernel
theorem dX11_hang_82 : decode cX11_hang 82 = .ok (.iastore, 1) := by decide +kernel
theorem dX11_hang_83 : decode cX11_hang 83 = .ok (.aload_n 0, 1) := by decide +kernel
theorem dX11_hang_84 : decode cX11_hang 84 = .ok (.getfield 51, 3) := by decide +kernel
theorem dX11_hang_87 : decode cX11_hang 87 = .ok (.iload_n 2, 1) := by decide +kernel
theorem dX11_hang_88 : decode cX11_hang 88 = .ok (.iload_n 1, 1) := by decide +kernel
theorem dX11_hang_89 : decode cX11_hang 89 = .ok (.iastore, 1) := by decide +kernel
theorem dX11_hang_90 : decode cX11_hang 90 = .ok (.aload_n 0, 1) := by decide +kernel
theorem dX11_hang_91 : decode cX11_hang 91 = .ok (.invokevirtual 223, 3) := by decide +kernel
theorem dX11_hang_94 : decode cX11_hang 94 = .ok (.ireturn, 1) := by decide +kernel
theorem dX11_strip_0 : decode cX11_strip 0 = .ok (.aload_n 0, 1) := by decide +kernel
theorem dX11_strip_1 : decode cX11_strip 1 = .ok (.iconst 0, 1) := by decide +kernel
theorem dX11_strip_2 : decode cX11_strip 2 = .ok (.putfield 124, 3) := by decide +kernel
theorem dX11_strip_5 : decode cX11_strip 5 = .ok (.aload_n 0, 1) := by decide +kernel
theorem dX11_strip_6 : decode cX11_strip 6 = .ok (.getfield 218, 3) := by decide +kernel
theorem dX11_strip_9 : decode cX11_strip 9 = .ok (.istore_n 1, 1) := by decide +kernel
theorem dX11_strip_10 : decode cX11_strip 10 = .ok (.aload_n 0, 1) := by decide +kernel
theorem dX11_strip_11 : decode cX11_strip 11 = .ok (.iconst 0, 1) := by decide +kernel
theorem dX11_strip_12 : decode cX11_strip 12 = .ok (.putfield 218, 3) := by decide +kernel
theorem dX11_strip_15 : decode cX11_strip 15 = .ok (.iconst 0, 1) := by decide +kernel
theorem dX11_strip_16 : decode cX11_strip 16 = .ok (.istore_n 2, 1) := by decide +kernel
theorem dX11_strip_17 : decode cX11_strip 17 = .ok (.iload_n 2, 1) := by decide +kernel
theorem dX11_strip_18 : decode cX11_strip 18 = .ok (.bipush 10, 2) := by decide +kernel
theorem dX11_strip_20 : decode cX11_strip 20 = .ok (.if_icmp .ge 16, 3) := by decide +kernel
theorem dX11_strip_23 : decode cX11_strip 23 = .ok (.aload_n 0, 1) := by decide +kernel
theorem dX11_strip_24 : decode cX11_strip 24 = .ok (.getfield 51, 3) := by decide +kernel
theorem dX11_strip_27 : decode cX11_strip 27 = .ok (.iload_n 2, 1) := by decide +kernel
theorem dX11_strip_28 : decode cX11_strip 28 = .ok (.iconst (-1), 1) := by decide +kernel
theorem dX11_strip_29 : decode cX11_strip 29 = .ok (.iastore, 1) := by decide +kernel
theorem dX11_strip_30 : decode cX11_strip 30 = .ok (.iinc 2 1, 3) := by decide +kernel
theorem dX11_strip_33 : decode cX11_strip 33 = .ok (.goto (-16), 3) := by decide +kernel
theorem dX11_strip_36 : decode cX11_strip 36 = .ok (.iload_n 1, 1) := by decide +kernel
theorem dX11_strip_37 : decode cX11_strip 37 = .ok (.ireturn, 1) := by decide +kernel
theorem dX11_findEnds_0 : decode cX11_findEnds 0 = .ok (.iconst 0, 1) := by decide +kernel
theorem dX11_findEnds_1 : decode cX11_findEnds 1 = .ok (.istore_n 1, 1) := by decide +kernel
theorem dX11_findEnds_2 : decode cX11_findEnds 2 = .ok (.iload_n 1, 1) := by decide +kernel
theorem dX11_findEnds_3 : decode cX11_findEnds 3 = .ok (.aload_n 0, 1) := by decide +kernel
theorem dX11_findEnds_4 : decode cX11_findEnds 4 = .ok (.getfield 218, 3) := by decide +kernel
theorem dX11_findEnds_7 : decode cX11_findEnds 7 = .ok (.if_icmp .ge 42, 3) := by decide +kernel
theorem dX11_findEnds_10 : decode cX11_findEnds 10 = .ok (.aload_n 0, 1) := by decide +kernel
theorem dX11_findEnds_11 : decode cX11_findEnds 11 = .ok (.getfield 81, 3) := by decide +kernel
theorem dX11_findEnds_14 : decode cX11_findEnds 14 = .ok (.iload_n 1, 1) := by decide +kernel
theorem dX11_findEnds_15 : decode cX11_findEnds 15 = .ok (.iaload, 1) := by decide +kernel
theorem dX11_findEnds_16 : decode cX11_findEnds 16 = .ok (.ldc 186, 2) := by decide +kernel
theorem dX11_findEnds_18 : decode cX11_findEnds 18 = .ok (.if_icmp .eq 25, 3) := by decide +kernel
theorem dX11_findEnds_21 : decode cX11_findEnds 21 = .ok (.aload_n 0, 1) := by decide +kernel
theorem dX11_findEnds_22 : decode cX11_findEnds 22 = .ok (.aload_n 0, 1) := by decide +kernel
theorem dX11_findEnds_23 : decode cX11_findEnds 23 = .ok (.getfield 81, 3) := by decide +kernel
theorem dX11_findEnds_26 : decode cX11_findEnds 26 = .ok (.iload_n 1, 1) := by decide +kernel
theorem dX11_findEnds_27 : decode cX11_findEnds 27 = .ok (.iaload, 1) := by decide +kernel
theorem dX11_findEnds_28 : decode cX11_findEnds 28 = .ok (.ldc 186, 2) := by decide +kernel
theorem dX11_findEnds_30 : decode cX11_findEnds 30 = .ok (.invokevirtual 209, 3) := by decide +kernel
theorem dX11_findEnds_33 : decode cX11_findEnds 33 = .ok (.aload_n 0, 1) := by decide +kernel
theorem dX11_findEnds_34 : decode cX11_findEnds 34 = .ok (.getfield 84, 3) := by decide +kernel
theorem dX11_findEnds_37 : decode cX11_findEnds 37 = .ok (.iload_n 1, 1) := by decide +kernel
theorem dX11_findEnds_38 : decode cX11_findEnds 38 = .ok (.aload_n 0, 1) := by decide +kernel
theorem dX11_findEnds_39 : decode cX11_findEnds 39 = .ok (.invokevirtual 215, 3) := by decide +kernel
theorem dX11_findEnds_42 : decode cX11_findEnds 42 = .ok (.iastore, 1) := by decide +kernel
theorem dX11_findEnds_43 : decode cX11_findEnds 43 = .ok (.iinc 1 1, 3) := by decide +kernel
theorem dX11_findEnds_46 : decode cX11_findEnds 46 = .ok (.goto (-44), 3) := by decide +kernel
theorem dX11_findEnds_49 : decode cX11_findEnds 49 = .ok (.return_, 1) := by decide +kernel
theorem dX11_endOf_0 : decode cX11_endOf 0 = .ok (.aload_n 0, 1) := by decide +kernel
theorem dX11_endOf_1 : decode cX11_endOf 1 = .ok (.getfield 84, 3) := by decide +kernel
theorem dX11_endOf_4 : decode cX11_endOf 4 = .ok (.iload_n 1, 1) := by decide +kernel
theorem dX11_endOf_5 : decode cX11_endOf 5 = .ok (.iaload, 1) := by decide +kernel
theorem dX11_endOf_6 : decode cX11_endOf 6 = .ok (.istore_n 2, 1) := by decide +kernel
theorem dX11_endOf_7 : decode cX11_endOf 7 = .ok (.iload_n 1, 1) := by decide +kernel
theorem dX11_endOf_8 : decode cX11_endOf 8 = .ok (.istore_n 3, 1) := by decide +kernel
theorem dX11_endOf_9 : decode cX11_endOf 9 = .ok (.iload_n 3, 1) := by decide +kernel
theorem dX11_endOf_10 : decode cX11_endOf 10 = .ok (.ldc 186, 2) := by decide +kernel
theorem dX11_endOf_12 : decode cX11_endOf 12 = .ok (.if_icmp .eq 47, 3) := by decide +kernel
theorem dX11_endOf_15 : decode cX11_endOf 15 = .ok (.iload_n 2, 1) := by decide +kernel
theorem dX11_endOf_16 : decode cX11_endOf 16 = .ok (.aload_n 0, 1) := by decide +kernel
theorem dX11_endOf_17 : decode cX11_endOf 17 = .ok (.getfield 75, 3) := by decide +kernel
theorem dX11_endOf_20 : decode cX11_endOf 20 = .ok (.iload_n 3, 1) := by decide +kernel
theorem dX11_endOf_21 : decode cX11_endOf 21 = .ok (.iaload, 1) := by decide +kernel
theorem dX11_endOf_22 : decode cX11_endOf 22 = .ok (.sipush 5000, 3) := by decide +kernel
theorem dX11_endOf_25 : decode cX11_endOf 25 = .ok (.imul, 1) := by decide +kernel
theorem dX11_endOf_26 : decode cX11_endOf 26 = .ok (.aload_n 0, 1) := by decide +kernel
theorem dX11_endOf_27 : decode cX11_endOf 27 = .ok (.getfield 78, 3) := by decide +kernel
theorem dX11_endOf_30 : decode cX11_endOf 30 = .ok (.iload_n 3, 1) := by decide +kernel
theorem dX11_endOf_31 : decode cX11_endOf 31 = .ok (.iaload, 1) := by decide +kernel
theorem dX11_endOf_32 : decode cX11_endOf 32 = .ok (.aload_n 0, 1) := by decide +kernel
theorem dX11_endOf_33 : decode cX11_endOf 33 = .ok (.getfield 78, 3) := by decide +kernel
theorem dX11_endOf_36 : decode cX11_endOf 36 = .ok (.iload_n 3, 1) := by decide +kernel
theorem dX11_endOf_37 : decode cX11_endOf 37 = .ok (.iaload, 1) := by decide +kernel
theorem dX11_endOf_38 : decode cX11_endOf 38 = .ok (.imul, 1) := by decide +kernel
theorem dX11_endOf_39 : decode cX11_endOf 39 = .ok (.aload_n 0, 1) := by decide +kernel
theorem dX11_endOf_40 : decode cX11_endOf 40 = .ok (.getfield 78, 3) := by decide +kernel
theorem dX11_endOf_43 : decode cX11_endOf 43 = .ok (.iload_n 3, 1) := by decide +kernel
theorem dX11_endOf_44 : decode cX11_endOf 44 = .ok (.iaload, 1) := by decide +kernel
theorem dX11_endOf_45 : decode cX11_endOf 45 = .ok (.imul, 1) := by decide +kernel
theorem dX11_endOf_46 : decode cX11_endOf 46 = .ok (.idiv, 1) := by decide +kernel
theorem dX11_endOf_47 : decode cX11_endOf 47 = .ok (.iadd, 1) := by decide +kernel
theorem dX11_endOf_48 : decode cX11_endOf 48 = .ok (.istore_n 2, 1) := by decide +kernel
theorem dX11_endOf_49 : decode cX11_endOf 49 = .ok (.aload_n 0, 1) := by decide +kernel
theorem dX11_endOf_50 : decode cX11_endOf 50 = .ok (.getfield 72, 3) := by decide +kernel
theorem dX11_endOf_53 : decode cX11_endOf 53 = .ok (.iload_n 3, 1) := by decide +kernel
theorem dX11_endOf_54 : decode cX11_endOf 54 = .ok (.iaload, 1) := by decide +kernel
theorem dX11_endOf_55 : decode cX11_endOf 55 = .ok (.istore_n 3, 1) := by decide +kernel
theorem dX11_endOf_56 : decode cX11_endOf 56 = .ok (.goto (-47), 3) := by decide +kernel
theorem dX11_endOf_59 : decode cX11_endOf 59 = .ok (.iload_n 2, 1) := by decide +kernel
theorem dX11_endOf_60 : decode cX11_endOf 60 = .ok (.ireturn, 1) := by decide +kernel
theorem dX11_spread_0 : decode cX11_spread 0 = .ok (.iconst 0, 1) := by decide +kernel
theorem dX11_spread_1 : decode cX11_spread 1 = .ok (.istore_n 1, 1) := by decide +kernel
theorem dX11_spread_2 : decode cX11_spread 2 = .ok (.iconst 0, 1) := by decide +kernel
theorem dX11_spread_3 : decode cX11_spread 3 = .ok (.istore_n 2, 1) := by decide +kernel
theorem dX11_spread_4 : decode cX11_spread 4 = .ok (.iconst 0, 1) := by decide +kernel
theorem dX11_spread_5 : decode cX11_spread 5 = .ok (.istore_n 3, 1) := by decide +kernel
theorem dX11_spread_6 : decode cX11_spread 6 = .ok (.iconst 0, 1) := by decide +kernel
theorem dX11_spread_7 : decode cX11_spread 7 = .ok (.istore 4, 2) := by decide +kernel
theorem dX11_spread_9 : decode cX11_spread 9 = .ok (.iload 4, 2) := by decide +kernel
theorem dX11_spread_11 : decode cX11_spread 11 = .ok (.aload_n 0, 1) := by decide +kernel
theorem dX11_spread_12 : decode cX11_spread 12 = .ok (.getfield 218, 3) := by decide +kernel
theorem dX11_spread_15 : decode cX11_spread 15 = .ok (.if_icmp .ge 66, 3) := by decide +kernel
theorem dX11_spread_18 : decode cX11_spread 18 = .ok (.aload_n 0, 1) := by decide +kernel
theorem dX11_spread_19 : decode cX11_spread 19 = .ok (.getfield 81, 3) := by decide +kernel
theorem dX11_spread_22 : decode cX11_spread 22 = .ok (.iload 4, 2) := by decide +kernel
theorem dX11_spread_24 : decode cX11_spread 24 = .ok (.iaload, 1) := by decide +kernel
theorem dX11_spread_25 : decode cX11_spread 25 = .ok (.ldc 186, 2) := by decide +kernel
theorem dX11_spread_27 : decode cX11_spread 27 = .ok (.if_icmp .eq 48, 3) := by decide +kernel
theorem dX11_spread_30 : decode cX11_spread 30 = .ok (.aload_n 0, 1) := by decide +kernel
theorem dX11_spread_31 : decode cX11_spread 31 = .ok (.iload 4, 2) := by decide +kernel
theorem dX11_spread_33 : decode cX11_spread 33 = .ok (.invokevirtual 226, 3) := by decide +kernel
theorem dX11_spread_36 : decode cX11_spread 36 = .ok (.istore 5, 2) := by decide +kernel
theorem dX11_spread_38 : decode cX11_spread 38 = .ok (.iload_n 3, 1) := by decide +kernel
theorem dX11_spread_39 : decode cX11_spread 39 = .ok (.ifCond .eq 9, 3) := by decide +kernel
theorem dX11_spread_42 : decode cX11_spread 42 = .ok (.iload 5, 2) := by decide +kernel
theorem dX11_spread_44 : decode cX11_spread 44 = .ok (.iload_n 1, 1) := by decide +kernel
theorem dX11_spread_45 : decode cX11_spread 45 = .ok (.if_icmp .ge 8, 3) := by decide +kernel
theorem dX11_spread_48 : decode cX11_spread 48 = .ok (.iload 5, 2) := by decide +kernel
theorem dX11_spread_50 : decode cX11_spread 50 = .ok (.goto 4, 3) := by decide +kernel
theorem dX11_spread_53 : decode cX11_spread 53 = .ok (.iload_n 1, 1) := by decide +kernel
theorem dX11_spread_54 : decode cX11_spread 54 = .ok (.istore_n 1, 1) := by decide +kernel
theorem dX11_spread_55 : decode cX11_spread 55 = .ok (.iload_n 3, 1) := by decide +kernel
theorem dX11_spread_56 : decode cX11_spread 56 = .ok (.ifCond .eq 9, 3) := by decide +kernel
theorem dX11_spread_59 : decode cX11_spread 59 = .ok (.iload 5, 2) := by decide +kernel
theorem dX11_spread_61 : decode cX11_spread 61 = .ok (.iload_n 2, 1) := by decide +kernel
theorem dX11_spread_62 : decode cX11_spread 62 = .ok (.if_icmp .le 8, 3) := by decide +kernel
theorem dX11_spread_65 : decode cX11_spread 65 = .ok (.iload 5, 2) := by decide +kernel
theorem dX11_spread_67 : decode cX11_spread 67 = .ok (.goto 4, 3) := by decide +kernel
theorem dX11_spread_70 : decode cX11_spread 70 = .ok (.iload_n 2, 1) := by decide +kernel
theorem dX11_spread_71 : decode cX11_spread 71 = .ok (.istore_n 2, 1) := by decide +kernel
theorem dX11_spread_72 : decode cX11_spread 72 = .ok (.iinc 3 1, 3) := by decide +kernel
theorem dX11_spread_75 : decode cX11_spread 75 = .ok (.iinc 4 1, 3) := by decide +kernel
theorem dX11_spread_78 : decode cX11_spread 78 = .ok (.goto (-69), 3) := by decide +kernel
theorem dX11_spread_81 : decode cX11_spread 81 = .ok (.iload_n 2, 1) := by decide +kernel
theorem dX11_spread_82 : decode cX11_spread 82 = .ok (.iload_n 1, 1) := by decide +kernel
theorem dX11_spread_83 : decode cX11_spread 83 = .ok (.isub, 1) := by decide +kernel
theorem dX11_spread_84 : decode cX11_spread 84 = .ok (.ireturn, 1) := by decide +kernel
theorem dX11_mass_0 : decode cX11_mass 0 = .ok (.iconst 0, 1) := by decide +kernel
theorem dX11_mass_1 : decode cX11_mass 1 = .ok (.istore_n 1, 1) := by decide +kernel
theorem dX11_mass_2 : decode cX11_mass 2 = .ok (.iconst 0, 1) := by decide +kernel
theorem dX11_mass_3 : decode cX11_mass 3 = .ok (.istore_n 2, 1) := by decide +kernel
theorem dX11_mass_4 : decode cX11_mass 4 = .ok (.iload_n 2, 1) := by decide +kernel
theorem dX11_mass_5 : decode cX11_mass 5 = .ok (.aload_n 0, 1) := by decide +kernel
theorem dX11_mass_6 : decode cX11_mass 6 = .ok (.getfield 218, 3) := by decide +kernel
theorem dX11_mass_9 : decode cX11_mass 9 = .ok (.if_icmp .ge 32, 3) := by decide +kernel
theorem dX11_mass_12 : decode cX11_mass 12 = .ok (.iload_n 1, 1) := by decide +kernel
theorem dX11_mass_13 : decode cX11_mass 13 = .ok (.aload_n 0, 1) := by decide +kernel
theorem dX11_mass_14 : decode cX11_mass 14 = .ok (.getfield 75, 3) := by decide +kernel
theorem dX11_mass_17 : decode cX11_mass 17 = .ok (.iload_n 2, 1) := by decide +kernel
theorem dX11_mass_18 : decode cX11_mass 18 = .ok (.iaload, 1) := by decide +kernel
theorem dX11_mass_19 : decode cX11_mass 19 = .ok (.aload_n 0, 1) := by decide +kernel
theorem dX11_mass_20 : decode cX11_mass 20 = .ok (.getfield 78, 3) := by decide +kernel
theorem dX11_mass_23 : decode cX11_mass 23 = .ok (.iload_n 2, 1) := by decide +kernel
theorem dX11_mass_24 : decode cX11_mass 24 = .ok (.iaload, 1) := by decide +kernel
theorem dX11_mass_25 : decode cX11_mass 25 = .ok (.imul, 1) := by decide +kernel
theorem dX11_mass_26 : decode cX11_mass 26 = .ok (.aload_n 0, 1) := by decide +kernel
theorem dX11_mass_27 : decode cX11_mass 27 = .ok (.getfield 78, 3) := by decide +kernel
theorem dX11_mass_30 : decode cX11_mass 30 = .ok (.iload_n 2, 1) := by decide +kernel
theorem dX11_mass_31 : decode cX11_mass 31 = .ok (.iaload, 1) := by decide +kernel
theorem dX11_mass_32 : decode cX11_mass 32 = .ok (.imul, 1) := by decide +kernel
theorem dX11_mass_33 : decode cX11_mass 33 = .ok (.iadd, 1) := by decide +kernel
theorem dX11_mass_34 : decode cX11_mass 34 = .ok (.istore_n 1, 1) := by decide +kernel
theorem dX11_mass_35 : decode cX11_mass 35 = .ok (.iinc 2 1, 3) := by decide +kernel
theorem dX11_mass_38 : decode cX11_mass 38 = .ok (.goto (-34), 3) := by decide +kernel
theorem dX11_mass_41 : decode cX11_mass 41 = .ok (.iload_n 1, 1) := by decide +kernel
theorem dX11_mass_42 : decode cX11_mass 42 = .ok (.ireturn, 1) := by decide +kernel
theorem dX11_end_0 : decode cX11_end 0 = .ok (.aload_n 0, 1) := by decide +kernel
theorem dX11_end_1 : decode cX11_end 1 = .ok (.iconst 0, 1) := by decide +kernel
theorem dX11_end_2 : decode cX11_end 2 = .ok (.putfield 124, 3) := by decide +kernel
theorem dX11_end_5 : decode cX11_end 5 = .ok (.iload_n 1, 1) := by decide +kernel
theorem dX11_end_6 : decode cX11_end 6 = .ok (.i2l, 1) := by decide +kernel
theorem dX11_end_7 : decode cX11_end 7 = .ok (.lconst 0, 1) := by decide +kernel
theorem dX11_end_8 : decode cX11_end 8 = .ok (.aload_n 0, 1) := by decide +kernel
theorem dX11_end_9 : decode cX11_end 9 = .ok (.getfield 218, 3) := by decide +kernel
theorem dX11_end_12 : decode cX11_end 12 = .ok (.iconst 1, 1) := by decide +kernel
theorem dX11_end_13 : decode cX11_end 13 = .ok (.isub, 1) := by decide +kernel
theorem dX11_end_14 : decode cX11_end 14 = .ok (.i2l, 1) := by decide +kernel
theorem dX11_end_15 : decode cX11_end 15 = .ok (.invokestatic 134, 3) := by decide +kernel
theorem dX11_end_18 : decode cX11_end 18 = .ok (.ifCond .ne 6, 3) := by decide +kernel
theorem dX11_end_21 : decode cX11_end 21 = .ok (.ldc 144, 2) := by decide +kernel
theorem dX11_end_23 : decode cX11_end 23 = .ok (.ireturn, 1) := by decide +kernel
theorem dX11_end_24 : decode cX11_end 24 = .ok (.aload_n 0, 1) := by decide +kernel
theorem dX11_end_25 : decode cX11_end 25 = .ok (.invokevirtual 229, 3) := by decide +kernel
theorem dX11_end_28 : decode cX11_end 28 = .ok (.aload_n 0, 1) := by decide +kernel
theorem dX11_end_29 : decode cX11_end 29 = .ok (.getfield 81, 3) := by decide +kernel
theorem dX11_end_32 : decode cX11_end 32 = .ok (.iload_n 1, 1) := by decide +kernel
theorem dX11_end_33 : decode cX11_end 33 = .ok (.iaload, 1) := by decide +kernel
theorem dX11_end_34 : decode cX11_end 34 = .ok (.ldc 186, 2) := by decide +kernel
theorem dX11_end_36 : decode cX11_end 36 = .ok (.if_icmp .ne 8, 3) := by decide +kernel
theorem dX11_end_39 : decode cX11_end 39 = .ok (.ldc 186, 2) := by decide +kernel
theorem dX11_end_41 : decode cX11_end 41 = .ok (.goto 8, 3) := by decide +kernel
theorem dX11_end_44 : decode cX11_end 44 = .ok (.aload_n 0, 1) := by decide +kernel
theorem dX11_end_45 : decode cX11_end 45 = .ok (.iload_n 1, 1) := by decide +kernel
theorem dX11_end_46 : decode cX11_end 46 = .ok (.invokevirtual 226, 3) := by decide +kernel
theorem dX11_end_49 : decode cX11_end 49 = .ok (.ireturn, 1) := by decide +kernel
theorem dX11_runners_0 : decode cX11_runners 0 = .ok (.aload_n 0, 1) := by decide +kernel
theorem dX11_runners_1 : decode cX11_runners 1 = .ok (.iconst 0, 1) := by decide +kernel
theorem dX11_runners_2 : decode cX11_runners 2 = .ok (.putfield 124, 3) := by decide +kernel
theorem dX11_runners_5 : decode cX11_runners 5 = .ok (.iload_n 1, 1) := by decide +kernel
theorem dX11_runners_6 : decode cX11_runners 6 = .ok (.i2l, 1) := by decide +kernel
theorem dX11_runners_7 : decode cX11_runners 7 = .ok (.lconst 0, 1) := by decide +kernel
theorem dX11_runners_8 : decode cX11_runners 8 = .ok (.ldc2_w 142, 3) := by decide +kernel
theorem dX11_runners_11 : decode cX11_runners 11 = .ok (.invokestatic 134, 3) := by decide +kernel
theorem dX11_runners_14 : decode cX11_runners 14 = .ok (.ifCond .ne 6, 3) := by decide +kernel
theorem dX11_runners_17 : decode cX11_runners 17 = .ok (.ldc 144, 2) := by decide +kernel
theorem dX11_runners_19 : decode cX11_runners 19 = .ok (.ireturn, 1) := by decide +kernel
theorem dX11_runners_20 : decode cX11_runners 20 = .ok (.aload_n 0, 1) := by decide +kernel
theorem dX11_runners_21 : decode cX11_runners 21 = .ok (.invokevirtual 229, 3) := by decide +kernel
theorem dX11_runners_24 : decode cX11_runners 24 = .ok (.iload_n 1, 1) := by decide +kernel
theorem dX11_runners_25 : decode cX11_runners 25 = .ok (.ifCond .ne 10, 3) := by decide +kernel
theorem dX11_runners_28 : decode cX11_runners 28 = .ok (.aload_n 0, 1) := by decide +kernel
theorem dX11_runners_29 : decode cX11_runners 29 = .ok (.invokevirtual 232, 3) := by decide +kernel
theorem dX11_runners_32 : decode cX11_runners 32 = .ok (.goto 19, 3) := by decide +kernel
theorem dX11_runners_35 : decode cX11_runners 35 = .ok (.iload_n 1, 1) := by decide +kernel
theorem dX11_runners_36 : decode cX11_runners 36 = .ok (.iconst 1, 1) := by decide +kernel
theorem dX11_runners_37 : decode cX11_runners 37 = .ok (.if_icmp .ne 10, 3) := by decide +kernel
theorem dX11_runners_40 : decode cX11_runners 40 = .ok (.aload_n 0, 1) := by decide +kernel
theorem dX11_runners_41 : decode cX11_runners 41 = .ok (.invokevirtual 235, 3) := by decide +kernel
theorem dX11_runners_44 : decode cX11_runners 44 = .ok (.goto 7, 3) := by decide +kernel
theorem dX11_runners_47 : decode cX11_runners 47 = .ok (.aload_n 0, 1) := by decide +kernel
theorem dX11_runners_48 : decode cX11_runners 48 = .ok (.invokevirtual 223, 3) := by decide +kernel
theorem dX11_runners_51 : decode cX11_runners 51 = .ok (.ireturn, 1) := by decide +kernel
theorem dX11_balance_0 : decode cX11_balance 0 = .ok (.aload_n 0, 1) := by decide +kernel
theorem dX11_balance_1 : decode cX11_balance 1 = .ok (.iconst 0, 1) := by decide +kernel
theorem dX11_balance_2 : decode cX11_balance 2 = .ok (.putfield 124, 3) := by decide +kernel
theorem dX11_balance_5 : decode cX11_balance 5 = .ok (.iconst 0, 1) := by decide +kernel
theorem dX11_balance_6 : decode cX11_balance 6 = .ok (.istore_n 2, 1) := by decide +kernel
theorem dX11_balance_7 : decode cX11_balance 7 = .ok (.iconst 1, 1) := by decide +kernel
theorem dX11_balance_8 : decode cX11_balance 8 = .ok (.istore_n 3, 1) := by decide +kernel
theorem dX11_balance_9 : decode cX11_balance 9 = .ok (.iload_n 3, 1) := by decide +kernel
theorem dX11_balance_10 : decode cX11_balance 10 = .ok (.bipush 10, 2) := by decide +kernel
theorem dX11_balance_12 : decode cX11_balance 12 = .ok (.if_icmp .ge 33, 3) := by decide +kernel
theorem dX11_balance_15 : decode cX11_balance 15 = .ok (.iload_n 1, 1) := by decide +kernel
theorem dX11_balance_16 : decode cX11_balance 16 = .ok (.iload_n 3, 1) := by decide +kernel
theorem dX11_balance_17 : decode cX11_balance 17 = .ok (.ishr, 1) := by decide +kernel
theorem dX11_balance_18 : decode cX11_balance 18 = .ok (.iconst 1, 1) := by decide +kernel
theorem dX11_balance_19 : decode cX11_balance 19 = .ok (.iand, 1) := by decide +kernel
theorem dX11_balance_20 : decode cX11_balance 20 = .ok (.iconst 1, 1) := by decide +kernel
theorem dX11_balance_21 : decode cX11_balance 21 = .ok (.if_icmp .ne 18, 3) := by decide +kernel
theorem dX11_balance_24 : decode cX11_balance 24 = .ok (.iload_n 2, 1) := by decide +kernel
theorem dX11_balance_25 : decode cX11_balance 25 = .ok (.iconst 3, 1) := by decide +kernel
theorem dX11_balance_26 : decode cX11_balance 26 = .ok (.if_icmp .ge 10, 3) := by decide +kernel
theorem dX11_balance_29 : decode cX11_balance 29 = .ok (.aload_n 0, 1) := by decide +kernel
theorem dX11_balance_30 : decode cX11_balance 30 = .ok (.getfield 87, 3) := by decide +kernel
theorem dX11_balance_33 : decode cX11_balance 33 = .ok (.iload_n 2, 1) := by decide +kernel
theorem dX11_balance_34 : decode cX11_balance 34 = .ok (.iload_n 3, 1) := by decide +kernel
theorem dX11_balance_35 : decode cX11_balance 35 = .ok (.iastore, 1) := by decide +kernel
theorem dX11_balance_36 : decode cX11_balance 36 = .ok (.iinc 2 1, 3) := by decide +kernel
theorem dX11_balance_39 : decode cX11_balance 39 = .ok (.iinc 3 1, 3) := by decide +kernel
theorem dX11_balance_42 : decode cX11_balance 42 = .ok (.goto (-33), 3) := by decide +kernel
theorem dX11_balance_45 : decode cX11_balance 45 = .ok (.iload_n 2, 1) := by decide +kernel
theorem dX11_balance_46 : decode cX11_balance 46 = .ok (.iconst 1, 1) := by decide +kernel
theorem dX11_balance_47 : decode cX11_balance 47 = .ok (.if_icmp .lt 16, 3) := by decide +kernel
theorem dX11_balance_50 : decode cX11_balance 50 = .ok (.iload_n 2, 1) := by decide +kernel
theorem dX11_balance_51 : decode cX11_balance 51 = .ok (.iconst 3, 1) := by decide +kernel
theorem dX11_balance_52 : decode cX11_balance 52 = .ok (.if_icmp .gt 11, 3) := by decide +kernel
theorem dX11_balance_55 : decode cX11_balance 55 = .ok (.iload_n 1, 1) := by decide +kernel
theorem dX11_balance_56 : decode cX11_balance 56 = .ok (.sipush (-1023), 3) := by decide +kernel
theorem dX11_balance_59 : decode cX11_balance 59 = .ok (.iand, 1) := by decide +kernel
theorem dX11_balance_60 : decode cX11_balance 60 = .ok (.ifCond .eq 6, 3) := by decide +kernel
theorem dX11_balance_63 : decode cX11_balance 63 = .ok (.ldc 144, 2) := by decide +kernel
theorem dX11_balance_65 : decode cX11_balance 65 = .ok (.ireturn, 1) := by decide +kernel
theorem dX11_balance_66 : decode cX11_balance 66 = .ok (.aload_n 0, 1) := by decide +kernel
theorem dX11_balance_67 : decode cX11_balance 67 = .ok (.invokevirtual 229, 3) := by decide +kernel
theorem dX11_balance_70 : decode cX11_balance 70 = .ok (.iconst 1, 1) := by decide +kernel
theorem dX11_balance_71 : decode cX11_balance 71 = .ok (.istore_n 3, 1) := by decide +kernel
theorem dX11_balance_72 : decode cX11_balance 72 = .ok (.iconst 0, 1) := by decide +kernel
theorem dX11_balance_73 : decode cX11_balance 73 = .ok (.istore 4, 2) := by decide +kernel
theorem dX11_balance_75 : decode cX11_balance 75 = .ok (.iload 4, 2) := by decide +kernel
theorem dX11_balance_77 : decode cX11_balance 77 = .ok (.aload_n 0, 1) := by decide +kernel
theorem dX11_balance_78 : decode cX11_balance 78 = .ok (.getfield 218, 3) := by decide +kernel
theorem dX11_balance_81 : decode cX11_balance 81 = .ok (.if_icmp .ge 13, 3) := by decide +kernel
theorem dX11_balance_84 : decode cX11_balance 84 = .ok (.iload_n 3, 1) := by decide +kernel
theorem dX11_balance_85 : decode cX11_balance 85 = .ok (.iload_n 2, 1) := by decide +kernel
theorem dX11_balance_86 : decode cX11_balance 86 = .ok (.imul, 1) := by decide +kernel
theorem dX11_balance_87 : decode cX11_balance 87 = .ok (.istore_n 3, 1) := by decide +kernel
theorem dX11_balance_88 : decode cX11_balance 88 = .ok (.iinc 4 1, 3) := by decide +kernel
theorem dX11_balance_91 : decode cX11_balance 91 = .ok (.goto (-16), 3) := by decide +kernel
theorem dX11_balance_94 : decode cX11_balance 94 = .ok (.ldc 186, 2) := by decide +kernel
theorem dX11_balance_96 : decode cX11_balance 96 = .ok (.istore 4, 2) := by decide +kernel
theorem dX11_balance_98 : decode cX11_balance 98 = .ok (.iconst 0, 1) := by decide +kernel
theorem dX11_balance_99 : decode cX11_balance 99 = .ok (.istore 5, 2) := by decide +kernel
theorem dX11_balance_101 : decode cX11_balance 101 = .ok (.iconst 0, 1) := by decide +kernel
theorem dX11_balance_102 : decode cX11_balance 102 = .ok (.istore 6, 2) := by decide +kernel
theorem dX11_balance_104 : decode cX11_balance 104 = .ok (.iconst 0, 1) := by decide +kernel
theorem dX11_balance_105 : decode cX11_balance 105 = .ok (.istore 7, 2) := by decide +kernel
theorem dX11_balance_107 : decode cX11_balance 107 = .ok (.iload 7, 2) := by decide +kernel
theorem dX11_balance_109 : decode cX11_balance 109 = .ok (.iload_n 3, 1) := by decide +kernel
theorem dX11_balance_110 : decode cX11_balance 110 = .ok (.if_icmp .ge 68, 3) := by decide +kernel
theorem dX11_balance_113 : decode cX11_balance 113 = .ok (.aload_n 0, 1) := by decide +kernel
theorem dX11_balance_114 : decode cX11_balance 114 = .ok (.iload 7, 2) := by decide +kernel
theorem dX11_balance_116 : decode cX11_balance 116 = .ok (.iload_n 2, 1) := by decide +kernel
theorem dX11_balance_117 : decode cX11_balance 117 = .ok (.invokevirtual 238, 3) := by decide +kernel
theorem dX11_balance_120 : decode cX11_balance 120 = .ok (.aload_n 0, 1) := by decide +kernel
theorem dX11_balance_121 : decode cX11_balance 121 = .ok (.invokevirtual 232, 3) := by decide +kernel
theorem dX11_balance_124 : decode cX11_balance 124 = .ok (.istore 8, 2) := by decide +kernel
theorem dX11_balance_126 : decode cX11_balance 126 = .ok (.aload_n 0, 1) := by decide +kernel
theorem dX11_balance_127 : decode cX11_balance 127 = .ok (.invokevirtual 235, 3) := by decide +kernel
theorem dX11_balance_130 : decode cX11_balance 130 = .ok (.istore 9, 2) := by decide +kernel
theorem dX11_balance_132 : decode cX11_balance 132 = .ok (.iload 4, 2) := by decide +kernel
theorem dX11_balance_134 : decode cX11_balance 134 = .ok (.ldc 186, 2) := by decide +kernel
theorem dX11_balance_136 : decode cX11_balance 136 = .ok (.if_icmp .eq 24, 3) := by decide +kernel
theorem dX11_balance_139 : decode cX11_balance 139 = .ok (.iload 8, 2) := by decide +kernel
theorem dX11_balance_141 : decode cX11_balance 141 = .ok (.iload 5, 2) := by decide +kernel
theorem dX11_balance_143 : decode cX11_balance 143 = .ok (.if_icmp .lt 17, 3) := by decide +kernel
theorem dX11_balance_146 : decode cX11_balance 146 = .ok (.iload 8, 2) := by decide +kernel
theorem dX11_balance_148 : decode cX11_balance 148 = .ok (.iload 5, 2) := by decide +kernel
theorem dX11_balance_150 : decode cX11_balance 150 = .ok (.if_icmp .ne 22, 3) := by decide +kernel
theorem dX11_balance_153 : decode cX11_balance 153 = .ok (.iload 9, 2) := by decide +kernel
theorem dX11_balance_155 : decode cX11_balance 155 = .ok (.iload 6, 2) := by decide +kernel
theorem dX11_balance_157 : decode cX11_balance 157 = .ok (.if_icmp .ge 15, 3) := by decide +kernel
theorem dX11_balance_160 : decode cX11_balance 160 = .ok (.iload 7, 2) := by decide +kernel
theorem dX11_balance_162 : decode cX11_balance 162 = .ok (.istore 4, 2) := by decide +kernel
theorem dX11_balance_164 : decode cX11_balance 164 = .ok (.iload 8, 2) := by decide +kernel
theorem dX11_balance_166 : decode cX11_balance 166 = .ok (.istore 5, 2) := by decide +kernel
theorem dX11_balance_168 : decode cX11_balance 168 = .ok (.iload 9, 2) := by decide +kernel
theorem dX11_balance_170 : decode cX11_balance 170 = .ok (.istore 6, 2) := by decide +kernel
theorem dX11_balance_172 : decode cX11_balance 172 = .ok (.iinc 7 1, 3) := by decide +kernel
theorem dX11_balance_175 : decode cX11_balance 175 = .ok (.goto (-68), 3) := by decide +kernel
theorem dX11_balance_178 : decode cX11_balance 178 = .ok (.aload_n 0, 1) := by decide +kernel
theorem dX11_balance_179 : decode cX11_balance 179 = .ok (.iload 4, 2) := by decide +kernel
theorem dX11_balance_181 : decode cX11_balance 181 = .ok (.iload_n 2, 1) := by decide +kernel
theorem dX11_balance_182 : decode cX11_balance 182 = .ok (.invokevirtual 238, 3) := by decide +kernel
theorem dX11_balance_185 : decode cX11_balance 185 = .ok (.aload_n 0, 1) := by decide +kernel
theorem dX11_balance_186 : decode cX11_balance 186 = .ok (.invokevirtual 232, 3) := by decide +kernel
theorem dX11_balance_189 : decode cX11_balance 189 = .ok (.ireturn, 1) := by decide +kernel
theorem dX11_lay_0 : decode cX11_lay 0 = .ok (.iload_n 1, 1) := by decide +kernel
theorem dX11_lay_1 : decode cX11_lay 1 = .ok (.istore_n 3, 1) := by decide +kernel
theorem dX11_lay_2 : decode cX11_lay 2 = .ok (.aload_n 0, 1) := by decide +kernel
theorem dX11_lay_3 : decode cX11_lay 3 = .ok (.getfield 218, 3) := by decide +kernel
theorem dX11_lay_6 : decode cX11_lay 6 = .ok (.iconst 1, 1) := by decide +kernel
theorem dX11_lay_7 : decode cX11_lay 7 = .ok (.isub, 1) := by decide +kernel
theorem dX11_lay_8 : decode cX11_lay 8 = .ok (.istore 4, 2) := by decide +kernel
theorem dX11_lay_10 : decode cX11_lay 10 = .ok (.iload 4, 2) := by decide +kernel
theorem dX11_lay_12 : decode cX11_lay 12 = .ok (.ifCond .lt 28, 3) := by decide +kernel
theorem dX11_lay_15 : decode cX11_lay 15 = .ok (.aload_n 0, 1) := by decide +kernel
theorem dX11_lay_16 : decode cX11_lay 16 = .ok (.getfield 78, 3) := by decide +kernel
theorem dX11_lay_19 : decode cX11_lay 19 = .ok (.iload 4, 2) := by decide +kernel
theorem dX11_lay_21 : decode cX11_lay 21 = .ok (.aload_n 0, 1) := by decide +kernel
theorem dX11_lay_22 : decode cX11_lay 22 = .ok (.getfield 87, 3) := by decide +kernel
theorem dX11_lay_25 : decode cX11_lay 25 = .ok (.iload_n 3, 1) := by decide +kernel
theorem dX11_lay_26 : decode cX11_lay 26 = .ok (.iload_n 2, 1) := by decide +kernel
theorem dX11_lay_27 : decode cX11_lay 27 = .ok (.irem, 1) := by decide +kernel
theorem dX11_lay_28 : decode cX11_lay 28 = .ok (.iaload, 1) := by decide +kernel
theorem dX11_lay_29 : decode cX11_lay 29 = .ok (.iastore, 1) := by decide +kernel
theorem dX11_lay_30 : decode cX11_lay 30 = .ok (.iload_n 3, 1) := by decide +kernel
theorem dX11_lay_31 : decode cX11_lay 31 = .ok (.iload_n 2, 1) := by decide +kernel
theorem dX11_lay_32 : decode cX11_lay 32 = .ok (.idiv, 1) := by decide +kernel
theorem dX11_lay_33 : decode cX11_lay 33 = .ok (.istore_n 3, 1) := by decide +kernel
theorem dX11_lay_34 : decode cX11_lay 34 = .ok (.iinc 4 (-1), 3) := by decide +kernel
theorem dX11_lay_37 : decode cX11_lay 37 = .ok (.goto (-27), 3) := by decide +kernel
theorem dX11_lay_40 : decode cX11_lay 40 = .ok (.return_, 1) := by decide +kernel
theorem dX11_size_0 : decode cX11_size 0 = .ok (.aload_n 0, 1) := by decide +kernel
theorem dX11_size_1 : decode cX11_size 1 = .ok (.iconst 0, 1) := by decide +kernel
theorem dX11_size_2 : decode cX11_size 2 = .ok (.putfield 124, 3) := by decide +kernel
theorem dX11_size_5 : decode cX11_size 5 = .ok (.iload_n 1, 1) := by decide +kernel
theorem dX11_size_6 : decode cX11_size 6 = .ok (.i2l, 1) := by decide +kernel
theorem dX11_size_7 : decode cX11_size 7 = .ok (.lconst 0, 1) := by decide +kernel
theorem dX11_size_8 : decode cX11_size 8 = .ok (.aload_n 0, 1) := by decide +kernel
theorem dX11_size_9 : decode cX11_size 9 = .ok (.getfield 218, 3) := by decide +kernel
theorem dX11_size_12 : decode cX11_size 12 = .ok (.iconst 1, 1) := by decide +kernel
theorem dX11_size_13 : decode cX11_size 13 = .ok (.isub, 1) := by decide +kernel
theorem dX11_size_14 : decode cX11_size 14 = .ok (.i2l, 1) := by decide +kernel
theorem dX11_size_15 : decode cX11_size 15 = .ok (.invokestatic 134, 3) := by decide +kernel
theorem dX11_size_18 : decode cX11_size 18 = .ok (.ifCond .eq 12, 3) := by decide +kernel
theorem dX11_size_21 : decode cX11_size 21 = .ok (.aload_n 0, 1) := by decide +kernel
theorem dX11_size_22 : decode cX11_size 22 = .ok (.getfield 78, 3) := by decide +kernel
theorem dX11_size_25 : decode cX11_size 25 = .ok (.iload_n 1, 1) := by decide +kernel
theorem dX11_size_26 : decode cX11_size 26 = .ok (.iaload, 1) := by decide +kernel
theorem dX11_size_27 : decode cX11_size 27 = .ok (.goto 5, 3) := by decide +kernel
theorem dX11_size_30 : decode cX11_size 30 = .ok (.ldc 144, 2) := by decide +kernel
theorem dX11_size_32 : decode cX11_size 32 = .ok (.ireturn, 1) := by decide +kernel
theorem dX11_beat_0 : decode cX11_beat 0 = .ok (.aload_n 0, 1) := by decide +kernel
theorem dX11_beat_1 : decode cX11_beat 1 = .ok (.iconst 0, 1) := by decide +kernel
theorem dX11_beat_2 : decode cX11_beat 2 = .ok (.putfield 124, 3) := by decide +kernel
theorem dX11_beat_5 : decode cX11_beat 5 = .ok (.iload_n 1, 1) := by decide +kernel
theorem dX11_beat_6 : decode cX11_beat 6 = .ok (.invokestatic 153, 3) := by decide +kernel
theorem dX11_beat_9 : decode cX11_beat 9 = .ok (.ifCond .eq 40, 3) := by decide +kernel
theorem dX11_beat_12 : decode cX11_beat 12 = .ok (.iload_n 2, 1) := by decide +kernel
theorem dX11_beat_13 : decode cX11_beat 13 = .ok (.i2l, 1) := by decide +kernel
theorem dX11_beat_14 : decode cX11_beat 14 = .ok (.lconst 1, 1) := by decide +kernel
theorem dX11_beat_15 : decode cX11_beat 15 = .ok (.ldc2_w 241, 3) := by decide +kernel
theorem dX11_beat_18 : decode cX11_beat 18 = .ok (.invokestatic 134, 3) := by decide +kernel
theorem dX11_beat_21 : decode cX11_beat 21 = .ok (.ifCond .eq 28, 3) := by decide +kernel
theorem dX11_beat_24 : decode cX11_beat 24 = .ok (.iload_n 3, 1) := by decide +kernel
theorem dX11_beat_25 : decode cX11_beat 25 = .ok (.i2l, 1) := by decide +kernel
theorem dX11_beat_26 : decode cX11_beat 26 = .ok (.lconst 1, 1) := by decide +kernel
theorem dX11_beat_27 : decode cX11_beat 27 = .ok (.ldc2_w 243, 3) := by decide +kernel
theorem dX11_beat_30 : decode cX11_beat 30 = .ok (.invokestatic 134, 3) := by decide +kernel
theorem dX11_beat_33 : decode cX11_beat 33 = .ok (.ifCond .eq 16, 3) := by decide +kernel
theorem dX11_beat_36 : decode cX11_beat 36 = .ok (.iload 4, 2) := by decide +kernel
theorem dX11_beat_38 : decode cX11_beat 38 = .ok (.i2l, 1) := by decide +kernel
theorem dX11_beat_39 : decode cX11_beat 39 = .ok (.lconst 0, 1) := by decide +kernel
theorem dX11_beat_40 : decode cX11_beat 40 = .ok (.ldc2_w 165, 3) := by decide +kernel
theorem dX11_beat_43 : decode cX11_beat 43 = .ok (.invokestatic 134, 3) := by decide +kernel
theorem dX11_beat_46 : decode cX11_beat 46 = .ok (.ifCond .ne 6, 3) := by decide +kernel
theorem dX11_beat_49 : decode cX11_beat 49 = .ok (.ldc 144, 2) := by decide +kernel
theorem dX11_beat_51 : decode cX11_beat 51 = .ok (.ireturn, 1) := by decide +kernel
theorem dX11_beat_52 : decode cX11_beat 52 = .ok (.aload_n 0, 1) := by decide +kernel
theorem dX11_beat_53 : decode cX11_beat 53 = .ok (.iload_n 1, 1) := by decide +kernel
theorem dX11_beat_54 : decode cX11_beat 54 = .ok (.iconst 4, 1) := by decide +kernel
theorem dX11_beat_55 : decode cX11_beat 55 = .ok (.invokevirtual 187, 3) := by decide +kernel
theorem dX11_beat_58 : decode cX11_beat 58 = .ok (.istore 5, 2) := by decide +kernel
theorem dX11_beat_60 : decode cX11_beat 60 = .ok (.iload 5, 2) := by decide +kernel
theorem dX11_beat_62 : decode cX11_beat 62 = .ok (.ifCond .le 10, 3) := by decide +kernel
theorem dX11_beat_65 : decode cX11_beat 65 = .ok (.aload_n 0, 1) := by decide +kernel
theorem dX11_beat_66 : decode cX11_beat 66 = .ok (.iload 5, 2) := by decide +kernel
theorem dX11_beat_68 : decode cX11_beat 68 = .ok (.invokevirtual 145, 3) := by decide +kernel
theorem dX11_beat_71 : decode cX11_beat 71 = .ok (.ireturn, 1) := by decide +kernel
theorem dX11_beat_72 : decode cX11_beat 72 = .ok (.aload_n 0, 1) := by decide +kernel
theorem dX11_beat_73 : decode cX11_beat 73 = .ok (.iconst 0, 1) := by decide +kernel
theorem dX11_beat_74 : decode cX11_beat 74 = .ok (.putfield 128, 3) := by decide +kernel
theorem dX11_beat_77 : decode cX11_beat 77 = .ok (.iconst 0, 1) := by decide +kernel
theorem dX11_beat_78 : decode cX11_beat 78 = .ok (.istore 6, 2) := by decide +kernel
theorem dX11_beat_80 : decode cX11_beat 80 = .ok (.iload 6, 2) := by decide +kernel
theorem dX11_beat_82 : decode cX11_beat 82 = .ok (.iload_n 2, 1) := by decide +kernel
theorem dX11_beat_83 : decode cX11_beat 83 = .ok (.if_icmp .ge 212, 3) := by decide +kernel
theorem dX11_beat_86 : decode cX11_beat 86 = .ok (.aload_n 0, 1) := by decide +kernel
theorem dX11_beat_87 : decode cX11_beat 87 = .ok (.iload_n 1, 1) := by decide +kernel
theorem dX11_beat_88 : decode cX11_beat 88 = .ok (.iload 4, 2) := by decide +kernel
theorem dX11_beat_90 : decode cX11_beat 90 = .ok (.invokevirtual 245, 3) := by decide +kernel
theorem dX11_beat_93 : decode cX11_beat 93 = .ok (.ifCond .eq 202, 3) := by decide +kernel
theorem dX11_beat_96 : decode cX11_beat 96 = .ok (.aload_n 0, 1) := by decide +kernel
theorem dX11_beat_97 : decode cX11_beat 97 = .ok (.getfield 23, 3) := by decide +kernel
theorem dX11_beat_100 : decode cX11_beat 100 = .ok (.iload_n 1, 1) := by decide +kernel
theorem dX11_beat_101 : decode cX11_beat 101 = .ok (.iaload, 1) := by decide +kernel
theorem dX11_beat_102 : decode cX11_beat 102 = .ok (.istore 7, 2) := by decide +kernel
theorem dX11_beat_104 : decode cX11_beat 104 = .ok (.aload_n 0, 1) := by decide +kernel
theorem dX11_beat_105 : decode cX11_beat 105 = .ok (.getfield 93, 3) := by decide +kernel
theorem dX11_beat_108 : decode cX11_beat 108 = .ok (.iconst 0, 1) := by decide +kernel
theorem dX11_beat_109 : decode cX11_beat 109 = .ok (.aload_n 0, 1) := by decide +kernel
theorem dX11_beat_110 : decode cX11_beat 110 = .ok (.getfield 45, 3) := by decide +kernel
theorem dX11_beat_113 : decode cX11_beat 113 = .ok (.iload_n 1, 1) := by decide +kernel
theorem dX11_beat_114 : decode cX11_beat 114 = .ok (.iaload, 1) := by decide +kernel
theorem dX11_beat_115 : decode cX11_beat 115 = .ok (.iastore, 1) := by decide +kernel
theorem dX11_beat_116 : decode cX11_beat 116 = .ok (.aload_n 0, 1) := by decide +kernel
theorem dX11_beat_117 : decode cX11_beat 117 = .ok (.getfield 93, 3) := by decide +kernel
theorem dX11_beat_120 : decode cX11_beat 120 = .ok (.iload 7, 2) := by decide +kernel
theorem dX11_beat_122 : decode cX11_beat 122 = .ok (.iconst 1, 1) := by decide +kernel
theorem dX11_beat_123 : decode cX11_beat 123 = .ok (.iadd, 1) := by decide +kernel
theorem dX11_beat_124 : decode cX11_beat 124 = .ok (.aload_n 0, 1) := by decide +kernel
theorem dX11_beat_125 : decode cX11_beat 125 = .ok (.getfield 45, 3) := by decide +kernel
theorem dX11_beat_128 : decode cX11_beat 128 = .ok (.iload_n 1, 1) := by decide +kernel
theorem dX11_beat_129 : decode cX11_beat 129 = .ok (.iaload, 1) := by decide +kernel
theorem dX11_beat_130 : decode cX11_beat 130 = .ok (.iastore, 1) := by decide +kernel
theorem dX11_beat_131 : decode cX11_beat 131 = .ok (.iconst 0, 1) := by decide +kernel
theorem dX11_beat_132 : decode cX11_beat 132 = .ok (.istore 8, 2) := by decide +kernel
theorem dX11_beat_134 : decode cX11_beat 134 = .ok (.iload 8, 2) := by decide +kernel
theorem dX11_beat_136 : decode cX11_beat 136 = .ok (.iload 7, 2) := by decide +kernel
theorem dX11_beat_138 : decode cX11_beat 138 = .ok (.if_icmp .ge 30, 3) := by decide +kernel
theorem dX11_beat_141 : decode cX11_beat 141 = .ok (.aload_n 0, 1) := by decide +kernel
theorem dX11_beat_142 : decode cX11_beat 142 = .ok (.getfield 93, 3) := by decide +kernel
theorem dX11_beat_145 : decode cX11_beat 145 = .ok (.iload 8, 2) := by decide +kernel
theorem dX11_beat_147 : decode cX11_beat 147 = .ok (.iconst 1, 1) := by decide +kernel
theorem dX11_beat_148 : decode cX11_beat 148 = .ok (.iadd, 1) := by decide +kernel
theorem dX11_beat_149 : decode cX11_beat 149 = .ok (.aload_n 0, 1) := by decide +kernel
theorem dX11_beat_150 : decode cX11_beat 150 = .ok (.getfield 42, 3) := by decide +kernel
theorem dX11_beat_153 : decode cX11_beat 153 = .ok (.bipush 20, 2) := by decide +kernel
theorem dX11_beat_155 : decode cX11_beat 155 = .ok (.iload_n 1, 1) := by decide +kernel
theorem dX11_beat_156 : decode cX11_beat 156 = .ok (.imul, 1) := by decide +kernel
theorem dX11_beat_157 : decode cX11_beat 157 = .ok (.iload 8, 2) := by decide +kernel
theorem dX11_beat_159 : decode cX11_beat 159 = .ok (.iadd, 1) := by decide +kernel
theorem dX11_beat_160 : decode cX11_beat 160 = .ok (.iaload, 1) := by decide +kernel
theorem dX11_beat_161 : decode cX11_beat 161 = .ok (.iastore, 1) := by decide +kernel
theorem dX11_beat_162 : decode cX11_beat 162 = .ok (.iinc 8 1, 3) := by decide +kernel
theorem dX11_beat_165 : decode cX11_beat 165 = .ok (.goto (-31), 3) := by decide +kernel
theorem dX11_beat_168 : decode cX11_beat 168 = .ok (.iconst 0, 1) := by decide +kernel
theorem dX11_beat_169 : decode cX11_beat 169 = .ok (.istore 8, 2) := by decide +kernel
theorem dX11_beat_171 : decode cX11_beat 171 = .ok (.iload 8, 2) := by decide +kernel
theorem dX11_beat_173 : decode cX11_beat 173 = .ok (.iload 7, 2) := by decide +kernel
theorem dX11_beat_175 : decode cX11_beat 175 = .ok (.if_icmp .gt 114, 3) := by decide +kernel
theorem dX11_beat_178 : decode cX11_beat 178 = .ok (.aload_n 0, 1) := by decide +kernel
theorem dX11_beat_179 : decode cX11_beat 179 = .ok (.getfield 93, 3) := by decide +kernel
theorem dX11_beat_182 : decode cX11_beat 182 = .ok (.iload 8, 2) := by decide +kernel
theorem dX11_beat_184 : decode cX11_beat 184 = .ok (.iaload, 1) := by decide +kernel
theorem dX11_beat_185 : decode cX11_beat 185 = .ok (.aload_n 0, 1) := by decide +kernel
theorem dX11_beat_186 : decode cX11_beat 186 = .ok (.getfield 93, 3) := by decide +kernel
theorem dX11_beat_189 : decode cX11_beat 189 = .ok (.iload 8, 2) := by decide +kernel
theorem dX11_beat_191 : decode cX11_beat 191 = .ok (.iconst 1, 1) := by decide +kernel
theorem dX11_beat_192 : decode cX11_beat 192 = .ok (.iadd, 1) := by decide +kernel
theorem dX11_beat_193 : decode cX11_beat 193 = .ok (.iaload, 1) := by decide +kernel
theorem dX11_beat_194 : decode cX11_beat 194 = .ok (.isub, 1) := by decide +kernel
theorem dX11_beat_195 : decode cX11_beat 195 = .ok (.iload_n 3, 1) := by decide +kernel
theorem dX11_beat_196 : decode cX11_beat 196 = .ok (.imul, 1) := by decide +kernel
theorem dX11_beat_197 : decode cX11_beat 197 = .ok (.bipush 16, 2) := by decide +kernel
theorem dX11_beat_199 : decode cX11_beat 199 = .ok (.idiv, 1) := by decide +kernel
theorem dX11_beat_200 : decode cX11_beat 200 = .ok (.istore 9, 2) := by decide +kernel
theorem dX11_beat_202 : decode cX11_beat 202 = .ok (.iload 8, 2) := by decide +kernel
theorem dX11_beat_204 : decode cX11_beat 204 = .ok (.ifCond .le 22, 3) := by decide +kernel
theorem dX11_beat_207 : decode cX11_beat 207 = .ok (.aload_n 0, 1) := by decide +kernel
theorem dX11_beat_208 : decode cX11_beat 208 = .ok (.getfield 42, 3) := by decide +kernel
theorem dX11_beat_211 : decode cX11_beat 211 = .ok (.bipush 20, 2) := by decide +kernel
theorem dX11_beat_213 : decode cX11_beat 213 = .ok (.iload_n 1, 1) := by decide +kernel
theorem dX11_beat_214 : decode cX11_beat 214 = .ok (.imul, 1) := by decide +kernel
theorem dX11_beat_215 : decode cX11_beat 215 = .ok (.iload 8, 2) := by decide +kernel
theorem dX11_beat_217 : decode cX11_beat 217 = .ok (.iadd, 1) := by decide +kernel
theorem dX11_beat_218 : decode cX11_beat 218 = .ok (.iconst 1, 1) := by decide +kernel
theorem dX11_beat_219 : decode cX11_beat 219 = .ok (.isub, 1) := by decide +kernel
theorem dX11_beat_220 : decode cX11_beat 220 = .ok (.dup2, 1) := by decide +kernel
theorem dX11_beat_221 : decode cX11_beat 221 = .ok (.iaload, 1) := by decide +kernel
theorem dX11_beat_222 : decode cX11_beat 222 = .ok (.iload 9, 2) := by decide +kernel
theorem dX11_beat_224 : decode cX11_beat 224 = .ok (.isub, 1) := by decide +kernel
theorem dX11_beat_225 : decode cX11_beat 225 = .ok (.iastore, 1) := by decide +kernel
theorem dX11_beat_226 : decode cX11_beat 226 = .ok (.iload 8, 2) := by decide +kernel
theorem dX11_beat_228 : decode cX11_beat 228 = .ok (.iload 7, 2) := by decide +kernel
theorem dX11_beat_230 : decode cX11_beat 230 = .ok (.if_icmp .ge 20, 3) := by decide +kernel
theorem dX11_beat_233 : decode cX11_beat 233 = .ok (.aload_n 0, 1) := by decide +kernel
theorem dX11_beat_234 : decode cX11_beat 234 = .ok (.getfield 42, 3) := by decide +kernel
theorem dX11_beat_237 : decode cX11_beat 237 = .ok (.bipush 20, 2) := by decide +kernel
theorem dX11_beat_239 : decode cX11_beat 239 = .ok (.iload_n 1, 1) := by decide +kernel
theorem dX11_beat_240 : decode cX11_beat 240 = .ok (.imul, 1) := by decide +kernel
theorem dX11_beat_241 : decode cX11_beat 241 = .ok (.iload 8, 2) := by decide +kernel
theorem dX11_beat_243 : decode cX11_beat 243 = .ok (.iadd, 1) := by decide +kernel
theorem dX11_beat_244 : decode cX11_beat 244 = .ok (.dup2, 1) := by decide +kernel
theorem dX11_beat_245 : decode cX11_beat 245 = .ok (.iaload, 1) := by decide +kernel
theorem dX11_beat_246 : decode cX11_beat 246 = .ok (.iload 9, 2) := by decide +kernel
theorem dX11_beat_248 : decode cX11_beat 248 = .ok (.iadd, 1) := by decide +kernel
theorem dX11_beat_249 : decode cX11_beat 249 = .ok (.iastore, 1) := by decide +kernel
theorem dX11_beat_250 : decode cX11_beat 250 = .ok (.aload_n 0, 1) := by decide +kernel
theorem dX11_beat_251 : decode cX11_beat 251 = .ok (.getfield 48, 3) := by decide +kernel
theorem dX11_beat_254 : decode cX11_beat 254 = .ok (.iload_n 1, 1) := by decide +kernel
theorem dX11_beat_255 : decode cX11_beat 255 = .ok (.dup2, 1) := by decide +kernel
theorem dX11_beat_256 : decode cX11_beat 256 = .ok (.iaload, 1) := by decide +kernel
theorem dX11_beat_257 : decode cX11_beat 257 = .ok (.iload 8, 2) := by decide +kernel
theorem dX11_beat_259 : decode cX11_beat 259 = .ok (.ifCond .ne 9, 3) := by decide +kernel
theorem dX11_beat_262 : decode cX11_beat 262 = .ok (.iload 9, 2) := by decide +kernel
theorem dX11_beat_264 : decode cX11_beat 264 = .ok (.ineg, 1) := by decide +kernel
theorem dX11_beat_265 : decode cX11_beat 265 = .ok (.goto 16, 3) := by decide +kernel
theorem dX11_beat_268 : decode cX11_beat 268 = .ok (.iload 8, 2) := by decide +kernel
theorem dX11_beat_270 : decode cX11_beat 270 = .ok (.iload 7, 2) := by decide +kernel
theorem dX11_beat_272 : decode cX11_beat 272 = .ok (.if_icmp .ne 8, 3) := by decide +kernel
theorem dX11_beat_275 : decode cX11_beat 275 = .ok (.iload 9, 2) := by decide +kernel
theorem dX11_beat_277 : decode cX11_beat 277 = .ok (.goto 4, 3) := by decide +kernel
theorem dX11_beat_280 : decode cX11_beat 280 = .ok (.iconst 0, 1) := by decide +kernel
theorem dX11_beat_281 : decode cX11_beat 281 = .ok (.iadd, 1) := by decide +kernel
theorem dX11_beat_282 : decode cX11_beat 282 = .ok (.iastore, 1) := by decide +kernel
theorem dX11_beat_283 : decode cX11_beat 283 = .ok (.iinc 8 1, 3) := by decide +kernel
theorem dX11_beat_286 : decode cX11_beat 286 = .ok (.goto (-115), 3) := by decide +kernel
theorem dX11_beat_289 : decode cX11_beat 289 = .ok (.iinc 6 1, 3) := by decide +kernel
theorem dX11_beat_292 : decode cX11_beat 292 = .ok (.goto (-212), 3) := by decide +kernel
theorem dX11_beat_295 : decode cX11_beat 295 = .ok (.iload 6, 2) := by decide +kernel
theorem dX11_beat_297 : decode cX11_beat 297 = .ok (.ireturn, 1) := by decide +kernel
theorem dX11_isAbove_0 : decode cX11_isAbove 0 = .ok (.iconst 0, 1) := by decide +kernel
theorem dX11_isAbove_1 : decode cX11_isAbove 1 = .ok (.istore_n 3, 1) := by decide +kernel
theorem dX11_isAbove_2 : decode cX11_isAbove 2 = .ok (.iconst 0, 1) := by decide +kernel
theorem dX11_isAbove_3 : decode cX11_isAbove 3 = .ok (.istore 4, 2) := by decide +kernel
theorem dX11_isAbove_5 : decode cX11_isAbove 5 = .ok (.iload 4, 2) := by decide +kernel
theorem dX11_isAbove_7 : decode cX11_isAbove 7 = .ok (.aload_n 0, 1) := by decide +kernel
theorem dX11_isAbove_8 : decode cX11_isAbove 8 = .ok (.getfield 23, 3) := by decide +kernel
theorem dX11_isAbove_11 : decode cX11_isAbove 11 = .ok (.iload_n 1, 1) := by decide +kernel
theorem dX11_isAbove_12 : decode cX11_isAbove 12 = .ok (.iaload, 1) := by decide +kernel
theorem dX11_isAbove_13 : decode cX11_isAbove 13 = .ok (.if_icmp .ge 35, 3) := by decide +kernel
theorem dX11_isAbove_16 : decode cX11_isAbove 16 = .ok (.iload_n 3, 1) := by decide +kernel
theorem dX11_isAbove_17 : decode cX11_isAbove 17 = .ok (.ifCond .ne 19, 3) := by decide +kernel
theorem dX11_isAbove_20 : decode cX11_isAbove 20 = .ok (.aload_n 0, 1) := by decide +kernel
theorem dX11_isAbove_21 : decode cX11_isAbove 21 = .ok (.getfield 42, 3) := by decide +kernel
theorem dX11_isAbove_24 : decode cX11_isAbove 24 = .ok (.bipush 20, 2) := by decide +kernel
theorem dX11_isAbove_26 : decode cX11_isAbove 26 = .ok (.iload_n 1, 1) := by decide +kernel
theorem dX11_isAbove_27 : decode cX11_isAbove 27 = .ok (.imul, 1) := by decide +kernel
theorem dX11_isAbove_28 : decode cX11_isAbove 28 = .ok (.iload 4, 2) := by decide +kernel
theorem dX11_isAbove_30 : decode cX11_isAbove 30 = .ok (.iadd, 1) := by decide +kernel
theorem dX11_isAbove_31 : decode cX11_isAbove 31 = .ok (.iaload, 1) := by decide +kernel
theorem dX11_isAbove_32 : decode cX11_isAbove 32 = .ok (.iload_n 2, 1) := by decide +kernel
theorem dX11_isAbove_33 : decode cX11_isAbove 33 = .ok (.if_icmp .le 7, 3) := by decide +kernel
theorem dX11_isAbove_36 : decode cX11_isAbove 36 = .ok (.iconst 1, 1) := by decide +kernel
theorem dX11_isAbove_37 : decode cX11_isAbove 37 = .ok (.goto 4, 3) := by decide +kernel
theorem dX11_isAbove_40 : decode cX11_isAbove 40 = .ok (.iconst 0, 1) := by decide +kernel
theorem dX11_isAbove_41 : decode cX11_isAbove 41 = .ok (.istore_n 3, 1) := by decide +kernel
theorem dX11_isAbove_42 : decode cX11_isAbove 42 = .ok (.iinc 4 1, 3) := by decide +kernel
theorem dX11_isAbove_45 : decode cX11_isAbove 45 = .ok (.goto (-40), 3) := by decide +kernel
theorem dX11_isAbove_48 : decode cX11_isAbove 48 = .ok (.iload_n 3, 1) := by decide +kernel
theorem dX11_isAbove_49 : decode cX11_isAbove 49 = .ok (.ireturn, 1) := by decide +kernel
theorem dX11_warmth_0 : decode cX11_warmth 0 = .ok (.aload_n 0, 1) := by decide +kernel
theorem dX11_warmth_1 : decode cX11_warmth 1 = .ok (.iconst 0, 1) := by decide +kernel
theorem dX11_warmth_2 : decode cX11_warmth 2 = .ok (.putfield 124, 3) := by decide +kernel
theorem dX11_warmth_5 : decode cX11_warmth 5 = .ok (.iload_n 1, 1) := by decide +kernel
theorem dX11_warmth_6 : decode cX11_warmth 6 = .ok (.invokestatic 153, 3) := by decide +kernel
theorem dX11_warmth_9 : decode cX11_warmth 9 = .ok (.ifCond .ne 6, 3) := by decide +kernel
theorem dX11_warmth_12 : decode cX11_warmth 12 = .ok (.ldc 144, 2) := by decide +kernel
theorem dX11_warmth_14 : decode cX11_warmth 14 = .ok (.ireturn, 1) := by decide +kernel
theorem dX11_warmth_15 : decode cX11_warmth 15 = .ok (.aload_n 0, 1) := by decide +kernel
theorem dX11_warmth_16 : decode cX11_warmth 16 = .ok (.iload_n 1, 1) := by decide +kernel
theorem dX11_warmth_17 : decode cX11_warmth 17 = .ok (.iconst 4, 1) := by decide +kernel
theorem dX11_warmth_18 : decode cX11_warmth 18 = .ok (.invokevirtual 187, 3) := by decide +kernel
theorem dX11_warmth_21 : decode cX11_warmth 21 = .ok (.istore_n 3, 1) := by decide +kernel
theorem dX11_warmth_22 : decode cX11_warmth 22 = .ok (.iload_n 3, 1) := by decide +kernel
theorem dX11_warmth_23 : decode cX11_warmth 23 = .ok (.ifCond .le 9, 3) := by decide +kernel
theorem dX11_warmth_26 : decode cX11_warmth 26 = .ok (.aload_n 0, 1) := by decide +kernel
theorem dX11_warmth_27 : decode cX11_warmth 27 = .ok (.iload_n 3, 1) := by decide +kernel
theorem dX11_warmth_28 : decode cX11_warmth 28 = .ok (.invokevirtual 145, 3) := by decide +kernel
theorem dX11_warmth_31 : decode cX11_warmth 31 = .ok (.ireturn, 1) := by decide +kernel
theorem dX11_warmth_32 : decode cX11_warmth 32 = .ok (.iload_n 2, 1) := by decide +kernel
theorem dX11_warmth_33 : decode cX11_warmth 33 = .ok (.ldc 186, 2) := by decide +kernel
theorem dX11_warmth_35 : decode cX11_warmth 35 = .ok (.if_icmp .eq 24, 3) := by decide +kernel
theorem dX11_warmth_38 : decode cX11_warmth 38 = .ok (.iload_n 2, 1) := by decide +kernel
theorem dX11_warmth_39 : decode cX11_warmth 39 = .ok (.i2l, 1) := by decide +kernel
theorem dX11_warmth_40 : decode cX11_warmth 40 = .ok (.lconst 0, 1) := by decide +kernel
theorem dX11_warmth_41 : decode cX11_warmth 41 = .ok (.aload_n 0, 1) := by decide +kernel
theorem dX11_warmth_42 : decode cX11_warmth 42 = .ok (.getfield 23, 3) := by decide +kernel
theorem dX11_warmth_45 : decode cX11_warmth 45 = .ok (.iload_n 1, 1) := by decide +kernel
theorem dX11_warmth_46 : decode cX11_warmth 46 = .ok (.iaload, 1) := by decide +kernel
theorem dX11_warmth_47 : decode cX11_warmth 47 = .ok (.iconst 1, 1) := by decide +kernel
theorem dX11_warmth_48 : decode cX11_warmth 48 = .ok (.isub, 1) := by decide +kernel
theorem dX11_warmth_49 : decode cX11_warmth 49 = .ok (.i2l, 1) := by decide +kernel
theorem dX11_warmth_50 : decode cX11_warmth 50 = .ok (.invokestatic 134, 3) := by decide +kernel
theorem dX11_warmth_53 : decode cX11_warmth 53 = .ok (.ifCond .ne 6, 3) := by decide +kernel
theorem dX11_warmth_56 : decode cX11_warmth 56 = .ok (.ldc 144, 2) := by decide +kernel
theorem dX11_warmth_58 : decode cX11_warmth 58 = .ok (.ireturn, 1) := by decide +kernel
theorem dX11_warmth_59 : decode cX11_warmth 59 = .ok (.aload_n 0, 1) := by decide +kernel
theorem dX11_warmth_60 : decode cX11_warmth 60 = .ok (.iconst 0, 1) := by decide +kernel
theorem dX11_warmth_61 : decode cX11_warmth 61 = .ok (.putfield 128, 3) := by decide +kernel
theorem dX11_warmth_64 : decode cX11_warmth 64 = .ok (.iload_n 2, 1) := by decide +kernel
theorem dX11_warmth_65 : decode cX11_warmth 65 = .ok (.ldc 186, 2) := by decide +kernel
theorem dX11_warmth_67 : decode cX11_warmth 67 = .ok (.if_icmp .ne 12, 3) := by decide +kernel
theorem dX11_warmth_70 : decode cX11_warmth 70 = .ok (.aload_n 0, 1) := by decide +kernel
theorem dX11_warmth_71 : decode cX11_warmth 71 = .ok (.getfield 48, 3) := by decide +kernel
theorem dX11_warmth_74 : decode cX11_warmth 74 = .ok (.iload_n 1, 1) := by decide +kernel
theorem dX11_warmth_75 : decode cX11_warmth 75 = .ok (.iaload, 1) := by decide +kernel
theorem dX11_warmth_76 : decode cX11_warmth 76 = .ok (.goto 14, 3) := by decide +kernel
theorem dX11_warmth_79 : decode cX11_warmth 79 = .ok (.aload_n 0, 1) := by decide +kernel
theorem dX11_warmth_80 : decode cX11_warmth 80 = .ok (.getfield 42, 3) := by decide +kernel
theorem dX11_warmth_83 : decode cX11_warmth 83 = .ok (.bipush 20, 2) := by decide +kernel
theorem dX11_warmth_85 : decode cX11_warmth 85 = .ok (.iload_n 1, 1) := by decide +kernel
theorem dX11_warmth_86 : decode cX11_warmth 86 = .ok (.imul, 1) := by decide +kernel
theorem dX11_warmth_87 : decode cX11_warmth 87 = .ok (.iload_n 2, 1) := by decide +kernel
theorem dX11_warmth_88 : decode cX11_warmth 88 = .ok (.iadd, 1) := by decide +kernel
theorem dX11_warmth_89 : decode cX11_warmth 89 = .ok (.iaload, 1) := by decide +kernel
theorem dX11_warmth_90 : decode cX11_warmth 90 = .ok (.ireturn, 1) := by decide +kernel
theorem dX11_press_0 : decode cX11_press 0 = .ok (.aload_n 0, 1) := by decide +kernel
theorem dX11_press_1 : decode cX11_press 1 = .ok (.iconst 0, 1) := by decide +kernel
theorem dX11_press_2 : decode cX11_press 2 = .ok (.putfield 124, 3) := by decide +kernel
theorem dX11_press_5 : decode cX11_press 5 = .ok (.iload_n 1, 1) := by decide +kernel
theorem dX11_press_6 : decode cX11_press 6 = .ok (.i2l, 1) := by decide +kernel
theorem dX11_press_7 : decode cX11_press 7 = .ok (.lconst 0, 1) := by decide +kernel
theorem dX11_press_8 : decode cX11_press 8 = .ok (.ldc2_w 248, 3) := by decide +kernel
theorem dX11_press_11 : decode cX11_press 11 = .ok (.invokestatic 134, 3) := by decide +kernel
theorem dX11_press_14 : decode cX11_press 14 = .ok (.ifCond .ne 6, 3) := by decide +kernel
theorem dX11_press_17 : decode cX11_press 17 = .ok (.ldc 144, 2) := by decide +kernel
theorem dX11_press_19 : decode cX11_press 19 = .ok (.ireturn, 1) := by decide +kernel
theorem dX11_press_20 : decode cX11_press 20 = .ok (.aload_n 0, 1) := by decide +kernel
theorem dX11_press_21 : decode cX11_press 21 = .ok (.getfield 250, 3) := by decide +kernel
theorem dX11_press_24 : decode cX11_press 24 = .ok (.bipush 6, 2) := by decide +kernel
theorem dX11_press_26 : decode cX11_press 26 = .ok (.if_icmp .ne 6, 3) := by decide +kernel
theorem dX11_press_29 : decode cX11_press 29 = .ok (.ldc 194, 2) := by decide +kernel
theorem dX11_press_31 : decode cX11_press 31 = .ok (.ireturn, 1) := by decide +kernel
theorem dX11_press_32 : decode cX11_press 32 = .ok (.aload_n 0, 1) := by decide +kernel
theorem dX11_press_33 : decode cX11_press 33 = .ok (.getfield 96, 3) := by decide +kernel
theorem dX11_press_36 : decode cX11_press 36 = .ok (.aload_n 0, 1) := by decide +kernel
theorem dX11_press_37 : decode cX11_press 37 = .ok (.getfield 250, 3) := by decide +kernel
theorem dX11_press_40 : decode cX11_press 40 = .ok (.iload_n 1, 1) := by decide +kernel
theorem dX11_press_41 : decode cX11_press 41 = .ok (.iastore, 1) := by decide +kernel
theorem dX11_press_42 : decode cX11_press 42 = .ok (.aload_n 0, 1) := by decide +kernel
theorem dX11_press_43 : decode cX11_press 43 = .ok (.dup, 1) := by decide +kernel
theorem dX11_press_44 : decode cX11_press 44 = .ok (.getfield 250, 3) := by decide +kernel
theorem dX11_press_47 : decode cX11_press 47 = .ok (.iconst 1, 1) := by decide +kernel
theorem dX11_press_48 : decode cX11_press 48 = .ok (.iadd, 1) := by decide +kernel
theorem dX11_press_49 : decode cX11_press 49 = .ok (.putfield 250, 3) := by decide +kernel
theorem dX11_press_52 : decode cX11_press 52 = .ok (.aload_n 0, 1) := by decide +kernel
theorem dX11_press_53 : decode cX11_press 53 = .ok (.iconst 0, 1) := by decide +kernel
theorem dX11_press_54 : decode cX11_press 54 = .ok (.putfield 253, 3) := by decide +kernel
theorem dX11_press_57 : decode cX11_press 57 = .ok (.aload_n 0, 1) := by decide +kernel
theorem dX11_press_58 : decode cX11_press 58 = .ok (.getfield 250, 3) := by decide +kernel
theorem dX11_press_61 : decode cX11_press 61 = .ok (.iconst 1, 1) := by decide +kernel
theorem dX11_press_62 : decode cX11_press 62 = .ok (.isub, 1) := by decide +kernel
theorem dX11_press_63 : decode cX11_press 63 = .ok (.ireturn, 1) := by decide +kernel
theorem dX11_job_0 : decode cX11_job 0 = .ok (.aload_n 0, 1) := by decide +kernel
theorem dX11_job_1 : decode cX11_job 1 = .ok (.iconst 0, 1) := by decide +kernel
theorem dX11_job_2 : decode cX11_job 2 = .ok (.putfield 124, 3) := by decide +kernel
theorem dX11_job_5 : decode cX11_job 5 = .ok (.iload_n 1, 1) := by decide +kernel
theorem dX11_job_6 : decode cX11_job 6 = .ok (.i2l, 1) := by decide +kernel
theorem dX11_job_7 : decode cX11_job 7 = .ok (.lconst 0, 1) := by decide +kernel
theorem dX11_job_8 : decode cX11_job 8 = .ok (.ldc2_w 248, 3) := by decide +kernel
theorem dX11_job_11 : decode cX11_job 11 = .ok (.invokestatic 134, 3) := by decide +kernel
theorem dX11_job_14 : decode cX11_job 14 = .ok (.ifCond .eq 27, 3) := by decide +kernel
theorem dX11_job_17 : decode cX11_job 17 = .ok (.iload_n 2, 1) := by decide +kernel
theorem dX11_job_18 : decode cX11_job 18 = .ok (.i2l, 1) := by decide +kernel
theorem dX11_job_19 : decode cX11_job 19 = .ok (.lconst 0, 1) := by decide +kernel
theorem dX11_job_20 : decode cX11_job 20 = .ok (.ldc2_w 151, 3) := by decide +kernel
theorem dX11_job_23 : decode cX11_job 23 = .ok (.invokestatic 134, 3) := by decide +kernel
theorem dX11_job_26 : decode cX11_job 26 = .ok (.ifCond .eq 15, 3) := by decide +kernel
theorem dX11_job_29 : decode cX11_job 29 = .ok (.iload_n 3, 1) := by decide +kernel
theorem dX11_job_30 : decode cX11_job 30 = .ok (.i2l, 1) := by decide +kernel
theorem dX11_job_31 : decode cX11_job 31 = .ok (.lconst 1, 1) := by decide +kernel
theorem dX11_job_32 : decode cX11_job 32 = .ok (.ldc2_w 257, 3) := by decide +kernel
theorem dX11_job_35 : decode cX11_job 35 = .ok (.invokestatic 134, 3) := by decide +kernel
theorem dX11_job_38 : decode cX11_job 38 = .ok (.ifCond .ne 6, 3) := by decide +kernel
theorem dX11_job_41 : decode cX11_job 41 = .ok (.ldc 144, 2) := by decide +kernel
theorem dX11_job_43 : decode cX11_job 43 = .ok (.ireturn, 1) := by decide +kernel
theorem dX11_job_44 : decode cX11_job 44 = .ok (.aload_n 0, 1) := by decide +kernel
theorem dX11_job_45 : decode cX11_job 45 = .ok (.getfield 259, 3) := by decide +kernel
theorem dX11_job_48 : decode cX11_job 48 = .ok (.bipush 12, 2) := by decide +kernel
theorem dX11_job_50 : decode cX11_job 50 = .ok (.if_icmp .ne 6, 3) := by decide +kernel
theorem dX11_job_53 : decode cX11_job 53 = .ok (.ldc 194, 2) := by decide +kernel
theorem dX11_job_55 : decode cX11_job 55 = .ok (.ireturn, 1) := by decide +kernel
theorem dX11_job_56 : decode cX11_job 56 = .ok (.aload_n 0, 1) := by decide +kernel
theorem dX11_job_57 : decode cX11_job 57 = .ok (.getfield 99, 3) := by decide +kernel
theorem dX11_job_60 : decode cX11_job 60 = .ok (.aload_n 0, 1) := by decide +kernel
theorem dX11_job_61 : decode cX11_job 61 = .ok (.getfield 259, 3) := by decide +kernel
theorem dX11_job_64 : decode cX11_job 64 = .ok (.iload_n 1, 1) := by decide +kernel
theorem dX11_job_65 : decode cX11_job 65 = .ok (.iastore, 1) := by decide +kernel
theorem dX11_job_66 : decode cX11_job 66 = .ok (.aload_n 0, 1) := by decide +kernel
theorem dX11_job_67 : decode cX11_job 67 = .ok (.getfield 102, 3) := by decide +kernel
theorem dX11_job_70 : decode cX11_job 70 = .ok (.aload_n 0, 1) := by decide +kernel
theorem dX11_job_71 : decode cX11_job 71 = .ok (.getfield 259, 3) := by decide +kernel
theorem dX11_job_74 : decode cX11_job 74 = .ok (.iload_n 2, 1) := by decide +kernel
theorem dX11_job_75 : decode cX11_job 75 = .ok (.iastore, 1) := by decide +kernel
theorem dX11_job_76 : decode cX11_job 76 = .ok (.aload_n 0, 1) := by decide +kernel
theorem dX11_job_77 : decode cX11_job 77 = .ok (.getfield 105, 3) := by decide +kernel
theorem dX11_job_80 : decode cX11_job 80 = .ok (.aload_n 0, 1) := by decide +kernel
theorem dX11_job_81 : decode cX11_job 81 = .ok (.getfield 259, 3) := by decide +kernel
theorem dX11_job_84 : decode cX11_job 84 = .ok (.iload_n 3, 1) := by decide +kernel
theorem dX11_job_85 : decode cX11_job 85 = .ok (.iastore, 1) := by decide +kernel
theorem dX11_job_86 : decode cX11_job 86 = .ok (.aload_n 0, 1) := by decide +kernel
theorem dX11_job_87 : decode cX11_job 87 = .ok (.dup, 1) := by decide +kernel
theorem dX11_job_88 : decode cX11_job 88 = .ok (.getfield 259, 3) := by decide +kernel
theorem dX11_job_91 : decode cX11_job 91 = .ok (.iconst 1, 1) := by decide +kernel
theorem dX11_job_92 : decode cX11_job 92 = .ok (.iadd, 1) := by decide +kernel
theorem dX11_job_93 : decode cX11_job 93 = .ok (.putfield 259, 3) := by decide +kernel
theorem dX11_job_96 : decode cX11_job 96 = .ok (.aload_n 0, 1) := by decide +kernel
theorem dX11_job_97 : decode cX11_job 97 = .ok (.iconst 0, 1) := by decide +kernel
theorem dX11_job_98 : decode cX11_job 98 = .ok (.putfield 253, 3) := by decide +kernel
theorem dX11_job_101 : decode cX11_job 101 = .ok (.aload_n 0, 1) := by decide +kernel
theorem dX11_job_102 : decode cX11_job 102 = .ok (.getfield 259, 3) := by decide +kernel
theorem dX11_job_105 : decode cX11_job 105 = .ok (.iconst 1, 1) := by decide +kernel
theorem dX11_job_106 : decode cX11_job 106 = .ok (.isub, 1) := by decide +kernel
theorem dX11_job_107 : decode cX11_job 107 = .ok (.ireturn, 1) := by decide +kernel
theorem dX11_pain_0 : decode cX11_pain 0 = .ok (.aload_n 0, 1) := by decide +kernel
theorem dX11_pain_1 : decode cX11_pain 1 = .ok (.getfield 102, 3) := by decide +kernel
theorem dX11_pain_4 : decode cX11_pain 4 = .ok (.iload_n 2, 1) := by decide +kernel
theorem dX11_pain_5 : decode cX11_pain 5 = .ok (.iaload, 1) := by decide +kernel
theorem dX11_pain_6 : decode cX11_pain 6 = .ok (.aload_n 0, 1) := by decide +kernel
theorem dX11_pain_7 : decode cX11_pain 7 = .ok (.getfield 102, 3) := by decide +kernel
theorem dX11_pain_10 : decode cX11_pain 10 = .ok (.iload_n 1, 1) := by decide +kernel
theorem dX11_pain_11 : decode cX11_pain 11 = .ok (.iaload, 1) := by decide +kernel
theorem dX11_pain_12 : decode cX11_pain 12 = .ok (.isub, 1) := by decide +kernel
theorem dX11_pain_13 : decode cX11_pain 13 = .ok (.istore_n 3, 1) := by decide +kernel
theorem dX11_pain_14 : decode cX11_pain 14 = .ok (.iload_n 3, 1) := by decide +kernel
theorem dX11_pain_15 : decode cX11_pain 15 = .ok (.ifCond .lt 7, 3) := by decide +kernel
theorem dX11_pain_18 : decode cX11_pain 18 = .ok (.iload_n 3, 1) := by decide +kernel
theorem dX11_pain_19 : decode cX11_pain 19 = .ok (.goto 8, 3) := by decide +kernel
theorem dX11_pain_22 : decode cX11_pain 22 = .ok (.iconst 3, 1) := by decide +kernel
theorem dX11_pain_23 : decode cX11_pain 23 = .ok (.iconst 5, 1) := by decide +kernel
theorem dX11_pain_24 : decode cX11_pain 24 = .ok (.iload_n 3, 1) := by decide +kernel
theorem dX11_pain_25 : decode cX11_pain 25 = .ok (.imul, 1) := by decide +kernel
theorem dX11_pain_26 : decode cX11_pain 26 = .ok (.isub, 1) := by decide +kernel
theorem dX11_pain_27 : decode cX11_pain 27 = .ok (.ireturn, 1) := by decide +kernel
theorem dX11_times_0 : decode cX11_times 0 = .ok (.iconst 0, 1) := by decide +kernel
theorem dX11_times_1 : decode cX11_times 1 = .ok (.istore_n 2, 1) := by decide +kernel
theorem dX11_times_2 : decode cX11_times 2 = .ok (.iconst 0, 1) := by decide +kernel
theorem dX11_times_3 : decode cX11_times 3 = .ok (.istore_n 3, 1) := by decide +kernel
theorem dX11_times_4 : decode cX11_times 4 = .ok (.iload_n 3, 1) := by decide +kernel
theorem dX11_times_5 : decode cX11_times 5 = .ok (.aload_n 0, 1) := by decide +kernel
theorem dX11_times_6 : decode cX11_times 6 = .ok (.getfield 111, 3) := by decide +kernel
theorem dX11_times_9 : decode cX11_times 9 = .ok (.iload_n 1, 1) := by decide +kernel
theorem dX11_times_10 : decode cX11_times 10 = .ok (.iaload, 1) := by decide +kernel
theorem dX11_times_11 : decode cX11_times 11 = .ok (.if_icmp .ge 28, 3) := by decide +kernel
theorem dX11_times_14 : decode cX11_times 14 = .ok (.iload_n 2, 1) := by decide +kernel
theorem dX11_times_15 : decode cX11_times 15 = .ok (.aload_n 0, 1) := by decide +kernel
theorem dX11_times_16 : decode cX11_times 16 = .ok (.getfield 105, 3) := by decide +kernel
theorem dX11_times_19 : decode cX11_times 19 = .ok (.aload_n 0, 1) := by decide +kernel
theorem dX11_times_20 : decode cX11_times 20 = .ok (.getfield 108, 3) := by decide +kernel
theorem dX11_times_23 : decode cX11_times 23 = .ok (.bipush 12, 2) := by decide +kernel
theorem dX11_times_25 : decode cX11_times 25 = .ok (.iload_n 1, 1) := by decide +kernel
theorem dX11_times_26 : decode cX11_times 26 = .ok (.imul, 1) := by decide +kernel
theorem dX11_times_27 : decode cX11_times 27 = .ok (.iload_n 3, 1) := by decide +kernel
theorem dX11_times_28 : decode cX11_times 28 = .ok (.iadd, 1) := by decide +kernel
theorem dX11_times_29 : decode cX11_times 29 = .ok (.iaload, 1) := by decide +kernel
theorem dX11_times_30 : decode cX11_times 30 = .ok (.iaload, 1) := by decide +kernel
theorem dX11_times_31 : decode cX11_times 31 = .ok (.iadd, 1) := by decide +kernel
theorem dX11_times_32 : decode cX11_times 32 = .ok (.istore_n 2, 1) := by decide +kernel
theorem dX11_times_33 : decode cX11_times 33 = .ok (.iinc 3 1, 3) := by decide +kernel
theorem dX11_times_36 : decode cX11_times 36 = .ok (.goto (-32), 3) := by decide +kernel
theorem dX11_times_39 : decode cX11_times 39 = .ok (.iload_n 2, 1) := by decide +kernel
theorem dX11_times_40 : decode cX11_times 40 = .ok (.ireturn, 1) := by decide +kernel
theorem dX11_putInOrder_0 : decode cX11_putInOrder 0 = .ok (.aload_n 0, 1) := by decide +kernel
theorem dX11_putInOrder_1 : decode cX11_putInOrder 1 = .ok (.getfield 111, 3) := by decide +kernel
theorem dX11_putInOrder_4 : decode cX11_putInOrder 4 = .ok (.iload_n 1, 1) := by decide +kernel
theorem dX11_putInOrder_5 : decode cX11_putInOrder 5 = .ok (.iaload, 1) := by decide +kernel
theorem dX11_putInOrder_6 : decode cX11_putInOrder 6 = .ok (.istore_n 2, 1) := by decide +kernel
theorem dX11_putInOrder_7 : decode cX11_putInOrder 7 = .ok (.iconst 0, 1) := by decide +kernel
theorem dX11_putInOrder_8 : decode cX11_putInOrder 8 = .ok (.istore_n 3, 1) := by decide +kernel
theorem dX11_putInOrder_9 : decode cX11_putInOrder 9 = .ok (.iload_n 3, 1) := by decide +kernel
theorem dX11_putInOrder_10 : decode cX11_putInOrder 10 = .ok (.iload_n 2, 1) := by decide +kernel
theorem dX11_putInOrder_11 : decode cX11_putInOrder 11 = .ok (.if_icmp .ge 26, 3) := by decide +kernel
theorem dX11_putInOrder_14 : decode cX11_putInOrder 14 = .ok (.aload_n 0, 1) := by decide +kernel
theorem dX11_putInOrder_15 : decode cX11_putInOrder 15 = .ok (.getfield 121, 3) := by decide +kernel
theorem dX11_putInOrder_18 : decode cX11_putInOrder 18 = .ok (.iload_n 3, 1) := by decide +kernel
theorem dX11_putInOrder_19 : decode cX11_putInOrder 19 = .ok (.aload_n 0, 1) := by decide +kernel
theorem dX11_putInOrder_20 : decode cX11_putInOrder 20 = .ok (.getfield 108, 3) := by decide +kernel
theorem dX11_putInOrder_23 : decode cX11_putInOrder 23 = .ok (.bipush 12, 2) := by decide +kernel
theorem dX11_putInOrder_25 : decode cX11_putInOrder 25 = .ok (.iload_n 1, 1) := by decide +kernel
theorem dX11_putInOrder_26 : decode cX11_putInOrder 26 = .ok (.imul, 1) := by decide +kernel
theorem dX11_putInOrder_27 : decode cX11_putInOrder 27 = .ok (.iload_n 3, 1) := by decide +kernel
theorem dX11_putInOrder_28 : decode cX11_putInOrder 28 = .ok (.iadd, 1) := by decide +kernel
theorem dX11_putInOrder_29 : decode cX11_putInOrder 29 = .ok (.iaload, 1) := by decide +kernel
theorem dX11_putInOrder_30 : decode cX11_putInOrder 30 = .ok (.iastore, 1) := by decide +kernel
theorem dX11_putInOrder_31 : decode cX11_putInOrder 31 = .ok (.iinc 3 1, 3) := by decide +kernel
theorem dX11_putInOrder_34 : decode cX11_putInOrder 34 = .ok (.goto (-25), 3) := by decide +kernel
theorem dX11_putInOrder_37 : decode cX11_putInOrder 37 = .ok (.aload_n 0, 1) := by decide +kernel
theorem dX11_putInOrder_38 : decode cX11_putInOrder 38 = .ok (.getfield 114, 3) := by decide +kernel
theorem dX11_putInOrder_41 : decode cX11_putInOrder 41 = .ok (.iload_n 1, 1) := by decide +kernel
theorem dX11_putInOrder_42 : decode cX11_putInOrder 42 = .ok (.iconst 0, 1) := by decide +kernel
theorem dX11_putInOrder_43 : decode cX11_putInOrder 43 = .ok (.iastore, 1) := by decide +kernel
theorem dX11_putInOrder_44 : decode cX11_putInOrder 44 = .ok (.iconst 0, 1) := by decide +kernel
theorem dX11_putInOrder_45 : decode cX11_putInOrder 45 = .ok (.istore_n 3, 1) := by decide +kernel
theorem dX11_putInOrder_46 : decode cX11_putInOrder 46 = .ok (.iload_n 3, 1) := by decide +kernel
theorem dX11_putInOrder_47 : decode cX11_putInOrder 47 = .ok (.iconst 1, 1) := by decide +kernel
theorem dX11_putInOrder_48 : decode cX11_putInOrder 48 = .ok (.iload_n 2, 1) := by decide +kernel
theorem dX11_putInOrder_49 : decode cX11_putInOrder 49 = .ok (.ishl, 1) := by decide +kernel
theorem dX11_putInOrder_50 : decode cX11_putInOrder 50 = .ok (.if_icmp .ge 133, 3) := by decide +kernel
theorem dX11_putInOrder_53 : decode cX11_putInOrder 53 = .ok (.iconst 0, 1) := by decide +kernel
theorem dX11_putInOrder_54 : decode cX11_putInOrder 54 = .ok (.istore 4, 2) := by decide +kernel
theorem dX11_putInOrder_56 : decode cX11_putInOrder 56 = .ok (.iload 4, 2) := by decide +kernel
theorem dX11_putInOrder_58 : decode cX11_putInOrder 58 = .ok (.iload_n 2, 1) := by decide +kernel
theorem dX11_putInOrder_59 : decode cX11_putInOrder 59 = .ok (.if_icmp .ge 118, 3) := by decide +kernel
theorem dX11_putInOrder_62 : decode cX11_putInOrder 62 = .ok (.iconst 0, 1) := by decide +kernel
theorem dX11_putInOrder_63 : decode cX11_putInOrder 63 = .ok (.istore 5, 2) := by decide +kernel
theorem dX11_putInOrder_65 : decode cX11_putInOrder 65 = .ok (.iconst 0, 1) := by decide +kernel
theorem dX11_putInOrder_66 : decode cX11_putInOrder 66 = .ok (.istore 6, 2) := by decide +kernel
theorem dX11_putInOrder_68 : decode cX11_putInOrder 68 = .ok (.iconst 0, 1) := by decide +kernel
theorem dX11_putInOrder_69 : decode cX11_putInOrder 69 = .ok (.istore 7, 2) := by decide +kernel
theorem dX11_putInOrder_71 : decode cX11_putInOrder 71 = .ok (.iload 7, 2) := by decide +kernel
theorem dX11_putInOrder_73 : decode cX11_putInOrder 73 = .ok (.iload_n 2, 1) := by decide +kernel
theorem dX11_putInOrder_74 : decode cX11_putInOrder 74 = .ok (.if_icmp .ge 83, 3) := by decide +kernel
theorem dX11_putInOrder_77 : decode cX11_putInOrder 77 = .ok (.iload_n 3, 1) := by decide +kernel
theorem dX11_putInOrder_78 : decode cX11_putInOrder 78 = .ok (.iload 7, 2) := by decide +kernel
theorem dX11_putInOrder_80 : decode cX11_putInOrder 80 = .ok (.ishr, 1) := by decide +kernel
theorem dX11_putInOrder_81 : decode cX11_putInOrder 81 = .ok (.iconst 1, 1) := by decide +kernel
theorem dX11_putInOrder_82 : decode cX11_putInOrder 82 = .ok (.iand, 1) := by decide +kernel
theorem dX11_putInOrder_83 : decode cX11_putInOrder 83 = .ok (.iconst 1, 1) := by decide +kernel
theorem dX11_putInOrder_84 : decode cX11_putInOrder 84 = .ok (.if_icmp .ne 67, 3) := by decide +kernel
theorem dX11_putInOrder_87 : decode cX11_putInOrder 87 = .ok (.aload_n 0, 1) := by decide +kernel
theorem dX11_putInOrder_88 : decode cX11_putInOrder 88 = .ok (.aload_n 0, 1) := by decide +kernel
theorem dX11_putInOrder_89 : decode cX11_putInOrder 89 = .ok (.getfield 121, 3) := by decide +kernel
theorem dX11_putInOrder_92 : decode cX11_putInOrder 92 = .ok (.iload 4, 2) := by decide +kernel
theorem dX11_putInOrder_94 : decode cX11_putInOrder 94 = .ok (.iaload, 1) := by decide +kernel
theorem dX11_putInOrder_95 : decode cX11_putInOrder 95 = .ok (.aload_n 0, 1) := by decide +kernel
theorem dX11_putInOrder_96 : decode cX11_putInOrder 96 = .ok (.getfield 121, 3) := by decide +kernel
theorem dX11_putInOrder_99 : decode cX11_putInOrder 99 = .ok (.iload 7, 2) := by decide +kernel
theorem dX11_putInOrder_101 : decode cX11_putInOrder 101 = .ok (.iaload, 1) := by decide +kernel
theorem dX11_putInOrder_102 : decode cX11_putInOrder 102 = .ok (.invokevirtual 262, 3) := by decide +kernel
theorem dX11_putInOrder_105 : decode cX11_putInOrder 105 = .ok (.aload_n 0, 1) := by decide +kernel
theorem dX11_putInOrder_106 : decode cX11_putInOrder 106 = .ok (.getfield 118, 3) := by decide +kernel
theorem dX11_putInOrder_109 : decode cX11_putInOrder 109 = .ok (.bipush 12, 2) := by decide +kernel
theorem dX11_putInOrder_111 : decode cX11_putInOrder 111 = .ok (.iload_n 3, 1) := by decide +kernel
theorem dX11_putInOrder_112 : decode cX11_putInOrder 112 = .ok (.iconst 1, 1) := by decide +kernel
theorem dX11_putInOrder_113 : decode cX11_putInOrder 113 = .ok (.iload 7, 2) := by decide +kernel
theorem dX11_putInOrder_115 : decode cX11_putInOrder 115 = .ok (.ishl, 1) := by decide +kernel
theorem dX11_putInOrder_116 : decode cX11_putInOrder 116 = .ok (.iconst (-1), 1) := by decide +kernel
theorem dX11_putInOrder_117 : decode cX11_putInOrder 117 = .ok (.ixor, 1) := by decide +kernel
theorem dX11_putInOrder_118 : decode cX11_putInOrder 118 = .ok (.iand, 1) := by decide +kernel
theorem dX11_putInOrder_119 : decode cX11_putInOrder 119 = .ok (.imul, 1) := by decide +kernel
theorem dX11_putInOrder_120 : decode cX11_putInOrder 120 = .ok (.iload 7, 2) := by decide +kernel
theorem dX11_putInOrder_122 : decode cX11_putInOrder 122 = .ok (.iadd, 1) := by decide +kernel
theorem dX11_putInOrder_123 : decode cX11_putInOrder 123 = .ok (.iaload, 1) := by decide +kernel
theorem dX11_putInOrder_124 : decode cX11_putInOrder 124 = .ok (.iadd, 1) := by decide +kernel
theorem dX11_putInOrder_125 : decode cX11_putInOrder 125 = .ok (.istore 8, 2) := by decide +kernel
theorem dX11_putInOrder_127 : decode cX11_putInOrder 127 = .ok (.iload 6, 2) := by decide +kernel
theorem dX11_putInOrder_129 : decode cX11_putInOrder 129 = .ok (.ifCond .eq 10, 3) := by decide +kernel
theorem dX11_putInOrder_132 : decode cX11_putInOrder 132 = .ok (.iload 8, 2) := by decide +kernel
theorem dX11_putInOrder_134 : decode cX11_putInOrder 134 = .ok (.iload 5, 2) := by decide +kernel
theorem dX11_putInOrder_136 : decode cX11_putInOrder 136 = .ok (.if_icmp .ge 8, 3) := by decide +kernel
theorem dX11_putInOrder_139 : decode cX11_putInOrder 139 = .ok (.iload 8, 2) := by decide +kernel
theorem dX11_putInOrder_141 : decode cX11_putInOrder 141 = .ok (.goto 5, 3) := by decide +kernel
theorem dX11_putInOrder_144 : decode cX11_putInOrder 144 = .ok (.iload 5, 2) := by decide +kernel
theorem dX11_putInOrder_146 : decode cX11_putInOrder 146 = .ok (.istore 5, 2) := by decide +kernel
theorem dX11_putInOrder_148 : decode cX11_putInOrder 148 = .ok (.iconst 1, 1) := by decide +kernel
theorem dX11_putInOrder_149 : decode cX11_putInOrder 149 = .ok (.istore 6, 2) := by decide +kernel
theorem dX11_putInOrder_151 : decode cX11_putInOrder 151 = .ok (.iinc 7 1, 3) := by decide +kernel
theorem dX11_putInOrder_154 : decode cX11_putInOrder 154 = .ok (.goto (-83), 3) := by decide +kernel
theorem dX11_putInOrder_157 : decode cX11_putInOrder 157 = .ok (.aload_n 0, 1) := by decide +kernel
theorem dX11_putInOrder_158 : decode cX11_putInOrder 158 = .ok (.getfield 118, 3) := by decide +kernel
theorem dX11_putInOrder_161 : decode cX11_putInOrder 161 = .ok (.bipush 12, 2) := by decide +kernel
theorem dX11_putInOrder_163 : decode cX11_putInOrder 163 = .ok (.iload_n 3, 1) := by decide +kernel
theorem dX11_putInOrder_164 : decode cX11_putInOrder 164 = .ok (.imul, 1) := by decide +kernel
theorem dX11_putInOrder_165 : decode cX11_putInOrder 165 = .ok (.iload 4, 2) := by decide +kernel
theorem dX11_putInOrder_167 : decode cX11_putInOrder 167 = .ok (.iadd, 1) := by decide +kernel
theorem dX11_putInOrder_168 : decode cX11_putInOrder 168 = .ok (.iload 5, 2) := by decide +kernel
theorem dX11_putInOrder_170 : decode cX11_putInOrder 170 = .ok (.iastore, 1) := by decide +kernel
theorem dX11_putInOrder_171 : decode cX11_putInOrder 171 = .ok (.iinc 4 1, 3) := by decide +kernel
theorem dX11_putInOrder_174 : decode cX11_putInOrder 174 = .ok (.goto (-118), 3) := by decide +kernel
theorem dX11_putInOrder_177 : decode cX11_putInOrder 177 = .ok (.iinc 3 1, 3) := by decide +kernel
theorem dX11_putInOrder_180 : decode cX11_putInOrder 180 = .ok (.goto (-134), 3) := by decide +kernel
theorem dX11_putInOrder_183 : decode cX11_putInOrder 183 = .ok (.iconst 1, 1) := by decide +kernel
theorem dX11_putInOrder_184 : decode cX11_putInOrder 184 = .ok (.iload_n 2, 1) := by decide +kernel
theorem dX11_putInOrder_185 : decode cX11_putInOrder 185 = .ok (.ishl, 1) := by decide +kernel
theorem dX11_putInOrder_186 : decode cX11_putInOrder 186 = .ok (.iconst 1, 1) := by decide +kernel
theorem dX11_putInOrder_187 : decode cX11_putInOrder 187 = .ok (.isub, 1) := by decide +kernel
theorem dX11_putInOrder_188 : decode cX11_putInOrder 188 = .ok (.istore_n 3, 1) := by decide +kernel
theorem dX11_putInOrder_189 : decode cX11_putInOrder 189 = .ok (.ldc 186, 2) := by decide +kernel
theorem dX11_putInOrder_191 : decode cX11_putInOrder 191 = .ok (.istore 4, 2) := by decide +kernel
theorem dX11_putInOrder_193 : decode cX11_putInOrder 193 = .ok (.iconst 0, 1) := by decide +kernel
theorem dX11_putInOrder_194 : decode cX11_putInOrder 194 = .ok (.istore 5, 2) := by decide +kernel
theorem dX11_putInOrder_196 : decode cX11_putInOrder 196 = .ok (.iload 5, 2) := by decide +kernel
theorem dX11_putInOrder_198 : decode cX11_putInOrder 198 = .ok (.iload_n 2, 1) := by decide +kernel
theorem dX11_putInOrder_199 : decode cX11_putInOrder 199 = .ok (.if_icmp .ge 168, 3) := by decide +kernel
theorem dX11_putInOrder_202 : decode cX11_putInOrder 202 = .ok (.ldc 186, 2) := by decide +kernel
theorem dX11_putInOrder_204 : decode cX11_putInOrder 204 = .ok (.istore 6, 2) := by decide +kernel
theorem dX11_putInOrder_206 : decode cX11_putInOrder 206 = .ok (.iconst 0, 1) := by decide +kernel
theorem dX11_putInOrder_207 : decode cX11_putInOrder 207 = .ok (.istore 7, 2) := by decide +kernel
theorem dX11_putInOrder_209 : decode cX11_putInOrder 209 = .ok (.iconst 0, 1) := by decide +kernel
theorem dX11_putInOrder_210 : decode cX11_putInOrder 210 = .ok (.istore 8, 2) := by decide +kernel
theorem dX11_putInOrder_212 : decode cX11_putInOrder 212 = .ok (.iload 8, 2) := by decide +kernel
theorem dX11_putInOrder_214 : decode cX11_putInOrder 214 = .ok (.iload_n 2, 1) := by decide +kernel
theorem dX11_putInOrder_215 : decode cX11_putInOrder 215 = .ok (.if_icmp .ge 92, 3) := by decide +kernel
theorem dX11_putInOrder_218 : decode cX11_putInOrder 218 = .ok (.iload_n 3, 1) := by decide +kernel
theorem dX11_putInOrder_219 : decode cX11_putInOrder 219 = .ok (.iload 8, 2) := by decide +kernel
theorem dX11_putInOrder_221 : decode cX11_putInOrder 221 = .ok (.ishr, 1) := by decide +kernel
theorem dX11_putInOrder_222 : decode cX11_putInOrder 222 = .ok (.iconst 1, 1) := by decide +kernel
theorem dX11_putInOrder_223 : decode cX11_putInOrder 223 = .ok (.iand, 1) := by decide +kernel
theorem dX11_putInOrder_224 : decode cX11_putInOrder 224 = .ok (.iconst 1, 1) := by decide +kernel
theorem dX11_putInOrder_225 : decode cX11_putInOrder 225 = .ok (.if_icmp .ne 76, 3) := by decide +kernel
theorem dX11_putInOrder_228 : decode cX11_putInOrder 228 = .ok (.iload 4, 2) := by decide +kernel
theorem dX11_putInOrder_230 : decode cX11_putInOrder 230 = .ok (.ldc 186, 2) := by decide +kernel
theorem dX11_putInOrder_232 : decode cX11_putInOrder 232 = .ok (.if_icmp .ne 7, 3) := by decide +kernel
theorem dX11_putInOrder_235 : decode cX11_putInOrder 235 = .ok (.iconst 0, 1) := by decide +kernel
theorem dX11_putInOrder_236 : decode cX11_putInOrder 236 = .ok (.goto 21, 3) := by decide +kernel
theorem dX11_putInOrder_239 : decode cX11_putInOrder 239 = .ok (.aload_n 0, 1) := by decide +kernel
theorem dX11_putInOrder_240 : decode cX11_putInOrder 240 = .ok (.aload_n 0, 1) := by decide +kernel
theorem dX11_putInOrder_241 : decode cX11_putInOrder 241 = .ok (.getfield 121, 3) := by decide +kernel
theorem dX11_putInOrder_244 : decode cX11_putInOrder 244 = .ok (.iload 4, 2) := by decide +kernel
theorem dX11_putInOrder_246 : decode cX11_putInOrder 246 = .ok (.iaload, 1) := by decide +kernel
theorem dX11_putInOrder_247 : decode cX11_putInOrder 247 = .ok (.aload_n 0, 1) := by decide +kernel
theorem dX11_putInOrder_248 : decode cX11_putInOrder 248 = .ok (.getfield 121, 3) := by decide +kernel
theorem dX11_putInOrder_251 : decode cX11_putInOrder 251 = .ok (.iload 8, 2) := by decide +kernel
theorem dX11_putInOrder_253 : decode cX11_putInOrder 253 = .ok (.iaload, 1) := by decide +kernel
theorem dX11_putInOrder_254 : decode cX11_putInOrder 254 = .ok (.invokevirtual 262, 3) := by decide +kernel
theorem dX11_putInOrder_257 : decode cX11_putInOrder 257 = .ok (.aload_n 0, 1) := by decide +kernel
theorem dX11_putInOrder_258 : decode cX11_putInOrder 258 = .ok (.getfield 118, 3) := by decide +kernel
theorem dX11_putInOrder_261 : decode cX11_putInOrder 261 = .ok (.bipush 12, 2) := by decide +kernel
theorem dX11_putInOrder_263 : decode cX11_putInOrder 263 = .ok (.iload_n 3, 1) := by decide +kernel
theorem dX11_putInOrder_264 : decode cX11_putInOrder 264 = .ok (.iconst 1, 1) := by decide +kernel
theorem dX11_putInOrder_265 : decode cX11_putInOrder 265 = .ok (.iload 8, 2) := by decide +kernel
theorem dX11_putInOrder_267 : decode cX11_putInOrder 267 = .ok (.ishl, 1) := by decide +kernel
theorem dX11_putInOrder_268 : decode cX11_putInOrder 268 = .ok (.iconst (-1), 1) := by decide +kernel
theorem dX11_putInOrder_269 : decode cX11_putInOrder 269 = .ok (.ixor, 1) := by decide +kernel
theorem dX11_putInOrder_270 : decode cX11_putInOrder 270 = .ok (.iand, 1) := by decide +kernel
theorem dX11_putInOrder_271 : decode cX11_putInOrder 271 = .ok (.imul, 1) := by decide +kernel
theorem dX11_putInOrder_272 : decode cX11_putInOrder 272 = .ok (.iload 8, 2) := by decide +kernel
theorem dX11_putInOrder_274 : decode cX11_putInOrder 274 = .ok (.iadd, 1) := by decide +kernel
theorem dX11_putInOrder_275 : decode cX11_putInOrder 275 = .ok (.iaload, 1) := by decide +kernel
theorem dX11_putInOrder_276 : decode cX11_putInOrder 276 = .ok (.iadd, 1) := by decide +kernel
theorem dX11_putInOrder_277 : decode cX11_putInOrder 277 = .ok (.istore 9, 2) := by decide +kernel
theorem dX11_putInOrder_279 : decode cX11_putInOrder 279 = .ok (.iload 6, 2) := by decide +kernel
theorem dX11_putInOrder_281 : decode cX11_putInOrder 281 = .ok (.ldc 186, 2) := by decide +kernel
theorem dX11_putInOrder_283 : decode cX11_putInOrder 283 = .ok (.if_icmp .eq 10, 3) := by decide +kernel
theorem dX11_putInOrder_286 : decode cX11_putInOrder 286 = .ok (.iload 9, 2) := by decide +kernel
theorem dX11_putInOrder_288 : decode cX11_putInOrder 288 = .ok (.iload 7, 2) := by decide +kernel
theorem dX11_putInOrder_290 : decode cX11_putInOrder 290 = .ok (.if_icmp .ge 11, 3) := by decide +kernel
theorem dX11_putInOrder_293 : decode cX11_putInOrder 293 = .ok (.iload 8, 2) := by decide +kernel
theorem dX11_putInOrder_295 : decode cX11_putInOrder 295 = .ok (.istore 6, 2) := by decide +kernel
theorem dX11_putInOrder_297 : decode cX11_putInOrder 297 = .ok (.iload 9, 2) := by decide +kernel
theorem dX11_putInOrder_299 : decode cX11_putInOrder 299 = .ok (.istore 7, 2) := by decide +kernel
theorem dX11_putInOrder_301 : decode cX11_putInOrder 301 = .ok (.iinc 8 1, 3) := by decide +kernel
theorem dX11_putInOrder_304 : decode cX11_putInOrder 304 = .ok (.goto (-92), 3) := by decide +kernel
theorem dX11_putInOrder_307 : decode cX11_putInOrder 307 = .ok (.aload_n 0, 1) := by decide +kernel
theorem dX11_putInOrder_308 : decode cX11_putInOrder 308 = .ok (.getfield 114, 3) := by decide +kernel
theorem dX11_putInOrder_311 : decode cX11_putInOrder 311 = .ok (.iload_n 1, 1) := by decide +kernel
theorem dX11_putInOrder_312 : decode cX11_putInOrder 312 = .ok (.iload 5, 2) := by decide +kernel
theorem dX11_putInOrder_314 : decode cX11_putInOrder 314 = .ok (.ifCond .ne 8, 3) := by decide +kernel
theorem dX11_putInOrder_317 : decode cX11_putInOrder 317 = .ok (.iload 7, 2) := by decide +kernel
theorem dX11_putInOrder_319 : decode cX11_putInOrder 319 = .ok (.goto 9, 3) := by decide +kernel
theorem dX11_putInOrder_322 : decode cX11_putInOrder 322 = .ok (.aload_n 0, 1) := by decide +kernel
theorem dX11_putInOrder_323 : decode cX11_putInOrder 323 = .ok (.getfield 114, 3) := by decide +kernel
theorem dX11_putInOrder_326 : decode cX11_putInOrder 326 = .ok (.iload_n 1, 1) := by decide +kernel
theorem dX11_putInOrder_327 : decode cX11_putInOrder 327 = .ok (.iaload, 1) := by decide +kernel
theorem dX11_putInOrder_328 : decode cX11_putInOrder 328 = .ok (.iastore, 1) := by decide +kernel
theorem dX11_putInOrder_329 : decode cX11_putInOrder 329 = .ok (.aload_n 0, 1) := by decide +kernel
theorem dX11_putInOrder_330 : decode cX11_putInOrder 330 = .ok (.getfield 108, 3) := by decide +kernel
theorem dX11_putInOrder_333 : decode cX11_putInOrder 333 = .ok (.bipush 12, 2) := by decide +kernel
theorem dX11_putInOrder_335 : decode cX11_putInOrder 335 = .ok (.iload_n 1, 1) := by decide +kernel
theorem dX11_putInOrder_336 : decode cX11_putInOrder 336 = .ok (.imul, 1) := by decide +kernel
theorem dX11_putInOrder_337 : decode cX11_putInOrder 337 = .ok (.iload 5, 2) := by decide +kernel
theorem dX11_putInOrder_339 : decode cX11_putInOrder 339 = .ok (.iadd, 1) := by decide +kernel
theorem dX11_putInOrder_340 : decode cX11_putInOrder 340 = .ok (.aload_n 0, 1) := by decide +kernel
theorem dX11_putInOrder_341 : decode cX11_putInOrder 341 = .ok (.getfield 121, 3) := by decide +kernel
theorem dX11_putInOrder_344 : decode cX11_putInOrder 344 = .ok (.iload 6, 2) := by decide +kernel
theorem dX11_putInOrder_346 : decode cX11_putInOrder 346 = .ok (.iaload, 1) := by decide +kernel
theorem dX11_putInOrder_347 : decode cX11_putInOrder 347 = .ok (.iastore, 1) := by decide +kernel
theorem dX11_putInOrder_348 : decode cX11_putInOrder 348 = .ok (.iload_n 3, 1) := by decide +kernel
theorem dX11_putInOrder_349 : decode cX11_putInOrder 349 = .ok (.iconst 1, 1) := by decide +kernel
theorem dX11_putInOrder_350 : decode cX11_putInOrder 350 = .ok (.iload 6, 2) := by decide +kernel
theorem dX11_putInOrder_352 : decode cX11_putInOrder 352 = .ok (.ishl, 1) := by decide +kernel
theorem dX11_putInOrder_353 : decode cX11_putInOrder 353 = .ok (.iconst (-1), 1) := by decide +kernel
theorem dX11_putInOrder_354 : decode cX11_putInOrder 354 = .ok (.ixor, 1) := by decide +kernel
theorem dX11_putInOrder_355 : decode cX11_putInOrder 355 = .ok (.iand, 1) := by decide +kernel
theorem dX11_putInOrder_356 : decode cX11_putInOrder 356 = .ok (.istore_n 3, 1) := by decide +kernel
theorem dX11_putInOrder_357 : decode cX11_putInOrder 357 = .ok (.iload 6, 2) := by decide +kernel
theorem dX11_putInOrder_359 : decode cX11_putInOrder 359 = .ok (.istore 4, 2) := by decide +kernel
theorem dX11_putInOrder_361 : decode cX11_putInOrder 361 = .ok (.iinc 5 1, 3) := by decide +kernel
theorem dX11_putInOrder_364 : decode cX11_putInOrder 364 = .ok (.goto (-168), 3) := by decide +kernel
theorem dX11_putInOrder_367 : decode cX11_putInOrder 367 = .ok (.return_, 1) := by decide +kernel
theorem dX11_plan_0 : decode cX11_plan 0 = .ok (.aload_n 0, 1) := by decide +kernel
theorem dX11_plan_1 : decode cX11_plan 1 = .ok (.iconst 0, 1) := by decide +kernel
theorem dX11_plan_2 : decode cX11_plan 2 = .ok (.putfield 124, 3) := by decide +kernel
theorem dX11_plan_5 : decode cX11_plan 5 = .ok (.aload_n 0, 1) := by decide +kernel
theorem dX11_plan_6 : decode cX11_plan 6 = .ok (.iconst 1, 1) := by decide +kernel
theorem dX11_plan_7 : decode cX11_plan 7 = .ok (.putfield 253, 3) := by decide +kernel
theorem dX11_plan_10 : decode cX11_plan 10 = .ok (.iconst 0, 1) := by decide +kernel
theorem dX11_plan_11 : decode cX11_plan 11 = .ok (.istore_n 1, 1) := by decide +kernel
theorem dX11_plan_12 : decode cX11_plan 12 = .ok (.iload_n 1, 1) := by decide +kernel
theorem dX11_plan_13 : decode cX11_plan 13 = .ok (.aload_n 0, 1) := by decide +kernel
theorem dX11_plan_14 : decode cX11_plan 14 = .ok (.getfield 250, 3) := by decide +kernel
theorem dX11_plan_17 : decode cX11_plan 17 = .ok (.if_icmp .ge 16, 3) := by decide +kernel
theorem dX11_plan_20 : decode cX11_plan 20 = .ok (.aload_n 0, 1) := by decide +kernel
theorem dX11_plan_21 : decode cX11_plan 21 = .ok (.getfield 111, 3) := by decide +kernel
theorem dX11_plan_24 : decode cX11_plan 24 = .ok (.iload_n 1, 1) := by decide +kernel
theorem dX11_plan_25 : decode cX11_plan 25 = .ok (.iconst 0, 1) := by decide +kernel
theorem dX11_plan_26 : decode cX11_plan 26 = .ok (.iastore, 1) := by decide +kernel
theorem dX11_plan_27 : decode cX11_plan 27 = .ok (.iinc 1 1, 3) := by decide +kernel
theorem dX11_plan_30 : decode cX11_plan 30 = .ok (.goto (-18), 3) := by decide +kernel
theorem dX11_plan_33 : decode cX11_plan 33 = .ok (.iconst 0, 1) := by decide +kernel
theorem dX11_plan_34 : decode cX11_plan 34 = .ok (.istore_n 1, 1) := by decide +kernel
theorem dX11_plan_35 : decode cX11_plan 35 = .ok (.iconst 0, 1) := by decide +kernel
theorem dX11_plan_36 : decode cX11_plan 36 = .ok (.istore_n 2, 1) := by decide +kernel
theorem dX11_plan_37 : decode cX11_plan 37 = .ok (.iload_n 2, 1) := by decide +kernel
theorem dX11_plan_38 : decode cX11_plan 38 = .ok (.aload_n 0, 1) := by decide +kernel
theorem dX11_plan_39 : decode cX11_plan 39 = .ok (.getfield 259, 3) := by decide +kernel
theorem dX11_plan_42 : decode cX11_plan 42 = .ok (.if_icmp .ge 108, 3) := by decide +kernel
theorem dX11_plan_45 : decode cX11_plan 45 = .ok (.ldc 186, 2) := by decide +kernel
theorem dX11_plan_47 : decode cX11_plan 47 = .ok (.istore_n 3, 1) := by decide +kernel
theorem dX11_plan_48 : decode cX11_plan 48 = .ok (.iconst 0, 1) := by decide +kernel
theorem dX11_plan_49 : decode cX11_plan 49 = .ok (.istore 4, 2) := by decide +kernel
theorem dX11_plan_51 : decode cX11_plan 51 = .ok (.iload 4, 2) := by decide +kernel
theorem dX11_plan_53 : decode cX11_plan 53 = .ok (.aload_n 0, 1) := by decide +kernel
theorem dX11_plan_54 : decode cX11_plan 54 = .ok (.getfield 250, 3) := by decide +kernel
theorem dX11_plan_57 : decode cX11_plan 57 = .ok (.if_icmp .ge 48, 3) := by decide +kernel
theorem dX11_plan_60 : decode cX11_plan 60 = .ok (.aload_n 0, 1) := by decide +kernel
theorem dX11_plan_61 : decode cX11_plan 61 = .ok (.getfield 96, 3) := by decide +kernel
theorem dX11_plan_64 : decode cX11_plan 64 = .ok (.iload 4, 2) := by decide +kernel
theorem dX11_plan_66 : decode cX11_plan 66 = .ok (.iaload, 1) := by decide +kernel
theorem dX11_plan_67 : decode cX11_plan 67 = .ok (.aload_n 0, 1) := by decide +kernel
theorem dX11_plan_68 : decode cX11_plan 68 = .ok (.getfield 99, 3) := by decide +kernel
theorem dX11_plan_71 : decode cX11_plan 71 = .ok (.iload_n 2, 1) := by decide +kernel
theorem dX11_plan_72 : decode cX11_plan 72 = .ok (.iaload, 1) := by decide +kernel
theorem dX11_plan_73 : decode cX11_plan 73 = .ok (.if_icmp .lt 26, 3) := by decide +kernel
theorem dX11_plan_76 : decode cX11_plan 76 = .ok (.iload_n 3, 1) := by decide +kernel
theorem dX11_plan_77 : decode cX11_plan 77 = .ok (.ldc 186, 2) := by decide +kernel
theorem dX11_plan_79 : decode cX11_plan 79 = .ok (.if_icmp .eq 17, 3) := by decide +kernel
theorem dX11_plan_82 : decode cX11_plan 82 = .ok (.aload_n 0, 1) := by decide +kernel
theorem dX11_plan_83 : decode cX11_plan 83 = .ok (.iload 4, 2) := by decide +kernel
theorem dX11_plan_85 : decode cX11_plan 85 = .ok (.invokevirtual 265, 3) := by decide +kernel
theorem dX11_plan_88 : decode cX11_plan 88 = .ok (.aload_n 0, 1) := by decide +kernel
theorem dX11_plan_89 : decode cX11_plan 89 = .ok (.iload_n 3, 1) := by decide +kernel
theorem dX11_plan_90 : decode cX11_plan 90 = .ok (.invokevirtual 265, 3) := by decide +kernel
theorem dX11_plan_93 : decode cX11_plan 93 = .ok (.if_icmp .ge 6, 3) := by decide +kernel
theorem dX11_plan_96 : decode cX11_plan 96 = .ok (.iload 4, 2) := by decide +kernel
theorem dX11_plan_98 : decode cX11_plan 98 = .ok (.istore_n 3, 1) := by decide +kernel
theorem dX11_plan_99 : decode cX11_plan 99 = .ok (.iinc 4 1, 3) := by decide +kernel
theorem dX11_plan_102 : decode cX11_plan 102 = .ok (.goto (-51), 3) := by decide +kernel
theorem dX11_plan_105 : decode cX11_plan 105 = .ok (.iload_n 3, 1) := by decide +kernel
theorem dX11_plan_106 : decode cX11_plan 106 = .ok (.ldc 186, 2) := by decide +kernel
theorem dX11_plan_108 : decode cX11_plan 108 = .ok (.if_icmp .ne 9, 3) := by decide +kernel
theorem dX11_plan_111 : decode cX11_plan 111 = .ok (.iinc 1 1, 3) := by decide +kernel
theorem dX11_plan_114 : decode cX11_plan 114 = .ok (.goto 30, 3) := by decide +kernel
theorem dX11_plan_117 : decode cX11_plan 117 = .ok (.aload_n 0, 1) := by decide +kernel
theorem dX11_plan_118 : decode cX11_plan 118 = .ok (.getfield 108, 3) := by decide +kernel
theorem dX11_plan_121 : decode cX11_plan 121 = .ok (.bipush 12, 2) := by decide +kernel
theorem dX11_plan_123 : decode cX11_plan 123 = .ok (.iload_n 3, 1) := by decide +kernel
theorem dX11_plan_124 : decode cX11_plan 124 = .ok (.imul, 1) := by decide +kernel
theorem dX11_plan_125 : decode cX11_plan 125 = .ok (.aload_n 0, 1) := by decide +kernel
theorem dX11_plan_126 : decode cX11_plan 126 = .ok (.getfield 111, 3) := by decide +kernel
theorem dX11_plan_129 : decode cX11_plan 129 = .ok (.iload_n 3, 1) := by decide +kernel
theorem dX11_plan_130 : decode cX11_plan 130 = .ok (.iaload, 1) := by decide +kernel
theorem dX11_plan_131 : decode cX11_plan 131 = .ok (.iadd, 1) := by decide +kernel
theorem dX11_plan_132 : decode cX11_plan 132 = .ok (.iload_n 2, 1) := by decide +kernel
theorem dX11_plan_133 : decode cX11_plan 133 = .ok (.iastore, 1) := by decide +kernel
theorem dX11_plan_134 : decode cX11_plan 134 = .ok (.aload_n 0, 1) := by decide +kernel
theorem dX11_plan_135 : decode cX11_plan 135 = .ok (.getfield 111, 3) := by decide +kernel
theorem dX11_plan_138 : decode cX11_plan 138 = .ok (.iload_n 3, 1) := by decide +kernel
theorem dX11_plan_139 : decode cX11_plan 139 = .ok (.dup2, 1) := by decide +kernel
theorem dX11_plan_140 : decode cX11_plan 140 = .ok (.iaload, 1) := by decide +kernel
theorem dX11_plan_141 : decode cX11_plan 141 = .ok (.iconst 1, 1) := by decide +kernel
theorem dX11_plan_142 : decode cX11_plan 142 = .ok (.iadd, 1) := by decide +kernel
theorem dX11_plan_143 : decode cX11_plan 143 = .ok (.iastore, 1) := by decide +kernel
theorem dX11_plan_144 : decode cX11_plan 144 = .ok (.iinc 2 1, 3) := by decide +kernel
theorem dX11_plan_147 : decode cX11_plan 147 = .ok (.goto (-110), 3) := by decide +kernel
theorem dX11_plan_150 : decode cX11_plan 150 = .ok (.iconst 0, 1) := by decide +kernel
theorem dX11_plan_151 : decode cX11_plan 151 = .ok (.istore_n 2, 1) := by decide +kernel
theorem dX11_plan_152 : decode cX11_plan 152 = .ok (.iload_n 2, 1) := by decide +kernel
theorem dX11_plan_153 : decode cX11_plan 153 = .ok (.aload_n 0, 1) := by decide +kernel
theorem dX11_plan_154 : decode cX11_plan 154 = .ok (.getfield 250, 3) := by decide +kernel
theorem dX11_plan_157 : decode cX11_plan 157 = .ok (.if_icmp .ge 14, 3) := by decide +kernel
theorem dX11_plan_160 : decode cX11_plan 160 = .ok (.aload_n 0, 1) := by decide +kernel
theorem dX11_plan_161 : decode cX11_plan 161 = .ok (.iload_n 2, 1) := by decide +kernel
theorem dX11_plan_162 : decode cX11_plan 162 = .ok (.invokevirtual 268, 3) := by decide +kernel
theorem dX11_plan_165 : decode cX11_plan 165 = .ok (.iinc 2 1, 3) := by decide +kernel
theorem dX11_plan_168 : decode cX11_plan 168 = .ok (.goto (-16), 3) := by decide +kernel
theorem dX11_plan_171 : decode cX11_plan 171 = .ok (.iload_n 1, 1) := by decide +kernel
theorem dX11_plan_172 : decode cX11_plan 172 = .ok (.ireturn, 1) := by decide +kernel
theorem dX11_planned_0 : decode cX11_planned 0 = .ok (.aload_n 0, 1) := by decide +kernel
theorem dX11_planned_1 : decode cX11_planned 1 = .ok (.iconst 0, 1) := by decide +kernel
theorem dX11_planned_2 : decode cX11_planned 2 = .ok (.putfield 124, 3) := by decide +kernel
theorem dX11_planned_5 : decode cX11_planned 5 = .ok (.iload_n 1, 1) := by decide +kernel
theorem dX11_planned_6 : decode cX11_planned 6 = .ok (.i2l, 1) := by decide +kernel
theorem dX11_planned_7 : decode cX11_planned 7 = .ok (.lconst 0, 1) := by decide +kernel
theorem dX11_planned_8 : decode cX11_planned 8 = .ok (.aload_n 0, 1) := by decide +kernel
theorem dX11_planned_9 : decode cX11_planned 9 = .ok (.getfield 250, 3) := by decide +kernel
theorem dX11_planned_12 : decode cX11_planned 12 = .ok (.iconst 1, 1) := by decide +kernel
theorem dX11_planned_13 : decode cX11_planned 13 = .ok (.isub, 1) := by decide +kernel
theorem dX11_planned_14 : decode cX11_planned 14 = .ok (.i2l, 1) := by decide +kernel
theorem dX11_planned_15 : decode cX11_planned 15 = .ok (.invokestatic 134, 3) := by decide +kernel
theorem dX11_planned_18 : decode cX11_planned 18 = .ok (.ifCond .ne 6, 3) := by decide +kernel
theorem dX11_planned_21 : decode cX11_planned 21 = .ok (.ldc 144, 2) := by decide +kernel
theorem dX11_planned_23 : decode cX11_planned 23 = .ok (.ireturn, 1) := by decide +kernel
theorem dX11_planned_24 : decode cX11_planned 24 = .ok (.aload_n 0, 1) := by decide +kernel
theorem dX11_planned_25 : decode cX11_planned 25 = .ok (.getfield 253, 3) := by decide +kernel
theorem dX11_planned_28 : decode cX11_planned 28 = .ok (.ifCond .eq 35, 3) := by decide +kernel
theorem dX11_planned_31 : decode cX11_planned 31 = .ok (.iload_n 2, 1) := by decide +kernel
theorem dX11_planned_32 : decode cX11_planned 32 = .ok (.i2l, 1) := by decide +kernel
theorem dX11_planned_33 : decode cX11_planned 33 = .ok (.lconst 0, 1) := by decide +kernel
theorem dX11_planned_34 : decode cX11_planned 34 = .ok (.aload_n 0, 1) := by decide +kernel
theorem dX11_planned_35 : decode cX11_planned 35 = .ok (.getfield 111, 3) := by decide +kernel
theorem dX11_planned_38 : decode cX11_planned 38 = .ok (.iload_n 1, 1) := by decide +kernel
theorem dX11_planned_39 : decode cX11_planned 39 = .ok (.iaload, 1) := by decide +kernel
theorem dX11_planned_40 : decode cX11_planned 40 = .ok (.iconst 1, 1) := by decide +kernel
theorem dX11_planned_41 : decode cX11_planned 41 = .ok (.isub, 1) := by decide +kernel
theorem dX11_planned_42 : decode cX11_planned 42 = .ok (.i2l, 1) := by decide +kernel
theorem dX11_planned_43 : decode cX11_planned 43 = .ok (.invokestatic 134, 3) := by decide +kernel
theorem dX11_planned_46 : decode cX11_planned 46 = .ok (.ifCond .eq 17, 3) := by decide +kernel
theorem dX11_planned_49 : decode cX11_planned 49 = .ok (.aload_n 0, 1) := by decide +kernel
theorem dX11_planned_50 : decode cX11_planned 50 = .ok (.getfield 108, 3) := by decide +kernel
theorem dX11_planned_53 : decode cX11_planned 53 = .ok (.bipush 12, 2) := by decide +kernel
theorem dX11_planned_55 : decode cX11_planned 55 = .ok (.iload_n 1, 1) := by decide +kernel
theorem dX11_planned_56 : decode cX11_planned 56 = .ok (.imul, 1) := by decide +kernel
theorem dX11_planned_57 : decode cX11_planned 57 = .ok (.iload_n 2, 1) := by decide +kernel
theorem dX11_planned_58 : decode cX11_planned 58 = .ok (.iadd, 1) := by decide +kernel
theorem dX11_planned_59 : decode cX11_planned 59 = .ok (.iaload, 1) := by decide +kernel
theorem dX11_planned_60 : decode cX11_planned 60 = .ok (.goto 5, 3) := by decide +kernel
theorem dX11_planned_63 : decode cX11_planned 63 = .ok (.ldc 186, 2) := by decide +kernel
theorem dX11_planned_65 : decode cX11_planned 65 = .ok (.ireturn, 1) := by decide +kernel
theorem dX11_load_0 : decode cX11_load 0 = .ok (.aload_n 0, 1) := by decide +kernel
theorem dX11_load_1 : decode cX11_load 1 = .ok (.iconst 0, 1) := by decide +kernel
theorem dX11_load_2 : decode cX11_load 2 = .ok (.putfield 124, 3) := by decide +kernel
theorem dX11_load_5 : decode cX11_load 5 = .ok (.iload_n 1, 1) := by decide +kernel
theorem dX11_load_6 : decode cX11_load 6 = .ok (.i2l, 1) := by decide +kernel
theorem dX11_load_7 : decode cX11_load 7 = .ok (.lconst 0, 1) := by decide +kernel
theorem dX11_load_8 : decode cX11_load 8 = .ok (.aload_n 0, 1) := by decide +kernel
theorem dX11_load_9 : decode cX11_load 9 = .ok (.getfield 250, 3) := by decide +kernel
theorem dX11_load_12 : decode cX11_load 12 = .ok (.iconst 1, 1) := by decide +kernel
theorem dX11_load_13 : decode cX11_load 13 = .ok (.isub, 1) := by decide +kernel
theorem dX11_load_14 : decode cX11_load 14 = .ok (.i2l, 1) := by decide +kernel
theorem dX11_load_15 : decode cX11_load 15 = .ok (.invokestatic 134, 3) := by decide +kernel
theorem dX11_load_18 : decode cX11_load 18 = .ok (.ifCond .eq 15, 3) := by decide +kernel
theorem dX11_load_21 : decode cX11_load 21 = .ok (.iload_n 2, 1) := by decide +kernel
theorem dX11_load_22 : decode cX11_load 22 = .ok (.i2l, 1) := by decide +kernel
theorem dX11_load_23 : decode cX11_load 23 = .ok (.lconst 0, 1) := by decide +kernel
theorem dX11_load_24 : decode cX11_load 24 = .ok (.ldc2_w 142, 3) := by decide +kernel
theorem dX11_load_27 : decode cX11_load 27 = .ok (.invokestatic 134, 3) := by decide +kernel
theorem dX11_load_30 : decode cX11_load 30 = .ok (.ifCond .ne 6, 3) := by decide +kernel
theorem dX11_load_33 : decode cX11_load 33 = .ok (.ldc 144, 2) := by decide +kernel
theorem dX11_load_35 : decode cX11_load 35 = .ok (.ireturn, 1) := by decide +kernel
theorem dX11_load_36 : decode cX11_load 36 = .ok (.aload_n 0, 1) := by decide +kernel
theorem dX11_load_37 : decode cX11_load 37 = .ok (.getfield 253, 3) := by decide +kernel
theorem dX11_load_40 : decode cX11_load 40 = .ok (.ifCond .ne 7, 3) := by decide +kernel
theorem dX11_load_43 : decode cX11_load 43 = .ok (.iconst 0, 1) := by decide +kernel
theorem dX11_load_44 : decode cX11_load 44 = .ok (.goto 35, 3) := by decide +kernel
theorem dX11_load_47 : decode cX11_load 47 = .ok (.iload_n 2, 1) := by decide +kernel
theorem dX11_load_48 : decode cX11_load 48 = .ok (.ifCond .ne 12, 3) := by decide +kernel
theorem dX11_load_51 : decode cX11_load 51 = .ok (.aload_n 0, 1) := by decide +kernel
theorem dX11_load_52 : decode cX11_load 52 = .ok (.getfield 111, 3) := by decide +kernel
theorem dX11_load_55 : decode cX11_load 55 = .ok (.iload_n 1, 1) := by decide +kernel
theorem dX11_load_56 : decode cX11_load 56 = .ok (.iaload, 1) := by decide +kernel
theorem dX11_load_57 : decode cX11_load 57 = .ok (.goto 22, 3) := by decide +kernel
theorem dX11_load_60 : decode cX11_load 60 = .ok (.iload_n 2, 1) := by decide +kernel
theorem dX11_load_61 : decode cX11_load 61 = .ok (.iconst 1, 1) := by decide +kernel
theorem dX11_load_62 : decode cX11_load 62 = .ok (.if_icmp .ne 11, 3) := by decide +kernel
theorem dX11_load_65 : decode cX11_load 65 = .ok (.aload_n 0, 1) := by decide +kernel
theorem dX11_load_66 : decode cX11_load 66 = .ok (.iload_n 1, 1) := by decide +kernel
theorem dX11_load_67 : decode cX11_load 67 = .ok (.invokevirtual 265, 3) := by decide +kernel
theorem dX11_load_70 : decode cX11_load 70 = .ok (.goto 9, 3) := by decide +kernel
theorem dX11_load_73 : decode cX11_load 73 = .ok (.aload_n 0, 1) := by decide +kernel
theorem dX11_load_74 : decode cX11_load 74 = .ok (.getfield 114, 3) := by decide +kernel
theorem dX11_load_77 : decode cX11_load 77 = .ok (.iload_n 1, 1) := by decide +kernel
theorem dX11_load_78 : decode cX11_load 78 = .ok (.iaload, 1) := by decide +kernel
theorem dX11_load_79 : decode cX11_load 79 = .ok (.ireturn, 1) := by decide +kernel
theorem dX11_count_0 : decode cX11_count 0 = .ok (.aload_n 0, 1) := by decide +kernel
theorem dX11_count_1 : decode cX11_count 1 = .ok (.iconst 0, 1) := by decide +kernel
theorem dX11_count_2 : decode cX11_count 2 = .ok (.putfield 124, 3) := by decide +kernel
theorem dX11_count_5 : decode cX11_count 5 = .ok (.iconst 0, 1) := by decide +kernel
theorem dX11_count_6 : decode cX11_count 6 = .ok (.istore_n 2, 1) := by decide +kernel
theorem dX11_count_7 : decode cX11_count 7 = .ok (.iload_n 1, 1) := by decide +kernel
theorem dX11_count_8 : decode cX11_count 8 = .ok (.tableswitch 131 0 6 #[44, 77, 77, 77, 116, 121, 126], 44) := by decide +kernel
theorem dX11_count_52 : decode cX11_count 52 = .ok (.iconst 0, 1) := by decide +kernel
theorem dX11_count_53 : decode cX11_count 53 = .ok (.istore_n 3, 1) := by decide +kernel
theorem dX11_count_54 : decode cX11_count 54 = .ok (.iload_n 3, 1) := by decide +kernel
theorem dX11_count_55 : decode cX11_count 55 = .ok (.bipush 8, 2) := by decide +kernel
theorem dX11_count_57 : decode cX11_count 57 = .ok (.if_icmp .ge 26, 3) := by decide +kernel
theorem dX11_count_60 : decode cX11_count 60 = .ok (.iload_n 2, 1) := by decide +kernel
theorem dX11_count_61 : decode cX11_count 61 = .ok (.aload_n 0, 1) := by decide +kernel
theorem dX11_count_62 : decode cX11_count 62 = .ok (.getfield 7, 3) := by decide +kernel
theorem dX11_count_65 : decode cX11_count 65 = .ok (.iload_n 3, 1) := by decide +kernel
theorem dX11_count_66 : decode cX11_count 66 = .ok (.iaload, 1) := by decide +kernel
theorem dX11_count_67 : decode cX11_count 67 = .ok (.ifCond .lt 7, 3) := by decide +kernel
theorem dX11_count_70 : decode cX11_count 70 = .ok (.iconst 1, 1) := by decide +kernel
theorem dX11_count_71 : decode cX11_count 71 = .ok (.goto 4, 3) := by decide +kernel
theorem dX11_count_74 : decode cX11_count 74 = .ok (.iconst 0, 1) := by decide +kernel
theorem dX11_count_75 : decode cX11_count 75 = .ok (.iadd, 1) := by decide +kernel
theorem dX11_count_76 : decode cX11_count 76 = .ok (.istore_n 2, 1) := by decide +kernel
theorem dX11_count_77 : decode cX11_count 77 = .ok (.iinc 3 1, 3) := by decide +kernel
theorem dX11_count_80 : decode cX11_count 80 = .ok (.goto (-26), 3) := by decide +kernel
theorem dX11_count_83 : decode cX11_count 83 = .ok (.iload_n 2, 1) := by decide +kernel
theorem dX11_count_84 : decode cX11_count 84 = .ok (.ireturn, 1) := by decide +kernel
theorem dX11_count_85 : decode cX11_count 85 = .ok (.iconst 0, 1) := by decide +kernel
theorem dX11_count_86 : decode cX11_count 86 = .ok (.istore_n 3, 1) := by decide +kernel
theorem dX11_count_87 : decode cX11_count 87 = .ok (.iload_n 3, 1) := by decide +kernel
theorem dX11_count_88 : decode cX11_count 88 = .ok (.bipush 10, 2) := by decide +kernel
theorem dX11_count_90 : decode cX11_count 90 = .ok (.if_icmp .ge 32, 3) := by decide +kernel
theorem dX11_count_93 : decode cX11_count 93 = .ok (.iload_n 2, 1) := by decide +kernel
theorem dX11_count_94 : decode cX11_count 94 = .ok (.aload_n 0, 1) := by decide +kernel
theorem dX11_count_95 : decode cX11_count 95 = .ok (.getfield 20, 3) := by decide +kernel
theorem dX11_count_98 : decode cX11_count 98 = .ok (.iload_n 3, 1) := by decide +kernel
theorem dX11_count_99 : decode cX11_count 99 = .ok (.iaload, 1) := by decide +kernel
theorem dX11_count_100 : decode cX11_count 100 = .ok (.iload_n 1, 1) := by decide +kernel
theorem dX11_count_101 : decode cX11_count 101 = .ok (.iconst 1, 1) := by decide +kernel
theorem dX11_count_102 : decode cX11_count 102 = .ok (.isub, 1) := by decide +kernel
theorem dX11_count_103 : decode cX11_count 103 = .ok (.invokestatic 169, 3) := by decide +kernel
theorem dX11_count_106 : decode cX11_count 106 = .ok (.ifCond .eq 7, 3) := by decide +kernel
theorem dX11_count_109 : decode cX11_count 109 = .ok (.iconst 1, 1) := by decide +kernel
theorem dX11_count_110 : decode cX11_count 110 = .ok (.goto 4, 3) := by decide +kernel
theorem dX11_count_113 : decode cX11_count 113 = .ok (.iconst 0, 1) := by decide +kernel
theorem dX11_count_114 : decode cX11_count 114 = .ok (.iadd, 1) := by decide +kernel
theorem dX11_count_115 : decode cX11_count 115 = .ok (.istore_n 2, 1) := by decide +kernel
theorem dX11_count_116 : decode cX11_count 116 = .ok (.iinc 3 1, 3) := by decide +kernel
theorem dX11_count_119 : decode cX11_count 119 = .ok (.goto (-32), 3) := by decide +kernel
theorem dX11_count_122 : decode cX11_count 122 = .ok (.iload_n 2, 1) := by decide +kernel
theorem dX11_count_123 : decode cX11_count 123 = .ok (.ireturn, 1) := by decide +kernel
theorem dX11_count_124 : decode cX11_count 124 = .ok (.aload_n 0, 1) := by decide +kernel
theorem dX11_count_125 : decode cX11_count 125 = .ok (.getfield 218, 3) := by decide +kernel
theorem dX11_count_128 : decode cX11_count 128 = .ok (.ireturn, 1) := by decide +kernel
theorem dX11_count_129 : decode cX11_count 129 = .ok (.aload_n 0, 1) := by decide +kernel
theorem dX11_count_130 : decode cX11_count 130 = .ok (.getfield 250, 3) := by decide +kernel
theorem dX11_count_133 : decode cX11_count 133 = .ok (.ireturn, 1) := by decide +kernel
theorem dX11_count_134 : decode cX11_count 134 = .ok (.aload_n 0, 1) := by decide +kernel
theorem dX11_count_135 : decode cX11_count 135 = .ok (.getfield 259, 3) := by decide +kernel
theorem dX11_count_138 : decode cX11_count 138 = .ok (.ireturn, 1) := by decide +kernel
theorem dX11_count_139 : decode cX11_count 139 = .ok (.ldc 144, 2) := by decide +kernel
theorem dX11_count_141 : decode cX11_count 141 = .ok (.ireturn, 1) := by decide +kernel
theorem dX11_status_0 : decode cX11_status 0 = .ok (.aload_n 0, 1) := by decide +kernel
theorem dX11_status_1 : decode cX11_status 1 = .ok (.iconst 0, 1) := by decide +kernel
theorem dX11_status_2 : decode cX11_status 2 = .ok (.putfield 124, 3) := by decide +kernel
theorem dX11_status_5 : decode cX11_status 5 = .ok (.aload_n 0, 1) := by decide +kernel
theorem dX11_status_6 : decode cX11_status 6 = .ok (.getfield 128, 3) := by decide +kernel
theorem dX11_status_9 : decode cX11_status 9 = .ok (.ireturn, 1) := by decide +kernel
