variable {p : Program} {l : Launch} {e : Env} {s : State} {m : MethodId} {args : Array Value} {below : List Frame} {meth : Method} {c : Code} {D : va_G} {cA : Nat → ClassId} {oc : gO} {B N : Nat}
theorem d_M_init_0 : decode b_M_init 0 = .ok (.aload_n 0, 1) := by decide +kernel
theorem d_M_init_1 : decode b_M_init 1 = .ok (.invokespecial 1, 3) := by decide +kernel
theorem d_M_init_4 : decode b_M_init 4 = .ok (.aload_n 0, 1) := by decide +kernel
theorem d_M_init_5 : decode b_M_init 5 = .ok (.iconst 0, 1) := by decide +kernel
theorem d_M_init_6 : decode b_M_init 6 = .ok (.putfield 7, 3) := by decide +kernel
theorem d_M_init_9 : decode b_M_init 9 = .ok (.aload_n 0, 1) := by decide +kernel
theorem d_M_init_10 : decode b_M_init 10 = .ok (.bipush 6, 2) := by decide +kernel
theorem d_M_init_12 : decode b_M_init 12 = .ok (.newarray .int, 2) := by decide +kernel
theorem d_M_init_14 : decode b_M_init 14 = .ok (.dup, 1) := by decide +kernel
theorem d_M_init_15 : decode b_M_init 15 = .ok (.iconst 0, 1) := by decide +kernel
theorem d_M_init_16 : decode b_M_init 16 = .ok (.iconst 1, 1) := by decide +kernel
theorem d_M_init_17 : decode b_M_init 17 = .ok (.iastore, 1) := by decide +kernel
theorem d_M_init_18 : decode b_M_init 18 = .ok (.dup, 1) := by decide +kernel
theorem d_M_init_19 : decode b_M_init 19 = .ok (.iconst 1, 1) := by decide +kernel
theorem d_M_init_20 : decode b_M_init 20 = .ok (.iconst 2, 1) := by decide +kernel
theorem d_M_init_21 : decode b_M_init 21 = .ok (.iastore, 1) := by decide +kernel
theorem d_M_init_22 : decode b_M_init 22 = .ok (.dup, 1) := by decide +kernel
theorem d_M_init_23 : decode b_M_init 23 = .ok (.iconst 2, 1) := by decide +kernel
theorem d_M_init_24 : decode b_M_init 24 = .ok (.iconst 5, 1) := by decide +kernel
theorem d_M_init_25 : decode b_M_init 25 = .ok (.iastore, 1) := by decide +kernel
theorem d_M_init_26 : decode b_M_init 26 = .ok (.dup, 1) := by decide +kernel
theorem d_M_init_27 : decode b_M_init 27 = .ok (.iconst 3, 1) := by decide +kernel
theorem d_M_init_28 : decode b_M_init 28 = .ok (.bipush 10, 2) := by decide +kernel
theorem d_M_init_30 : decode b_M_init 30 = .ok (.iastore, 1) := by decide +kernel
theorem d_M_init_31 : decode b_M_init 31 = .ok (.dup, 1) := by decide +kernel
theorem d_M_init_32 : decode b_M_init 32 = .ok (.iconst 4, 1) := by decide +kernel
theorem d_M_init_33 : decode b_M_init 33 = .ok (.bipush 20, 2) := by decide +kernel
theorem d_M_init_35 : decode b_M_init 35 = .ok (.iastore, 1) := by decide +kernel
theorem d_M_init_36 : decode b_M_init 36 = .ok (.dup, 1) := by decide +kernel
theorem d_M_init_37 : decode b_M_init 37 = .ok (.iconst 5, 1) := by decide +kernel
theorem d_M_init_38 : decode b_M_init 38 = .ok (.bipush 50, 2) := by decide +kernel
theorem d_M_init_40 : decode b_M_init 40 = .ok (.iastore, 1) := by decide +kernel
theorem d_M_init_41 : decode b_M_init 41 = .ok (.putfield 13, 3) := by decide +kernel
theorem d_M_init_44 : decode b_M_init 44 = .ok (.aload_n 0, 1) := by decide +kernel
theorem d_M_init_45 : decode b_M_init 45 = .ok (.iconst 4, 1) := by decide +kernel
theorem d_M_init_46 : decode b_M_init 46 = .ok (.newarray .int, 2) := by decide +kernel
theorem d_M_init_48 : decode b_M_init 48 = .ok (.putfield 17, 3) := by decide +kernel
theorem d_M_init_51 : decode b_M_init 51 = .ok (.aload_n 0, 1) := by decide +kernel
theorem d_M_init_52 : decode b_M_init 52 = .ok (.iconst 4, 1) := by decide +kernel
theorem d_M_init_53 : decode b_M_init 53 = .ok (.newarray .int, 2) := by decide +kernel
theorem d_M_init_55 : decode b_M_init 55 = .ok (.putfield 20, 3) := by decide +kernel
theorem d_M_init_58 : decode b_M_init 58 = .ok (.aload_n 0, 1) := by decide +kernel
theorem d_M_init_59 : decode b_M_init 59 = .ok (.iconst 4, 1) := by decide +kernel
theorem d_M_init_60 : decode b_M_init 60 = .ok (.newarray .int, 2) := by decide +kernel
theorem d_M_init_62 : decode b_M_init 62 = .ok (.putfield 23, 3) := by decide +kernel
theorem d_M_init_65 : decode b_M_init 65 = .ok (.aload_n 0, 1) := by decide +kernel
theorem d_M_init_66 : decode b_M_init 66 = .ok (.bipush 16, 2) := by decide +kernel
theorem d_M_init_68 : decode b_M_init 68 = .ok (.newarray .int, 2) := by decide +kernel
theorem d_M_init_70 : decode b_M_init 70 = .ok (.putfield 26, 3) := by decide +kernel
theorem d_M_init_73 : decode b_M_init 73 = .ok (.aload_n 0, 1) := by decide +kernel
theorem d_M_init_74 : decode b_M_init 74 = .ok (.bipush 24, 2) := by decide +kernel
theorem d_M_init_76 : decode b_M_init 76 = .ok (.newarray .int, 2) := by decide +kernel
theorem d_M_init_78 : decode b_M_init 78 = .ok (.putfield 29, 3) := by decide +kernel
theorem d_M_init_81 : decode b_M_init 81 = .ok (.aload_n 0, 1) := by decide +kernel
theorem d_M_init_82 : decode b_M_init 82 = .ok (.bipush 6, 2) := by decide +kernel
theorem d_M_init_84 : decode b_M_init 84 = .ok (.newarray .int, 2) := by decide +kernel
theorem d_M_init_86 : decode b_M_init 86 = .ok (.dup, 1) := by decide +kernel
theorem d_M_init_87 : decode b_M_init 87 = .ok (.iconst 0, 1) := by decide +kernel
theorem d_M_init_88 : decode b_M_init 88 = .ok (.bipush 9, 2) := by decide +kernel
theorem d_M_init_90 : decode b_M_init 90 = .ok (.iastore, 1) := by decide +kernel
theorem d_M_init_91 : decode b_M_init 91 = .ok (.dup, 1) := by decide +kernel
theorem d_M_init_92 : decode b_M_init 92 = .ok (.iconst 1, 1) := by decide +kernel
theorem d_M_init_93 : decode b_M_init 93 = .ok (.bipush 9, 2) := by decide +kernel
theorem d_M_init_95 : decode b_M_init 95 = .ok (.iastore, 1) := by decide +kernel
theorem d_M_init_96 : decode b_M_init 96 = .ok (.dup, 1) := by decide +kernel
theorem d_M_init_97 : decode b_M_init 97 = .ok (.iconst 2, 1) := by decide +kernel
theorem d_M_init_98 : decode b_M_init 98 = .ok (.bipush 9, 2) := by decide +kernel
theorem d_M_init_100 : decode b_M_init 100 = .ok (.iastore, 1) := by decide +kernel
theorem d_M_init_101 : decode b_M_init 101 = .ok (.dup, 1) := by decide +kernel
theorem d_M_init_102 : decode b_M_init 102 = .ok (.iconst 3, 1) := by decide +kernel
theorem d_M_init_103 : decode b_M_init 103 = .ok (.bipush 9, 2) := by decide +kernel
theorem d_M_init_105 : decode b_M_init 105 = .ok (.iastore, 1) := by decide +kernel
theorem d_M_init_106 : decode b_M_init 106 = .ok (.dup, 1) := by decide +kernel
theorem d_M_init_107 : decode b_M_init 107 = .ok (.iconst 4, 1) := by decide +kernel
theorem d_M_init_108 : decode b_M_init 108 = .ok (.bipush 9, 2) := by decide +kernel
theorem d_M_init_110 : decode b_M_init 110 = .ok (.iastore, 1) := by decide +kernel
theorem d_M_init_111 : decode b_M_init 111 = .ok (.dup, 1) := by decide +kernel
theorem d_M_init_112 : decode b_M_init 112 = .ok (.iconst 5, 1) := by decide +kernel
theorem d_M_init_113 : decode b_M_init 113 = .ok (.bipush 9, 2) := by decide +kernel
theorem d_M_init_115 : decode b_M_init 115 = .ok (.iastore, 1) := by decide +kernel
theorem d_M_init_116 : decode b_M_init 116 = .ok (.putfield 32, 3) := by decide +kernel
theorem d_M_init_119 : decode b_M_init 119 = .ok (.aload_n 0, 1) := by decide +kernel
theorem d_M_init_120 : decode b_M_init 120 = .ok (.iconst 0, 1) := by decide +kernel
theorem d_M_init_121 : decode b_M_init 121 = .ok (.putfield 35, 3) := by decide +kernel
theorem d_M_init_124 : decode b_M_init 124 = .ok (.aload_n 0, 1) := by decide +kernel
theorem d_M_init_125 : decode b_M_init 125 = .ok (.iconst (-1), 1) := by decide +kernel
theorem d_M_init_126 : decode b_M_init 126 = .ok (.putfield 38, 3) := by decide +kernel
theorem d_M_init_129 : decode b_M_init 129 = .ok (.aload_n 0, 1) := by decide +kernel
theorem d_M_init_130 : decode b_M_init 130 = .ok (.iconst 0, 1) := by decide +kernel
theorem d_M_init_131 : decode b_M_init 131 = .ok (.putfield 41, 3) := by decide +kernel
theorem d_M_init_134 : decode b_M_init 134 = .ok (.aload_n 0, 1) := by decide +kernel
theorem d_M_init_135 : decode b_M_init 135 = .ok (.iconst 0, 1) := by decide +kernel
theorem d_M_init_136 : decode b_M_init 136 = .ok (.putfield 44, 3) := by decide +kernel
theorem d_M_init_139 : decode b_M_init 139 = .ok (.aload_n 0, 1) := by decide +kernel
theorem d_M_init_140 : decode b_M_init 140 = .ok (.iconst 0, 1) := by decide +kernel
theorem d_M_init_141 : decode b_M_init 141 = .ok (.putfield 47, 3) := by decide +kernel
theorem d_M_init_144 : decode b_M_init 144 = .ok (.aload_n 0, 1) := by decide +kernel
theorem d_M_init_145 : decode b_M_init 145 = .ok (.bipush 100, 2) := by decide +kernel
theorem d_M_init_147 : decode b_M_init 147 = .ok (.newarray .int, 2) := by decide +kernel
theorem d_M_init_149 : decode b_M_init 149 = .ok (.putfield 50, 3) := by decide +kernel
theorem d_M_init_152 : decode b_M_init 152 = .ok (.aload_n 0, 1) := by decide +kernel
theorem d_M_init_153 : decode b_M_init 153 = .ok (.bipush 6, 2) := by decide +kernel
theorem d_M_init_155 : decode b_M_init 155 = .ok (.newarray .int, 2) := by decide +kernel
theorem d_M_init_157 : decode b_M_init 157 = .ok (.putfield 53, 3) := by decide +kernel
theorem d_M_init_160 : decode b_M_init 160 = .ok (.aload_n 0, 1) := by decide +kernel
theorem d_M_init_161 : decode b_M_init 161 = .ok (.bipush 60, 2) := by decide +kernel
theorem d_M_init_163 : decode b_M_init 163 = .ok (.newarray .int, 2) := by decide +kernel
theorem d_M_init_165 : decode b_M_init 165 = .ok (.putfield 56, 3) := by decide +kernel
theorem d_M_init_168 : decode b_M_init 168 = .ok (.aload_n 0, 1) := by decide +kernel
theorem d_M_init_169 : decode b_M_init 169 = .ok (.bipush 60, 2) := by decide +kernel
theorem d_M_init_171 : decode b_M_init 171 = .ok (.newarray .int, 2) := by decide +kernel
theorem d_M_init_173 : decode b_M_init 173 = .ok (.putfield 59, 3) := by decide +kernel
theorem d_M_init_176 : decode b_M_init 176 = .ok (.aload_n 0, 1) := by decide +kernel
theorem d_M_init_177 : decode b_M_init 177 = .ok (.bipush 60, 2) := by decide +kernel
theorem d_M_init_179 : decode b_M_init 179 = .ok (.newarray .int, 2) := by decide +kernel
theorem d_M_init_181 : decode b_M_init 181 = .ok (.putfield 62, 3) := by decide +kernel
theorem d_M_init_184 : decode b_M_init 184 = .ok (.aload_n 0, 1) := by decide +kernel
theorem d_M_init_185 : decode b_M_init 185 = .ok (.bipush 60, 2) := by decide +kernel
theorem d_M_init_187 : decode b_M_init 187 = .ok (.newarray .int, 2) := by decide +kernel
theorem d_M_init_189 : decode b_M_init 189 = .ok (.putfield 65, 3) := by decide +kernel
theorem d_M_init_192 : decode b_M_init 192 = .ok (.aload_n 0, 1) := by decide +kernel
theorem d_M_init_193 : decode b_M_init 193 = .ok (.sipush 600, 3) := by decide +kernel
theorem d_M_init_196 : decode b_M_init 196 = .ok (.newarray .int, 2) := by decide +kernel
theorem d_M_init_198 : decode b_M_init 198 = .ok (.putfield 68, 3) := by decide +kernel
theorem d_M_init_201 : decode b_M_init 201 = .ok (.aload_n 0, 1) := by decide +kernel
theorem d_M_init_202 : decode b_M_init 202 = .ok (.bipush 101, 2) := by decide +kernel
theorem d_M_init_204 : decode b_M_init 204 = .ok (.newarray .int, 2) := by decide +kernel
theorem d_M_init_206 : decode b_M_init 206 = .ok (.putfield 71, 3) := by decide +kernel
theorem d_M_init_209 : decode b_M_init 209 = .ok (.aload_n 0, 1) := by decide +kernel
theorem d_M_init_210 : decode b_M_init 210 = .ok (.iconst 0, 1) := by decide +kernel
theorem d_M_init_211 : decode b_M_init 211 = .ok (.putfield 74, 3) := by decide +kernel
theorem d_M_init_214 : decode b_M_init 214 = .ok (.aload_n 0, 1) := by decide +kernel
theorem d_M_init_215 : decode b_M_init 215 = .ok (.iconst 0, 1) := by decide +kernel
theorem d_M_init_216 : decode b_M_init 216 = .ok (.putfield 77, 3) := by decide +kernel
theorem d_M_init_219 : decode b_M_init 219 = .ok (.aload_n 0, 1) := by decide +kernel
theorem d_M_init_220 : decode b_M_init 220 = .ok (.iconst 0, 1) := by decide +kernel
theorem d_M_init_221 : decode b_M_init 221 = .ok (.putfield 80, 3) := by decide +kernel
theorem d_M_init_224 : decode b_M_init 224 = .ok (.aload_n 0, 1) := by decide +kernel
theorem d_M_init_225 : decode b_M_init 225 = .ok (.bipush 12, 2) := by decide +kernel
theorem d_M_init_227 : decode b_M_init 227 = .ok (.newarray .int, 2) := by decide +kernel
theorem d_M_init_229 : decode b_M_init 229 = .ok (.dup, 1) := by decide +kernel
theorem d_M_init_230 : decode b_M_init 230 = .ok (.iconst 0, 1) := by decide +kernel
theorem d_M_init_231 : decode b_M_init 231 = .ok (.bipush 104, 2) := by decide +kernel
theorem d_M_init_233 : decode b_M_init 233 = .ok (.iastore, 1) := by decide +kernel
theorem d_M_init_234 : decode b_M_init 234 = .ok (.dup, 1) := by decide +kernel
theorem d_M_init_235 : decode b_M_init 235 = .ok (.iconst 1, 1) := by decide +kernel
theorem d_M_init_236 : decode b_M_init 236 = .ok (.bipush 101, 2) := by decide +kernel
theorem d_M_init_238 : decode b_M_init 238 = .ok (.iastore, 1) := by decide +kernel
theorem d_M_init_239 : decode b_M_init 239 = .ok (.dup, 1) := by decide +kernel
theorem d_M_init_240 : decode b_M_init 240 = .ok (.iconst 2, 1) := by decide +kernel
theorem d_M_init_241 : decode b_M_init 241 = .ok (.bipush 102, 2) := by decide +kernel
theorem d_M_init_243 : decode b_M_init 243 = .ok (.iastore, 1) := by decide +kernel
theorem d_M_init_244 : decode b_M_init 244 = .ok (.dup, 1) := by decide +kernel
theorem d_M_init_245 : decode b_M_init 245 = .ok (.iconst 3, 1) := by decide +kernel
theorem d_M_init_246 : decode b_M_init 246 = .ok (.bipush 116, 2) := by decide +kernel
theorem d_M_init_248 : decode b_M_init 248 = .ok (.iastore, 1) := by decide +kernel
theorem d_M_init_249 : decode b_M_init 249 = .ok (.dup, 1) := by decide +kernel
theorem d_M_init_250 : decode b_M_init 250 = .ok (.iconst 4, 1) := by decide +kernel
theorem d_M_init_251 : decode b_M_init 251 = .ok (.bipush 107, 2) := by decide +kernel
theorem d_M_init_253 : decode b_M_init 253 = .ok (.iastore, 1) := by decide +kernel
theorem d_M_init_254 : decode b_M_init 254 = .ok (.dup, 1) := by decide +kernel
theorem d_M_init_255 : decode b_M_init 255 = .ok (.iconst 5, 1) := by decide +kernel
theorem d_M_init_256 : decode b_M_init 256 = .ok (.bipush 101, 2) := by decide +kernel
theorem d_M_init_258 : decode b_M_init 258 = .ok (.iastore, 1) := by decide +kernel
theorem d_M_init_259 : decode b_M_init 259 = .ok (.dup, 1) := by decide +kernel
theorem d_M_init_260 : decode b_M_init 260 = .ok (.bipush 6, 2) := by decide +kernel
theorem d_M_init_262 : decode b_M_init 262 = .ok (.bipush 101, 2) := by decide +kernel
theorem d_M_init_264 : decode b_M_init 264 = .ok (.iastore, 1) := by decide +kernel
theorem d_M_init_265 : decode b_M_init 265 = .ok (.dup, 1) := by decide +kernel
theorem d_M_init_266 : decode b_M_init 266 = .ok (.bipush 7, 2) := by decide +kernel
theorem d_M_init_268 : decode b_M_init 268 = .ok (.bipush 112, 2) := by decide +kernel
theorem d_M_init_270 : decode b_M_init 270 = .ok (.iastore, 1) := by decide +kernel
theorem d_M_init_271 : decode b_M_init 271 = .ok (.dup, 1) := by decide +kernel
theorem d_M_init_272 : decode b_M_init 272 = .ok (.bipush 8, 2) := by decide +kernel
theorem d_M_init_274 : decode b_M_init 274 = .ok (.bipush 109, 2) := by decide +kernel
theorem d_M_init_276 : decode b_M_init 276 = .ok (.iastore, 1) := by decide +kernel
theorem d_M_init_277 : decode b_M_init 277 = .ok (.dup, 1) := by decide +kernel
theorem d_M_init_278 : decode b_M_init 278 = .ok (.bipush 9, 2) := by decide +kernel
theorem d_M_init_280 : decode b_M_init 280 = .ok (.bipush 111, 2) := by decide +kernel
theorem d_M_init_282 : decode b_M_init 282 = .ok (.iastore, 1) := by decide +kernel
theorem d_M_init_283 : decode b_M_init 283 = .ok (.dup, 1) := by decide +kernel
theorem d_M_init_284 : decode b_M_init 284 = .ok (.bipush 10, 2) := by decide +kernel
theorem d_M_init_286 : decode b_M_init 286 = .ok (.bipush 115, 2) := by decide +kernel
theorem d_M_init_288 : decode b_M_init 288 = .ok (.iastore, 1) := by decide +kernel
theorem d_M_init_289 : decode b_M_init 289 = .ok (.dup, 1) := by decide +kernel
theorem d_M_init_290 : decode b_M_init 290 = .ok (.bipush 11, 2) := by decide +kernel
theorem d_M_init_292 : decode b_M_init 292 = .ok (.bipush 116, 2) := by decide +kernel
theorem d_M_init_294 : decode b_M_init 294 = .ok (.iastore, 1) := by decide +kernel
theorem d_M_init_295 : decode b_M_init 295 = .ok (.putfield 83, 3) := by decide +kernel
theorem d_M_init_298 : decode b_M_init 298 = .ok (.aload_n 0, 1) := by decide +kernel
theorem d_M_init_299 : decode b_M_init 299 = .ok (.bipush 100, 2) := by decide +kernel
theorem d_M_init_301 : decode b_M_init 301 = .ok (.newarray .boolean, 2) := by decide +kernel
theorem d_M_init_303 : decode b_M_init 303 = .ok (.putfield 86, 3) := by decide +kernel
theorem d_M_init_306 : decode b_M_init 306 = .ok (.aload_n 0, 1) := by decide +kernel
theorem d_M_init_307 : decode b_M_init 307 = .ok (.bipush 6, 2) := by decide +kernel
theorem d_M_init_309 : decode b_M_init 309 = .ok (.newarray .int, 2) := by decide +kernel
theorem d_M_init_311 : decode b_M_init 311 = .ok (.putfield 90, 3) := by decide +kernel
theorem d_M_init_314 : decode b_M_init 314 = .ok (.aload_n 0, 1) := by decide +kernel
theorem d_M_init_315 : decode b_M_init 315 = .ok (.bipush 6, 2) := by decide +kernel
theorem d_M_init_317 : decode b_M_init 317 = .ok (.newarray .int, 2) := by decide +kernel
theorem d_M_init_319 : decode b_M_init 319 = .ok (.putfield 93, 3) := by decide +kernel
theorem d_M_init_322 : decode b_M_init 322 = .ok (.aload_n 0, 1) := by decide +kernel
theorem d_M_init_323 : decode b_M_init 323 = .ok (.bipush 6, 2) := by decide +kernel
theorem d_M_init_325 : decode b_M_init 325 = .ok (.newarray .int, 2) := by decide +kernel
theorem d_M_init_327 : decode b_M_init 327 = .ok (.putfield 96, 3) := by decide +kernel
theorem d_M_init_330 : decode b_M_init 330 = .ok (.aload_n 0, 1) := by decide +kernel
theorem d_M_init_331 : decode b_M_init 331 = .ok (.bipush 6, 2) := by decide +kernel
theorem d_M_init_333 : decode b_M_init 333 = .ok (.newarray .int, 2) := by decide +kernel
theorem d_M_init_335 : decode b_M_init 335 = .ok (.putfield 99, 3) := by decide +kernel
theorem d_M_init_338 : decode b_M_init 338 = .ok (.aload_n 0, 1) := by decide +kernel
theorem d_M_init_339 : decode b_M_init 339 = .ok (.bipush 6, 2) := by decide +kernel
theorem d_M_init_341 : decode b_M_init 341 = .ok (.newarray .int, 2) := by decide +kernel
theorem d_M_init_343 : decode b_M_init 343 = .ok (.putfield 102, 3) := by decide +kernel
theorem d_M_init_346 : decode b_M_init 346 = .ok (.aload_n 0, 1) := by decide +kernel
theorem d_M_init_347 : decode b_M_init 347 = .ok (.bipush 6, 2) := by decide +kernel
theorem d_M_init_349 : decode b_M_init 349 = .ok (.newarray .int, 2) := by decide +kernel
theorem d_M_init_351 : decode b_M_init 351 = .ok (.putfield 105, 3) := by decide +kernel
theorem d_M_init_354 : decode b_M_init 354 = .ok (.aload_n 0, 1) := by decide +kernel
theorem d_M_init_355 : decode b_M_init 355 = .ok (.iconst 0, 1) := by decide +kernel
theorem d_M_init_356 : decode b_M_init 356 = .ok (.putfield 108, 3) := by decide +kernel
theorem d_M_init_359 : decode b_M_init 359 = .ok (.aload_n 0, 1) := by decide +kernel
theorem d_M_init_360 : decode b_M_init 360 = .ok (.iconst 0, 1) := by decide +kernel
theorem d_M_init_361 : decode b_M_init 361 = .ok (.putfield 111, 3) := by decide +kernel
theorem d_M_init_364 : decode b_M_init 364 = .ok (.aload_n 0, 1) := by decide +kernel
theorem d_M_init_365 : decode b_M_init 365 = .ok (.iconst 0, 1) := by decide +kernel
theorem d_M_init_366 : decode b_M_init 366 = .ok (.putfield 114, 3) := by decide +kernel
theorem d_M_init_369 : decode b_M_init 369 = .ok (.aload_n 0, 1) := by decide +kernel
theorem d_M_init_370 : decode b_M_init 370 = .ok (.bipush 24, 2) := by decide +kernel
theorem d_M_init_372 : decode b_M_init 372 = .ok (.newarray .int, 2) := by decide +kernel
theorem d_M_init_374 : decode b_M_init 374 = .ok (.putfield 117, 3) := by decide +kernel
theorem d_M_init_377 : decode b_M_init 377 = .ok (.aload_n 0, 1) := by decide +kernel
theorem d_M_init_378 : decode b_M_init 378 = .ok (.bipush 6, 2) := by decide +kernel
theorem d_M_init_380 : decode b_M_init 380 = .ok (.newarray .int, 2) := by decide +kernel
theorem d_M_init_382 : decode b_M_init 382 = .ok (.putfield 120, 3) := by decide +kernel
theorem d_M_init_385 : decode b_M_init 385 = .ok (.aload_n 0, 1) := by decide +kernel
theorem d_M_init_386 : decode b_M_init 386 = .ok (.iconst 4, 1) := by decide +kernel
theorem d_M_init_387 : decode b_M_init 387 = .ok (.newarray .int, 2) := by decide +kernel
theorem d_M_init_389 : decode b_M_init 389 = .ok (.putfield 123, 3) := by decide +kernel
theorem d_M_init_392 : decode b_M_init 392 = .ok (.aload_n 0, 1) := by decide +kernel
theorem d_M_init_393 : decode b_M_init 393 = .ok (.iconst 0, 1) := by decide +kernel
theorem d_M_init_394 : decode b_M_init 394 = .ok (.putfield 126, 3) := by decide +kernel
theorem d_M_init_397 : decode b_M_init 397 = .ok (.aload_n 0, 1) := by decide +kernel
theorem d_M_init_398 : decode b_M_init 398 = .ok (.iconst 0, 1) := by decide +kernel
theorem d_M_init_399 : decode b_M_init 399 = .ok (.putfield 129, 3) := by decide +kernel
theorem d_M_init_402 : decode b_M_init 402 = .ok (.aload_n 0, 1) := by decide +kernel
theorem d_M_init_403 : decode b_M_init 403 = .ok (.bipush 61, 2) := by decide +kernel
theorem d_M_init_405 : decode b_M_init 405 = .ok (.newarray .boolean, 2) := by decide +kernel
theorem d_M_init_407 : decode b_M_init 407 = .ok (.putfield 132, 3) := by decide +kernel
theorem d_M_init_410 : decode b_M_init 410 = .ok (.aload_n 0, 1) := by decide +kernel
theorem d_M_init_411 : decode b_M_init 411 = .ok (.iconst 0, 1) := by decide +kernel
theorem d_M_init_412 : decode b_M_init 412 = .ok (.putfield 135, 3) := by decide +kernel
theorem d_M_init_415 : decode b_M_init 415 = .ok (.aload_n 0, 1) := by decide +kernel
theorem d_M_init_416 : decode b_M_init 416 = .ok (.iconst 4, 1) := by decide +kernel
theorem d_M_init_417 : decode b_M_init 417 = .ok (.newarray .int, 2) := by decide +kernel
theorem d_M_init_419 : decode b_M_init 419 = .ok (.putfield 138, 3) := by decide +kernel
theorem d_M_init_422 : decode b_M_init 422 = .ok (.aload_n 0, 1) := by decide +kernel
theorem d_M_init_423 : decode b_M_init 423 = .ok (.iconst 0, 1) := by decide +kernel
theorem d_M_init_424 : decode b_M_init 424 = .ok (.putfield 141, 3) := by decide +kernel
theorem d_M_init_427 : decode b_M_init 427 = .ok (.aload_n 0, 1) := by decide +kernel
theorem d_M_init_428 : decode b_M_init 428 = .ok (.iconst 4, 1) := by decide +kernel
theorem d_M_init_429 : decode b_M_init 429 = .ok (.newarray .int, 2) := by decide +kernel
theorem d_M_init_431 : decode b_M_init 431 = .ok (.putfield 144, 3) := by decide +kernel
theorem d_M_init_434 : decode b_M_init 434 = .ok (.aload_n 0, 1) := by decide +kernel
theorem d_M_init_435 : decode b_M_init 435 = .ok (.iconst 4, 1) := by decide +kernel
theorem d_M_init_436 : decode b_M_init 436 = .ok (.newarray .int, 2) := by decide +kernel
theorem d_M_init_438 : decode b_M_init 438 = .ok (.putfield 147, 3) := by decide +kernel
theorem d_M_init_441 : decode b_M_init 441 = .ok (.aload_n 0, 1) := by decide +kernel
theorem d_M_init_442 : decode b_M_init 442 = .ok (.iconst 0, 1) := by decide +kernel
theorem d_M_init_443 : decode b_M_init 443 = .ok (.putfield 150, 3) := by decide +kernel
theorem d_M_init_446 : decode b_M_init 446 = .ok (.aload_n 0, 1) := by decide +kernel
theorem d_M_init_447 : decode b_M_init 447 = .ok (.bipush 8, 2) := by decide +kernel
theorem d_M_init_449 : decode b_M_init 449 = .ok (.newarray .int, 2) := by decide +kernel
theorem d_M_init_451 : decode b_M_init 451 = .ok (.putfield 153, 3) := by decide +kernel
theorem d_M_init_454 : decode b_M_init 454 = .ok (.aload_n 0, 1) := by decide +kernel
theorem d_M_init_455 : decode b_M_init 455 = .ok (.bipush 8, 2) := by decide +kernel
theorem d_M_init_457 : decode b_M_init 457 = .ok (.newarray .int, 2) := by decide +kernel
theorem d_M_init_459 : decode b_M_init 459 = .ok (.putfield 156, 3) := by decide +kernel
theorem d_M_init_462 : decode b_M_init 462 = .ok (.aload_n 0, 1) := by decide +kernel
theorem d_M_init_463 : decode b_M_init 463 = .ok (.iconst 0, 1) := by decide +kernel
theorem d_M_init_464 : decode b_M_init 464 = .ok (.putfield 159, 3) := by decide +kernel
theorem d_M_init_467 : decode b_M_init 467 = .ok (.aload_n 0, 1) := by decide +kernel
theorem d_M_init_468 : decode b_M_init 468 = .ok (.iconst (-1), 1) := by decide +kernel
theorem d_M_init_469 : decode b_M_init 469 = .ok (.putfield 163, 3) := by decide +kernel
theorem d_M_init_472 : decode b_M_init 472 = .ok (.aload_n 0, 1) := by decide +kernel
theorem d_M_init_473 : decode b_M_init 473 = .ok (.iconst 0, 1) := by decide +kernel
theorem d_M_init_474 : decode b_M_init 474 = .ok (.putfield 166, 3) := by decide +kernel
theorem d_M_init_477 : decode b_M_init 477 = .ok (.aload_n 0, 1) := by decide +kernel
theorem d_M_init_478 : decode b_M_init 478 = .ok (.iconst 0, 1) := by decide +kernel
theorem d_M_init_479 : decode b_M_init 479 = .ok (.putfield 169, 3) := by decide +kernel
theorem d_M_init_482 : decode b_M_init 482 = .ok (.aload_n 0, 1) := by decide +kernel
theorem d_M_init_483 : decode b_M_init 483 = .ok (.iconst 0, 1) := by decide +kernel
theorem d_M_init_484 : decode b_M_init 484 = .ok (.putfield 172, 3) := by decide +kernel
theorem d_M_init_487 : decode b_M_init 487 = .ok (.aload_n 0, 1) := by decide +kernel
theorem d_M_init_488 : decode b_M_init 488 = .ok (.iconst 0, 1) := by decide +kernel
theorem d_M_init_489 : decode b_M_init 489 = .ok (.putfield 175, 3) := by decide +kernel
theorem d_M_init_492 : decode b_M_init 492 = .ok (.aload_n 0, 1) := by decide +kernel
theorem d_M_init_493 : decode b_M_init 493 = .ok (.iconst 4, 1) := by decide +kernel
theorem d_M_init_494 : decode b_M_init 494 = .ok (.newarray .int, 2) := by decide +kernel
theorem d_M_init_496 : decode b_M_init 496 = .ok (.putfield 178, 3) := by decide +kernel
theorem d_M_init_499 : decode b_M_init 499 = .ok (.aload_n 0, 1) := by decide +kernel
theorem d_M_init_500 : decode b_M_init 500 = .ok (.iconst 4, 1) := by decide +kernel
theorem d_M_init_501 : decode b_M_init 501 = .ok (.newarray .int, 2) := by decide +kernel
theorem d_M_init_503 : decode b_M_init 503 = .ok (.putfield 181, 3) := by decide +kernel
theorem d_M_init_506 : decode b_M_init 506 = .ok (.aload_n 0, 1) := by decide +kernel
theorem d_M_init_507 : decode b_M_init 507 = .ok (.iconst 4, 1) := by decide +kernel
theorem d_M_init_508 : decode b_M_init 508 = .ok (.newarray .int, 2) := by decide +kernel
theorem d_M_init_510 : decode b_M_init 510 = .ok (.putfield 184, 3) := by decide +kernel
theorem d_M_init_513 : decode b_M_init 513 = .ok (.aload_n 0, 1) := by decide +kernel
theorem d_M_init_514 : decode b_M_init 514 = .ok (.bipush 16, 2) := by decide +kernel
theorem d_M_init_516 : decode b_M_init 516 = .ok (.newarray .int, 2) := by decide +kernel
theorem d_M_init_518 : decode b_M_init 518 = .ok (.putfield 187, 3) := by decide +kernel
theorem d_M_init_521 : decode b_M_init 521 = .ok (.aload_n 0, 1) := by decide +kernel
theorem d_M_init_522 : decode b_M_init 522 = .ok (.bipush 24, 2) := by decide +kernel
theorem d_M_init_524 : decode b_M_init 524 = .ok (.newarray .int, 2) := by decide +kernel
theorem d_M_init_526 : decode b_M_init 526 = .ok (.putfield 190, 3) := by decide +kernel
theorem d_M_init_529 : decode b_M_init 529 = .ok (.aload_n 0, 1) := by decide +kernel
theorem d_M_init_530 : decode b_M_init 530 = .ok (.bipush 6, 2) := by decide +kernel
theorem d_M_init_532 : decode b_M_init 532 = .ok (.newarray .int, 2) := by decide +kernel
theorem d_M_init_534 : decode b_M_init 534 = .ok (.putfield 193, 3) := by decide +kernel
theorem d_M_init_537 : decode b_M_init 537 = .ok (.aload_n 0, 1) := by decide +kernel
theorem d_M_init_538 : decode b_M_init 538 = .ok (.iconst 4, 1) := by decide +kernel
theorem d_M_init_539 : decode b_M_init 539 = .ok (.newarray .int, 2) := by decide +kernel
theorem d_M_init_541 : decode b_M_init 541 = .ok (.putfield 196, 3) := by decide +kernel
theorem d_M_init_544 : decode b_M_init 544 = .ok (.aload_n 0, 1) := by decide +kernel
theorem d_M_init_545 : decode b_M_init 545 = .ok (.iconst 4, 1) := by decide +kernel
theorem d_M_init_546 : decode b_M_init 546 = .ok (.newarray .int, 2) := by decide +kernel
theorem d_M_init_548 : decode b_M_init 548 = .ok (.putfield 199, 3) := by decide +kernel
theorem d_M_init_551 : decode b_M_init 551 = .ok (.aload_n 0, 1) := by decide +kernel
theorem d_M_init_552 : decode b_M_init 552 = .ok (.iconst 4, 1) := by decide +kernel
theorem d_M_init_553 : decode b_M_init 553 = .ok (.newarray .int, 2) := by decide +kernel
theorem d_M_init_555 : decode b_M_init 555 = .ok (.putfield 202, 3) := by decide +kernel
theorem d_M_init_558 : decode b_M_init 558 = .ok (.aload_n 0, 1) := by decide +kernel
theorem d_M_init_559 : decode b_M_init 559 = .ok (.bipush 8, 2) := by decide +kernel
theorem d_M_init_561 : decode b_M_init 561 = .ok (.newarray .int, 2) := by decide +kernel
theorem d_M_init_563 : decode b_M_init 563 = .ok (.putfield 205, 3) := by decide +kernel
theorem d_M_init_566 : decode b_M_init 566 = .ok (.aload_n 0, 1) := by decide +kernel
theorem d_M_init_567 : decode b_M_init 567 = .ok (.bipush 8, 2) := by decide +kernel
theorem d_M_init_569 : decode b_M_init 569 = .ok (.newarray .int, 2) := by decide +kernel
theorem d_M_init_571 : decode b_M_init 571 = .ok (.putfield 208, 3) := by decide +kernel
theorem d_M_init_574 : decode b_M_init 574 = .ok (.aload_n 0, 1) := by decide +kernel
theorem d_M_init_575 : decode b_M_init 575 = .ok (.iconst 0, 1) := by decide +kernel
theorem d_M_init_576 : decode b_M_init 576 = .ok (.putfield 211, 3) := by decide +kernel
theorem d_M_init_579 : decode b_M_init 579 = .ok (.aload_n 0, 1) := by decide +kernel
theorem d_M_init_580 : decode b_M_init 580 = .ok (.bipush 20, 2) := by decide +kernel
theorem d_M_init_582 : decode b_M_init 582 = .ok (.newarray .int, 2) := by decide +kernel
theorem d_M_init_584 : decode b_M_init 584 = .ok (.putfield 214, 3) := by decide +kernel
theorem d_M_init_587 : decode b_M_init 587 = .ok (.aload_n 0, 1) := by decide +kernel
theorem d_M_init_588 : decode b_M_init 588 = .ok (.bipush 6, 2) := by decide +kernel
theorem d_M_init_590 : decode b_M_init 590 = .ok (.newarray .int, 2) := by decide +kernel
theorem d_M_init_592 : decode b_M_init 592 = .ok (.dup, 1) := by decide +kernel
theorem d_M_init_593 : decode b_M_init 593 = .ok (.iconst 0, 1) := by decide +kernel
theorem d_M_init_594 : decode b_M_init 594 = .ok (.iconst (-1), 1) := by decide +kernel
theorem d_M_init_595 : decode b_M_init 595 = .ok (.iastore, 1) := by decide +kernel
theorem d_M_init_596 : decode b_M_init 596 = .ok (.dup, 1) := by decide +kernel
theorem d_M_init_597 : decode b_M_init 597 = .ok (.iconst 1, 1) := by decide +kernel
theorem d_M_init_598 : decode b_M_init 598 = .ok (.iconst (-1), 1) := by decide +kernel
theorem d_M_init_599 : decode b_M_init 599 = .ok (.iastore, 1) := by decide +kernel
theorem d_M_init_600 : decode b_M_init 600 = .ok (.dup, 1) := by decide +kernel
theorem d_M_init_601 : decode b_M_init 601 = .ok (.iconst 2, 1) := by decide +kernel
theorem d_M_init_602 : decode b_M_init 602 = .ok (.iconst (-1), 1) := by decide +kernel
theorem d_M_init_603 : decode b_M_init 603 = .ok (.iastore, 1) := by decide +kernel
theorem d_M_init_604 : decode b_M_init 604 = .ok (.dup, 1) := by decide +kernel
theorem d_M_init_605 : decode b_M_init 605 = .ok (.iconst 3, 1) := by decide +kernel
theorem d_M_init_606 : decode b_M_init 606 = .ok (.iconst (-1), 1) := by decide +kernel
theorem d_M_init_607 : decode b_M_init 607 = .ok (.iastore, 1) := by decide +kernel
theorem d_M_init_608 : decode b_M_init 608 = .ok (.dup, 1) := by decide +kernel
theorem d_M_init_609 : decode b_M_init 609 = .ok (.iconst 4, 1) := by decide +kernel
theorem d_M_init_610 : decode b_M_init 610 = .ok (.iconst (-1), 1) := by decide +kernel
theorem d_M_init_611 : decode b_M_init 611 = .ok (.iastore, 1) := by decide +kernel
theorem d_M_init_612 : decode b_M_init 612 = .ok (.dup, 1) := by decide +kernel
theorem d_M_init_613 : decode b_M_init 613 = .ok (.iconst 5, 1) := by decide +kernel
theorem d_M_init_614 : decode b_M_init 614 = .ok (.iconst (-1), 1) := by decide +kernel
theorem d_M_init_615 : decode b_M_init 615 = .ok (.iastore, 1) := by decide +kernel
theorem d_M_init_616 : decode b_M_init 616 = .ok (.putfield 217, 3) := by decide +kernel
theorem d_M_init_619 : decode b_M_init 619 = .ok (.aload_n 0, 1) := by decide +kernel
theorem d_M_init_620 : decode b_M_init 620 = .ok (.bipush 6, 2) := by decide +kernel
theorem d_M_init_622 : decode b_M_init 622 = .ok (.newarray .int, 2) := by decide +kernel
theorem d_M_init_624 : decode b_M_init 624 = .ok (.putfield 220, 3) := by decide +kernel
theorem d_M_init_627 : decode b_M_init 627 = .ok (.aload_n 0, 1) := by decide +kernel
theorem d_M_init_628 : decode b_M_init 628 = .ok (.sipush 360, 3) := by decide +kernel
theorem d_M_init_631 : decode b_M_init 631 = .ok (.newarray .long, 2) := by decide +kernel
theorem d_M_init_633 : decode b_M_init 633 = .ok (.putfield 223, 3) := by decide +kernel
theorem d_M_init_636 : decode b_M_init 636 = .ok (.aload_n 0, 1) := by decide +kernel
theorem d_M_init_637 : decode b_M_init 637 = .ok (.bipush 60, 2) := by decide +kernel
theorem d_M_init_639 : decode b_M_init 639 = .ok (.newarray .long, 2) := by decide +kernel
theorem d_M_init_641 : decode b_M_init 641 = .ok (.putfield 227, 3) := by decide +kernel
theorem d_M_init_644 : decode b_M_init 644 = .ok (.return_, 1) := by decide +kernel
set_option maxRecDepth 20000 in
theorem c_M_init_b0 {r : Unit} {wz : gW} (C : gC p s m args meth c "RidCoppersModel" b_M_init 1 none D cA oc B) (hin : meth.name = "<init>") (a0 : Nat) (w : gW) {ls : Array Slot} {H : Heap} {locs : List Loc} (hl : lv_has ls 1 [(0, .ref (B + a0))]) (hf : f_M_init_b0 N a0 w = some (r, wz)) (hR : gRep D cA B w H) (hS : va_S (gA B) s.heap H locs) : W p l e ({ frames := 1, cells := 48, slots := 1920, locals := 60 } : Room) s m args below meth c H locs 0 0 (MQ below (gQv D cA B r wz) args s 48 1920 (gA B)) (F0 m 0 ls []) := by
  obtain ⟨hx, hb, hml, hown, hts, hr, hlocks, hK, hBs⟩ := id C
  unfold f_M_init_b0 at hf
  refine lv_aload_n hx hb d_M_init_0 rfl (lv_at hl 0 rfl) ?_
  refine W.objInit hx hb hown (hts _ m_981) (hts _ m_28) (hts _ m_29) rfl (by rw [hml]; exact hl.1) rfl d_M_init_1 (Nat.le_of_ble_eq_true rfl) (Nat.le_of_ble_eq_true rfl) ?_
  refine W.eq (g2 := F0 m 4 ls []) rfl ?_
  refine lv_aload_n hx hb d_M_init_4 rfl (lv_at hl 0 rfl) ?_
  refine lv_iconst (v := 0) hx hb d_M_init_5 (by decide) ?_
  have ⟨h1, hf⟩ := gd_e hf
  refine g_putI hx hb hts hown hK hR hS pf_M_7 (fun _ => rfl) rfl rfl h1 d_M_init_6 (fun H locs hR hS => ?_)
  refine g_nW hf hR (fun w2 hf hR => ?_)
  refine lv_aload_n hx hb d_M_init_9 rfl (lv_at hl 0 rfl) ?_
  refine lv_bipush (v := 6) hx hb d_M_init_10 (by decide) ?_
  refine g_newa (kd := 50) (N := 6) hx hb hts hK hR hS (by decide) rfl m_81 (by decide) rfl (Nat.le_of_ble_eq_true rfl) (Nat.le_of_ble_eq_true rfl) (Nat.le_of_ble_eq_true rfl) d_M_init_12 (fun H hR hS => ?_)
  refine g_nA hf (fun p3 hf => ?_)
  refine g_nW hf hR (fun w4 hf hR => ?_)
  refine lv_dup hx hb d_M_init_14 rfl ?_
  refine lv_iconst (v := 0) hx hb d_M_init_15 (by decide) ?_
  refine lv_iconst (v := 1) hx hb d_M_init_16 (by decide) ?_
  have ⟨h5, hf⟩ := gd_e hf
  have ⟨h6, hf⟩ := gd_e hf
  refine g_iast hx hb hK hR hS h5 h6 d_M_init_17 (fun H locs hR hS => ?_)
  refine g_nW hf hR (fun w7 hf hR => ?_)
  refine lv_dup hx hb d_M_init_18 rfl ?_
  refine lv_iconst (v := 1) hx hb d_M_init_19 (by decide) ?_
  refine lv_iconst (v := 2) hx hb d_M_init_20 (by decide) ?_
  have ⟨h8, hf⟩ := gd_e hf
  have ⟨h9, hf⟩ := gd_e hf
  refine g_iast hx hb hK hR hS h8 h9 d_M_init_21 (fun H locs hR hS => ?_)
  refine g_nW hf hR (fun w10 hf hR => ?_)
  refine lv_dup hx hb d_M_init_22 rfl ?_
  refine lv_iconst (v := 2) hx hb d_M_init_23 (by decide) ?_
  refine lv_iconst (v := 5) hx hb d_M_init_24 (by decide) ?_
  have ⟨h11, hf⟩ := gd_e hf
  have ⟨h12, hf⟩ := gd_e hf
  refine g_iast hx hb hK hR hS h11 h12 d_M_init_25 (fun H locs hR hS => ?_)
  refine g_nW hf hR (fun w13 hf hR => ?_)
  refine lv_dup hx hb d_M_init_26 rfl ?_
  refine lv_iconst (v := 3) hx hb d_M_init_27 (by decide) ?_
  refine lv_bipush (v := 10) hx hb d_M_init_28 (by decide) ?_
  have ⟨h14, hf⟩ := gd_e hf
  have ⟨h15, hf⟩ := gd_e hf
  refine g_iast hx hb hK hR hS h14 h15 d_M_init_30 (fun H locs hR hS => ?_)
  refine g_nW hf hR (fun w16 hf hR => ?_)
  refine lv_dup hx hb d_M_init_31 rfl ?_
  refine lv_iconst (v := 4) hx hb d_M_init_32 (by decide) ?_
  refine lv_bipush (v := 20) hx hb d_M_init_33 (by decide) ?_
  have ⟨h17, hf⟩ := gd_e hf
  have ⟨h18, hf⟩ := gd_e hf
  refine g_iast hx hb hK hR hS h17 h18 d_M_init_35 (fun H locs hR hS => ?_)
  refine g_nW hf hR (fun w19 hf hR => ?_)
  refine lv_dup hx hb d_M_init_36 rfl ?_
  refine lv_iconst (v := 5) hx hb d_M_init_37 (by decide) ?_
  refine lv_bipush (v := 50) hx hb d_M_init_38 (by decide) ?_
  have ⟨h20, hf⟩ := gd_e hf
  have ⟨h21, hf⟩ := gd_e hf
  refine g_iast hx hb hK hR hS h20 h21 d_M_init_40 (fun H locs hR hS => ?_)
  refine g_nW hf hR (fun w22 hf hR => ?_)
  have ⟨h23, hf⟩ := gd_e hf
  refine g_putFR hx hb hts hown hK hR hS pf_M_13 hin (fun _ => rfl) (fun _ => rfl) (fun _ => rfl) h23 d_M_init_41 (fun H locs hR hS => ?_)
  refine g_nW hf hR (fun w24 hf hR => ?_)
  refine lv_aload_n hx hb d_M_init_44 rfl (lv_at hl 0 rfl) ?_
  refine lv_iconst (v := 4) hx hb d_M_init_45 (by decide) ?_
  refine g_newa (kd := 50) (N := 4) hx hb hts hK hR hS (by decide) rfl m_81 (by decide) rfl (Nat.le_of_ble_eq_true rfl) (Nat.le_of_ble_eq_true rfl) (Nat.le_of_ble_eq_true rfl) d_M_init_46 (fun H hR hS => ?_)
  refine g_nA hf (fun p25 hf => ?_)
  refine g_nW hf hR (fun w26 hf hR => ?_)
  have ⟨h27, hf⟩ := gd_e hf
  refine g_putFR hx hb hts hown hK hR hS pf_M_17 hin (fun _ => rfl) (fun _ => rfl) (fun _ => rfl) h27 d_M_init_48 (fun H locs hR hS => ?_)
  refine g_nW hf hR (fun w28 hf hR => ?_)
  refine lv_aload_n hx hb d_M_init_51 rfl (lv_at hl 0 rfl) ?_
  refine lv_iconst (v := 4) hx hb d_M_init_52 (by decide) ?_
  refine g_newa (kd := 50) (N := 4) hx hb hts hK hR hS (by decide) rfl m_81 (by decide) rfl (Nat.le_of_ble_eq_true rfl) (Nat.le_of_ble_eq_true rfl) (Nat.le_of_ble_eq_true rfl) d_M_init_53 (fun H hR hS => ?_)
  refine g_nA hf (fun p29 hf => ?_)
  refine g_nW hf hR (fun w30 hf hR => ?_)
  have ⟨h31, hf⟩ := gd_e hf
  refine g_putFR hx hb hts hown hK hR hS pf_M_20 hin (fun _ => rfl) (fun _ => rfl) (fun _ => rfl) h31 d_M_init_55 (fun H locs hR hS => ?_)
  refine g_nW hf hR (fun w32 hf hR => ?_)
  refine lv_aload_n hx hb d_M_init_58 rfl (lv_at hl 0 rfl) ?_
  refine lv_iconst (v := 4) hx hb d_M_init_59 (by decide) ?_
  refine g_newa (kd := 50) (N := 4) hx hb hts hK hR hS (by decide) rfl m_81 (by decide) rfl (Nat.le_of_ble_eq_true rfl) (Nat.le_of_ble_eq_true rfl) (Nat.le_of_ble_eq_true rfl) d_M_init_60 (fun H hR hS => ?_)
  refine g_nA hf (fun p33 hf => ?_)
  refine g_nW hf hR (fun w34 hf hR => ?_)
  have ⟨h35, hf⟩ := gd_e hf
  refine g_putFR hx hb hts hown hK hR hS pf_M_23 hin (fun _ => rfl) (fun _ => rfl) (fun _ => rfl) h35 d_M_init_62 (fun H locs hR hS => ?_)
  refine g_nW hf hR (fun w36 hf hR => ?_)
  refine lv_aload_n hx hb d_M_init_65 rfl (lv_at hl 0 rfl) ?_
  refine lv_bipush (v := 16) hx hb d_M_init_66 (by decide) ?_
  refine g_newa (kd := 50) (N := 16) hx hb hts hK hR hS (by decide) rfl m_81 (by decide) rfl (Nat.le_of_ble_eq_true rfl) (Nat.le_of_ble_eq_true rfl) (Nat.le_of_ble_eq_true rfl) d_M_init_68 (fun H hR hS => ?_)
  refine g_nA hf (fun p37 hf => ?_)
  refine g_nW hf hR (fun w38 hf hR => ?_)
  have ⟨h39, hf⟩ := gd_e hf
  refine g_putFR hx hb hts hown hK hR hS pf_M_26 hin (fun _ => rfl) (fun _ => rfl) (fun _ => rfl) h39 d_M_init_70 (fun H locs hR hS => ?_)
  refine g_nW hf hR (fun w40 hf hR => ?_)
  refine lv_aload_n hx hb d_M_init_73 rfl (lv_at hl 0 rfl) ?_
  refine lv_bipush (v := 24) hx hb d_M_init_74 (by decide) ?_
  refine g_newa (kd := 50) (N := 24) hx hb hts hK hR hS (by decide) rfl m_81 (by decide) rfl (Nat.le_of_ble_eq_true rfl) (Nat.le_of_ble_eq_true rfl) (Nat.le_of_ble_eq_true rfl) d_M_init_76 (fun H hR hS => ?_)
  refine g_nA hf (fun p41 hf => ?_)
  refine g_nW hf hR (fun w42 hf hR => ?_)
  have ⟨h43, hf⟩ := gd_e hf
  refine g_putFR hx hb hts hown hK hR hS pf_M_29 hin (fun _ => rfl) (fun _ => rfl) (fun _ => rfl) h43 d_M_init_78 (fun H locs hR hS => ?_)
  refine g_nW hf hR (fun w44 hf hR => ?_)
  refine lv_aload_n hx hb d_M_init_81 rfl (lv_at hl 0 rfl) ?_
  refine lv_bipush (v := 6) hx hb d_M_init_82 (by decide) ?_
  refine g_newa (kd := 50) (N := 6) hx hb hts hK hR hS (by decide) rfl m_81 (by decide) rfl (Nat.le_of_ble_eq_true rfl) (Nat.le_of_ble_eq_true rfl) (Nat.le_of_ble_eq_true rfl) d_M_init_84 (fun H hR hS => ?_)
  refine g_nA hf (fun p45 hf => ?_)
  refine g_nW hf hR (fun w46 hf hR => ?_)
  refine lv_dup hx hb d_M_init_86 rfl ?_
  refine lv_iconst (v := 0) hx hb d_M_init_87 (by decide) ?_
  refine lv_bipush (v := 9) hx hb d_M_init_88 (by decide) ?_
  have ⟨h47, hf⟩ := gd_e hf
  have ⟨h48, hf⟩ := gd_e hf
  refine g_iast hx hb hK hR hS h47 h48 d_M_init_90 (fun H locs hR hS => ?_)
  refine g_nW hf hR (fun w49 hf hR => ?_)
  refine lv_dup hx hb d_M_init_91 rfl ?_
  refine lv_iconst (v := 1) hx hb d_M_init_92 (by decide) ?_
  refine lv_bipush (v := 9) hx hb d_M_init_93 (by decide) ?_
  have ⟨h50, hf⟩ := gd_e hf
  have ⟨h51, hf⟩ := gd_e hf
  refine g_iast hx hb hK hR hS h50 h51 d_M_init_95 (fun H locs hR hS => ?_)
  refine g_nW hf hR (fun w52 hf hR => ?_)
  refine lv_dup hx hb d_M_init_96 rfl ?_
  refine lv_iconst (v := 2) hx hb d_M_init_97 (by decide) ?_
  refine lv_bipush (v := 9) hx hb d_M_init_98 (by decide) ?_
  have ⟨h53, hf⟩ := gd_e hf
  have ⟨h54, hf⟩ := gd_e hf
  refine g_iast hx hb hK hR hS h53 h54 d_M_init_100 (fun H locs hR hS => ?_)
  refine g_nW hf hR (fun w55 hf hR => ?_)
  refine lv_dup hx hb d_M_init_101 rfl ?_
  refine lv_iconst (v := 3) hx hb d_M_init_102 (by decide) ?_
  refine lv_bipush (v := 9) hx hb d_M_init_103 (by decide) ?_
  have ⟨h56, hf⟩ := gd_e hf
  have ⟨h57, hf⟩ := gd_e hf
  refine g_iast hx hb hK hR hS h56 h57 d_M_init_105 (fun H locs hR hS => ?_)
  refine g_nW hf hR (fun w58 hf hR => ?_)
  refine lv_dup hx hb d_M_init_106 rfl ?_
  refine lv_iconst (v := 4) hx hb d_M_init_107 (by decide) ?_
  refine lv_bipush (v := 9) hx hb d_M_init_108 (by decide) ?_
  have ⟨h59, hf⟩ := gd_e hf
  have ⟨h60, hf⟩ := gd_e hf
  refine g_iast hx hb hK hR hS h59 h60 d_M_init_110 (fun H locs hR hS => ?_)
  refine g_nW hf hR (fun w61 hf hR => ?_)
  refine lv_dup hx hb d_M_init_111 rfl ?_
  refine lv_iconst (v := 5) hx hb d_M_init_112 (by decide) ?_
  refine lv_bipush (v := 9) hx hb d_M_init_113 (by decide) ?_
  have ⟨h62, hf⟩ := gd_e hf
  have ⟨h63, hf⟩ := gd_e hf
  refine g_iast hx hb hK hR hS h62 h63 d_M_init_115 (fun H locs hR hS => ?_)
  refine g_nW hf hR (fun w64 hf hR => ?_)
  have ⟨h65, hf⟩ := gd_e hf
  refine g_putFR hx hb hts hown hK hR hS pf_M_32 hin (fun _ => rfl) (fun _ => rfl) (fun _ => rfl) h65 d_M_init_116 (fun H locs hR hS => ?_)
  refine g_nW hf hR (fun w66 hf hR => ?_)
  refine lv_aload_n hx hb d_M_init_119 rfl (lv_at hl 0 rfl) ?_
  refine lv_iconst (v := 0) hx hb d_M_init_120 (by decide) ?_
  have ⟨h67, hf⟩ := gd_e hf
  refine g_putI hx hb hts hown hK hR hS pf_M_35 (fun _ => rfl) rfl rfl h67 d_M_init_121 (fun H locs hR hS => ?_)
  refine g_nW hf hR (fun w68 hf hR => ?_)
  refine lv_aload_n hx hb d_M_init_124 rfl (lv_at hl 0 rfl) ?_
  refine lv_iconst (v := (-1)) hx hb d_M_init_125 (by decide) ?_
  have ⟨h69, hf⟩ := gd_e hf
  refine g_putI hx hb hts hown hK hR hS pf_M_38 (fun _ => rfl) rfl rfl h69 d_M_init_126 (fun H locs hR hS => ?_)
  refine g_nW hf hR (fun w70 hf hR => ?_)
  refine lv_aload_n hx hb d_M_init_129 rfl (lv_at hl 0 rfl) ?_
  refine lv_iconst (v := 0) hx hb d_M_init_130 (by decide) ?_
  have ⟨h71, hf⟩ := gd_e hf
  refine g_putI hx hb hts hown hK hR hS pf_M_41 (fun _ => rfl) rfl rfl h71 d_M_init_131 (fun H locs hR hS => ?_)
  refine g_nW hf hR (fun w72 hf hR => ?_)
  refine lv_aload_n hx hb d_M_init_134 rfl (lv_at hl 0 rfl) ?_
  refine lv_iconst (v := 0) hx hb d_M_init_135 (by decide) ?_
  have ⟨h73, hf⟩ := gd_e hf
  refine g_putI hx hb hts hown hK hR hS pf_M_44 (fun _ => rfl) rfl rfl h73 d_M_init_136 (fun H locs hR hS => ?_)
  refine g_nW hf hR (fun w74 hf hR => ?_)
  refine lv_aload_n hx hb d_M_init_139 rfl (lv_at hl 0 rfl) ?_
  refine lv_iconst (v := 0) hx hb d_M_init_140 (by decide) ?_
  have ⟨h75, hf⟩ := gd_e hf
  refine g_putI hx hb hts hown hK hR hS pf_M_47 (fun _ => rfl) rfl rfl h75 d_M_init_141 (fun H locs hR hS => ?_)
  refine g_nW hf hR (fun w76 hf hR => ?_)
  refine lv_aload_n hx hb d_M_init_144 rfl (lv_at hl 0 rfl) ?_
  refine lv_bipush (v := 100) hx hb d_M_init_145 (by decide) ?_
  refine g_newa (kd := 50) (N := 100) hx hb hts hK hR hS (by decide) rfl m_81 (by decide) rfl (Nat.le_of_ble_eq_true rfl) (Nat.le_of_ble_eq_true rfl) (Nat.le_of_ble_eq_true rfl) d_M_init_147 (fun H hR hS => ?_)
  refine g_nA hf (fun p77 hf => ?_)
  refine g_nW hf hR (fun w78 hf hR => ?_)
  have ⟨h79, hf⟩ := gd_e hf
  refine g_putFR hx hb hts hown hK hR hS pf_M_50 hin (fun _ => rfl) (fun _ => rfl) (fun _ => rfl) h79 d_M_init_149 (fun H locs hR hS => ?_)
  refine g_nW hf hR (fun w80 hf hR => ?_)
  refine lv_aload_n hx hb d_M_init_152 rfl (lv_at hl 0 rfl) ?_
  refine lv_bipush (v := 6) hx hb d_M_init_153 (by decide) ?_
  refine g_newa (kd := 50) (N := 6) hx hb hts hK hR hS (by decide) rfl m_81 (by decide) rfl (Nat.le_of_ble_eq_true rfl) (Nat.le_of_ble_eq_true rfl) (Nat.le_of_ble_eq_true rfl) d_M_init_155 (fun H hR hS => ?_)
  refine g_nA hf (fun p81 hf => ?_)
  refine g_nW hf hR (fun w82 hf hR => ?_)
  have ⟨h83, hf⟩ := gd_e hf
  refine g_putFR hx hb hts hown hK hR hS pf_M_53 hin (fun _ => rfl) (fun _ => rfl) (fun _ => rfl) h83 d_M_init_157 (fun H locs hR hS => ?_)
  refine g_nW hf hR (fun w84 hf hR => ?_)
  refine lv_aload_n hx hb d_M_init_160 rfl (lv_at hl 0 rfl) ?_
  refine lv_bipush (v := 60) hx hb d_M_init_161 (by decide) ?_
  refine g_newa (kd := 50) (N := 60) hx hb hts hK hR hS (by decide) rfl m_81 (by decide) rfl (Nat.le_of_ble_eq_true rfl) (Nat.le_of_ble_eq_true rfl) (Nat.le_of_ble_eq_true rfl) d_M_init_163 (fun H hR hS => ?_)
  refine g_nA hf (fun p85 hf => ?_)
  refine g_nW hf hR (fun w86 hf hR => ?_)
  have ⟨h87, hf⟩ := gd_e hf
  refine g_putFR hx hb hts hown hK hR hS pf_M_56 hin (fun _ => rfl) (fun _ => rfl) (fun _ => rfl) h87 d_M_init_165 (fun H locs hR hS => ?_)
  refine g_nW hf hR (fun w88 hf hR => ?_)
  refine lv_aload_n hx hb d_M_init_168 rfl (lv_at hl 0 rfl) ?_
  refine lv_bipush (v := 60) hx hb d_M_init_169 (by decide) ?_
  refine g_newa (kd := 50) (N := 60) hx hb hts hK hR hS (by decide) rfl m_81 (by decide) rfl (Nat.le_of_ble_eq_true rfl) (Nat.le_of_ble_eq_true rfl) (Nat.le_of_ble_eq_true rfl) d_M_init_171 (fun H hR hS => ?_)
  refine g_nA hf (fun p89 hf => ?_)
  refine g_nW hf hR (fun w90 hf hR => ?_)
  have ⟨h91, hf⟩ := gd_e hf
  refine g_putFR hx hb hts hown hK hR hS pf_M_59 hin (fun _ => rfl) (fun _ => rfl) (fun _ => rfl) h91 d_M_init_173 (fun H locs hR hS => ?_)
  refine g_nW hf hR (fun w92 hf hR => ?_)
  refine lv_aload_n hx hb d_M_init_176 rfl (lv_at hl 0 rfl) ?_
  refine lv_bipush (v := 60) hx hb d_M_init_177 (by decide) ?_
  refine g_newa (kd := 50) (N := 60) hx hb hts hK hR hS (by decide) rfl m_81 (by decide) rfl (Nat.le_of_ble_eq_true rfl) (Nat.le_of_ble_eq_true rfl) (Nat.le_of_ble_eq_true rfl) d_M_init_179 (fun H hR hS => ?_)
  refine g_nA hf (fun p93 hf => ?_)
  refine g_nW hf hR (fun w94 hf hR => ?_)
  have ⟨h95, hf⟩ := gd_e hf
  refine g_putFR hx hb hts hown hK hR hS pf_M_62 hin (fun _ => rfl) (fun _ => rfl) (fun _ => rfl) h95 d_M_init_181 (fun H locs hR hS => ?_)
  refine g_nW hf hR (fun w96 hf hR => ?_)
  refine lv_aload_n hx hb d_M_init_184 rfl (lv_at hl 0 rfl) ?_
  refine lv_bipush (v := 60) hx hb d_M_init_185 (by decide) ?_
  refine g_newa (kd := 50) (N := 60) hx hb hts hK hR hS (by decide) rfl m_81 (by decide) rfl (Nat.le_of_ble_eq_true rfl) (Nat.le_of_ble_eq_true rfl) (Nat.le_of_ble_eq_true rfl) d_M_init_187 (fun H hR hS => ?_)
  refine g_nA hf (fun p97 hf => ?_)
  refine g_nW hf hR (fun w98 hf hR => ?_)
  have ⟨h99, hf⟩ := gd_e hf
  refine g_putFR hx hb hts hown hK hR hS pf_M_65 hin (fun _ => rfl) (fun _ => rfl) (fun _ => rfl) h99 d_M_init_189 (fun H locs hR hS => ?_)
  refine g_nW hf hR (fun w100 hf hR => ?_)
  refine lv_aload_n hx hb d_M_init_192 rfl (lv_at hl 0 rfl) ?_
  refine lv_sipush (v := 600) hx hb d_M_init_193 (by decide) ?_
  refine g_newa (kd := 50) (N := 600) hx hb hts hK hR hS (by decide) rfl m_81 (by decide) rfl (Nat.le_of_ble_eq_true rfl) (Nat.le_of_ble_eq_true rfl) (Nat.le_of_ble_eq_true rfl) d_M_init_196 (fun H hR hS => ?_)
  refine g_nA hf (fun p101 hf => ?_)
  refine g_nW hf hR (fun w102 hf hR => ?_)
  have ⟨h103, hf⟩ := gd_e hf
  refine g_putFR hx hb hts hown hK hR hS pf_M_68 hin (fun _ => rfl) (fun _ => rfl) (fun _ => rfl) h103 d_M_init_198 (fun H locs hR hS => ?_)
  refine g_nW hf hR (fun w104 hf hR => ?_)
  refine lv_aload_n hx hb d_M_init_201 rfl (lv_at hl 0 rfl) ?_
  refine lv_bipush (v := 101) hx hb d_M_init_202 (by decide) ?_
  refine g_newa (kd := 50) (N := 101) hx hb hts hK hR hS (by decide) rfl m_81 (by decide) rfl (Nat.le_of_ble_eq_true rfl) (Nat.le_of_ble_eq_true rfl) (Nat.le_of_ble_eq_true rfl) d_M_init_204 (fun H hR hS => ?_)
  refine g_nA hf (fun p105 hf => ?_)
  refine g_nW hf hR (fun w106 hf hR => ?_)
  have ⟨h107, hf⟩ := gd_e hf
  refine g_putFR hx hb hts hown hK hR hS pf_M_71 hin (fun _ => rfl) (fun _ => rfl) (fun _ => rfl) h107 d_M_init_206 (fun H locs hR hS => ?_)
  refine g_nW hf hR (fun w108 hf hR => ?_)
  refine lv_aload_n hx hb d_M_init_209 rfl (lv_at hl 0 rfl) ?_
  refine lv_iconst (v := 0) hx hb d_M_init_210 (by decide) ?_
  have ⟨h109, hf⟩ := gd_e hf
  refine g_putI hx hb hts hown hK hR hS pf_M_74 (fun _ => rfl) rfl rfl h109 d_M_init_211 (fun H locs hR hS => ?_)
  refine g_nW hf hR (fun w110 hf hR => ?_)
  refine lv_aload_n hx hb d_M_init_214 rfl (lv_at hl 0 rfl) ?_
  refine lv_iconst (v := 0) hx hb d_M_init_215 (by decide) ?_
  have ⟨h111, hf⟩ := gd_e hf
  refine g_putI hx hb hts hown hK hR hS pf_M_77 (fun _ => rfl) rfl rfl h111 d_M_init_216 (fun H locs hR hS => ?_)
  refine g_nW hf hR (fun w112 hf hR => ?_)
  refine lv_aload_n hx hb d_M_init_219 rfl (lv_at hl 0 rfl) ?_
  refine lv_iconst (v := 0) hx hb d_M_init_220 (by decide) ?_
  have ⟨h113, hf⟩ := gd_e hf
  refine g_putI hx hb hts hown hK hR hS pf_M_80 (fun _ => rfl) rfl rfl h113 d_M_init_221 (fun H locs hR hS => ?_)
  refine g_nW hf hR (fun w114 hf hR => ?_)
  refine lv_aload_n hx hb d_M_init_224 rfl (lv_at hl 0 rfl) ?_
  refine lv_bipush (v := 12) hx hb d_M_init_225 (by decide) ?_
  refine g_newa (kd := 50) (N := 12) hx hb hts hK hR hS (by decide) rfl m_81 (by decide) rfl (Nat.le_of_ble_eq_true rfl) (Nat.le_of_ble_eq_true rfl) (Nat.le_of_ble_eq_true rfl) d_M_init_227 (fun H hR hS => ?_)
  refine g_nA hf (fun p115 hf => ?_)
  refine g_nW hf hR (fun w116 hf hR => ?_)
  refine lv_dup hx hb d_M_init_229 rfl ?_
  refine lv_iconst (v := 0) hx hb d_M_init_230 (by decide) ?_
  refine lv_bipush (v := 104) hx hb d_M_init_231 (by decide) ?_
  have ⟨h117, hf⟩ := gd_e hf
  have ⟨h118, hf⟩ := gd_e hf
  refine g_iast hx hb hK hR hS h117 h118 d_M_init_233 (fun H locs hR hS => ?_)
  refine g_nW hf hR (fun w119 hf hR => ?_)
  refine lv_dup hx hb d_M_init_234 rfl ?_
  refine lv_iconst (v := 1) hx hb d_M_init_235 (by decide) ?_
  refine lv_bipush (v := 101) hx hb d_M_init_236 (by decide) ?_
  have ⟨h120, hf⟩ := gd_e hf
  have ⟨h121, hf⟩ := gd_e hf
  refine g_iast hx hb hK hR hS h120 h121 d_M_init_238 (fun H locs hR hS => ?_)
  refine g_nW hf hR (fun w122 hf hR => ?_)
  refine lv_dup hx hb d_M_init_239 rfl ?_
  refine lv_iconst (v := 2) hx hb d_M_init_240 (by decide) ?_
  refine lv_bipush (v := 102) hx hb d_M_init_241 (by decide) ?_
  have ⟨h123, hf⟩ := gd_e hf
  have ⟨h124, hf⟩ := gd_e hf
  refine g_iast hx hb hK hR hS h123 h124 d_M_init_243 (fun H locs hR hS => ?_)
  refine g_nW hf hR (fun w125 hf hR => ?_)
  refine lv_dup hx hb d_M_init_244 rfl ?_
  refine lv_iconst (v := 3) hx hb d_M_init_245 (by decide) ?_
  refine lv_bipush (v := 116) hx hb d_M_init_246 (by decide) ?_
  have ⟨h126, hf⟩ := gd_e hf
  have ⟨h127, hf⟩ := gd_e hf
  refine g_iast hx hb hK hR hS h126 h127 d_M_init_248 (fun H locs hR hS => ?_)
  refine g_nW hf hR (fun w128 hf hR => ?_)
  refine lv_dup hx hb d_M_init_249 rfl ?_
  refine lv_iconst (v := 4) hx hb d_M_init_250 (by decide) ?_
  refine lv_bipush (v := 107) hx hb d_M_init_251 (by decide) ?_
  have ⟨h129, hf⟩ := gd_e hf
  have ⟨h130, hf⟩ := gd_e hf
  refine g_iast hx hb hK hR hS h129 h130 d_M_init_253 (fun H locs hR hS => ?_)
  refine g_nW hf hR (fun w131 hf hR => ?_)
  refine lv_dup hx hb d_M_init_254 rfl ?_
  refine lv_iconst (v := 5) hx hb d_M_init_255 (by decide) ?_
  refine lv_bipush (v := 101) hx hb d_M_init_256 (by decide) ?_
  have ⟨h132, hf⟩ := gd_e hf
  have ⟨h133, hf⟩ := gd_e hf
  refine g_iast hx hb hK hR hS h132 h133 d_M_init_258 (fun H locs hR hS => ?_)
  refine g_nW hf hR (fun w134 hf hR => ?_)
  refine lv_dup hx hb d_M_init_259 rfl ?_
  refine lv_bipush (v := 6) hx hb d_M_init_260 (by decide) ?_
  refine lv_bipush (v := 101) hx hb d_M_init_262 (by decide) ?_
  have ⟨h135, hf⟩ := gd_e hf
  have ⟨h136, hf⟩ := gd_e hf
  refine g_iast hx hb hK hR hS h135 h136 d_M_init_264 (fun H locs hR hS => ?_)
  refine g_nW hf hR (fun w137 hf hR => ?_)
  refine lv_dup hx hb d_M_init_265 rfl ?_
  refine lv_bipush (v := 7) hx hb d_M_init_266 (by decide) ?_
  refine lv_bipush (v := 112) hx hb d_M_init_268 (by decide) ?_
  have ⟨h138, hf⟩ := gd_e hf
  have ⟨h139, hf⟩ := gd_e hf
  refine g_iast hx hb hK hR hS h138 h139 d_M_init_270 (fun H locs hR hS => ?_)
  refine g_nW hf hR (fun w140 hf hR => ?_)
  refine lv_dup hx hb d_M_init_271 rfl ?_
  refine lv_bipush (v := 8) hx hb d_M_init_272 (by decide) ?_
  refine lv_bipush (v := 109) hx hb d_M_init_274 (by decide) ?_
  have ⟨h141, hf⟩ := gd_e hf
  have ⟨h142, hf⟩ := gd_e hf
  refine g_iast hx hb hK hR hS h141 h142 d_M_init_276 (fun H locs hR hS => ?_)
  refine g_nW hf hR (fun w143 hf hR => ?_)
  refine lv_dup hx hb d_M_init_277 rfl ?_
  refine lv_bipush (v := 9) hx hb d_M_init_278 (by decide) ?_
  refine lv_bipush (v := 111) hx hb d_M_init_280 (by decide) ?_
  have ⟨h144, hf⟩ := gd_e hf
  have ⟨h145, hf⟩ := gd_e hf
  refine g_iast hx hb hK hR hS h144 h145 d_M_init_282 (fun H locs hR hS => ?_)
  refine g_nW hf hR (fun w146 hf hR => ?_)
  refine lv_dup hx hb d_M_init_283 rfl ?_
  refine lv_bipush (v := 10) hx hb d_M_init_284 (by decide) ?_
  refine lv_bipush (v := 115) hx hb d_M_init_286 (by decide) ?_
  have ⟨h147, hf⟩ := gd_e hf
  have ⟨h148, hf⟩ := gd_e hf
  refine g_iast hx hb hK hR hS h147 h148 d_M_init_288 (fun H locs hR hS => ?_)
  refine g_nW hf hR (fun w149 hf hR => ?_)
  refine lv_dup hx hb d_M_init_289 rfl ?_
  refine lv_bipush (v := 11) hx hb d_M_init_290 (by decide) ?_
  refine lv_bipush (v := 116) hx hb d_M_init_292 (by decide) ?_
  have ⟨h150, hf⟩ := gd_e hf
  have ⟨h151, hf⟩ := gd_e hf
  refine g_iast hx hb hK hR hS h150 h151 d_M_init_294 (fun H locs hR hS => ?_)
  refine g_nW hf hR (fun w152 hf hR => ?_)
  have ⟨h153, hf⟩ := gd_e hf
  refine g_putFR hx hb hts hown hK hR hS pf_M_83 hin (fun _ => rfl) (fun _ => rfl) (fun _ => rfl) h153 d_M_init_295 (fun H locs hR hS => ?_)
  refine g_nW hf hR (fun w154 hf hR => ?_)
  refine lv_aload_n hx hb d_M_init_298 rfl (lv_at hl 0 rfl) ?_
  refine lv_bipush (v := 100) hx hb d_M_init_299 (by decide) ?_
  refine g_newa (kd := 53) (N := 100) hx hb hts hK hR hS (by decide) rfl m_1199 (by decide) rfl (Nat.le_of_ble_eq_true rfl) (Nat.le_of_ble_eq_true rfl) (Nat.le_of_ble_eq_true rfl) d_M_init_301 (fun H hR hS => ?_)
  refine g_nA hf (fun p155 hf => ?_)
  refine g_nW hf hR (fun w156 hf hR => ?_)
  have ⟨h157, hf⟩ := gd_e hf
  refine g_putFR hx hb hts hown hK hR hS pf_M_86 hin (fun _ => rfl) (fun _ => rfl) (fun _ => rfl) h157 d_M_init_303 (fun H locs hR hS => ?_)
  refine g_nW hf hR (fun w158 hf hR => ?_)
  refine lv_aload_n hx hb d_M_init_306 rfl (lv_at hl 0 rfl) ?_
  refine lv_bipush (v := 6) hx hb d_M_init_307 (by decide) ?_
  refine g_newa (kd := 50) (N := 6) hx hb hts hK hR hS (by decide) rfl m_81 (by decide) rfl (Nat.le_of_ble_eq_true rfl) (Nat.le_of_ble_eq_true rfl) (Nat.le_of_ble_eq_true rfl) d_M_init_309 (fun H hR hS => ?_)
  refine g_nA hf (fun p159 hf => ?_)
  refine g_nW hf hR (fun w160 hf hR => ?_)
  have ⟨h161, hf⟩ := gd_e hf
  refine g_putFR hx hb hts hown hK hR hS pf_M_90 hin (fun _ => rfl) (fun _ => rfl) (fun _ => rfl) h161 d_M_init_311 (fun H locs hR hS => ?_)
  refine g_nW hf hR (fun w162 hf hR => ?_)
  refine lv_aload_n hx hb d_M_init_314 rfl (lv_at hl 0 rfl) ?_
  refine lv_bipush (v := 6) hx hb d_M_init_315 (by decide) ?_
  refine g_newa (kd := 50) (N := 6) hx hb hts hK hR hS (by decide) rfl m_81 (by decide) rfl (Nat.le_of_ble_eq_true rfl) (Nat.le_of_ble_eq_true rfl) (Nat.le_of_ble_eq_true rfl) d_M_init_317 (fun H hR hS => ?_)
  refine g_nA hf (fun p163 hf => ?_)
  refine g_nW hf hR (fun w164 hf hR => ?_)
  have ⟨h165, hf⟩ := gd_e hf
  refine g_putFR hx hb hts hown hK hR hS pf_M_93 hin (fun _ => rfl) (fun _ => rfl) (fun _ => rfl) h165 d_M_init_319 (fun H locs hR hS => ?_)
  refine g_nW hf hR (fun w166 hf hR => ?_)
  refine lv_aload_n hx hb d_M_init_322 rfl (lv_at hl 0 rfl) ?_
  refine lv_bipush (v := 6) hx hb d_M_init_323 (by decide) ?_
  refine g_newa (kd := 50) (N := 6) hx hb hts hK hR hS (by decide) rfl m_81 (by decide) rfl (Nat.le_of_ble_eq_true rfl) (Nat.le_of_ble_eq_true rfl) (Nat.le_of_ble_eq_true rfl) d_M_init_325 (fun H hR hS => ?_)
  refine g_nA hf (fun p167 hf => ?_)
  refine g_nW hf hR (fun w168 hf hR => ?_)
  have ⟨h169, hf⟩ := gd_e hf
  refine g_putFR hx hb hts hown hK hR hS pf_M_96 hin (fun _ => rfl) (fun _ => rfl) (fun _ => rfl) h169 d_M_init_327 (fun H locs hR hS => ?_)
  refine g_nW hf hR (fun w170 hf hR => ?_)
  refine lv_aload_n hx hb d_M_init_330 rfl (lv_at hl 0 rfl) ?_
  refine lv_bipush (v := 6) hx hb d_M_init_331 (by decide) ?_
  refine g_newa (kd := 50) (N := 6) hx hb hts hK hR hS (by decide) rfl m_81 (by decide) rfl (Nat.le_of_ble_eq_true rfl) (Nat.le_of_ble_eq_true rfl) (Nat.le_of_ble_eq_true rfl) d_M_init_333 (fun H hR hS => ?_)
  refine g_nA hf (fun p171 hf => ?_)
  refine g_nW hf hR (fun w172 hf hR => ?_)
  have ⟨h173, hf⟩ := gd_e hf
  refine g_putFR hx hb hts hown hK hR hS pf_M_99 hin (fun _ => rfl) (fun _ => rfl) (fun _ => rfl) h173 d_M_init_335 (fun H locs hR hS => ?_)
  refine g_nW hf hR (fun w174 hf hR => ?_)
  refine lv_aload_n hx hb d_M_init_338 rfl (lv_at hl 0 rfl) ?_
  refine lv_bipush (v := 6) hx hb d_M_init_339 (by decide) ?_
  refine g_newa (kd := 50) (N := 6) hx hb hts hK hR hS (by decide) rfl m_81 (by decide) rfl (Nat.le_of_ble_eq_true rfl) (Nat.le_of_ble_eq_true rfl) (Nat.le_of_ble_eq_true rfl) d_M_init_341 (fun H hR hS => ?_)
  refine g_nA hf (fun p175 hf => ?_)
  refine g_nW hf hR (fun w176 hf hR => ?_)
  have ⟨h177, hf⟩ := gd_e hf
  refine g_putFR hx hb hts hown hK hR hS pf_M_102 hin (fun _ => rfl) (fun _ => rfl) (fun _ => rfl) h177 d_M_init_343 (fun H locs hR hS => ?_)
  refine g_nW hf hR (fun w178 hf hR => ?_)
  refine lv_aload_n hx hb d_M_init_346 rfl (lv_at hl 0 rfl) ?_
  refine lv_bipush (v := 6) hx hb d_M_init_347 (by decide) ?_
  refine g_newa (kd := 50) (N := 6) hx hb hts hK hR hS (by decide) rfl m_81 (by decide) rfl (Nat.le_of_ble_eq_true rfl) (Nat.le_of_ble_eq_true rfl) (Nat.le_of_ble_eq_true rfl) d_M_init_349 (fun H hR hS => ?_)
  refine g_nA hf (fun p179 hf => ?_)
  refine g_nW hf hR (fun w180 hf hR => ?_)
  have ⟨h181, hf⟩ := gd_e hf
  refine g_putFR hx hb hts hown hK hR hS pf_M_105 hin (fun _ => rfl) (fun _ => rfl) (fun _ => rfl) h181 d_M_init_351 (fun H locs hR hS => ?_)
  refine g_nW hf hR (fun w182 hf hR => ?_)
  refine lv_aload_n hx hb d_M_init_354 rfl (lv_at hl 0 rfl) ?_
  refine lv_iconst (v := 0) hx hb d_M_init_355 (by decide) ?_
  have ⟨h183, hf⟩ := gd_e hf
  refine g_putI hx hb hts hown hK hR hS pf_M_108 (fun _ => rfl) rfl rfl h183 d_M_init_356 (fun H locs hR hS => ?_)
  refine g_nW hf hR (fun w184 hf hR => ?_)
  refine lv_aload_n hx hb d_M_init_359 rfl (lv_at hl 0 rfl) ?_
  refine lv_iconst (v := 0) hx hb d_M_init_360 (by decide) ?_
  have ⟨h185, hf⟩ := gd_e hf
  refine g_putI hx hb hts hown hK hR hS pf_M_111 (fun _ => rfl) rfl rfl h185 d_M_init_361 (fun H locs hR hS => ?_)
  refine g_nW hf hR (fun w186 hf hR => ?_)
  refine lv_aload_n hx hb d_M_init_364 rfl (lv_at hl 0 rfl) ?_
  refine lv_iconst (v := 0) hx hb d_M_init_365 (by decide) ?_
  have ⟨h187, hf⟩ := gd_e hf
  refine g_putI hx hb hts hown hK hR hS pf_M_114 (fun _ => rfl) rfl rfl h187 d_M_init_366 (fun H locs hR hS => ?_)
  refine g_nW hf hR (fun w188 hf hR => ?_)
  refine lv_aload_n hx hb d_M_init_369 rfl (lv_at hl 0 rfl) ?_
  refine lv_bipush (v := 24) hx hb d_M_init_370 (by decide) ?_
  refine g_newa (kd := 50) (N := 24) hx hb hts hK hR hS (by decide) rfl m_81 (by decide) rfl (Nat.le_of_ble_eq_true rfl) (Nat.le_of_ble_eq_true rfl) (Nat.le_of_ble_eq_true rfl) d_M_init_372 (fun H hR hS => ?_)
  refine g_nA hf (fun p189 hf => ?_)
  refine g_nW hf hR (fun w190 hf hR => ?_)
  have ⟨h191, hf⟩ := gd_e hf
  refine g_putFR hx hb hts hown hK hR hS pf_M_117 hin (fun _ => rfl) (fun _ => rfl) (fun _ => rfl) h191 d_M_init_374 (fun H locs hR hS => ?_)
  refine g_nW hf hR (fun w192 hf hR => ?_)
  refine lv_aload_n hx hb d_M_init_377 rfl (lv_at hl 0 rfl) ?_
  refine lv_bipush (v := 6) hx hb d_M_init_378 (by decide) ?_
  refine g_newa (kd := 50) (N := 6) hx hb hts hK hR hS (by decide) rfl m_81 (by decide) rfl (Nat.le_of_ble_eq_true rfl) (Nat.le_of_ble_eq_true rfl) (Nat.le_of_ble_eq_true rfl) d_M_init_380 (fun H hR hS => ?_)
  refine g_nA hf (fun p193 hf => ?_)
  refine g_nW hf hR (fun w194 hf hR => ?_)
  have ⟨h195, hf⟩ := gd_e hf
  refine g_putFR hx hb hts hown hK hR hS pf_M_120 hin (fun _ => rfl) (fun _ => rfl) (fun _ => rfl) h195 d_M_init_382 (fun H locs hR hS => ?_)
  refine g_nW hf hR (fun w196 hf hR => ?_)
  refine lv_aload_n hx hb d_M_init_385 rfl (lv_at hl 0 rfl) ?_
  refine lv_iconst (v := 4) hx hb d_M_init_386 (by decide) ?_
  refine g_newa (kd := 50) (N := 4) hx hb hts hK hR hS (by decide) rfl m_81 (by decide) rfl (Nat.le_of_ble_eq_true rfl) (Nat.le_of_ble_eq_true rfl) (Nat.le_of_ble_eq_true rfl) d_M_init_387 (fun H hR hS => ?_)
  refine g_nA hf (fun p197 hf => ?_)
  refine g_nW hf hR (fun w198 hf hR => ?_)
  have ⟨h199, hf⟩ := gd_e hf
  refine g_putFR hx hb hts hown hK hR hS pf_M_123 hin (fun _ => rfl) (fun _ => rfl) (fun _ => rfl) h199 d_M_init_389 (fun H locs hR hS => ?_)
  refine g_nW hf hR (fun w200 hf hR => ?_)
  refine lv_aload_n hx hb d_M_init_392 rfl (lv_at hl 0 rfl) ?_
  refine lv_iconst (v := 0) hx hb d_M_init_393 (by decide) ?_
  have ⟨h201, hf⟩ := gd_e hf
  refine g_putI hx hb hts hown hK hR hS pf_M_126 (fun _ => rfl) rfl rfl h201 d_M_init_394 (fun H locs hR hS => ?_)
  refine g_nW hf hR (fun w202 hf hR => ?_)
  refine lv_aload_n hx hb d_M_init_397 rfl (lv_at hl 0 rfl) ?_
  refine lv_iconst (v := 0) hx hb d_M_init_398 (by decide) ?_
  have ⟨h203, hf⟩ := gd_e hf
  refine g_putI hx hb hts hown hK hR hS pf_M_129 (fun _ => rfl) rfl rfl h203 d_M_init_399 (fun H locs hR hS => ?_)
  refine g_nW hf hR (fun w204 hf hR => ?_)
  refine lv_aload_n hx hb d_M_init_402 rfl (lv_at hl 0 rfl) ?_
  refine lv_bipush (v := 61) hx hb d_M_init_403 (by decide) ?_
  refine g_newa (kd := 53) (N := 61) hx hb hts hK hR hS (by decide) rfl m_1199 (by decide) rfl (Nat.le_of_ble_eq_true rfl) (Nat.le_of_ble_eq_true rfl) (Nat.le_of_ble_eq_true rfl) d_M_init_405 (fun H hR hS => ?_)
  refine g_nA hf (fun p205 hf => ?_)
  refine g_nW hf hR (fun w206 hf hR => ?_)
  have ⟨h207, hf⟩ := gd_e hf
  refine g_putFR hx hb hts hown hK hR hS pf_M_132 hin (fun _ => rfl) (fun _ => rfl) (fun _ => rfl) h207 d_M_init_407 (fun H locs hR hS => ?_)
  refine g_nW hf hR (fun w208 hf hR => ?_)
  refine lv_aload_n hx hb d_M_init_410 rfl (lv_at hl 0 rfl) ?_
  refine lv_iconst (v := 0) hx hb d_M_init_411 (by decide) ?_
  have ⟨h209, hf⟩ := gd_e hf
  refine g_putI hx hb hts hown hK hR hS pf_M_135 (fun _ => rfl) rfl rfl h209 d_M_init_412 (fun H locs hR hS => ?_)
  refine g_nW hf hR (fun w210 hf hR => ?_)
  refine lv_aload_n hx hb d_M_init_415 rfl (lv_at hl 0 rfl) ?_
  refine lv_iconst (v := 4) hx hb d_M_init_416 (by decide) ?_
  refine g_newa (kd := 50) (N := 4) hx hb hts hK hR hS (by decide) rfl m_81 (by decide) rfl (Nat.le_of_ble_eq_true rfl) (Nat.le_of_ble_eq_true rfl) (Nat.le_of_ble_eq_true rfl) d_M_init_417 (fun H hR hS => ?_)
  refine g_nA hf (fun p211 hf => ?_)
  refine g_nW hf hR (fun w212 hf hR => ?_)
  have ⟨h213, hf⟩ := gd_e hf
  refine g_putFR hx hb hts hown hK hR hS pf_M_138 hin (fun _ => rfl) (fun _ => rfl) (fun _ => rfl) h213 d_M_init_419 (fun H locs hR hS => ?_)
  refine g_nW hf hR (fun w214 hf hR => ?_)
  refine lv_aload_n hx hb d_M_init_422 rfl (lv_at hl 0 rfl) ?_
  refine lv_iconst (v := 0) hx hb d_M_init_423 (by decide) ?_
  have ⟨h215, hf⟩ := gd_e hf
  refine g_putI hx hb hts hown hK hR hS pf_M_141 (fun _ => rfl) rfl rfl h215 d_M_init_424 (fun H locs hR hS => ?_)
  refine g_nW hf hR (fun w216 hf hR => ?_)
  refine lv_aload_n hx hb d_M_init_427 rfl (lv_at hl 0 rfl) ?_
  refine lv_iconst (v := 4) hx hb d_M_init_428 (by decide) ?_
  refine g_newa (kd := 50) (N := 4) hx hb hts hK hR hS (by decide) rfl m_81 (by decide) rfl (Nat.le_of_ble_eq_true rfl) (Nat.le_of_ble_eq_true rfl) (Nat.le_of_ble_eq_true rfl) d_M_init_429 (fun H hR hS => ?_)
  refine g_nA hf (fun p217 hf => ?_)
  refine g_nW hf hR (fun w218 hf hR => ?_)
  have ⟨h219, hf⟩ := gd_e hf
  refine g_putFR hx hb hts hown hK hR hS pf_M_144 hin (fun _ => rfl) (fun _ => rfl) (fun _ => rfl) h219 d_M_init_431 (fun H locs hR hS => ?_)
  refine g_nW hf hR (fun w220 hf hR => ?_)
  refine lv_aload_n hx hb d_M_init_434 rfl (lv_at hl 0 rfl) ?_
  refine lv_iconst (v := 4) hx hb d_M_init_435 (by decide) ?_
  refine g_newa (kd := 50) (N := 4) hx hb hts hK hR hS (by decide) rfl m_81 (by decide) rfl (Nat.le_of_ble_eq_true rfl) (Nat.le_of_ble_eq_true rfl) (Nat.le_of_ble_eq_true rfl) d_M_init_436 (fun H hR hS => ?_)
  refine g_nA hf (fun p221 hf => ?_)
  refine g_nW hf hR (fun w222 hf hR => ?_)
  have ⟨h223, hf⟩ := gd_e hf
  refine g_putFR hx hb hts hown hK hR hS pf_M_147 hin (fun _ => rfl) (fun _ => rfl) (fun _ => rfl) h223 d_M_init_438 (fun H locs hR hS => ?_)
  refine g_nW hf hR (fun w224 hf hR => ?_)
  refine lv_aload_n hx hb d_M_init_441 rfl (lv_at hl 0 rfl) ?_
  refine lv_iconst (v := 0) hx hb d_M_init_442 (by decide) ?_
  have ⟨h225, hf⟩ := gd_e hf
  refine g_putI hx hb hts hown hK hR hS pf_M_150 (fun _ => rfl) rfl rfl h225 d_M_init_443 (fun H locs hR hS => ?_)
  refine g_nW hf hR (fun w226 hf hR => ?_)
  refine lv_aload_n hx hb d_M_init_446 rfl (lv_at hl 0 rfl) ?_
  refine lv_bipush (v := 8) hx hb d_M_init_447 (by decide) ?_
  refine g_newa (kd := 50) (N := 8) hx hb hts hK hR hS (by decide) rfl m_81 (by decide) rfl (Nat.le_of_ble_eq_true rfl) (Nat.le_of_ble_eq_true rfl) (Nat.le_of_ble_eq_true rfl) d_M_init_449 (fun H hR hS => ?_)
  refine g_nA hf (fun p227 hf => ?_)
  refine g_nW hf hR (fun w228 hf hR => ?_)
  have ⟨h229, hf⟩ := gd_e hf
  refine g_putFR hx hb hts hown hK hR hS pf_M_153 hin (fun _ => rfl) (fun _ => rfl) (fun _ => rfl) h229 d_M_init_451 (fun H locs hR hS => ?_)
  refine g_nW hf hR (fun w230 hf hR => ?_)
  refine lv_aload_n hx hb d_M_init_454 rfl (lv_at hl 0 rfl) ?_
  refine lv_bipush (v := 8) hx hb d_M_init_455 (by decide) ?_
  refine g_newa (kd := 50) (N := 8) hx hb hts hK hR hS (by decide) rfl m_81 (by decide) rfl (Nat.le_of_ble_eq_true rfl) (Nat.le_of_ble_eq_true rfl) (Nat.le_of_ble_eq_true rfl) d_M_init_457 (fun H hR hS => ?_)
  refine g_nA hf (fun p231 hf => ?_)
  refine g_nW hf hR (fun w232 hf hR => ?_)
  have ⟨h233, hf⟩ := gd_e hf
  refine g_putFR hx hb hts hown hK hR hS pf_M_156 hin (fun _ => rfl) (fun _ => rfl) (fun _ => rfl) h233 d_M_init_459 (fun H locs hR hS => ?_)
  refine g_nW hf hR (fun w234 hf hR => ?_)
  refine lv_aload_n hx hb d_M_init_462 rfl (lv_at hl 0 rfl) ?_
  refine lv_iconst (v := 0) hx hb d_M_init_463 (by decide) ?_
  have ⟨h235, hf⟩ := gd_e hf
  refine g_putI hx hb hts hown hK hR hS pf_M_159 (fun _ => rfl) rfl rfl h235 d_M_init_464 (fun H locs hR hS => ?_)
  refine g_nW hf hR (fun w236 hf hR => ?_)
  refine lv_aload_n hx hb d_M_init_467 rfl (lv_at hl 0 rfl) ?_
  refine lv_iconst (v := (-1)) hx hb d_M_init_468 (by decide) ?_
  have ⟨h237, hf⟩ := gd_e hf
  refine g_putI hx hb hts hown hK hR hS pf_M_163 (fun _ => rfl) rfl rfl h237 d_M_init_469 (fun H locs hR hS => ?_)
  refine g_nW hf hR (fun w238 hf hR => ?_)
  refine lv_aload_n hx hb d_M_init_472 rfl (lv_at hl 0 rfl) ?_
  refine lv_iconst (v := 0) hx hb d_M_init_473 (by decide) ?_
  have ⟨h239, hf⟩ := gd_e hf
  refine g_putI hx hb hts hown hK hR hS pf_M_166 (fun _ => rfl) rfl rfl h239 d_M_init_474 (fun H locs hR hS => ?_)
  refine g_nW hf hR (fun w240 hf hR => ?_)
  refine lv_aload_n hx hb d_M_init_477 rfl (lv_at hl 0 rfl) ?_
  refine lv_iconst (v := 0) hx hb d_M_init_478 (by decide) ?_
  have ⟨h241, hf⟩ := gd_e hf
  refine g_putI hx hb hts hown hK hR hS pf_M_169 (fun _ => rfl) rfl rfl h241 d_M_init_479 (fun H locs hR hS => ?_)
  refine g_nW hf hR (fun w242 hf hR => ?_)
  refine lv_aload_n hx hb d_M_init_482 rfl (lv_at hl 0 rfl) ?_
  refine lv_iconst (v := 0) hx hb d_M_init_483 (by decide) ?_
  have ⟨h243, hf⟩ := gd_e hf
  refine g_putI hx hb hts hown hK hR hS pf_M_172 (fun _ => rfl) rfl rfl h243 d_M_init_484 (fun H locs hR hS => ?_)
  refine g_nW hf hR (fun w244 hf hR => ?_)
  refine lv_aload_n hx hb d_M_init_487 rfl (lv_at hl 0 rfl) ?_
  refine lv_iconst (v := 0) hx hb d_M_init_488 (by decide) ?_
  have ⟨h245, hf⟩ := gd_e hf
  refine g_putI hx hb hts hown hK hR hS pf_M_175 (fun _ => rfl) rfl rfl h245 d_M_init_489 (fun H locs hR hS => ?_)
  refine g_nW hf hR (fun w246 hf hR => ?_)
  refine lv_aload_n hx hb d_M_init_492 rfl (lv_at hl 0 rfl) ?_
  refine lv_iconst (v := 4) hx hb d_M_init_493 (by decide) ?_
  refine g_newa (kd := 50) (N := 4) hx hb hts hK hR hS (by decide) rfl m_81 (by decide) rfl (Nat.le_of_ble_eq_true rfl) (Nat.le_of_ble_eq_true rfl) (Nat.le_of_ble_eq_true rfl) d_M_init_494 (fun H hR hS => ?_)
  refine g_nA hf (fun p247 hf => ?_)
  refine g_nW hf hR (fun w248 hf hR => ?_)
  have ⟨h249, hf⟩ := gd_e hf
  refine g_putFR hx hb hts hown hK hR hS pf_M_178 hin (fun _ => rfl) (fun _ => rfl) (fun _ => rfl) h249 d_M_init_496 (fun H locs hR hS => ?_)
  refine g_nW hf hR (fun w250 hf hR => ?_)
  refine lv_aload_n hx hb d_M_init_499 rfl (lv_at hl 0 rfl) ?_
  refine lv_iconst (v := 4) hx hb d_M_init_500 (by decide) ?_
  refine g_newa (kd := 50) (N := 4) hx hb hts hK hR hS (by decide) rfl m_81 (by decide) rfl (Nat.le_of_ble_eq_true rfl) (Nat.le_of_ble_eq_true rfl) (Nat.le_of_ble_eq_true rfl) d_M_init_501 (fun H hR hS => ?_)
  refine g_nA hf (fun p251 hf => ?_)
  refine g_nW hf hR (fun w252 hf hR => ?_)
  have ⟨h253, hf⟩ := gd_e hf
  refine g_putFR hx hb hts hown hK hR hS pf_M_181 hin (fun _ => rfl) (fun _ => rfl) (fun _ => rfl) h253 d_M_init_503 (fun H locs hR hS => ?_)
  refine g_nW hf hR (fun w254 hf hR => ?_)
  refine lv_aload_n hx hb d_M_init_506 rfl (lv_at hl 0 rfl) ?_
  refine lv_iconst (v := 4) hx hb d_M_init_507 (by decide) ?_
  refine g_newa (kd := 50) (N := 4) hx hb hts hK hR hS (by decide) rfl m_81 (by decide) rfl (Nat.le_of_ble_eq_true rfl) (Nat.le_of_ble_eq_true rfl) (Nat.le_of_ble_eq_true rfl) d_M_init_508 (fun H hR hS => ?_)
  refine g_nA hf (fun p255 hf => ?_)
  refine g_nW hf hR (fun w256 hf hR => ?_)
  have ⟨h257, hf⟩ := gd_e hf
  refine g_putFR hx hb hts hown hK hR hS pf_M_184 hin (fun _ => rfl) (fun _ => rfl) (fun _ => rfl) h257 d_M_init_510 (fun H locs hR hS => ?_)
  refine g_nW hf hR (fun w258 hf hR => ?_)
  refine lv_aload_n hx hb d_M_init_513 rfl (lv_at hl 0 rfl) ?_
  refine lv_bipush (v := 16) hx hb d_M_init_514 (by decide) ?_
  refine g_newa (kd := 50) (N := 16) hx hb hts hK hR hS (by decide) rfl m_81 (by decide) rfl (Nat.le_of_ble_eq_true rfl) (Nat.le_of_ble_eq_true rfl) (Nat.le_of_ble_eq_true rfl) d_M_init_516 (fun H hR hS => ?_)
  refine g_nA hf (fun p259 hf => ?_)
  refine g_nW hf hR (fun w260 hf hR => ?_)
  have ⟨h261, hf⟩ := gd_e hf
  refine g_putFR hx hb hts hown hK hR hS pf_M_187 hin (fun _ => rfl) (fun _ => rfl) (fun _ => rfl) h261 d_M_init_518 (fun H locs hR hS => ?_)
  refine g_nW hf hR (fun w262 hf hR => ?_)
  refine lv_aload_n hx hb d_M_init_521 rfl (lv_at hl 0 rfl) ?_
  refine lv_bipush (v := 24) hx hb d_M_init_522 (by decide) ?_
  refine g_newa (kd := 50) (N := 24) hx hb hts hK hR hS (by decide) rfl m_81 (by decide) rfl (Nat.le_of_ble_eq_true rfl) (Nat.le_of_ble_eq_true rfl) (Nat.le_of_ble_eq_true rfl) d_M_init_524 (fun H hR hS => ?_)
  refine g_nA hf (fun p263 hf => ?_)
  refine g_nW hf hR (fun w264 hf hR => ?_)
  have ⟨h265, hf⟩ := gd_e hf
  refine g_putFR hx hb hts hown hK hR hS pf_M_190 hin (fun _ => rfl) (fun _ => rfl) (fun _ => rfl) h265 d_M_init_526 (fun H locs hR hS => ?_)
  refine g_nW hf hR (fun w266 hf hR => ?_)
  refine lv_aload_n hx hb d_M_init_529 rfl (lv_at hl 0 rfl) ?_
  refine lv_bipush (v := 6) hx hb d_M_init_530 (by decide) ?_
  refine g_newa (kd := 50) (N := 6) hx hb hts hK hR hS (by decide) rfl m_81 (by decide) rfl (Nat.le_of_ble_eq_true rfl) (Nat.le_of_ble_eq_true rfl) (Nat.le_of_ble_eq_true rfl) d_M_init_532 (fun H hR hS => ?_)
  refine g_nA hf (fun p267 hf => ?_)
  refine g_nW hf hR (fun w268 hf hR => ?_)
  have ⟨h269, hf⟩ := gd_e hf
  refine g_putFR hx hb hts hown hK hR hS pf_M_193 hin (fun _ => rfl) (fun _ => rfl) (fun _ => rfl) h269 d_M_init_534 (fun H locs hR hS => ?_)
  refine g_nW hf hR (fun w270 hf hR => ?_)
  refine lv_aload_n hx hb d_M_init_537 rfl (lv_at hl 0 rfl) ?_
  refine lv_iconst (v := 4) hx hb d_M_init_538 (by decide) ?_
  refine g_newa (kd := 50) (N := 4) hx hb hts hK hR hS (by decide) rfl m_81 (by decide) rfl (Nat.le_of_ble_eq_true rfl) (Nat.le_of_ble_eq_true rfl) (Nat.le_of_ble_eq_true rfl) d_M_init_539 (fun H hR hS => ?_)
  refine g_nA hf (fun p271 hf => ?_)
  refine g_nW hf hR (fun w272 hf hR => ?_)
  have ⟨h273, hf⟩ := gd_e hf
  refine g_putFR hx hb hts hown hK hR hS pf_M_196 hin (fun _ => rfl) (fun _ => rfl) (fun _ => rfl) h273 d_M_init_541 (fun H locs hR hS => ?_)
  refine g_nW hf hR (fun w274 hf hR => ?_)
  refine lv_aload_n hx hb d_M_init_544 rfl (lv_at hl 0 rfl) ?_
  refine lv_iconst (v := 4) hx hb d_M_init_545 (by decide) ?_
  refine g_newa (kd := 50) (N := 4) hx hb hts hK hR hS (by decide) rfl m_81 (by decide) rfl (Nat.le_of_ble_eq_true rfl) (Nat.le_of_ble_eq_true rfl) (Nat.le_of_ble_eq_true rfl) d_M_init_546 (fun H hR hS => ?_)
  refine g_nA hf (fun p275 hf => ?_)
  refine g_nW hf hR (fun w276 hf hR => ?_)
  have ⟨h277, hf⟩ := gd_e hf
  refine g_putFR hx hb hts hown hK hR hS pf_M_199 hin (fun _ => rfl) (fun _ => rfl) (fun _ => rfl) h277 d_M_init_548 (fun H locs hR hS => ?_)
  refine g_nW hf hR (fun w278 hf hR => ?_)
  refine lv_aload_n hx hb d_M_init_551 rfl (lv_at hl 0 rfl) ?_
  refine lv_iconst (v := 4) hx hb d_M_init_552 (by decide) ?_
  refine g_newa (kd := 50) (N := 4) hx hb hts hK hR hS (by decide) rfl m_81 (by decide) rfl (Nat.le_of_ble_eq_true rfl) (Nat.le_of_ble_eq_true rfl) (Nat.le_of_ble_eq_true rfl) d_M_init_553 (fun H hR hS => ?_)
  refine g_nA hf (fun p279 hf => ?_)
  refine g_nW hf hR (fun w280 hf hR => ?_)
  have ⟨h281, hf⟩ := gd_e hf
  refine g_putFR hx hb hts hown hK hR hS pf_M_202 hin (fun _ => rfl) (fun _ => rfl) (fun _ => rfl) h281 d_M_init_555 (fun H locs hR hS => ?_)
  refine g_nW hf hR (fun w282 hf hR => ?_)
  refine lv_aload_n hx hb d_M_init_558 rfl (lv_at hl 0 rfl) ?_
  refine lv_bipush (v := 8) hx hb d_M_init_559 (by decide) ?_
  refine g_newa (kd := 50) (N := 8) hx hb hts hK hR hS (by decide) rfl m_81 (by decide) rfl (Nat.le_of_ble_eq_true rfl) (Nat.le_of_ble_eq_true rfl) (Nat.le_of_ble_eq_true rfl) d_M_init_561 (fun H hR hS => ?_)
  refine g_nA hf (fun p283 hf => ?_)
  refine g_nW hf hR (fun w284 hf hR => ?_)
  have ⟨h285, hf⟩ := gd_e hf
  refine g_putFR hx hb hts hown hK hR hS pf_M_205 hin (fun _ => rfl) (fun _ => rfl) (fun _ => rfl) h285 d_M_init_563 (fun H locs hR hS => ?_)
  refine g_nW hf hR (fun w286 hf hR => ?_)
  refine lv_aload_n hx hb d_M_init_566 rfl (lv_at hl 0 rfl) ?_
  refine lv_bipush (v := 8) hx hb d_M_init_567 (by decide) ?_
  refine g_newa (kd := 50) (N := 8) hx hb hts hK hR hS (by decide) rfl m_81 (by decide) rfl (Nat.le_of_ble_eq_true rfl) (Nat.le_of_ble_eq_true rfl) (Nat.le_of_ble_eq_true rfl) d_M_init_569 (fun H hR hS => ?_)
  refine g_nA hf (fun p287 hf => ?_)
  refine g_nW hf hR (fun w288 hf hR => ?_)
  have ⟨h289, hf⟩ := gd_e hf
  refine g_putFR hx hb hts hown hK hR hS pf_M_208 hin (fun _ => rfl) (fun _ => rfl) (fun _ => rfl) h289 d_M_init_571 (fun H locs hR hS => ?_)
  refine g_nW hf hR (fun w290 hf hR => ?_)
  refine lv_aload_n hx hb d_M_init_574 rfl (lv_at hl 0 rfl) ?_
  refine lv_iconst (v := 0) hx hb d_M_init_575 (by decide) ?_
  have ⟨h291, hf⟩ := gd_e hf
  refine g_putI hx hb hts hown hK hR hS pf_M_211 (fun _ => rfl) rfl rfl h291 d_M_init_576 (fun H locs hR hS => ?_)
  refine g_nW hf hR (fun w292 hf hR => ?_)
  refine lv_aload_n hx hb d_M_init_579 rfl (lv_at hl 0 rfl) ?_
  refine lv_bipush (v := 20) hx hb d_M_init_580 (by decide) ?_
  refine g_newa (kd := 50) (N := 20) hx hb hts hK hR hS (by decide) rfl m_81 (by decide) rfl (Nat.le_of_ble_eq_true rfl) (Nat.le_of_ble_eq_true rfl) (Nat.le_of_ble_eq_true rfl) d_M_init_582 (fun H hR hS => ?_)
  refine g_nA hf (fun p293 hf => ?_)
  refine g_nW hf hR (fun w294 hf hR => ?_)
  have ⟨h295, hf⟩ := gd_e hf
  refine g_putFR hx hb hts hown hK hR hS pf_M_214 hin (fun _ => rfl) (fun _ => rfl) (fun _ => rfl) h295 d_M_init_584 (fun H locs hR hS => ?_)
  refine g_nW hf hR (fun w296 hf hR => ?_)
  refine lv_aload_n hx hb d_M_init_587 rfl (lv_at hl 0 rfl) ?_
  refine lv_bipush (v := 6) hx hb d_M_init_588 (by decide) ?_
  refine g_newa (kd := 50) (N := 6) hx hb hts hK hR hS (by decide) rfl m_81 (by decide) rfl (Nat.le_of_ble_eq_true rfl) (Nat.le_of_ble_eq_true rfl) (Nat.le_of_ble_eq_true rfl) d_M_init_590 (fun H hR hS => ?_)
  refine g_nA hf (fun p297 hf => ?_)
  refine g_nW hf hR (fun w298 hf hR => ?_)
  refine lv_dup hx hb d_M_init_592 rfl ?_
  refine lv_iconst (v := 0) hx hb d_M_init_593 (by decide) ?_
  refine lv_iconst (v := (-1)) hx hb d_M_init_594 (by decide) ?_
  have ⟨h299, hf⟩ := gd_e hf
  have ⟨h300, hf⟩ := gd_e hf
  refine g_iast hx hb hK hR hS h299 h300 d_M_init_595 (fun H locs hR hS => ?_)
  refine g_nW hf hR (fun w301 hf hR => ?_)
  refine lv_dup hx hb d_M_init_596 rfl ?_
  refine lv_iconst (v := 1) hx hb d_M_init_597 (by decide) ?_
  refine lv_iconst (v := (-1)) hx hb d_M_init_598 (by decide) ?_
  have ⟨h302, hf⟩ := gd_e hf
  have ⟨h303, hf⟩ := gd_e hf
  refine g_iast hx hb hK hR hS h302 h303 d_M_init_599 (fun H locs hR hS => ?_)
  refine g_nW hf hR (fun w304 hf hR => ?_)
  refine lv_dup hx hb d_M_init_600 rfl ?_
  refine lv_iconst (v := 2) hx hb d_M_init_601 (by decide) ?_
  refine lv_iconst (v := (-1)) hx hb d_M_init_602 (by decide) ?_
  have ⟨h305, hf⟩ := gd_e hf
  have ⟨h306, hf⟩ := gd_e hf
  refine g_iast hx hb hK hR hS h305 h306 d_M_init_603 (fun H locs hR hS => ?_)
  refine g_nW hf hR (fun w307 hf hR => ?_)
  refine lv_dup hx hb d_M_init_604 rfl ?_
  refine lv_iconst (v := 3) hx hb d_M_init_605 (by decide) ?_
  refine lv_iconst (v := (-1)) hx hb d_M_init_606 (by decide) ?_
  have ⟨h308, hf⟩ := gd_e hf
  have ⟨h309, hf⟩ := gd_e hf
  refine g_iast hx hb hK hR hS h308 h309 d_M_init_607 (fun H locs hR hS => ?_)
  refine g_nW hf hR (fun w310 hf hR => ?_)
  refine lv_dup hx hb d_M_init_608 rfl ?_
  refine lv_iconst (v := 4) hx hb d_M_init_609 (by decide) ?_
  refine lv_iconst (v := (-1)) hx hb d_M_init_610 (by decide) ?_
  have ⟨h311, hf⟩ := gd_e hf
  have ⟨h312, hf⟩ := gd_e hf
  refine g_iast hx hb hK hR hS h311 h312 d_M_init_611 (fun H locs hR hS => ?_)
  refine g_nW hf hR (fun w313 hf hR => ?_)
  refine lv_dup hx hb d_M_init_612 rfl ?_
  refine lv_iconst (v := 5) hx hb d_M_init_613 (by decide) ?_
  refine lv_iconst (v := (-1)) hx hb d_M_init_614 (by decide) ?_
  have ⟨h314, hf⟩ := gd_e hf
  have ⟨h315, hf⟩ := gd_e hf
  refine g_iast hx hb hK hR hS h314 h315 d_M_init_615 (fun H locs hR hS => ?_)
  refine g_nW hf hR (fun w316 hf hR => ?_)
  have ⟨h317, hf⟩ := gd_e hf
  refine g_putFR hx hb hts hown hK hR hS pf_M_217 hin (fun _ => rfl) (fun _ => rfl) (fun _ => rfl) h317 d_M_init_616 (fun H locs hR hS => ?_)
  refine g_nW hf hR (fun w318 hf hR => ?_)
  refine lv_aload_n hx hb d_M_init_619 rfl (lv_at hl 0 rfl) ?_
  refine lv_bipush (v := 6) hx hb d_M_init_620 (by decide) ?_
  refine g_newa (kd := 50) (N := 6) hx hb hts hK hR hS (by decide) rfl m_81 (by decide) rfl (Nat.le_of_ble_eq_true rfl) (Nat.le_of_ble_eq_true rfl) (Nat.le_of_ble_eq_true rfl) d_M_init_622 (fun H hR hS => ?_)
  refine g_nA hf (fun p319 hf => ?_)
  refine g_nW hf hR (fun w320 hf hR => ?_)
  have ⟨h321, hf⟩ := gd_e hf
  refine g_putFR hx hb hts hown hK hR hS pf_M_220 hin (fun _ => rfl) (fun _ => rfl) (fun _ => rfl) h321 d_M_init_624 (fun H locs hR hS => ?_)
  refine g_nW hf hR (fun w322 hf hR => ?_)
  refine lv_aload_n hx hb d_M_init_627 rfl (lv_at hl 0 rfl) ?_
  refine lv_sipush (v := 360) hx hb d_M_init_628 (by decide) ?_
  refine g_newa (kd := 52) (N := 360) hx hb hts hK hR hS (by decide) rfl m_273 (by decide) rfl (Nat.le_of_ble_eq_true rfl) (Nat.le_of_ble_eq_true rfl) (Nat.le_of_ble_eq_true rfl) d_M_init_631 (fun H hR hS => ?_)
  refine g_nA hf (fun p323 hf => ?_)
  refine g_nW hf hR (fun w324 hf hR => ?_)
  have ⟨h325, hf⟩ := gd_e hf
  refine g_putFR hx hb hts hown hK hR hS pf_M_223 hin (fun _ => rfl) (fun _ => rfl) (fun _ => rfl) h325 d_M_init_633 (fun H locs hR hS => ?_)
  refine g_nW hf hR (fun w326 hf hR => ?_)
  refine lv_aload_n hx hb d_M_init_636 rfl (lv_at hl 0 rfl) ?_
  refine lv_bipush (v := 60) hx hb d_M_init_637 (by decide) ?_
  refine g_newa (kd := 52) (N := 60) hx hb hts hK hR hS (by decide) rfl m_273 (by decide) rfl (Nat.le_of_ble_eq_true rfl) (Nat.le_of_ble_eq_true rfl) (Nat.le_of_ble_eq_true rfl) d_M_init_639 (fun H hR hS => ?_)
  refine g_nA hf (fun p327 hf => ?_)
  refine g_nW hf hR (fun w328 hf hR => ?_)
  have ⟨h329, hf⟩ := gd_e hf
  refine g_putFR hx hb hts hown hK hR hS pf_M_227 hin (fun _ => rfl) (fun _ => rfl) (fun _ => rfl) h329 d_M_init_641 (fun H locs hR hS => ?_)
  refine g_nW hf hR (fun w330 hf hR => ?_)
  refine W.widen (k := 48) (n := 1920) (Nat.le_of_ble_eq_true rfl) (Nat.le_of_ble_eq_true rfl) ?_
  exact g_vret hx hb hr hlocks hR hS hf d_M_init_644
theorem c_M_init (l : Launch) (D : va_G) (cA : Nat → ClassId) (oc : gO) (B N : Nat) (a0 : Nat) (w : gW) {wz : gW} {r : Unit} (hf : f_M_init N a0 w = some (r, wz)) : Met l y_M_init (Cond.code y_M_init b_M_init 1 none :: lw_good) ({ frames := 1, cells := 48, slots := 1920, locals := 60 } : Room) (gPre D cA oc B [.ref (B + a0)] w) (gQv D cA B r wz) 48 1920 (gA B) := by
  refine Met.ofW (cc := b_M_init) (maxL := 1) (ret := none) (by decide +kernel) rfl ?_
  intro p e s m args below meth c s₁ Bd hml hv
  obtain ⟨hargs, C, hR⟩ := gC.enter (l := l) rfl Bd hml hv
  have hin : meth.name = "<init>" := (name_of_methodNamed Bd.named Bd.method).1
  subst hargs
  have hl := lv_entry ([.ref (B + a0)]) (n := 1) (Nat.le_of_ble_eq_true rfl)
  rw [lg_entry_eq]
  generalize (lg_sl ([.ref (B + a0)]) ++ List.replicate (1 - (lg_sl ([.ref (B + a0)])).length) Slot.unset).toArray = ls at hl ⊢
  have hl : lv_has ls 1 [(0, .ref (B + a0))] := hl
  exact c_M_init_b0 C hin a0 w (lv_sub hl [0] rfl) hf hR va_S.rf
theorem d_M_in_0 : decode b_M_in 0 = .ok (.iload_n 1, 1) := by decide +kernel
theorem d_M_in_1 : decode b_M_in 1 = .ok (.iload_n 2, 1) := by decide +kernel
theorem d_M_in_2 : decode b_M_in 2 = .ok (.if_icmp .lt 12, 3) := by decide +kernel
theorem d_M_in_5 : decode b_M_in 5 = .ok (.iload_n 1, 1) := by decide +kernel
theorem d_M_in_6 : decode b_M_in 6 = .ok (.iload_n 3, 1) := by decide +kernel
theorem d_M_in_7 : decode b_M_in 7 = .ok (.if_icmp .gt 7, 3) := by decide +kernel
theorem d_M_in_10 : decode b_M_in 10 = .ok (.iconst 1, 1) := by decide +kernel
theorem d_M_in_11 : decode b_M_in 11 = .ok (.goto 4, 3) := by decide +kernel
theorem d_M_in_14 : decode b_M_in 14 = .ok (.iconst 0, 1) := by decide +kernel
theorem d_M_in_15 : decode b_M_in 15 = .ok (.ireturn, 1) := by decide +kernel
set_option maxRecDepth 20000 in
theorem c_M_in_b0 {r : Int32} {wz : gW} (C : gC p s m args meth c "RidCoppersModel" b_M_in 4 (some .boolean) D cA oc B) (a1 : Int32) (a2 : Int32) (a3 : Int32) (w : gW) {ls : Array Slot} {H : Heap} {locs : List Loc} (hl : lv_has ls 4 [(1, .int a1), (2, .int a2), (3, .int a3)]) (hf : f_M_in_b0 N a1 a2 a3 w = some (r, wz)) (hR : gRep D cA B w H) (hS : va_S (gA B) s.heap H locs) : W p l e ({ frames := 1, cells := 0, slots := 0, locals := 40 } : Room) s m args below meth c H locs 0 0 (MQ below (gQi D cA B r wz) args s 0 0 (gA B)) (F0 m 0 ls []) := by
  obtain ⟨hx, hb, hml, hown, hts, hr, hlocks, hK, hBs⟩ := id C
  unfold f_M_in_b0 at hf
  refine lv_iload_n hx hb d_M_in_0 rfl (lv_at hl 0 rfl) ?_
  refine lv_iload_n hx hb d_M_in_1 rfl (lv_at hl 1 rfl) ?_
  refine lv_icmp_lt (tgt := 14) hx hb d_M_in_2 (by decide) (fun hc => ?_) (fun hc => ?_)
  · have hf := cd_t hc hf
    refine lv_iconst (v := 0) hx hb d_M_in_14 (by decide) ?_
    exact g_iret hx hb hr hlocks hR hS hf rfl d_M_in_15
  have hf := cd_f hc hf
  refine lv_iload_n hx hb d_M_in_5 rfl (lv_at hl 0 rfl) ?_
  refine lv_iload_n hx hb d_M_in_6 rfl (lv_at hl 2 rfl) ?_
  refine lv_icmp_gt (tgt := 14) hx hb d_M_in_7 (by decide) (fun hc => ?_) (fun hc => ?_)
  · have hf := cd_t hc hf
    refine lv_iconst (v := 0) hx hb d_M_in_14 (by decide) ?_
    exact g_iret hx hb hr hlocks hR hS hf rfl d_M_in_15
  have hf := cd_f hc hf
  refine lv_iconst (v := 1) hx hb d_M_in_10 (by decide) ?_
  refine lv_goto (tgt := 15) hx hb d_M_in_11 (by decide) ?_
  exact g_iret hx hb hr hlocks hR hS hf rfl d_M_in_15
theorem c_M_in (l : Launch) (D : va_G) (cA : Nat → ClassId) (oc : gO) (B N : Nat) (a0 : Nat) (a1 : Int32) (a2 : Int32) (a3 : Int32) (w : gW) {wz : gW} {r : Int32} (hf : f_M_in N a0 a1 a2 a3 w = some (r, wz)) : Met l y_M_in (Cond.code y_M_in b_M_in 4 (some .boolean) :: lw_good) ({ frames := 1, cells := 0, slots := 0, locals := 40 } : Room) (gPre D cA oc B [.ref (B + a0), .int a1, .int a2, .int a3] w) (gQi D cA B r wz) 0 0 (gA B) := by
  refine Met.ofW (cc := b_M_in) (maxL := 4) (ret := (some .boolean)) (by decide +kernel) rfl ?_
  intro p e s m args below meth c s₁ Bd hml hv
  obtain ⟨hargs, C, hR⟩ := gC.enter (l := l) rfl Bd hml hv
  subst hargs
  have hl := lv_entry ([.ref (B + a0), .int a1, .int a2, .int a3]) (n := 4) (Nat.le_of_ble_eq_true rfl)
  rw [lg_entry_eq]
  generalize (lg_sl ([.ref (B + a0), .int a1, .int a2, .int a3]) ++ List.replicate (4 - (lg_sl ([.ref (B + a0), .int a1, .int a2, .int a3])).length) Slot.unset).toArray = ls at hl ⊢
  have hl : lv_has ls 4 [(0, .ref (B + a0)), (1, .int a1), (2, .int a2), (3, .int a3)] := hl
  exact c_M_in_b0 C a1 a2 a3 w (lv_sub hl [1, 2, 3] rfl) hf hR va_S.rf
theorem d_M_isPayer_0 : decode b_M_isPayer 0 = .ok (.aload_n 0, 1) := by decide +kernel
theorem d_M_isPayer_1 : decode b_M_isPayer 1 = .ok (.iload_n 1, 1) := by decide +kernel
theorem d_M_isPayer_2 : decode b_M_isPayer 2 = .ok (.iconst 0, 1) := by decide +kernel
theorem d_M_isPayer_3 : decode b_M_isPayer 3 = .ok (.aload_n 0, 1) := by decide +kernel
theorem d_M_isPayer_4 : decode b_M_isPayer 4 = .ok (.getfield 7, 3) := by decide +kernel
theorem d_M_isPayer_7 : decode b_M_isPayer 7 = .ok (.iconst 1, 1) := by decide +kernel
theorem d_M_isPayer_8 : decode b_M_isPayer 8 = .ok (.isub, 1) := by decide +kernel
theorem d_M_isPayer_9 : decode b_M_isPayer 9 = .ok (.invokevirtual 230, 3) := by decide +kernel
theorem d_M_isPayer_12 : decode b_M_isPayer 12 = .ok (.ireturn, 1) := by decide +kernel
set_option maxRecDepth 20000 in
theorem c_M_isPayer_b0 {r : Int32} {wz : gW} (C : gC p s m args meth c "RidCoppersModel" b_M_isPayer 2 (some .boolean) D cA oc B) (a0 : Nat) (a1 : Int32) (w : gW) {ls : Array Slot} {H : Heap} {locs : List Loc} (hl : lv_has ls 2 [(0, .ref (B + a0)), (1, .int a1)]) (hf : f_M_isPayer_b0 N a0 a1 w = some (r, wz)) (hR : gRep D cA B w H) (hS : va_S (gA B) s.heap H locs) : W p l e ({ frames := 2, cells := 0, slots := 0, locals := 63 } : Room) s m args below meth c H locs 0 0 (MQ below (gQi D cA B r wz) args s 0 0 (gA B)) (F0 m 0 ls []) := by
  obtain ⟨hx, hb, hml, hown, hts, hr, hlocks, hK, hBs⟩ := id C
  unfold f_M_isPayer_b0 at hf
  refine lv_aload_n hx hb d_M_isPayer_0 rfl (lv_at hl 0 rfl) ?_
  refine lv_iload_n hx hb d_M_isPayer_1 rfl (lv_at hl 1 rfl) ?_
  refine lv_iconst (v := 0) hx hb d_M_isPayer_2 (by decide) ?_
  refine lv_aload_n hx hb d_M_isPayer_3 rfl (lv_at hl 0 rfl) ?_
  have ⟨h1, hf⟩ := gd_e hf
  refine g_getI hx hb hts hown hK hR fl_M_7 (fun _ => rfl) h1 d_M_isPayer_4 ?_
  refine g_nI hf (fun x2 hf => ?_)
  refine lv_iconst (v := 1) hx hb d_M_isPayer_7 (by decide) ?_
  refine lv_isub hx hb d_M_isPayer_8 ?_
  refine g_nI hf (fun x3 hf => ?_)
  have ⟨x4, w5, h6, hf⟩ := kl_e hf
  refine g_ki0 (g_rV (As := [.int a1, .int 0, .int x3]) (rest := []) hx hb hml hown hts hK hR hS (c_M_in l D cA oc B N a0 a1 0 x3 w h6) I_M_in m_1204 mp_27 (gRecv hK hR (ci := 12) rfl h1) rfl rfl (Nat.le_of_ble_eq_true rfl) hl.1 ⟨Nat.le_of_ble_eq_true rfl, Nat.le_of_ble_eq_true rfl⟩ ⟨Nat.le_of_ble_eq_true rfl, Nat.le_of_ble_eq_true rfl⟩ d_M_isPayer_9) hS (fun H locs hR hS => ?_)
  have ⟨h7, hf⟩ := gd_e hf
  exact g_iret hx hb hr hlocks hR hS hf (nb01 h7) d_M_isPayer_12
theorem c_M_isPayer (l : Launch) (D : va_G) (cA : Nat → ClassId) (oc : gO) (B N : Nat) (a0 : Nat) (a1 : Int32) (w : gW) {wz : gW} {r : Int32} (hf : f_M_isPayer N a0 a1 w = some (r, wz)) : Met l y_M_isPayer (Cond.code y_M_isPayer b_M_isPayer 2 (some .boolean) :: lw_good) ({ frames := 2, cells := 0, slots := 0, locals := 63 } : Room) (gPre D cA oc B [.ref (B + a0), .int a1] w) (gQi D cA B r wz) 0 0 (gA B) := by
  refine Met.ofW (cc := b_M_isPayer) (maxL := 2) (ret := (some .boolean)) (by decide +kernel) rfl ?_
  intro p e s m args below meth c s₁ Bd hml hv
  obtain ⟨hargs, C, hR⟩ := gC.enter (l := l) rfl Bd hml hv
  subst hargs
  have hl := lv_entry ([.ref (B + a0), .int a1]) (n := 2) (Nat.le_of_ble_eq_true rfl)
  rw [lg_entry_eq]
  generalize (lg_sl ([.ref (B + a0), .int a1]) ++ List.replicate (2 - (lg_sl ([.ref (B + a0), .int a1])).length) Slot.unset).toArray = ls at hl ⊢
  have hl : lv_has ls 2 [(0, .ref (B + a0)), (1, .int a1)] := hl
  exact c_M_isPayer_b0 C a0 a1 w (lv_sub hl [0, 1] rfl) hf hR va_S.rf
theorem d_M_isSort_0 : decode b_M_isSort 0 = .ok (.aload_n 0, 1) := by decide +kernel
theorem d_M_isSort_1 : decode b_M_isSort 1 = .ok (.iload_n 1, 1) := by decide +kernel
theorem d_M_isSort_2 : decode b_M_isSort 2 = .ok (.iconst 0, 1) := by decide +kernel
theorem d_M_isSort_3 : decode b_M_isSort 3 = .ok (.iconst 5, 1) := by decide +kernel
theorem d_M_isSort_4 : decode b_M_isSort 4 = .ok (.invokevirtual 230, 3) := by decide +kernel
theorem d_M_isSort_7 : decode b_M_isSort 7 = .ok (.ireturn, 1) := by decide +kernel
set_option maxRecDepth 20000 in
theorem c_M_isSort_b0 {r : Int32} {wz : gW} (C : gC p s m args meth c "RidCoppersModel" b_M_isSort 2 (some .boolean) D cA oc B) (a0 : Nat) (a1 : Int32) (w : gW) {ls : Array Slot} {H : Heap} {locs : List Loc} (hl : lv_has ls 2 [(0, .ref (B + a0)), (1, .int a1)]) (hf : f_M_isSort_b0 N a0 a1 w = some (r, wz)) (hR : gRep D cA B w H) (hS : va_S (gA B) s.heap H locs) : W p l e ({ frames := 2, cells := 0, slots := 0, locals := 63 } : Room) s m args below meth c H locs 0 0 (MQ below (gQi D cA B r wz) args s 0 0 (gA B)) (F0 m 0 ls []) := by
  obtain ⟨hx, hb, hml, hown, hts, hr, hlocks, hK, hBs⟩ := id C
  unfold f_M_isSort_b0 at hf
  refine lv_aload_n hx hb d_M_isSort_0 rfl (lv_at hl 0 rfl) ?_
  refine lv_iload_n hx hb d_M_isSort_1 rfl (lv_at hl 1 rfl) ?_
  refine lv_iconst (v := 0) hx hb d_M_isSort_2 (by decide) ?_
  refine lv_iconst (v := 5) hx hb d_M_isSort_3 (by decide) ?_
  have ⟨h4, hf⟩ := gd_e hf
  have ⟨x1, w2, h3, hf⟩ := kl_e hf
  refine g_ki0 (g_rV (As := [.int a1, .int 0, .int 5]) (rest := []) hx hb hml hown hts hK hR hS (c_M_in l D cA oc B N a0 a1 0 5 w h3) I_M_in m_1204 mp_27 (gRecv hK hR (ci := 12) rfl h4) rfl rfl (Nat.le_of_ble_eq_true rfl) hl.1 ⟨Nat.le_of_ble_eq_true rfl, Nat.le_of_ble_eq_true rfl⟩ ⟨Nat.le_of_ble_eq_true rfl, Nat.le_of_ble_eq_true rfl⟩ d_M_isSort_4) hS (fun H locs hR hS => ?_)
  have ⟨h5, hf⟩ := gd_e hf
  exact g_iret hx hb hr hlocks hR hS hf (nb01 h5) d_M_isSort_7
theorem c_M_isSort (l : Launch) (D : va_G) (cA : Nat → ClassId) (oc : gO) (B N : Nat) (a0 : Nat) (a1 : Int32) (w : gW) {wz : gW} {r : Int32} (hf : f_M_isSort N a0 a1 w = some (r, wz)) : Met l y_M_isSort (Cond.code y_M_isSort b_M_isSort 2 (some .boolean) :: lw_good) ({ frames := 2, cells := 0, slots := 0, locals := 63 } : Room) (gPre D cA oc B [.ref (B + a0), .int a1] w) (gQi D cA B r wz) 0 0 (gA B) := by
  refine Met.ofW (cc := b_M_isSort) (maxL := 2) (ret := (some .boolean)) (by decide +kernel) rfl ?_
  intro p e s m args below meth c s₁ Bd hml hv
  obtain ⟨hargs, C, hR⟩ := gC.enter (l := l) rfl Bd hml hv
  subst hargs
  have hl := lv_entry ([.ref (B + a0), .int a1]) (n := 2) (Nat.le_of_ble_eq_true rfl)
  rw [lg_entry_eq]
  generalize (lg_sl ([.ref (B + a0), .int a1]) ++ List.replicate (2 - (lg_sl ([.ref (B + a0), .int a1])).length) Slot.unset).toArray = ls at hl ⊢
  have hl : lv_has ls 2 [(0, .ref (B + a0)), (1, .int a1)] := hl
  exact c_M_isSort_b0 C a0 a1 w (lv_sub hl [0, 1] rfl) hf hR va_S.rf
theorem d_M_isPrice_0 : decode b_M_isPrice 0 = .ok (.aload_n 0, 1) := by decide +kernel
theorem d_M_isPrice_1 : decode b_M_isPrice 1 = .ok (.iload_n 1, 1) := by decide +kernel
theorem d_M_isPrice_2 : decode b_M_isPrice 2 = .ok (.iconst 1, 1) := by decide +kernel
theorem d_M_isPrice_3 : decode b_M_isPrice 3 = .ok (.sipush 199, 3) := by decide +kernel
theorem d_M_isPrice_6 : decode b_M_isPrice 6 = .ok (.invokevirtual 230, 3) := by decide +kernel
theorem d_M_isPrice_9 : decode b_M_isPrice 9 = .ok (.ireturn, 1) := by decide +kernel
set_option maxRecDepth 20000 in
theorem c_M_isPrice_b0 {r : Int32} {wz : gW} (C : gC p s m args meth c "RidCoppersModel" b_M_isPrice 2 (some .boolean) D cA oc B) (a0 : Nat) (a1 : Int32) (w : gW) {ls : Array Slot} {H : Heap} {locs : List Loc} (hl : lv_has ls 2 [(0, .ref (B + a0)), (1, .int a1)]) (hf : f_M_isPrice_b0 N a0 a1 w = some (r, wz)) (hR : gRep D cA B w H) (hS : va_S (gA B) s.heap H locs) : W p l e ({ frames := 2, cells := 0, slots := 0, locals := 63 } : Room) s m args below meth c H locs 0 0 (MQ below (gQi D cA B r wz) args s 0 0 (gA B)) (F0 m 0 ls []) := by
  obtain ⟨hx, hb, hml, hown, hts, hr, hlocks, hK, hBs⟩ := id C
  unfold f_M_isPrice_b0 at hf
  refine lv_aload_n hx hb d_M_isPrice_0 rfl (lv_at hl 0 rfl) ?_
  refine lv_iload_n hx hb d_M_isPrice_1 rfl (lv_at hl 1 rfl) ?_
  refine lv_iconst (v := 1) hx hb d_M_isPrice_2 (by decide) ?_
  refine lv_sipush (v := 199) hx hb d_M_isPrice_3 (by decide) ?_
  have ⟨h4, hf⟩ := gd_e hf
  have ⟨x1, w2, h3, hf⟩ := kl_e hf
  refine g_ki0 (g_rV (As := [.int a1, .int 1, .int 199]) (rest := []) hx hb hml hown hts hK hR hS (c_M_in l D cA oc B N a0 a1 1 199 w h3) I_M_in m_1204 mp_27 (gRecv hK hR (ci := 12) rfl h4) rfl rfl (Nat.le_of_ble_eq_true rfl) hl.1 ⟨Nat.le_of_ble_eq_true rfl, Nat.le_of_ble_eq_true rfl⟩ ⟨Nat.le_of_ble_eq_true rfl, Nat.le_of_ble_eq_true rfl⟩ d_M_isPrice_6) hS (fun H locs hR hS => ?_)
  have ⟨h5, hf⟩ := gd_e hf
  exact g_iret hx hb hr hlocks hR hS hf (nb01 h5) d_M_isPrice_9
theorem c_M_isPrice (l : Launch) (D : va_G) (cA : Nat → ClassId) (oc : gO) (B N : Nat) (a0 : Nat) (a1 : Int32) (w : gW) {wz : gW} {r : Int32} (hf : f_M_isPrice N a0 a1 w = some (r, wz)) : Met l y_M_isPrice (Cond.code y_M_isPrice b_M_isPrice 2 (some .boolean) :: lw_good) ({ frames := 2, cells := 0, slots := 0, locals := 63 } : Room) (gPre D cA oc B [.ref (B + a0), .int a1] w) (gQi D cA B r wz) 0 0 (gA B) := by
  refine Met.ofW (cc := b_M_isPrice) (maxL := 2) (ret := (some .boolean)) (by decide +kernel) rfl ?_
  intro p e s m args below meth c s₁ Bd hml hv
  obtain ⟨hargs, C, hR⟩ := gC.enter (l := l) rfl Bd hml hv
  subst hargs
  have hl := lv_entry ([.ref (B + a0), .int a1]) (n := 2) (Nat.le_of_ble_eq_true rfl)
  rw [lg_entry_eq]
  generalize (lg_sl ([.ref (B + a0), .int a1]) ++ List.replicate (2 - (lg_sl ([.ref (B + a0), .int a1])).length) Slot.unset).toArray = ls at hl ⊢
  have hl : lv_has ls 2 [(0, .ref (B + a0)), (1, .int a1)] := hl
  exact c_M_isPrice_b0 C a0 a1 w (lv_sub hl [0, 1] rfl) hf hR va_S.rf
theorem d_M_payer_0 : decode b_M_payer 0 = .ok (.aload_n 0, 1) := by decide +kernel
theorem d_M_payer_1 : decode b_M_payer 1 = .ok (.iload_n 1, 1) := by decide +kernel
theorem d_M_payer_2 : decode b_M_payer 2 = .ok (.iconst 0, 1) := by decide +kernel
theorem d_M_payer_3 : decode b_M_payer 3 = .ok (.bipush 6, 2) := by decide +kernel
theorem d_M_payer_5 : decode b_M_payer 5 = .ok (.invokevirtual 230, 3) := by decide +kernel
theorem d_M_payer_8 : decode b_M_payer 8 = .ok (.ifCond .ne 5, 3) := by decide +kernel
theorem d_M_payer_11 : decode b_M_payer 11 = .ok (.iconst (-1), 1) := by decide +kernel
theorem d_M_payer_12 : decode b_M_payer 12 = .ok (.ireturn, 1) := by decide +kernel
theorem d_M_payer_13 : decode b_M_payer 13 = .ok (.aload_n 0, 1) := by decide +kernel
theorem d_M_payer_14 : decode b_M_payer 14 = .ok (.iload_n 2, 1) := by decide +kernel
theorem d_M_payer_15 : decode b_M_payer 15 = .ok (.iconst 0, 1) := by decide +kernel
theorem d_M_payer_16 : decode b_M_payer 16 = .ok (.bipush 9, 2) := by decide +kernel
theorem d_M_payer_18 : decode b_M_payer 18 = .ok (.invokevirtual 230, 3) := by decide +kernel
theorem d_M_payer_21 : decode b_M_payer 21 = .ok (.ifCond .ne 6, 3) := by decide +kernel
theorem d_M_payer_24 : decode b_M_payer 24 = .ok (.bipush (-2), 2) := by decide +kernel
theorem d_M_payer_26 : decode b_M_payer 26 = .ok (.ireturn, 1) := by decide +kernel
theorem d_M_payer_27 : decode b_M_payer 27 = .ok (.aload_n 0, 1) := by decide +kernel
theorem d_M_payer_28 : decode b_M_payer 28 = .ok (.getfield 7, 3) := by decide +kernel
theorem d_M_payer_31 : decode b_M_payer 31 = .ok (.iconst 4, 1) := by decide +kernel
theorem d_M_payer_32 : decode b_M_payer 32 = .ok (.if_icmp .ne 6, 3) := by decide +kernel
theorem d_M_payer_35 : decode b_M_payer 35 = .ok (.bipush (-4), 2) := by decide +kernel
theorem d_M_payer_37 : decode b_M_payer 37 = .ok (.ireturn, 1) := by decide +kernel
theorem d_M_payer_38 : decode b_M_payer 38 = .ok (.aload_n 0, 1) := by decide +kernel
theorem d_M_payer_39 : decode b_M_payer 39 = .ok (.getfield 17, 3) := by decide +kernel
theorem d_M_payer_42 : decode b_M_payer 42 = .ok (.aload_n 0, 1) := by decide +kernel
theorem d_M_payer_43 : decode b_M_payer 43 = .ok (.getfield 7, 3) := by decide +kernel
theorem d_M_payer_46 : decode b_M_payer 46 = .ok (.iload_n 1, 1) := by decide +kernel
theorem d_M_payer_47 : decode b_M_payer 47 = .ok (.iastore, 1) := by decide +kernel
theorem d_M_payer_48 : decode b_M_payer 48 = .ok (.aload_n 0, 1) := by decide +kernel
theorem d_M_payer_49 : decode b_M_payer 49 = .ok (.getfield 20, 3) := by decide +kernel
theorem d_M_payer_52 : decode b_M_payer 52 = .ok (.aload_n 0, 1) := by decide +kernel
theorem d_M_payer_53 : decode b_M_payer 53 = .ok (.getfield 7, 3) := by decide +kernel
theorem d_M_payer_56 : decode b_M_payer 56 = .ok (.iload_n 2, 1) := by decide +kernel
theorem d_M_payer_57 : decode b_M_payer 57 = .ok (.iastore, 1) := by decide +kernel
theorem d_M_payer_58 : decode b_M_payer 58 = .ok (.aload_n 0, 1) := by decide +kernel
theorem d_M_payer_59 : decode b_M_payer 59 = .ok (.getfield 23, 3) := by decide +kernel
theorem d_M_payer_62 : decode b_M_payer 62 = .ok (.aload_n 0, 1) := by decide +kernel
theorem d_M_payer_63 : decode b_M_payer 63 = .ok (.getfield 7, 3) := by decide +kernel
theorem d_M_payer_66 : decode b_M_payer 66 = .ok (.iconst 0, 1) := by decide +kernel
theorem d_M_payer_67 : decode b_M_payer 67 = .ok (.iastore, 1) := by decide +kernel
theorem d_M_payer_68 : decode b_M_payer 68 = .ok (.iconst 0, 1) := by decide +kernel
theorem d_M_payer_69 : decode b_M_payer 69 = .ok (.istore_n 3, 1) := by decide +kernel
theorem d_M_payer_70 : decode b_M_payer 70 = .ok (.iload_n 3, 1) := by decide +kernel
theorem d_M_payer_71 : decode b_M_payer 71 = .ok (.iconst 4, 1) := by decide +kernel
theorem d_M_payer_72 : decode b_M_payer 72 = .ok (.if_icmp .ge 23, 3) := by decide +kernel
theorem d_M_payer_75 : decode b_M_payer 75 = .ok (.aload_n 0, 1) := by decide +kernel
theorem d_M_payer_76 : decode b_M_payer 76 = .ok (.getfield 26, 3) := by decide +kernel
theorem d_M_payer_79 : decode b_M_payer 79 = .ok (.iconst 4, 1) := by decide +kernel
theorem d_M_payer_80 : decode b_M_payer 80 = .ok (.aload_n 0, 1) := by decide +kernel
theorem d_M_payer_81 : decode b_M_payer 81 = .ok (.getfield 7, 3) := by decide +kernel
theorem d_M_payer_84 : decode b_M_payer 84 = .ok (.imul, 1) := by decide +kernel
theorem d_M_payer_85 : decode b_M_payer 85 = .ok (.iload_n 3, 1) := by decide +kernel
theorem d_M_payer_86 : decode b_M_payer 86 = .ok (.iadd, 1) := by decide +kernel
theorem d_M_payer_87 : decode b_M_payer 87 = .ok (.iconst 0, 1) := by decide +kernel
theorem d_M_payer_88 : decode b_M_payer 88 = .ok (.iastore, 1) := by decide +kernel
theorem d_M_payer_89 : decode b_M_payer 89 = .ok (.iinc 3 1, 3) := by decide +kernel
theorem d_M_payer_92 : decode b_M_payer 92 = .ok (.goto (-22), 3) := by decide +kernel
theorem d_M_payer_95 : decode b_M_payer 95 = .ok (.iconst 0, 1) := by decide +kernel
theorem d_M_payer_96 : decode b_M_payer 96 = .ok (.istore_n 3, 1) := by decide +kernel
theorem d_M_payer_97 : decode b_M_payer 97 = .ok (.iload_n 3, 1) := by decide +kernel
theorem d_M_payer_98 : decode b_M_payer 98 = .ok (.bipush 6, 2) := by decide +kernel
theorem d_M_payer_100 : decode b_M_payer 100 = .ok (.if_icmp .ge 24, 3) := by decide +kernel
theorem d_M_payer_103 : decode b_M_payer 103 = .ok (.aload_n 0, 1) := by decide +kernel
theorem d_M_payer_104 : decode b_M_payer 104 = .ok (.getfield 29, 3) := by decide +kernel
theorem d_M_payer_107 : decode b_M_payer 107 = .ok (.bipush 6, 2) := by decide +kernel
theorem d_M_payer_109 : decode b_M_payer 109 = .ok (.aload_n 0, 1) := by decide +kernel
theorem d_M_payer_110 : decode b_M_payer 110 = .ok (.getfield 7, 3) := by decide +kernel
theorem d_M_payer_113 : decode b_M_payer 113 = .ok (.imul, 1) := by decide +kernel
theorem d_M_payer_114 : decode b_M_payer 114 = .ok (.iload_n 3, 1) := by decide +kernel
theorem d_M_payer_115 : decode b_M_payer 115 = .ok (.iadd, 1) := by decide +kernel
theorem d_M_payer_116 : decode b_M_payer 116 = .ok (.iconst 0, 1) := by decide +kernel
theorem d_M_payer_117 : decode b_M_payer 117 = .ok (.iastore, 1) := by decide +kernel
theorem d_M_payer_118 : decode b_M_payer 118 = .ok (.iinc 3 1, 3) := by decide +kernel
theorem d_M_payer_121 : decode b_M_payer 121 = .ok (.goto (-24), 3) := by decide +kernel
theorem d_M_payer_124 : decode b_M_payer 124 = .ok (.aload_n 0, 1) := by decide +kernel
theorem d_M_payer_125 : decode b_M_payer 125 = .ok (.dup, 1) := by decide +kernel
theorem d_M_payer_126 : decode b_M_payer 126 = .ok (.getfield 7, 3) := by decide +kernel
theorem d_M_payer_129 : decode b_M_payer 129 = .ok (.iconst 1, 1) := by decide +kernel
theorem d_M_payer_130 : decode b_M_payer 130 = .ok (.iadd, 1) := by decide +kernel
theorem d_M_payer_131 : decode b_M_payer 131 = .ok (.putfield 7, 3) := by decide +kernel
theorem d_M_payer_134 : decode b_M_payer 134 = .ok (.aload_n 0, 1) := by decide +kernel
theorem d_M_payer_135 : decode b_M_payer 135 = .ok (.getfield 7, 3) := by decide +kernel
theorem d_M_payer_138 : decode b_M_payer 138 = .ok (.iconst 1, 1) := by decide +kernel
theorem d_M_payer_139 : decode b_M_payer 139 = .ok (.isub, 1) := by decide +kernel
theorem d_M_payer_140 : decode b_M_payer 140 = .ok (.ireturn, 1) := by decide +kernel
set_option maxRecDepth 20000 in
theorem c_M_payer_b97 {r : Int32} {wz : gW} {rec97 : Nat × Int32 × gW → Option (Int32 × gW)} (ih97 : ∀ (a0 : Nat) (a3 : Int32) (w : gW) (ls : Array Slot) (H : Heap) (locs : List Loc), rec97 (a0, a3, w) = some (r, wz) → lv_has ls 4 [(0, .ref (B + a0)), (3, .int a3)] → gRep D cA B w H → va_S (gA B) s.heap H locs → W p l e ({ frames := 2, cells := 0, slots := 0, locals := 63 } : Room) s m args below meth c H locs 0 0 (MQ below (gQi D cA B r wz) args s 0 0 (gA B)) (F0 m 97 ls [])) (C : gC p s m args meth c "RidCoppersModel" b_M_payer 4 (some .int) D cA oc B) (a0 : Nat) (a3 : Int32) (w : gW) {ls : Array Slot} {H : Heap} {locs : List Loc} (hl : lv_has ls 4 [(0, .ref (B + a0)), (3, .int a3)]) (hf : f_M_payer_b97 N rec97 a0 a3 w = some (r, wz)) (hR : gRep D cA B w H) (hS : va_S (gA B) s.heap H locs) : W p l e ({ frames := 2, cells := 0, slots := 0, locals := 63 } : Room) s m args below meth c H locs 0 0 (MQ below (gQi D cA B r wz) args s 0 0 (gA B)) (F0 m 97 ls []) := by
  obtain ⟨hx, hb, hml, hown, hts, hr, hlocks, hK, hBs⟩ := id C
  unfold f_M_payer_b97 at hf
  refine lv_iload_n hx hb d_M_payer_97 rfl (lv_at hl 1 rfl) ?_
  refine lv_bipush (v := 6) hx hb d_M_payer_98 (by decide) ?_
  refine lv_icmp_ge (tgt := 124) hx hb d_M_payer_100 (by decide) (fun hc => ?_) (fun hc => ?_)
  · have hf := cd_t hc hf
    refine lv_aload_n hx hb d_M_payer_124 rfl (lv_at hl 0 rfl) ?_
    refine lv_dup hx hb d_M_payer_125 rfl ?_
    have ⟨h31, hf⟩ := gd_e hf
    refine g_getI hx hb hts hown hK hR fl_M_7 (fun _ => rfl) h31 d_M_payer_126 ?_
    refine g_nI hf (fun x32 hf => ?_)
    refine lv_iconst (v := 1) hx hb d_M_payer_129 (by decide) ?_
    refine lv_iadd hx hb d_M_payer_130 ?_
    refine g_nI hf (fun x33 hf => ?_)
    refine g_putI hx hb hts hown hK hR hS pf_M_7 (fun _ => rfl) rfl rfl h31 d_M_payer_131 (fun H locs hR hS => ?_)
    refine g_nW hf hR (fun w34 hf hR => ?_)
    refine lv_aload_n hx hb d_M_payer_134 rfl (lv_at hl 0 rfl) ?_
    have ⟨h35, hf⟩ := gd_e hf
    refine g_getI hx hb hts hown hK hR fl_M_7 (fun _ => rfl) h35 d_M_payer_135 ?_
    refine g_nI hf (fun x36 hf => ?_)
    refine lv_iconst (v := 1) hx hb d_M_payer_138 (by decide) ?_
    refine lv_isub hx hb d_M_payer_139 ?_
    refine g_nI hf (fun x37 hf => ?_)
    exact g_iret hx hb hr hlocks hR hS hf rfl d_M_payer_140
  have hf := cd_f hc hf
  refine lv_aload_n hx hb d_M_payer_103 rfl (lv_at hl 0 rfl) ?_
  have ⟨h38, hf⟩ := gd_e hf
  have ⟨x39, h40, hf⟩ := rr_e hf
  refine g_getR hx hb hts hown hK hR fl_M_29 (fun _ => rfl) h38 h40 d_M_payer_104 ?_
  refine lv_bipush (v := 6) hx hb d_M_payer_107 (by decide) ?_
  refine lv_aload_n hx hb d_M_payer_109 rfl (lv_at hl 0 rfl) ?_
  refine g_getI hx hb hts hown hK hR fl_M_7 (fun _ => rfl) h38 d_M_payer_110 ?_
  refine g_nI hf (fun x41 hf => ?_)
  refine lv_imul hx hb d_M_payer_113 ?_
  refine g_nI hf (fun x42 hf => ?_)
  refine lv_iload_n hx hb d_M_payer_114 rfl (lv_at hl 1 rfl) ?_
  refine lv_iadd hx hb d_M_payer_115 ?_
  refine g_nI hf (fun x43 hf => ?_)
  refine lv_iconst (v := 0) hx hb d_M_payer_116 (by decide) ?_
  have ⟨h44, hf⟩ := gd_e hf
  have ⟨h45, hf⟩ := gd_e hf
  refine g_iast hx hb hK hR hS h44 h45 d_M_payer_117 (fun H locs hR hS => ?_)
  refine g_nW hf hR (fun w46 hf hR => ?_)
  refine g_iinc (lv' := fun x47 => [(3, .int x47), (0, .ref (B + a0))]) hf hx hb d_M_payer_118 hl (k := 1) rfl (by decide) (by decide) (fun _ => rfl) (fun x47 ls hf hl => ?_)
  refine lv_goto (tgt := 97) hx hb d_M_payer_121 (by decide) ?_
  exact ih97 a0 x47 w46 _ _ _ hf (lv_sub hl [1, 0] rfl) hR hS
theorem c_M_payer_l97 {r : Int32} {wz : gW} (C : gC p s m args meth c "RidCoppersModel" b_M_payer 4 (some .int) D cA oc B) (a0 : Nat) (a3 : Int32) (w : gW) {ls : Array Slot} {H : Heap} {locs : List Loc} (hl : lv_has ls 4 [(0, .ref (B + a0)), (3, .int a3)]) (hf : f_M_payer_l97 N a0 a3 w = some (r, wz)) (hR : gRep D cA B w H) (hS : va_S (gA B) s.heap H locs) : W p l e ({ frames := 2, cells := 0, slots := 0, locals := 63 } : Room) s m args below meth c H locs 0 0 (MQ below (gQi D cA B r wz) args s 0 0 (gA B)) (F0 m 97 ls []) := by
  unfold f_M_payer_l97 at hf
  suffices hh : ∀ n : Nat, ∀ (a0 : Nat) (a3 : Int32) (w : gW) (ls : Array Slot) (H : Heap) (locs : List Loc), itr (fun rec (q : Nat × Int32 × gW) => f_M_payer_b97 N rec q.1 q.2.1 q.2.2) n (a0, a3, w) = some (r, wz) → lv_has ls 4 [(0, .ref (B + a0)), (3, .int a3)] → gRep D cA B w H → va_S (gA B) s.heap H locs → W p l e ({ frames := 2, cells := 0, slots := 0, locals := 63 } : Room) s m args below meth c H locs 0 0 (MQ below (gQi D cA B r wz) args s 0 0 (gA B)) (F0 m 97 ls []) from hh N a0 a3 w ls H locs hf hl hR hS
  intro n
  induction n with
  | zero => intro a0 a3 w ls H locs hf; cases hf
  | succ n ihn =>
    intro a0 a3 w ls H locs hf hl hR hS
    exact c_M_payer_b97 (N := N) ihn C a0 a3 w hl ((itr_s _ _ _).symm.trans hf) hR hS
set_option maxRecDepth 20000 in
theorem c_M_payer_b70 {r : Int32} {wz : gW} {rec70 : Nat × Int32 × gW → Option (Int32 × gW)} (ih70 : ∀ (a0 : Nat) (a3 : Int32) (w : gW) (ls : Array Slot) (H : Heap) (locs : List Loc), rec70 (a0, a3, w) = some (r, wz) → lv_has ls 4 [(0, .ref (B + a0)), (3, .int a3)] → gRep D cA B w H → va_S (gA B) s.heap H locs → W p l e ({ frames := 2, cells := 0, slots := 0, locals := 63 } : Room) s m args below meth c H locs 0 0 (MQ below (gQi D cA B r wz) args s 0 0 (gA B)) (F0 m 70 ls [])) (C : gC p s m args meth c "RidCoppersModel" b_M_payer 4 (some .int) D cA oc B) (a0 : Nat) (a3 : Int32) (w : gW) {ls : Array Slot} {H : Heap} {locs : List Loc} (hl : lv_has ls 4 [(0, .ref (B + a0)), (3, .int a3)]) (hf : f_M_payer_b70 N rec70 a0 a3 w = some (r, wz)) (hR : gRep D cA B w H) (hS : va_S (gA B) s.heap H locs) : W p l e ({ frames := 2, cells := 0, slots := 0, locals := 63 } : Room) s m args below meth c H locs 0 0 (MQ below (gQi D cA B r wz) args s 0 0 (gA B)) (F0 m 70 ls []) := by
  obtain ⟨hx, hb, hml, hown, hts, hr, hlocks, hK, hBs⟩ := id C
  unfold f_M_payer_b70 at hf
  refine lv_iload_n hx hb d_M_payer_70 rfl (lv_at hl 1 rfl) ?_
  refine lv_iconst (v := 4) hx hb d_M_payer_71 (by decide) ?_
  refine lv_icmp_ge (tgt := 95) hx hb d_M_payer_72 (by decide) (fun hc => ?_) (fun hc => ?_)
  · have hf := cd_t hc hf
    refine lv_iconst (v := 0) hx hb d_M_payer_95 (by decide) ?_
    refine lv_istore_n (lv' := [(3, .int 0), (0, .ref (B + a0))]) hx hb d_M_payer_96 rfl hl (by decide) rfl (fun ls hl => ?_)
    exact c_M_payer_l97 C a0 0 w (lv_sub hl [1, 0] rfl) hf hR hS
  have hf := cd_f hc hf
  refine lv_aload_n hx hb d_M_payer_75 rfl (lv_at hl 0 rfl) ?_
  have ⟨h48, hf⟩ := gd_e hf
  have ⟨x49, h50, hf⟩ := rr_e hf
  refine g_getR hx hb hts hown hK hR fl_M_26 (fun _ => rfl) h48 h50 d_M_payer_76 ?_
  refine lv_iconst (v := 4) hx hb d_M_payer_79 (by decide) ?_
  refine lv_aload_n hx hb d_M_payer_80 rfl (lv_at hl 0 rfl) ?_
  refine g_getI hx hb hts hown hK hR fl_M_7 (fun _ => rfl) h48 d_M_payer_81 ?_
  refine g_nI hf (fun x51 hf => ?_)
  refine lv_imul hx hb d_M_payer_84 ?_
  refine g_nI hf (fun x52 hf => ?_)
  refine lv_iload_n hx hb d_M_payer_85 rfl (lv_at hl 1 rfl) ?_
  refine lv_iadd hx hb d_M_payer_86 ?_
  refine g_nI hf (fun x53 hf => ?_)
  refine lv_iconst (v := 0) hx hb d_M_payer_87 (by decide) ?_
  have ⟨h54, hf⟩ := gd_e hf
  have ⟨h55, hf⟩ := gd_e hf
  refine g_iast hx hb hK hR hS h54 h55 d_M_payer_88 (fun H locs hR hS => ?_)
  refine g_nW hf hR (fun w56 hf hR => ?_)
  refine g_iinc (lv' := fun x57 => [(3, .int x57), (0, .ref (B + a0))]) hf hx hb d_M_payer_89 hl (k := 1) rfl (by decide) (by decide) (fun _ => rfl) (fun x57 ls hf hl => ?_)
  refine lv_goto (tgt := 70) hx hb d_M_payer_92 (by decide) ?_
  exact ih70 a0 x57 w56 _ _ _ hf (lv_sub hl [1, 0] rfl) hR hS
theorem c_M_payer_l70 {r : Int32} {wz : gW} (C : gC p s m args meth c "RidCoppersModel" b_M_payer 4 (some .int) D cA oc B) (a0 : Nat) (a3 : Int32) (w : gW) {ls : Array Slot} {H : Heap} {locs : List Loc} (hl : lv_has ls 4 [(0, .ref (B + a0)), (3, .int a3)]) (hf : f_M_payer_l70 N a0 a3 w = some (r, wz)) (hR : gRep D cA B w H) (hS : va_S (gA B) s.heap H locs) : W p l e ({ frames := 2, cells := 0, slots := 0, locals := 63 } : Room) s m args below meth c H locs 0 0 (MQ below (gQi D cA B r wz) args s 0 0 (gA B)) (F0 m 70 ls []) := by
  unfold f_M_payer_l70 at hf
  suffices hh : ∀ n : Nat, ∀ (a0 : Nat) (a3 : Int32) (w : gW) (ls : Array Slot) (H : Heap) (locs : List Loc), itr (fun rec (q : Nat × Int32 × gW) => f_M_payer_b70 N rec q.1 q.2.1 q.2.2) n (a0, a3, w) = some (r, wz) → lv_has ls 4 [(0, .ref (B + a0)), (3, .int a3)] → gRep D cA B w H → va_S (gA B) s.heap H locs → W p l e ({ frames := 2, cells := 0, slots := 0, locals := 63 } : Room) s m args below meth c H locs 0 0 (MQ below (gQi D cA B r wz) args s 0 0 (gA B)) (F0 m 70 ls []) from hh N a0 a3 w ls H locs hf hl hR hS
  intro n
  induction n with
  | zero => intro a0 a3 w ls H locs hf; cases hf
  | succ n ihn =>
    intro a0 a3 w ls H locs hf hl hR hS
    exact c_M_payer_b70 (N := N) ihn C a0 a3 w hl ((itr_s _ _ _).symm.trans hf) hR hS
set_option maxRecDepth 20000 in
theorem c_M_payer_b0 {r : Int32} {wz : gW} (C : gC p s m args meth c "RidCoppersModel" b_M_payer 4 (some .int) D cA oc B) (a0 : Nat) (a1 : Int32) (a2 : Int32) (w : gW) {ls : Array Slot} {H : Heap} {locs : List Loc} (hl : lv_has ls 4 [(0, .ref (B + a0)), (1, .int a1), (2, .int a2)]) (hf : f_M_payer_b0 N a0 a1 a2 w = some (r, wz)) (hR : gRep D cA B w H) (hS : va_S (gA B) s.heap H locs) : W p l e ({ frames := 2, cells := 0, slots := 0, locals := 63 } : Room) s m args below meth c H locs 0 0 (MQ below (gQi D cA B r wz) args s 0 0 (gA B)) (F0 m 0 ls []) := by
  obtain ⟨hx, hb, hml, hown, hts, hr, hlocks, hK, hBs⟩ := id C
  unfold f_M_payer_b0 at hf
  refine lv_aload_n hx hb d_M_payer_0 rfl (lv_at hl 0 rfl) ?_
  refine lv_iload_n hx hb d_M_payer_1 rfl (lv_at hl 1 rfl) ?_
  refine lv_iconst (v := 0) hx hb d_M_payer_2 (by decide) ?_
  refine lv_bipush (v := 6) hx hb d_M_payer_3 (by decide) ?_
  have ⟨h4, hf⟩ := gd_e hf
  have ⟨x1, w2, h3, hf⟩ := kl_e hf
  refine g_ki0 (g_rV (As := [.int a1, .int 0, .int 6]) (rest := []) hx hb hml hown hts hK hR hS (c_M_in l D cA oc B N a0 a1 0 6 w h3) I_M_in m_1204 mp_27 (gRecv hK hR (ci := 12) rfl h4) rfl rfl (Nat.le_of_ble_eq_true rfl) hl.1 ⟨Nat.le_of_ble_eq_true rfl, Nat.le_of_ble_eq_true rfl⟩ ⟨Nat.le_of_ble_eq_true rfl, Nat.le_of_ble_eq_true rfl⟩ d_M_payer_5) hS (fun H locs hR hS => ?_)
  refine lv_if_ne (tgt := 13) hx hb d_M_payer_8 (by decide) (fun hc => ?_) (fun hc => ?_)
  · have hf := cd_f hc hf
    refine lv_aload_n hx hb d_M_payer_13 rfl (lv_at hl 0 rfl) ?_
    refine lv_iload_n hx hb d_M_payer_14 rfl (lv_at hl 2 rfl) ?_
    refine lv_iconst (v := 0) hx hb d_M_payer_15 (by decide) ?_
    refine lv_bipush (v := 9) hx hb d_M_payer_16 (by decide) ?_
    have ⟨h8, hf⟩ := gd_e hf
    have ⟨x5, w6, h7, hf⟩ := kl_e hf
    refine g_ki0 (g_rV (As := [.int a2, .int 0, .int 9]) (rest := []) hx hb hml hown hts hK hR hS (c_M_in l D cA oc B N a0 a2 0 9 w2 h7) I_M_in m_1204 mp_27 (gRecv hK hR (ci := 12) rfl h8) rfl rfl (Nat.le_of_ble_eq_true rfl) hl.1 ⟨Nat.le_of_ble_eq_true rfl, Nat.le_of_ble_eq_true rfl⟩ ⟨Nat.le_of_ble_eq_true rfl, Nat.le_of_ble_eq_true rfl⟩ d_M_payer_18) hS (fun H locs hR hS => ?_)
    refine lv_if_ne (tgt := 27) hx hb d_M_payer_21 (by decide) (fun hc => ?_) (fun hc => ?_)
    · have hf := cd_f hc hf
      refine lv_aload_n hx hb d_M_payer_27 rfl (lv_at hl 0 rfl) ?_
      have ⟨h9, hf⟩ := gd_e hf
      refine g_getI hx hb hts hown hK hR fl_M_7 (fun _ => rfl) h9 d_M_payer_28 ?_
      refine g_nI hf (fun x10 hf => ?_)
      refine lv_iconst (v := 4) hx hb d_M_payer_31 (by decide) ?_
      refine lv_icmp_ne (tgt := 38) hx hb d_M_payer_32 (by decide) (fun hc => ?_) (fun hc => ?_)
      · have hf := cd_f hc hf
        refine lv_aload_n hx hb d_M_payer_38 rfl (lv_at hl 0 rfl) ?_
        have ⟨x11, h12, hf⟩ := rr_e hf
        refine g_getR hx hb hts hown hK hR fl_M_17 (fun _ => rfl) h9 h12 d_M_payer_39 ?_
        refine lv_aload_n hx hb d_M_payer_42 rfl (lv_at hl 0 rfl) ?_
        refine g_getI hx hb hts hown hK hR fl_M_7 (fun _ => rfl) h9 d_M_payer_43 ?_
        refine g_nI hf (fun x13 hf => ?_)
        refine lv_iload_n hx hb d_M_payer_46 rfl (lv_at hl 1 rfl) ?_
        have ⟨h14, hf⟩ := gd_e hf
        have ⟨h15, hf⟩ := gd_e hf
        refine g_iast hx hb hK hR hS h14 h15 d_M_payer_47 (fun H locs hR hS => ?_)
        refine g_nW hf hR (fun w16 hf hR => ?_)
        refine lv_aload_n hx hb d_M_payer_48 rfl (lv_at hl 0 rfl) ?_
        have ⟨h17, hf⟩ := gd_e hf
        have ⟨x18, h19, hf⟩ := rr_e hf
        refine g_getR hx hb hts hown hK hR fl_M_20 (fun _ => rfl) h17 h19 d_M_payer_49 ?_
        refine lv_aload_n hx hb d_M_payer_52 rfl (lv_at hl 0 rfl) ?_
        refine g_getI hx hb hts hown hK hR fl_M_7 (fun _ => rfl) h17 d_M_payer_53 ?_
        refine g_nI hf (fun x20 hf => ?_)
        refine lv_iload_n hx hb d_M_payer_56 rfl (lv_at hl 2 rfl) ?_
        have ⟨h21, hf⟩ := gd_e hf
        have ⟨h22, hf⟩ := gd_e hf
        refine g_iast hx hb hK hR hS h21 h22 d_M_payer_57 (fun H locs hR hS => ?_)
        refine g_nW hf hR (fun w23 hf hR => ?_)
        refine lv_aload_n hx hb d_M_payer_58 rfl (lv_at hl 0 rfl) ?_
        have ⟨h24, hf⟩ := gd_e hf
        have ⟨x25, h26, hf⟩ := rr_e hf
        refine g_getR hx hb hts hown hK hR fl_M_23 (fun _ => rfl) h24 h26 d_M_payer_59 ?_
        refine lv_aload_n hx hb d_M_payer_62 rfl (lv_at hl 0 rfl) ?_
        refine g_getI hx hb hts hown hK hR fl_M_7 (fun _ => rfl) h24 d_M_payer_63 ?_
        refine g_nI hf (fun x27 hf => ?_)
        refine lv_iconst (v := 0) hx hb d_M_payer_66 (by decide) ?_
        have ⟨h28, hf⟩ := gd_e hf
        have ⟨h29, hf⟩ := gd_e hf
        refine g_iast hx hb hK hR hS h28 h29 d_M_payer_67 (fun H locs hR hS => ?_)
        refine g_nW hf hR (fun w30 hf hR => ?_)
        refine lv_iconst (v := 0) hx hb d_M_payer_68 (by decide) ?_
        refine lv_istore_n (lv' := [(3, .int 0), (0, .ref (B + a0)), (1, .int a1), (2, .int a2)]) hx hb d_M_payer_69 rfl hl (by decide) rfl (fun ls hl => ?_)
        exact c_M_payer_l70 C a0 0 w30 (lv_sub hl [1, 0] rfl) hf hR hS
      have hf := cd_t hc hf
      refine lv_bipush (v := (-4)) hx hb d_M_payer_35 (by decide) ?_
      exact g_iret hx hb hr hlocks hR hS hf rfl d_M_payer_37
    have hf := cd_t hc hf
    refine lv_bipush (v := (-2)) hx hb d_M_payer_24 (by decide) ?_
    exact g_iret hx hb hr hlocks hR hS hf rfl d_M_payer_26
  have hf := cd_t hc hf
  refine lv_iconst (v := (-1)) hx hb d_M_payer_11 (by decide) ?_
  exact g_iret hx hb hr hlocks hR hS hf rfl d_M_payer_12
theorem c_M_payer (l : Launch) (D : va_G) (cA : Nat → ClassId) (oc : gO) (B N : Nat) (a0 : Nat) (a1 : Int32) (a2 : Int32) (w : gW) {wz : gW} {r : Int32} (hf : f_M_payer N a0 a1 a2 w = some (r, wz)) : Met l y_M_payer (Cond.code y_M_payer b_M_payer 4 (some .int) :: lw_good) ({ frames := 2, cells := 0, slots := 0, locals := 63 } : Room) (gPre D cA oc B [.ref (B + a0), .int a1, .int a2] w) (gQi D cA B r wz) 0 0 (gA B) := by
  refine Met.ofW (cc := b_M_payer) (maxL := 4) (ret := (some .int)) (by decide +kernel) rfl ?_
  intro p e s m args below meth c s₁ Bd hml hv
  obtain ⟨hargs, C, hR⟩ := gC.enter (l := l) rfl Bd hml hv
  subst hargs
  have hl := lv_entry ([.ref (B + a0), .int a1, .int a2]) (n := 4) (Nat.le_of_ble_eq_true rfl)
  rw [lg_entry_eq]
  generalize (lg_sl ([.ref (B + a0), .int a1, .int a2]) ++ List.replicate (4 - (lg_sl ([.ref (B + a0), .int a1, .int a2])).length) Slot.unset).toArray = ls at hl ⊢
  have hl : lv_has ls 4 [(0, .ref (B + a0)), (1, .int a1), (2, .int a2)] := hl
  exact c_M_payer_b0 C a0 a1 a2 w (lv_sub hl [0, 1, 2] rfl) hf hR va_S.rf
theorem d_M_purse_0 : decode b_M_purse 0 = .ok (.aload_n 0, 1) := by decide +kernel
theorem d_M_purse_1 : decode b_M_purse 1 = .ok (.iload_n 1, 1) := by decide +kernel
theorem d_M_purse_2 : decode b_M_purse 2 = .ok (.invokevirtual 234, 3) := by decide +kernel
theorem d_M_purse_5 : decode b_M_purse 5 = .ok (.ifCond .eq 11, 3) := by decide +kernel
theorem d_M_purse_8 : decode b_M_purse 8 = .ok (.aload_n 0, 1) := by decide +kernel
theorem d_M_purse_9 : decode b_M_purse 9 = .ok (.iload_n 2, 1) := by decide +kernel
theorem d_M_purse_10 : decode b_M_purse 10 = .ok (.invokevirtual 238, 3) := by decide +kernel
theorem d_M_purse_13 : decode b_M_purse 13 = .ok (.ifCond .ne 5, 3) := by decide +kernel
theorem d_M_purse_16 : decode b_M_purse 16 = .ok (.iconst (-1), 1) := by decide +kernel
theorem d_M_purse_17 : decode b_M_purse 17 = .ok (.ireturn, 1) := by decide +kernel
theorem d_M_purse_18 : decode b_M_purse 18 = .ok (.aload_n 0, 1) := by decide +kernel
theorem d_M_purse_19 : decode b_M_purse 19 = .ok (.iload_n 3, 1) := by decide +kernel
theorem d_M_purse_20 : decode b_M_purse 20 = .ok (.iconst 0, 1) := by decide +kernel
theorem d_M_purse_21 : decode b_M_purse 21 = .ok (.bipush 99, 2) := by decide +kernel
theorem d_M_purse_23 : decode b_M_purse 23 = .ok (.invokevirtual 230, 3) := by decide +kernel
theorem d_M_purse_26 : decode b_M_purse 26 = .ok (.ifCond .ne 6, 3) := by decide +kernel
theorem d_M_purse_29 : decode b_M_purse 29 = .ok (.bipush (-2), 2) := by decide +kernel
theorem d_M_purse_31 : decode b_M_purse 31 = .ok (.ireturn, 1) := by decide +kernel
theorem d_M_purse_32 : decode b_M_purse 32 = .ok (.aload_n 0, 1) := by decide +kernel
theorem d_M_purse_33 : decode b_M_purse 33 = .ok (.getfield 29, 3) := by decide +kernel
theorem d_M_purse_36 : decode b_M_purse 36 = .ok (.bipush 6, 2) := by decide +kernel
theorem d_M_purse_38 : decode b_M_purse 38 = .ok (.iload_n 1, 1) := by decide +kernel
theorem d_M_purse_39 : decode b_M_purse 39 = .ok (.imul, 1) := by decide +kernel
theorem d_M_purse_40 : decode b_M_purse 40 = .ok (.iload_n 2, 1) := by decide +kernel
theorem d_M_purse_41 : decode b_M_purse 41 = .ok (.iadd, 1) := by decide +kernel
theorem d_M_purse_42 : decode b_M_purse 42 = .ok (.iaload, 1) := by decide +kernel
theorem d_M_purse_43 : decode b_M_purse 43 = .ok (.istore 4, 2) := by decide +kernel
theorem d_M_purse_45 : decode b_M_purse 45 = .ok (.aload_n 0, 1) := by decide +kernel
theorem d_M_purse_46 : decode b_M_purse 46 = .ok (.getfield 29, 3) := by decide +kernel
theorem d_M_purse_49 : decode b_M_purse 49 = .ok (.bipush 6, 2) := by decide +kernel
theorem d_M_purse_51 : decode b_M_purse 51 = .ok (.iload_n 1, 1) := by decide +kernel
theorem d_M_purse_52 : decode b_M_purse 52 = .ok (.imul, 1) := by decide +kernel
theorem d_M_purse_53 : decode b_M_purse 53 = .ok (.iload_n 2, 1) := by decide +kernel
theorem d_M_purse_54 : decode b_M_purse 54 = .ok (.iadd, 1) := by decide +kernel
theorem d_M_purse_55 : decode b_M_purse 55 = .ok (.iload_n 3, 1) := by decide +kernel
theorem d_M_purse_56 : decode b_M_purse 56 = .ok (.iastore, 1) := by decide +kernel
theorem d_M_purse_57 : decode b_M_purse 57 = .ok (.iload 4, 2) := by decide +kernel
theorem d_M_purse_59 : decode b_M_purse 59 = .ok (.ireturn, 1) := by decide +kernel
set_option maxRecDepth 20000 in
theorem c_M_purse_b0 {r : Int32} {wz : gW} (C : gC p s m args meth c "RidCoppersModel" b_M_purse 5 (some .int) D cA oc B) (a0 : Nat) (a1 : Int32) (a2 : Int32) (a3 : Int32) (w : gW) {ls : Array Slot} {H : Heap} {locs : List Loc} (hl : lv_has ls 5 [(0, .ref (B + a0)), (1, .int a1), (2, .int a2), (3, .int a3)]) (hf : f_M_purse_b0 N a0 a1 a2 a3 w = some (r, wz)) (hR : gRep D cA B w H) (hS : va_S (gA B) s.heap H locs) : W p l e ({ frames := 3, cells := 0, slots := 0, locals := 84 } : Room) s m args below meth c H locs 0 0 (MQ below (gQi D cA B r wz) args s 0 0 (gA B)) (F0 m 0 ls []) := by
  obtain ⟨hx, hb, hml, hown, hts, hr, hlocks, hK, hBs⟩ := id C
  unfold f_M_purse_b0 at hf
  refine lv_aload_n hx hb d_M_purse_0 rfl (lv_at hl 0 rfl) ?_
  refine lv_iload_n hx hb d_M_purse_1 rfl (lv_at hl 1 rfl) ?_
  have ⟨h4, hf⟩ := gd_e hf
  have ⟨x1, w2, h3, hf⟩ := kl_e hf
  refine g_ki0 (g_rV (As := [.int a1]) (rest := []) hx hb hml hown hts hK hR hS (c_M_isPayer l D cA oc B N a0 a1 w h3) I_M_isPayer m_1212 mp_28 (gRecv hK hR (ci := 12) rfl h4) rfl rfl (Nat.le_of_ble_eq_true rfl) hl.1 ⟨Nat.le_of_ble_eq_true rfl, Nat.le_of_ble_eq_true rfl⟩ ⟨Nat.le_of_ble_eq_true rfl, Nat.le_of_ble_eq_true rfl⟩ d_M_purse_2) hS (fun H locs hR hS => ?_)
  refine lv_if_eq (tgt := 16) hx hb d_M_purse_5 (by decide) (fun hc => ?_) (fun hc => ?_)
  · have hf := cd_t hc hf
    refine lv_iconst (v := (-1)) hx hb d_M_purse_16 (by decide) ?_
    exact g_iret hx hb hr hlocks hR hS hf rfl d_M_purse_17
  have hf := cd_f hc hf
  refine lv_aload_n hx hb d_M_purse_8 rfl (lv_at hl 0 rfl) ?_
  refine lv_iload_n hx hb d_M_purse_9 rfl (lv_at hl 2 rfl) ?_
  have ⟨h8, hf⟩ := gd_e hf
  have ⟨x5, w6, h7, hf⟩ := kl_e hf
  refine g_ki0 (g_rV (As := [.int a2]) (rest := []) hx hb hml hown hts hK hR hS (c_M_isSort l D cA oc B N a0 a2 w2 h7) I_M_isSort m_1216 mp_29 (gRecv hK hR (ci := 12) rfl h8) rfl rfl (Nat.le_of_ble_eq_true rfl) hl.1 ⟨Nat.le_of_ble_eq_true rfl, Nat.le_of_ble_eq_true rfl⟩ ⟨Nat.le_of_ble_eq_true rfl, Nat.le_of_ble_eq_true rfl⟩ d_M_purse_10) hS (fun H locs hR hS => ?_)
  refine lv_if_ne (tgt := 18) hx hb d_M_purse_13 (by decide) (fun hc => ?_) (fun hc => ?_)
  · have hf := cd_f hc hf
    refine lv_aload_n hx hb d_M_purse_18 rfl (lv_at hl 0 rfl) ?_
    refine lv_iload_n hx hb d_M_purse_19 rfl (lv_at hl 3 rfl) ?_
    refine lv_iconst (v := 0) hx hb d_M_purse_20 (by decide) ?_
    refine lv_bipush (v := 99) hx hb d_M_purse_21 (by decide) ?_
    have ⟨h12, hf⟩ := gd_e hf
    have ⟨x9, w10, h11, hf⟩ := kl_e hf
    refine g_ki0 (g_rV (As := [.int a3, .int 0, .int 99]) (rest := []) hx hb hml hown hts hK hR hS (c_M_in l D cA oc B N a0 a3 0 99 w6 h11) I_M_in m_1204 mp_27 (gRecv hK hR (ci := 12) rfl h12) rfl rfl (Nat.le_of_ble_eq_true rfl) hl.1 ⟨Nat.le_of_ble_eq_true rfl, Nat.le_of_ble_eq_true rfl⟩ ⟨Nat.le_of_ble_eq_true rfl, Nat.le_of_ble_eq_true rfl⟩ d_M_purse_23) hS (fun H locs hR hS => ?_)
    refine lv_if_ne (tgt := 32) hx hb d_M_purse_26 (by decide) (fun hc => ?_) (fun hc => ?_)
    · have hf := cd_f hc hf
      refine lv_aload_n hx hb d_M_purse_32 rfl (lv_at hl 0 rfl) ?_
      have ⟨h13, hf⟩ := gd_e hf
      have ⟨x14, h15, hf⟩ := rr_e hf
      refine g_getR hx hb hts hown hK hR fl_M_29 (fun _ => rfl) h13 h15 d_M_purse_33 ?_
      refine lv_bipush (v := 6) hx hb d_M_purse_36 (by decide) ?_
      refine lv_iload_n hx hb d_M_purse_38 rfl (lv_at hl 1 rfl) ?_
      refine lv_imul hx hb d_M_purse_39 ?_
      refine g_nI hf (fun x16 hf => ?_)
      refine lv_iload_n hx hb d_M_purse_40 rfl (lv_at hl 2 rfl) ?_
      refine lv_iadd hx hb d_M_purse_41 ?_
      refine g_nI hf (fun x17 hf => ?_)
      have ⟨h18, hf⟩ := gd_e hf
      have ⟨h19, hf⟩ := gd_e hf
      refine g_iald hx hb hK hR h18 h19 d_M_purse_42 ?_
      refine g_nI hf (fun x20 hf => ?_)
      refine lv_istore (lv' := [(4, .int x20), (0, .ref (B + a0)), (1, .int a1), (2, .int a2), (3, .int a3)]) hx hb d_M_purse_43 hl (by decide) rfl (fun ls hl => ?_)
      refine lv_aload_n hx hb d_M_purse_45 rfl (lv_at hl 1 rfl) ?_
      refine g_getR hx hb hts hown hK hR fl_M_29 (fun _ => rfl) h13 h15 d_M_purse_46 ?_
      refine lv_bipush (v := 6) hx hb d_M_purse_49 (by decide) ?_
      refine lv_iload_n hx hb d_M_purse_51 rfl (lv_at hl 2 rfl) ?_
      refine lv_imul hx hb d_M_purse_52 ?_
      refine g_nI hf (fun x21 hf => ?_)
      refine lv_iload_n hx hb d_M_purse_53 rfl (lv_at hl 3 rfl) ?_
      refine lv_iadd hx hb d_M_purse_54 ?_
      refine g_nI hf (fun x22 hf => ?_)
      refine lv_iload_n hx hb d_M_purse_55 rfl (lv_at hl 4 rfl) ?_
      have ⟨h23, hf⟩ := gd_e hf
      refine g_iast hx hb hK hR hS h18 h23 d_M_purse_56 (fun H locs hR hS => ?_)
      refine g_nW hf hR (fun w24 hf hR => ?_)
      refine lv_iload hx hb d_M_purse_57 (lv_at hl 0 rfl) ?_
      exact g_iret hx hb hr hlocks hR hS hf rfl d_M_purse_59
    have hf := cd_t hc hf
    refine lv_bipush (v := (-2)) hx hb d_M_purse_29 (by decide) ?_
    exact g_iret hx hb hr hlocks hR hS hf rfl d_M_purse_31
  have hf := cd_t hc hf
  refine lv_iconst (v := (-1)) hx hb d_M_purse_16 (by decide) ?_
  exact g_iret hx hb hr hlocks hR hS hf rfl d_M_purse_17
theorem c_M_purse (l : Launch) (D : va_G) (cA : Nat → ClassId) (oc : gO) (B N : Nat) (a0 : Nat) (a1 : Int32) (a2 : Int32) (a3 : Int32) (w : gW) {wz : gW} {r : Int32} (hf : f_M_purse N a0 a1 a2 a3 w = some (r, wz)) : Met l y_M_purse (Cond.code y_M_purse b_M_purse 5 (some .int) :: lw_good) ({ frames := 3, cells := 0, slots := 0, locals := 84 } : Room) (gPre D cA oc B [.ref (B + a0), .int a1, .int a2, .int a3] w) (gQi D cA B r wz) 0 0 (gA B) := by
  refine Met.ofW (cc := b_M_purse) (maxL := 5) (ret := (some .int)) (by decide +kernel) rfl ?_
  intro p e s m args below meth c s₁ Bd hml hv
  obtain ⟨hargs, C, hR⟩ := gC.enter (l := l) rfl Bd hml hv
  subst hargs
  have hl := lv_entry ([.ref (B + a0), .int a1, .int a2, .int a3]) (n := 5) (Nat.le_of_ble_eq_true rfl)
  rw [lg_entry_eq]
  generalize (lg_sl ([.ref (B + a0), .int a1, .int a2, .int a3]) ++ List.replicate (5 - (lg_sl ([.ref (B + a0), .int a1, .int a2, .int a3])).length) Slot.unset).toArray = ls at hl ⊢
  have hl : lv_has ls 5 [(0, .ref (B + a0)), (1, .int a1), (2, .int a2), (3, .int a3)] := hl
  exact c_M_purse_b0 C a0 a1 a2 a3 w (lv_sub hl [0, 1, 2, 3] rfl) hf hR va_S.rf
theorem d_M_till_0 : decode b_M_till 0 = .ok (.aload_n 0, 1) := by decide +kernel
theorem d_M_till_1 : decode b_M_till 1 = .ok (.iload_n 1, 1) := by decide +kernel
theorem d_M_till_2 : decode b_M_till 2 = .ok (.invokevirtual 238, 3) := by decide +kernel
theorem d_M_till_5 : decode b_M_till 5 = .ok (.ifCond .ne 5, 3) := by decide +kernel
theorem d_M_till_8 : decode b_M_till 8 = .ok (.iconst (-1), 1) := by decide +kernel
theorem d_M_till_9 : decode b_M_till 9 = .ok (.ireturn, 1) := by decide +kernel
theorem d_M_till_10 : decode b_M_till 10 = .ok (.aload_n 0, 1) := by decide +kernel
theorem d_M_till_11 : decode b_M_till 11 = .ok (.iload_n 2, 1) := by decide +kernel
theorem d_M_till_12 : decode b_M_till 12 = .ok (.iconst 0, 1) := by decide +kernel
theorem d_M_till_13 : decode b_M_till 13 = .ok (.bipush 99, 2) := by decide +kernel
theorem d_M_till_15 : decode b_M_till 15 = .ok (.invokevirtual 230, 3) := by decide +kernel
theorem d_M_till_18 : decode b_M_till 18 = .ok (.ifCond .ne 6, 3) := by decide +kernel
theorem d_M_till_21 : decode b_M_till 21 = .ok (.bipush (-2), 2) := by decide +kernel
theorem d_M_till_23 : decode b_M_till 23 = .ok (.ireturn, 1) := by decide +kernel
theorem d_M_till_24 : decode b_M_till 24 = .ok (.aload_n 0, 1) := by decide +kernel
theorem d_M_till_25 : decode b_M_till 25 = .ok (.getfield 32, 3) := by decide +kernel
theorem d_M_till_28 : decode b_M_till 28 = .ok (.iload_n 1, 1) := by decide +kernel
theorem d_M_till_29 : decode b_M_till 29 = .ok (.iaload, 1) := by decide +kernel
theorem d_M_till_30 : decode b_M_till 30 = .ok (.istore_n 3, 1) := by decide +kernel
theorem d_M_till_31 : decode b_M_till 31 = .ok (.aload_n 0, 1) := by decide +kernel
theorem d_M_till_32 : decode b_M_till 32 = .ok (.getfield 32, 3) := by decide +kernel
theorem d_M_till_35 : decode b_M_till 35 = .ok (.iload_n 1, 1) := by decide +kernel
theorem d_M_till_36 : decode b_M_till 36 = .ok (.iload_n 2, 1) := by decide +kernel
theorem d_M_till_37 : decode b_M_till 37 = .ok (.iastore, 1) := by decide +kernel
theorem d_M_till_38 : decode b_M_till 38 = .ok (.iload_n 3, 1) := by decide +kernel
theorem d_M_till_39 : decode b_M_till 39 = .ok (.ireturn, 1) := by decide +kernel
set_option maxRecDepth 20000 in
theorem c_M_till_b0 {r : Int32} {wz : gW} (C : gC p s m args meth c "RidCoppersModel" b_M_till 4 (some .int) D cA oc B) (a0 : Nat) (a1 : Int32) (a2 : Int32) (w : gW) {ls : Array Slot} {H : Heap} {locs : List Loc} (hl : lv_has ls 4 [(0, .ref (B + a0)), (1, .int a1), (2, .int a2)]) (hf : f_M_till_b0 N a0 a1 a2 w = some (r, wz)) (hR : gRep D cA B w H) (hS : va_S (gA B) s.heap H locs) : W p l e ({ frames := 3, cells := 0, slots := 0, locals := 84 } : Room) s m args below meth c H locs 0 0 (MQ below (gQi D cA B r wz) args s 0 0 (gA B)) (F0 m 0 ls []) := by
  obtain ⟨hx, hb, hml, hown, hts, hr, hlocks, hK, hBs⟩ := id C
  unfold f_M_till_b0 at hf
  refine lv_aload_n hx hb d_M_till_0 rfl (lv_at hl 0 rfl) ?_
  refine lv_iload_n hx hb d_M_till_1 rfl (lv_at hl 1 rfl) ?_
  have ⟨h4, hf⟩ := gd_e hf
  have ⟨x1, w2, h3, hf⟩ := kl_e hf
  refine g_ki0 (g_rV (As := [.int a1]) (rest := []) hx hb hml hown hts hK hR hS (c_M_isSort l D cA oc B N a0 a1 w h3) I_M_isSort m_1216 mp_29 (gRecv hK hR (ci := 12) rfl h4) rfl rfl (Nat.le_of_ble_eq_true rfl) hl.1 ⟨Nat.le_of_ble_eq_true rfl, Nat.le_of_ble_eq_true rfl⟩ ⟨Nat.le_of_ble_eq_true rfl, Nat.le_of_ble_eq_true rfl⟩ d_M_till_2) hS (fun H locs hR hS => ?_)
  refine lv_if_ne (tgt := 10) hx hb d_M_till_5 (by decide) (fun hc => ?_) (fun hc => ?_)
  · have hf := cd_f hc hf
    refine lv_aload_n hx hb d_M_till_10 rfl (lv_at hl 0 rfl) ?_
    refine lv_iload_n hx hb d_M_till_11 rfl (lv_at hl 2 rfl) ?_
    refine lv_iconst (v := 0) hx hb d_M_till_12 (by decide) ?_
    refine lv_bipush (v := 99) hx hb d_M_till_13 (by decide) ?_
    have ⟨h8, hf⟩ := gd_e hf
    have ⟨x5, w6, h7, hf⟩ := kl_e hf
    refine g_ki0 (g_rV (As := [.int a2, .int 0, .int 99]) (rest := []) hx hb hml hown hts hK hR hS (c_M_in l D cA oc B N a0 a2 0 99 w2 h7) I_M_in m_1204 mp_27 (gRecv hK hR (ci := 12) rfl h8) rfl rfl (Nat.le_of_ble_eq_true rfl) hl.1 ⟨Nat.le_of_ble_eq_true rfl, Nat.le_of_ble_eq_true rfl⟩ ⟨Nat.le_of_ble_eq_true rfl, Nat.le_of_ble_eq_true rfl⟩ d_M_till_15) hS (fun H locs hR hS => ?_)
    refine lv_if_ne (tgt := 24) hx hb d_M_till_18 (by decide) (fun hc => ?_) (fun hc => ?_)
    · have hf := cd_f hc hf
      refine lv_aload_n hx hb d_M_till_24 rfl (lv_at hl 0 rfl) ?_
      have ⟨h9, hf⟩ := gd_e hf
      have ⟨x10, h11, hf⟩ := rr_e hf
      refine g_getR hx hb hts hown hK hR fl_M_32 (fun _ => rfl) h9 h11 d_M_till_25 ?_
      refine lv_iload_n hx hb d_M_till_28 rfl (lv_at hl 1 rfl) ?_
      have ⟨h12, hf⟩ := gd_e hf
      have ⟨h13, hf⟩ := gd_e hf
      refine g_iald hx hb hK hR h12 h13 d_M_till_29 ?_
      refine g_nI hf (fun x14 hf => ?_)
      refine lv_istore_n (lv' := [(3, .int x14), (0, .ref (B + a0)), (1, .int a1), (2, .int a2)]) hx hb d_M_till_30 rfl hl (by decide) rfl (fun ls hl => ?_)
      refine lv_aload_n hx hb d_M_till_31 rfl (lv_at hl 1 rfl) ?_
      refine g_getR hx hb hts hown hK hR fl_M_32 (fun _ => rfl) h9 h11 d_M_till_32 ?_
      refine lv_iload_n hx hb d_M_till_35 rfl (lv_at hl 2 rfl) ?_
      refine lv_iload_n hx hb d_M_till_36 rfl (lv_at hl 3 rfl) ?_
      refine g_iast hx hb hK hR hS h12 h13 d_M_till_37 (fun H locs hR hS => ?_)
      refine g_nW hf hR (fun w15 hf hR => ?_)
      refine lv_iload_n hx hb d_M_till_38 rfl (lv_at hl 0 rfl) ?_
      exact g_iret hx hb hr hlocks hR hS hf rfl d_M_till_39
    have hf := cd_t hc hf
    refine lv_bipush (v := (-2)) hx hb d_M_till_21 (by decide) ?_
    exact g_iret hx hb hr hlocks hR hS hf rfl d_M_till_23
  have hf := cd_t hc hf
  refine lv_iconst (v := (-1)) hx hb d_M_till_8 (by decide) ?_
  exact g_iret hx hb hr hlocks hR hS hf rfl d_M_till_9
theorem c_M_till (l : Launch) (D : va_G) (cA : Nat → ClassId) (oc : gO) (B N : Nat) (a0 : Nat) (a1 : Int32) (a2 : Int32) (w : gW) {wz : gW} {r : Int32} (hf : f_M_till N a0 a1 a2 w = some (r, wz)) : Met l y_M_till (Cond.code y_M_till b_M_till 4 (some .int) :: lw_good) ({ frames := 3, cells := 0, slots := 0, locals := 84 } : Room) (gPre D cA oc B [.ref (B + a0), .int a1, .int a2] w) (gQi D cA B r wz) 0 0 (gA B) := by
  refine Met.ofW (cc := b_M_till) (maxL := 4) (ret := (some .int)) (by decide +kernel) rfl ?_
  intro p e s m args below meth c s₁ Bd hml hv
  obtain ⟨hargs, C, hR⟩ := gC.enter (l := l) rfl Bd hml hv
  subst hargs
  have hl := lv_entry ([.ref (B + a0), .int a1, .int a2]) (n := 4) (Nat.le_of_ble_eq_true rfl)
  rw [lg_entry_eq]
  generalize (lg_sl ([.ref (B + a0), .int a1, .int a2]) ++ List.replicate (4 - (lg_sl ([.ref (B + a0), .int a1, .int a2])).length) Slot.unset).toArray = ls at hl ⊢
  have hl : lv_has ls 4 [(0, .ref (B + a0)), (1, .int a1), (2, .int a2)] := hl
  exact c_M_till_b0 C a0 a1 a2 w (lv_sub hl [0, 1, 2] rfl) hf hR va_S.rf
theorem d_M_row_0 : decode b_M_row 0 = .ok (.aload_n 0, 1) := by decide +kernel
theorem d_M_row_1 : decode b_M_row 1 = .ok (.iload_n 1, 1) := by decide +kernel
theorem d_M_row_2 : decode b_M_row 2 = .ok (.invokevirtual 234, 3) := by decide +kernel
theorem d_M_row_5 : decode b_M_row 5 = .ok (.ifCond .eq 13, 3) := by decide +kernel
theorem d_M_row_8 : decode b_M_row 8 = .ok (.aload_n 0, 1) := by decide +kernel
theorem d_M_row_9 : decode b_M_row 9 = .ok (.iload_n 2, 1) := by decide +kernel
theorem d_M_row_10 : decode b_M_row 10 = .ok (.iconst 0, 1) := by decide +kernel
theorem d_M_row_11 : decode b_M_row 11 = .ok (.iconst 3, 1) := by decide +kernel
theorem d_M_row_12 : decode b_M_row 12 = .ok (.invokevirtual 230, 3) := by decide +kernel
theorem d_M_row_15 : decode b_M_row 15 = .ok (.ifCond .ne 5, 3) := by decide +kernel
theorem d_M_row_18 : decode b_M_row 18 = .ok (.iconst (-1), 1) := by decide +kernel
theorem d_M_row_19 : decode b_M_row 19 = .ok (.ireturn, 1) := by decide +kernel
theorem d_M_row_20 : decode b_M_row 20 = .ok (.aload_n 0, 1) := by decide +kernel
theorem d_M_row_21 : decode b_M_row 21 = .ok (.iload_n 3, 1) := by decide +kernel
theorem d_M_row_22 : decode b_M_row 22 = .ok (.invokevirtual 238, 3) := by decide +kernel
theorem d_M_row_25 : decode b_M_row 25 = .ok (.ifCond .ne 6, 3) := by decide +kernel
theorem d_M_row_28 : decode b_M_row 28 = .ok (.bipush (-2), 2) := by decide +kernel
theorem d_M_row_30 : decode b_M_row 30 = .ok (.ireturn, 1) := by decide +kernel
theorem d_M_row_31 : decode b_M_row 31 = .ok (.aload_n 0, 1) := by decide +kernel
theorem d_M_row_32 : decode b_M_row 32 = .ok (.getfield 17, 3) := by decide +kernel
theorem d_M_row_35 : decode b_M_row 35 = .ok (.iload_n 1, 1) := by decide +kernel
theorem d_M_row_36 : decode b_M_row 36 = .ok (.iaload, 1) := by decide +kernel
theorem d_M_row_37 : decode b_M_row 37 = .ok (.bipush 6, 2) := by decide +kernel
theorem d_M_row_39 : decode b_M_row 39 = .ok (.if_icmp .eq 6, 3) := by decide +kernel
theorem d_M_row_42 : decode b_M_row 42 = .ok (.bipush (-3), 2) := by decide +kernel
theorem d_M_row_44 : decode b_M_row 44 = .ok (.ireturn, 1) := by decide +kernel
theorem d_M_row_45 : decode b_M_row 45 = .ok (.aload_n 0, 1) := by decide +kernel
theorem d_M_row_46 : decode b_M_row 46 = .ok (.getfield 26, 3) := by decide +kernel
theorem d_M_row_49 : decode b_M_row 49 = .ok (.iconst 4, 1) := by decide +kernel
theorem d_M_row_50 : decode b_M_row 50 = .ok (.iload_n 1, 1) := by decide +kernel
theorem d_M_row_51 : decode b_M_row 51 = .ok (.imul, 1) := by decide +kernel
theorem d_M_row_52 : decode b_M_row 52 = .ok (.iload_n 2, 1) := by decide +kernel
theorem d_M_row_53 : decode b_M_row 53 = .ok (.iadd, 1) := by decide +kernel
theorem d_M_row_54 : decode b_M_row 54 = .ok (.iaload, 1) := by decide +kernel
theorem d_M_row_55 : decode b_M_row 55 = .ok (.istore 4, 2) := by decide +kernel
theorem d_M_row_57 : decode b_M_row 57 = .ok (.aload_n 0, 1) := by decide +kernel
theorem d_M_row_58 : decode b_M_row 58 = .ok (.getfield 26, 3) := by decide +kernel
theorem d_M_row_61 : decode b_M_row 61 = .ok (.iconst 4, 1) := by decide +kernel
theorem d_M_row_62 : decode b_M_row 62 = .ok (.iload_n 1, 1) := by decide +kernel
theorem d_M_row_63 : decode b_M_row 63 = .ok (.imul, 1) := by decide +kernel
theorem d_M_row_64 : decode b_M_row 64 = .ok (.iload_n 2, 1) := by decide +kernel
theorem d_M_row_65 : decode b_M_row 65 = .ok (.iadd, 1) := by decide +kernel
theorem d_M_row_66 : decode b_M_row 66 = .ok (.iload_n 3, 1) := by decide +kernel
theorem d_M_row_67 : decode b_M_row 67 = .ok (.iastore, 1) := by decide +kernel
theorem d_M_row_68 : decode b_M_row 68 = .ok (.iload 4, 2) := by decide +kernel
theorem d_M_row_70 : decode b_M_row 70 = .ok (.ireturn, 1) := by decide +kernel
set_option maxRecDepth 20000 in
theorem c_M_row_b0 {r : Int32} {wz : gW} (C : gC p s m args meth c "RidCoppersModel" b_M_row 5 (some .int) D cA oc B) (a0 : Nat) (a1 : Int32) (a2 : Int32) (a3 : Int32) (w : gW) {ls : Array Slot} {H : Heap} {locs : List Loc} (hl : lv_has ls 5 [(0, .ref (B + a0)), (1, .int a1), (2, .int a2), (3, .int a3)]) (hf : f_M_row_b0 N a0 a1 a2 a3 w = some (r, wz)) (hR : gRep D cA B w H) (hS : va_S (gA B) s.heap H locs) : W p l e ({ frames := 3, cells := 0, slots := 0, locals := 84 } : Room) s m args below meth c H locs 0 0 (MQ below (gQi D cA B r wz) args s 0 0 (gA B)) (F0 m 0 ls []) := by
  obtain ⟨hx, hb, hml, hown, hts, hr, hlocks, hK, hBs⟩ := id C
  unfold f_M_row_b0 at hf
  refine lv_aload_n hx hb d_M_row_0 rfl (lv_at hl 0 rfl) ?_
  refine lv_iload_n hx hb d_M_row_1 rfl (lv_at hl 1 rfl) ?_
  have ⟨h4, hf⟩ := gd_e hf
  have ⟨x1, w2, h3, hf⟩ := kl_e hf
  refine g_ki0 (g_rV (As := [.int a1]) (rest := []) hx hb hml hown hts hK hR hS (c_M_isPayer l D cA oc B N a0 a1 w h3) I_M_isPayer m_1212 mp_28 (gRecv hK hR (ci := 12) rfl h4) rfl rfl (Nat.le_of_ble_eq_true rfl) hl.1 ⟨Nat.le_of_ble_eq_true rfl, Nat.le_of_ble_eq_true rfl⟩ ⟨Nat.le_of_ble_eq_true rfl, Nat.le_of_ble_eq_true rfl⟩ d_M_row_2) hS (fun H locs hR hS => ?_)
  refine lv_if_eq (tgt := 18) hx hb d_M_row_5 (by decide) (fun hc => ?_) (fun hc => ?_)
  · have hf := cd_t hc hf
    refine lv_iconst (v := (-1)) hx hb d_M_row_18 (by decide) ?_
    exact g_iret hx hb hr hlocks hR hS hf rfl d_M_row_19
  have hf := cd_f hc hf
  refine lv_aload_n hx hb d_M_row_8 rfl (lv_at hl 0 rfl) ?_
  refine lv_iload_n hx hb d_M_row_9 rfl (lv_at hl 2 rfl) ?_
  refine lv_iconst (v := 0) hx hb d_M_row_10 (by decide) ?_
  refine lv_iconst (v := 3) hx hb d_M_row_11 (by decide) ?_
  have ⟨h8, hf⟩ := gd_e hf
  have ⟨x5, w6, h7, hf⟩ := kl_e hf
  refine g_ki0 (g_rV (As := [.int a2, .int 0, .int 3]) (rest := []) hx hb hml hown hts hK hR hS (c_M_in l D cA oc B N a0 a2 0 3 w2 h7) I_M_in m_1204 mp_27 (gRecv hK hR (ci := 12) rfl h8) rfl rfl (Nat.le_of_ble_eq_true rfl) hl.1 ⟨Nat.le_of_ble_eq_true rfl, Nat.le_of_ble_eq_true rfl⟩ ⟨Nat.le_of_ble_eq_true rfl, Nat.le_of_ble_eq_true rfl⟩ d_M_row_12) hS (fun H locs hR hS => ?_)
  refine lv_if_ne (tgt := 20) hx hb d_M_row_15 (by decide) (fun hc => ?_) (fun hc => ?_)
  · have hf := cd_f hc hf
    refine lv_aload_n hx hb d_M_row_20 rfl (lv_at hl 0 rfl) ?_
    refine lv_iload_n hx hb d_M_row_21 rfl (lv_at hl 3 rfl) ?_
    have ⟨h12, hf⟩ := gd_e hf
    have ⟨x9, w10, h11, hf⟩ := kl_e hf
    refine g_ki0 (g_rV (As := [.int a3]) (rest := []) hx hb hml hown hts hK hR hS (c_M_isSort l D cA oc B N a0 a3 w6 h11) I_M_isSort m_1216 mp_29 (gRecv hK hR (ci := 12) rfl h12) rfl rfl (Nat.le_of_ble_eq_true rfl) hl.1 ⟨Nat.le_of_ble_eq_true rfl, Nat.le_of_ble_eq_true rfl⟩ ⟨Nat.le_of_ble_eq_true rfl, Nat.le_of_ble_eq_true rfl⟩ d_M_row_22) hS (fun H locs hR hS => ?_)
    refine lv_if_ne (tgt := 31) hx hb d_M_row_25 (by decide) (fun hc => ?_) (fun hc => ?_)
    · have hf := cd_f hc hf
      refine lv_aload_n hx hb d_M_row_31 rfl (lv_at hl 0 rfl) ?_
      have ⟨h13, hf⟩ := gd_e hf
      have ⟨x14, h15, hf⟩ := rr_e hf
      refine g_getR hx hb hts hown hK hR fl_M_17 (fun _ => rfl) h13 h15 d_M_row_32 ?_
      refine lv_iload_n hx hb d_M_row_35 rfl (lv_at hl 1 rfl) ?_
      have ⟨h16, hf⟩ := gd_e hf
      have ⟨h17, hf⟩ := gd_e hf
      refine g_iald hx hb hK hR h16 h17 d_M_row_36 ?_
      refine g_nI hf (fun x18 hf => ?_)
      refine lv_bipush (v := 6) hx hb d_M_row_37 (by decide) ?_
      refine lv_icmp_eq (tgt := 45) hx hb d_M_row_39 (by decide) (fun hc => ?_) (fun hc => ?_)
      · have hf := cd_t hc hf
        refine lv_aload_n hx hb d_M_row_45 rfl (lv_at hl 0 rfl) ?_
        have ⟨x19, h20, hf⟩ := rr_e hf
        refine g_getR hx hb hts hown hK hR fl_M_26 (fun _ => rfl) h13 h20 d_M_row_46 ?_
        refine lv_iconst (v := 4) hx hb d_M_row_49 (by decide) ?_
        refine lv_iload_n hx hb d_M_row_50 rfl (lv_at hl 1 rfl) ?_
        refine lv_imul hx hb d_M_row_51 ?_
        refine g_nI hf (fun x21 hf => ?_)
        refine lv_iload_n hx hb d_M_row_52 rfl (lv_at hl 2 rfl) ?_
        refine lv_iadd hx hb d_M_row_53 ?_
        refine g_nI hf (fun x22 hf => ?_)
        have ⟨h23, hf⟩ := gd_e hf
        have ⟨h24, hf⟩ := gd_e hf
        refine g_iald hx hb hK hR h23 h24 d_M_row_54 ?_
        refine g_nI hf (fun x25 hf => ?_)
        refine lv_istore (lv' := [(4, .int x25), (0, .ref (B + a0)), (1, .int a1), (2, .int a2), (3, .int a3)]) hx hb d_M_row_55 hl (by decide) rfl (fun ls hl => ?_)
        refine lv_aload_n hx hb d_M_row_57 rfl (lv_at hl 1 rfl) ?_
        refine g_getR hx hb hts hown hK hR fl_M_26 (fun _ => rfl) h13 h20 d_M_row_58 ?_
        refine lv_iconst (v := 4) hx hb d_M_row_61 (by decide) ?_
        refine lv_iload_n hx hb d_M_row_62 rfl (lv_at hl 2 rfl) ?_
        refine lv_imul hx hb d_M_row_63 ?_
        refine g_nI hf (fun x26 hf => ?_)
        refine lv_iload_n hx hb d_M_row_64 rfl (lv_at hl 3 rfl) ?_
        refine lv_iadd hx hb d_M_row_65 ?_
        refine g_nI hf (fun x27 hf => ?_)
        refine lv_iload_n hx hb d_M_row_66 rfl (lv_at hl 4 rfl) ?_
        have ⟨h28, hf⟩ := gd_e hf
        refine g_iast hx hb hK hR hS h23 h28 d_M_row_67 (fun H locs hR hS => ?_)
        refine g_nW hf hR (fun w29 hf hR => ?_)
        refine lv_iload hx hb d_M_row_68 (lv_at hl 0 rfl) ?_
        exact g_iret hx hb hr hlocks hR hS hf rfl d_M_row_70
      have hf := cd_f hc hf
      refine lv_bipush (v := (-3)) hx hb d_M_row_42 (by decide) ?_
      exact g_iret hx hb hr hlocks hR hS hf rfl d_M_row_44
    have hf := cd_t hc hf
    refine lv_bipush (v := (-2)) hx hb d_M_row_28 (by decide) ?_
    exact g_iret hx hb hr hlocks hR hS hf rfl d_M_row_30
  have hf := cd_t hc hf
  refine lv_iconst (v := (-1)) hx hb d_M_row_18 (by decide) ?_
  exact g_iret hx hb hr hlocks hR hS hf rfl d_M_row_19
theorem c_M_row (l : Launch) (D : va_G) (cA : Nat → ClassId) (oc : gO) (B N : Nat) (a0 : Nat) (a1 : Int32) (a2 : Int32) (a3 : Int32) (w : gW) {wz : gW} {r : Int32} (hf : f_M_row N a0 a1 a2 a3 w = some (r, wz)) : Met l y_M_row (Cond.code y_M_row b_M_row 5 (some .int) :: lw_good) ({ frames := 3, cells := 0, slots := 0, locals := 84 } : Room) (gPre D cA oc B [.ref (B + a0), .int a1, .int a2, .int a3] w) (gQi D cA B r wz) 0 0 (gA B) := by
  refine Met.ofW (cc := b_M_row) (maxL := 5) (ret := (some .int)) (by decide +kernel) rfl ?_
  intro p e s m args below meth c s₁ Bd hml hv
  obtain ⟨hargs, C, hR⟩ := gC.enter (l := l) rfl Bd hml hv
  subst hargs
  have hl := lv_entry ([.ref (B + a0), .int a1, .int a2, .int a3]) (n := 5) (Nat.le_of_ble_eq_true rfl)
  rw [lg_entry_eq]
  generalize (lg_sl ([.ref (B + a0), .int a1, .int a2, .int a3]) ++ List.replicate (5 - (lg_sl ([.ref (B + a0), .int a1, .int a2, .int a3])).length) Slot.unset).toArray = ls at hl ⊢
  have hl : lv_has ls 5 [(0, .ref (B + a0)), (1, .int a1), (2, .int a2), (3, .int a3)] := hl
  exact c_M_row_b0 C a0 a1 a2 a3 w (lv_sub hl [0, 1, 2, 3] rfl) hf hR va_S.rf
theorem d_M_feed_0 : decode b_M_feed 0 = .ok (.aload_n 0, 1) := by decide +kernel
theorem d_M_feed_1 : decode b_M_feed 1 = .ok (.iload_n 1, 1) := by decide +kernel
theorem d_M_feed_2 : decode b_M_feed 2 = .ok (.iconst 0, 1) := by decide +kernel
theorem d_M_feed_3 : decode b_M_feed 3 = .ok (.bipush 127, 2) := by decide +kernel
theorem d_M_feed_5 : decode b_M_feed 5 = .ok (.invokevirtual 230, 3) := by decide +kernel
theorem d_M_feed_8 : decode b_M_feed 8 = .ok (.ifCond .ne 6, 3) := by decide +kernel
theorem d_M_feed_11 : decode b_M_feed 11 = .ok (.bipush (-2), 2) := by decide +kernel
theorem d_M_feed_13 : decode b_M_feed 13 = .ok (.ireturn, 1) := by decide +kernel
theorem d_M_feed_14 : decode b_M_feed 14 = .ok (.aload_n 0, 1) := by decide +kernel
theorem d_M_feed_15 : decode b_M_feed 15 = .ok (.getfield 41, 3) := by decide +kernel
theorem d_M_feed_18 : decode b_M_feed 18 = .ok (.bipush 100, 2) := by decide +kernel
theorem d_M_feed_20 : decode b_M_feed 20 = .ok (.if_icmp .ne 6, 3) := by decide +kernel
theorem d_M_feed_23 : decode b_M_feed 23 = .ok (.bipush (-4), 2) := by decide +kernel
theorem d_M_feed_25 : decode b_M_feed 25 = .ok (.ireturn, 1) := by decide +kernel
theorem d_M_feed_26 : decode b_M_feed 26 = .ok (.aload_n 0, 1) := by decide +kernel
theorem d_M_feed_27 : decode b_M_feed 27 = .ok (.getfield 50, 3) := by decide +kernel
theorem d_M_feed_30 : decode b_M_feed 30 = .ok (.aload_n 0, 1) := by decide +kernel
theorem d_M_feed_31 : decode b_M_feed 31 = .ok (.getfield 41, 3) := by decide +kernel
theorem d_M_feed_34 : decode b_M_feed 34 = .ok (.iload_n 1, 1) := by decide +kernel
theorem d_M_feed_35 : decode b_M_feed 35 = .ok (.iastore, 1) := by decide +kernel
theorem d_M_feed_36 : decode b_M_feed 36 = .ok (.aload_n 0, 1) := by decide +kernel
theorem d_M_feed_37 : decode b_M_feed 37 = .ok (.dup, 1) := by decide +kernel
theorem d_M_feed_38 : decode b_M_feed 38 = .ok (.getfield 41, 3) := by decide +kernel
theorem d_M_feed_41 : decode b_M_feed 41 = .ok (.iconst 1, 1) := by decide +kernel
theorem d_M_feed_42 : decode b_M_feed 42 = .ok (.iadd, 1) := by decide +kernel
theorem d_M_feed_43 : decode b_M_feed 43 = .ok (.putfield 41, 3) := by decide +kernel
theorem d_M_feed_46 : decode b_M_feed 46 = .ok (.aload_n 0, 1) := by decide +kernel
theorem d_M_feed_47 : decode b_M_feed 47 = .ok (.getfield 41, 3) := by decide +kernel
theorem d_M_feed_50 : decode b_M_feed 50 = .ok (.ireturn, 1) := by decide +kernel
set_option maxRecDepth 20000 in
theorem c_M_feed_b0 {r : Int32} {wz : gW} (C : gC p s m args meth c "RidCoppersModel" b_M_feed 2 (some .int) D cA oc B) (a0 : Nat) (a1 : Int32) (w : gW) {ls : Array Slot} {H : Heap} {locs : List Loc} (hl : lv_has ls 2 [(0, .ref (B + a0)), (1, .int a1)]) (hf : f_M_feed_b0 N a0 a1 w = some (r, wz)) (hR : gRep D cA B w H) (hS : va_S (gA B) s.heap H locs) : W p l e ({ frames := 2, cells := 0, slots := 0, locals := 63 } : Room) s m args below meth c H locs 0 0 (MQ below (gQi D cA B r wz) args s 0 0 (gA B)) (F0 m 0 ls []) := by
  obtain ⟨hx, hb, hml, hown, hts, hr, hlocks, hK, hBs⟩ := id C
  unfold f_M_feed_b0 at hf
  refine lv_aload_n hx hb d_M_feed_0 rfl (lv_at hl 0 rfl) ?_
  refine lv_iload_n hx hb d_M_feed_1 rfl (lv_at hl 1 rfl) ?_
  refine lv_iconst (v := 0) hx hb d_M_feed_2 (by decide) ?_
  refine lv_bipush (v := 127) hx hb d_M_feed_3 (by decide) ?_
  have ⟨h4, hf⟩ := gd_e hf
  have ⟨x1, w2, h3, hf⟩ := kl_e hf
  refine g_ki0 (g_rV (As := [.int a1, .int 0, .int 127]) (rest := []) hx hb hml hown hts hK hR hS (c_M_in l D cA oc B N a0 a1 0 127 w h3) I_M_in m_1204 mp_27 (gRecv hK hR (ci := 12) rfl h4) rfl rfl (Nat.le_of_ble_eq_true rfl) hl.1 ⟨Nat.le_of_ble_eq_true rfl, Nat.le_of_ble_eq_true rfl⟩ ⟨Nat.le_of_ble_eq_true rfl, Nat.le_of_ble_eq_true rfl⟩ d_M_feed_5) hS (fun H locs hR hS => ?_)
  refine lv_if_ne (tgt := 14) hx hb d_M_feed_8 (by decide) (fun hc => ?_) (fun hc => ?_)
  · have hf := cd_f hc hf
    refine lv_aload_n hx hb d_M_feed_14 rfl (lv_at hl 0 rfl) ?_
    have ⟨h5, hf⟩ := gd_e hf
    refine g_getI hx hb hts hown hK hR fl_M_41 (fun _ => rfl) h5 d_M_feed_15 ?_
    refine g_nI hf (fun x6 hf => ?_)
    refine lv_bipush (v := 100) hx hb d_M_feed_18 (by decide) ?_
    refine lv_icmp_ne (tgt := 26) hx hb d_M_feed_20 (by decide) (fun hc => ?_) (fun hc => ?_)
    · have hf := cd_f hc hf
      refine lv_aload_n hx hb d_M_feed_26 rfl (lv_at hl 0 rfl) ?_
      have ⟨x7, h8, hf⟩ := rr_e hf
      refine g_getR hx hb hts hown hK hR fl_M_50 (fun _ => rfl) h5 h8 d_M_feed_27 ?_
      refine lv_aload_n hx hb d_M_feed_30 rfl (lv_at hl 0 rfl) ?_
      refine g_getI hx hb hts hown hK hR fl_M_41 (fun _ => rfl) h5 d_M_feed_31 ?_
      refine g_nI hf (fun x9 hf => ?_)
      refine lv_iload_n hx hb d_M_feed_34 rfl (lv_at hl 1 rfl) ?_
      have ⟨h10, hf⟩ := gd_e hf
      have ⟨h11, hf⟩ := gd_e hf
      refine g_iast hx hb hK hR hS h10 h11 d_M_feed_35 (fun H locs hR hS => ?_)
      refine g_nW hf hR (fun w12 hf hR => ?_)
      refine lv_aload_n hx hb d_M_feed_36 rfl (lv_at hl 0 rfl) ?_
      refine lv_dup hx hb d_M_feed_37 rfl ?_
      have ⟨h13, hf⟩ := gd_e hf
      refine g_getI hx hb hts hown hK hR fl_M_41 (fun _ => rfl) h13 d_M_feed_38 ?_
      refine g_nI hf (fun x14 hf => ?_)
      refine lv_iconst (v := 1) hx hb d_M_feed_41 (by decide) ?_
      refine lv_iadd hx hb d_M_feed_42 ?_
      refine g_nI hf (fun x15 hf => ?_)
      refine g_putI hx hb hts hown hK hR hS pf_M_41 (fun _ => rfl) rfl rfl h13 d_M_feed_43 (fun H locs hR hS => ?_)
      refine g_nW hf hR (fun w16 hf hR => ?_)
      refine lv_aload_n hx hb d_M_feed_46 rfl (lv_at hl 0 rfl) ?_
      have ⟨h17, hf⟩ := gd_e hf
      refine g_getI hx hb hts hown hK hR fl_M_41 (fun _ => rfl) h17 d_M_feed_47 ?_
      refine g_nI hf (fun x18 hf => ?_)
      exact g_iret hx hb hr hlocks hR hS hf rfl d_M_feed_50
    have hf := cd_t hc hf
    refine lv_bipush (v := (-4)) hx hb d_M_feed_23 (by decide) ?_
    exact g_iret hx hb hr hlocks hR hS hf rfl d_M_feed_25
  have hf := cd_t hc hf
  refine lv_bipush (v := (-2)) hx hb d_M_feed_11 (by decide) ?_
  exact g_iret hx hb hr hlocks hR hS hf rfl d_M_feed_13
theorem c_M_feed (l : Launch) (D : va_G) (cA : Nat → ClassId) (oc : gO) (B N : Nat) (a0 : Nat) (a1 : Int32) (w : gW) {wz : gW} {r : Int32} (hf : f_M_feed N a0 a1 w = some (r, wz)) : Met l y_M_feed (Cond.code y_M_feed b_M_feed 2 (some .int) :: lw_good) ({ frames := 2, cells := 0, slots := 0, locals := 63 } : Room) (gPre D cA oc B [.ref (B + a0), .int a1] w) (gQi D cA B r wz) 0 0 (gA B) := by
  refine Met.ofW (cc := b_M_feed) (maxL := 2) (ret := (some .int)) (by decide +kernel) rfl ?_
  intro p e s m args below meth c s₁ Bd hml hv
  obtain ⟨hargs, C, hR⟩ := gC.enter (l := l) rfl Bd hml hv
  subst hargs
  have hl := lv_entry ([.ref (B + a0), .int a1]) (n := 2) (Nat.le_of_ble_eq_true rfl)
  rw [lg_entry_eq]
  generalize (lg_sl ([.ref (B + a0), .int a1]) ++ List.replicate (2 - (lg_sl ([.ref (B + a0), .int a1])).length) Slot.unset).toArray = ls at hl ⊢
  have hl : lv_has ls 2 [(0, .ref (B + a0)), (1, .int a1)] := hl
  exact c_M_feed_b0 C a0 a1 w (lv_sub hl [0, 1] rfl) hf hR va_S.rf
theorem d_M_peek_0 : decode b_M_peek 0 = .ok (.aload_n 0, 1) := by decide +kernel
theorem d_M_peek_1 : decode b_M_peek 1 = .ok (.getfield 44, 3) := by decide +kernel
theorem d_M_peek_4 : decode b_M_peek 4 = .ok (.aload_n 0, 1) := by decide +kernel
theorem d_M_peek_5 : decode b_M_peek 5 = .ok (.getfield 41, 3) := by decide +kernel
theorem d_M_peek_8 : decode b_M_peek 8 = .ok (.if_icmp .ge 15, 3) := by decide +kernel
theorem d_M_peek_11 : decode b_M_peek 11 = .ok (.aload_n 0, 1) := by decide +kernel
theorem d_M_peek_12 : decode b_M_peek 12 = .ok (.getfield 50, 3) := by decide +kernel
theorem d_M_peek_15 : decode b_M_peek 15 = .ok (.aload_n 0, 1) := by decide +kernel
theorem d_M_peek_16 : decode b_M_peek 16 = .ok (.getfield 44, 3) := by decide +kernel
theorem d_M_peek_19 : decode b_M_peek 19 = .ok (.iaload, 1) := by decide +kernel
theorem d_M_peek_20 : decode b_M_peek 20 = .ok (.goto 4, 3) := by decide +kernel
theorem d_M_peek_23 : decode b_M_peek 23 = .ok (.iconst (-1), 1) := by decide +kernel
theorem d_M_peek_24 : decode b_M_peek 24 = .ok (.ireturn, 1) := by decide +kernel
set_option maxRecDepth 20000 in
theorem c_M_peek_b0 {r : Int32} {wz : gW} (C : gC p s m args meth c "RidCoppersModel" b_M_peek 1 (some .int) D cA oc B) (a0 : Nat) (w : gW) {ls : Array Slot} {H : Heap} {locs : List Loc} (hl : lv_has ls 1 [(0, .ref (B + a0))]) (hf : f_M_peek_b0 N a0 w = some (r, wz)) (hR : gRep D cA B w H) (hS : va_S (gA B) s.heap H locs) : W p l e ({ frames := 1, cells := 0, slots := 0, locals := 40 } : Room) s m args below meth c H locs 0 0 (MQ below (gQi D cA B r wz) args s 0 0 (gA B)) (F0 m 0 ls []) := by
  obtain ⟨hx, hb, hml, hown, hts, hr, hlocks, hK, hBs⟩ := id C
  unfold f_M_peek_b0 at hf
  refine lv_aload_n hx hb d_M_peek_0 rfl (lv_at hl 0 rfl) ?_
  have ⟨h1, hf⟩ := gd_e hf
  refine g_getI hx hb hts hown hK hR fl_M_44 (fun _ => rfl) h1 d_M_peek_1 ?_
  refine g_nI hf (fun x2 hf => ?_)
  refine lv_aload_n hx hb d_M_peek_4 rfl (lv_at hl 0 rfl) ?_
  refine g_getI hx hb hts hown hK hR fl_M_41 (fun _ => rfl) h1 d_M_peek_5 ?_
  refine g_nI hf (fun x3 hf => ?_)
  refine lv_icmp_ge (tgt := 23) hx hb d_M_peek_8 (by decide) (fun hc => ?_) (fun hc => ?_)
  · have hf := cd_t hc hf
    refine lv_iconst (v := (-1)) hx hb d_M_peek_23 (by decide) ?_
    exact g_iret hx hb hr hlocks hR hS hf rfl d_M_peek_24
  have hf := cd_f hc hf
  refine lv_aload_n hx hb d_M_peek_11 rfl (lv_at hl 0 rfl) ?_
  have ⟨x4, h5, hf⟩ := rr_e hf
  refine g_getR hx hb hts hown hK hR fl_M_50 (fun _ => rfl) h1 h5 d_M_peek_12 ?_
  refine lv_aload_n hx hb d_M_peek_15 rfl (lv_at hl 0 rfl) ?_
  refine g_getI hx hb hts hown hK hR fl_M_44 (fun _ => rfl) h1 d_M_peek_16 ?_
  refine g_nI hf (fun x6 hf => ?_)
  have ⟨h7, hf⟩ := gd_e hf
  have ⟨h8, hf⟩ := gd_e hf
  refine g_iald hx hb hK hR h7 h8 d_M_peek_19 ?_
  refine g_nI hf (fun x9 hf => ?_)
  refine lv_goto (tgt := 24) hx hb d_M_peek_20 (by decide) ?_
  exact g_iret hx hb hr hlocks hR hS hf rfl d_M_peek_24
theorem c_M_peek (l : Launch) (D : va_G) (cA : Nat → ClassId) (oc : gO) (B N : Nat) (a0 : Nat) (w : gW) {wz : gW} {r : Int32} (hf : f_M_peek N a0 w = some (r, wz)) : Met l y_M_peek (Cond.code y_M_peek b_M_peek 1 (some .int) :: lw_good) ({ frames := 1, cells := 0, slots := 0, locals := 40 } : Room) (gPre D cA oc B [.ref (B + a0)] w) (gQi D cA B r wz) 0 0 (gA B) := by
  refine Met.ofW (cc := b_M_peek) (maxL := 1) (ret := (some .int)) (by decide +kernel) rfl ?_
  intro p e s m args below meth c s₁ Bd hml hv
  obtain ⟨hargs, C, hR⟩ := gC.enter (l := l) rfl Bd hml hv
  subst hargs
  have hl := lv_entry ([.ref (B + a0)]) (n := 1) (Nat.le_of_ble_eq_true rfl)
  rw [lg_entry_eq]
  generalize (lg_sl ([.ref (B + a0)]) ++ List.replicate (1 - (lg_sl ([.ref (B + a0)])).length) Slot.unset).toArray = ls at hl ⊢
  have hl : lv_has ls 1 [(0, .ref (B + a0))] := hl
  exact c_M_peek_b0 C a0 w (lv_sub hl [0] rfl) hf hR va_S.rf
theorem d_M_takes_0 : decode b_M_takes 0 = .ok (.aload_n 0, 1) := by decide +kernel
theorem d_M_takes_1 : decode b_M_takes 1 = .ok (.invokevirtual 241, 3) := by decide +kernel
theorem d_M_takes_4 : decode b_M_takes 4 = .ok (.iload_n 1, 1) := by decide +kernel
theorem d_M_takes_5 : decode b_M_takes 5 = .ok (.if_icmp .eq 5, 3) := by decide +kernel
theorem d_M_takes_8 : decode b_M_takes 8 = .ok (.iconst 0, 1) := by decide +kernel
theorem d_M_takes_9 : decode b_M_takes 9 = .ok (.ireturn, 1) := by decide +kernel
theorem d_M_takes_10 : decode b_M_takes 10 = .ok (.aload_n 0, 1) := by decide +kernel
theorem d_M_takes_11 : decode b_M_takes 11 = .ok (.dup, 1) := by decide +kernel
theorem d_M_takes_12 : decode b_M_takes 12 = .ok (.getfield 44, 3) := by decide +kernel
theorem d_M_takes_15 : decode b_M_takes 15 = .ok (.iconst 1, 1) := by decide +kernel
theorem d_M_takes_16 : decode b_M_takes 16 = .ok (.iadd, 1) := by decide +kernel
theorem d_M_takes_17 : decode b_M_takes 17 = .ok (.putfield 44, 3) := by decide +kernel
theorem d_M_takes_20 : decode b_M_takes 20 = .ok (.iconst 1, 1) := by decide +kernel
theorem d_M_takes_21 : decode b_M_takes 21 = .ok (.ireturn, 1) := by decide +kernel
set_option maxRecDepth 20000 in
theorem c_M_takes_b0 {r : Int32} {wz : gW} (C : gC p s m args meth c "RidCoppersModel" b_M_takes 2 (some .boolean) D cA oc B) (a0 : Nat) (a1 : Int32) (w : gW) {ls : Array Slot} {H : Heap} {locs : List Loc} (hl : lv_has ls 2 [(0, .ref (B + a0)), (1, .int a1)]) (hf : f_M_takes_b0 N a0 a1 w = some (r, wz)) (hR : gRep D cA B w H) (hS : va_S (gA B) s.heap H locs) : W p l e ({ frames := 2, cells := 0, slots := 0, locals := 60 } : Room) s m args below meth c H locs 0 0 (MQ below (gQi D cA B r wz) args s 0 0 (gA B)) (F0 m 0 ls []) := by
  obtain ⟨hx, hb, hml, hown, hts, hr, hlocks, hK, hBs⟩ := id C
  unfold f_M_takes_b0 at hf
  refine lv_aload_n hx hb d_M_takes_0 rfl (lv_at hl 0 rfl) ?_
  have ⟨h4, hf⟩ := gd_e hf
  have ⟨x1, w2, h3, hf⟩ := kl_e hf
  refine g_ki0 (g_rV (As := []) (rest := []) hx hb hml hown hts hK hR hS (c_M_peek l D cA oc B N a0 w h3) I_M_peek m_1248 mp_33 (gRecv hK hR (ci := 12) rfl h4) rfl rfl (Nat.le_of_ble_eq_true rfl) hl.1 ⟨Nat.le_of_ble_eq_true rfl, Nat.le_of_ble_eq_true rfl⟩ ⟨Nat.le_of_ble_eq_true rfl, Nat.le_of_ble_eq_true rfl⟩ d_M_takes_1) hS (fun H locs hR hS => ?_)
  refine lv_iload_n hx hb d_M_takes_4 rfl (lv_at hl 1 rfl) ?_
  refine lv_icmp_eq (tgt := 10) hx hb d_M_takes_5 (by decide) (fun hc => ?_) (fun hc => ?_)
  · have hf := cd_t hc hf
    refine lv_aload_n hx hb d_M_takes_10 rfl (lv_at hl 0 rfl) ?_
    refine lv_dup hx hb d_M_takes_11 rfl ?_
    have ⟨h5, hf⟩ := gd_e hf
    refine g_getI hx hb hts hown hK hR fl_M_44 (fun _ => rfl) h5 d_M_takes_12 ?_
    refine g_nI hf (fun x6 hf => ?_)
    refine lv_iconst (v := 1) hx hb d_M_takes_15 (by decide) ?_
    refine lv_iadd hx hb d_M_takes_16 ?_
    refine g_nI hf (fun x7 hf => ?_)
    refine g_putI hx hb hts hown hK hR hS pf_M_44 (fun _ => rfl) rfl rfl h5 d_M_takes_17 (fun H locs hR hS => ?_)
    refine g_nW hf hR (fun w8 hf hR => ?_)
    refine lv_iconst (v := 1) hx hb d_M_takes_20 (by decide) ?_
    exact g_iret hx hb hr hlocks hR hS hf rfl d_M_takes_21
  have hf := cd_f hc hf
  refine lv_iconst (v := 0) hx hb d_M_takes_8 (by decide) ?_
  exact g_iret hx hb hr hlocks hR hS hf rfl d_M_takes_9
theorem c_M_takes (l : Launch) (D : va_G) (cA : Nat → ClassId) (oc : gO) (B N : Nat) (a0 : Nat) (a1 : Int32) (w : gW) {wz : gW} {r : Int32} (hf : f_M_takes N a0 a1 w = some (r, wz)) : Met l y_M_takes (Cond.code y_M_takes b_M_takes 2 (some .boolean) :: lw_good) ({ frames := 2, cells := 0, slots := 0, locals := 60 } : Room) (gPre D cA oc B [.ref (B + a0), .int a1] w) (gQi D cA B r wz) 0 0 (gA B) := by
  refine Met.ofW (cc := b_M_takes) (maxL := 2) (ret := (some .boolean)) (by decide +kernel) rfl ?_
  intro p e s m args below meth c s₁ Bd hml hv
  obtain ⟨hargs, C, hR⟩ := gC.enter (l := l) rfl Bd hml hv
  subst hargs
  have hl := lv_entry ([.ref (B + a0), .int a1]) (n := 2) (Nat.le_of_ble_eq_true rfl)
  rw [lg_entry_eq]
  generalize (lg_sl ([.ref (B + a0), .int a1]) ++ List.replicate (2 - (lg_sl ([.ref (B + a0), .int a1])).length) Slot.unset).toArray = ls at hl ⊢
  have hl : lv_has ls 2 [(0, .ref (B + a0)), (1, .int a1)] := hl
  exact c_M_takes_b0 C a0 a1 w (lv_sub hl [0, 1] rfl) hf hR va_S.rf
theorem d_M_takesWord_0 : decode b_M_takesWord 0 = .ok (.iconst 0, 1) := by decide +kernel
theorem d_M_takesWord_1 : decode b_M_takesWord 1 = .ok (.istore_n 3, 1) := by decide +kernel
theorem d_M_takesWord_2 : decode b_M_takesWord 2 = .ok (.iload_n 3, 1) := by decide +kernel
theorem d_M_takesWord_3 : decode b_M_takesWord 3 = .ok (.iload_n 2, 1) := by decide +kernel
theorem d_M_takesWord_4 : decode b_M_takesWord 4 = .ok (.if_icmp .ge 26, 3) := by decide +kernel
theorem d_M_takesWord_7 : decode b_M_takesWord 7 = .ok (.aload_n 0, 1) := by decide +kernel
theorem d_M_takesWord_8 : decode b_M_takesWord 8 = .ok (.aload_n 0, 1) := by decide +kernel
theorem d_M_takesWord_9 : decode b_M_takesWord 9 = .ok (.getfield 83, 3) := by decide +kernel
theorem d_M_takesWord_12 : decode b_M_takesWord 12 = .ok (.iload_n 1, 1) := by decide +kernel
theorem d_M_takesWord_13 : decode b_M_takesWord 13 = .ok (.iload_n 3, 1) := by decide +kernel
theorem d_M_takesWord_14 : decode b_M_takesWord 14 = .ok (.iadd, 1) := by decide +kernel
theorem d_M_takesWord_15 : decode b_M_takesWord 15 = .ok (.iaload, 1) := by decide +kernel
theorem d_M_takesWord_16 : decode b_M_takesWord 16 = .ok (.invokevirtual 245, 3) := by decide +kernel
theorem d_M_takesWord_19 : decode b_M_takesWord 19 = .ok (.ifCond .ne 5, 3) := by decide +kernel
theorem d_M_takesWord_22 : decode b_M_takesWord 22 = .ok (.iconst 0, 1) := by decide +kernel
theorem d_M_takesWord_23 : decode b_M_takesWord 23 = .ok (.ireturn, 1) := by decide +kernel
theorem d_M_takesWord_24 : decode b_M_takesWord 24 = .ok (.iinc 3 1, 3) := by decide +kernel
theorem d_M_takesWord_27 : decode b_M_takesWord 27 = .ok (.goto (-25), 3) := by decide +kernel
theorem d_M_takesWord_30 : decode b_M_takesWord 30 = .ok (.aload_n 0, 1) := by decide +kernel
theorem d_M_takesWord_31 : decode b_M_takesWord 31 = .ok (.bipush 32, 2) := by decide +kernel
theorem d_M_takesWord_33 : decode b_M_takesWord 33 = .ok (.invokevirtual 245, 3) := by decide +kernel
theorem d_M_takesWord_36 : decode b_M_takesWord 36 = .ok (.ireturn, 1) := by decide +kernel
set_option maxRecDepth 20000 in
theorem c_M_takesWord_b2 {r : Int32} {wz : gW} {rec2 : Nat × Int32 × Int32 × Int32 × gW → Option (Int32 × gW)} (ih2 : ∀ (a0 : Nat) (a1 : Int32) (a2 : Int32) (a3 : Int32) (w : gW) (ls : Array Slot) (H : Heap) (locs : List Loc), rec2 (a0, a1, a2, a3, w) = some (r, wz) → lv_has ls 4 [(0, .ref (B + a0)), (1, .int a1), (2, .int a2), (3, .int a3)] → gRep D cA B w H → va_S (gA B) s.heap H locs → W p l e ({ frames := 3, cells := 0, slots := 0, locals := 81 } : Room) s m args below meth c H locs 0 0 (MQ below (gQi D cA B r wz) args s 0 0 (gA B)) (F0 m 2 ls [])) (C : gC p s m args meth c "RidCoppersModel" b_M_takesWord 4 (some .boolean) D cA oc B) (a0 : Nat) (a1 : Int32) (a2 : Int32) (a3 : Int32) (w : gW) {ls : Array Slot} {H : Heap} {locs : List Loc} (hl : lv_has ls 4 [(0, .ref (B + a0)), (1, .int a1), (2, .int a2), (3, .int a3)]) (hf : f_M_takesWord_b2 N rec2 a0 a1 a2 a3 w = some (r, wz)) (hR : gRep D cA B w H) (hS : va_S (gA B) s.heap H locs) : W p l e ({ frames := 3, cells := 0, slots := 0, locals := 81 } : Room) s m args below meth c H locs 0 0 (MQ below (gQi D cA B r wz) args s 0 0 (gA B)) (F0 m 2 ls []) := by
  obtain ⟨hx, hb, hml, hown, hts, hr, hlocks, hK, hBs⟩ := id C
  unfold f_M_takesWord_b2 at hf
  refine lv_iload_n hx hb d_M_takesWord_2 rfl (lv_at hl 3 rfl) ?_
  refine lv_iload_n hx hb d_M_takesWord_3 rfl (lv_at hl 2 rfl) ?_
  refine lv_icmp_ge (tgt := 30) hx hb d_M_takesWord_4 (by decide) (fun hc => ?_) (fun hc => ?_)
  · have hf := cd_t hc hf
    refine lv_aload_n hx hb d_M_takesWord_30 rfl (lv_at hl 0 rfl) ?_
    refine lv_bipush (v := 32) hx hb d_M_takesWord_31 (by decide) ?_
    have ⟨h4, hf⟩ := gd_e hf
    have ⟨x1, w2, h3, hf⟩ := kl_e hf
    refine g_ki0 (g_rV (As := [.int 32]) (rest := []) hx hb hml hown hts hK hR hS (c_M_takes l D cA oc B N a0 32 w h3) I_M_takes m_1256 mp_35 (gRecv hK hR (ci := 12) rfl h4) rfl rfl (Nat.le_of_ble_eq_true rfl) hl.1 ⟨Nat.le_of_ble_eq_true rfl, Nat.le_of_ble_eq_true rfl⟩ ⟨Nat.le_of_ble_eq_true rfl, Nat.le_of_ble_eq_true rfl⟩ d_M_takesWord_33) hS (fun H locs hR hS => ?_)
    have ⟨h5, hf⟩ := gd_e hf
    exact g_iret hx hb hr hlocks hR hS hf (nb01 h5) d_M_takesWord_36
  have hf := cd_f hc hf
  refine lv_aload_n hx hb d_M_takesWord_7 rfl (lv_at hl 0 rfl) ?_
  refine lv_aload_n hx hb d_M_takesWord_8 rfl (lv_at hl 0 rfl) ?_
  have ⟨h6, hf⟩ := gd_e hf
  have ⟨x7, h8, hf⟩ := rr_e hf
  refine g_getR hx hb hts hown hK hR fl_M_83 (fun _ => rfl) h6 h8 d_M_takesWord_9 ?_
  refine lv_iload_n hx hb d_M_takesWord_12 rfl (lv_at hl 1 rfl) ?_
  refine lv_iload_n hx hb d_M_takesWord_13 rfl (lv_at hl 3 rfl) ?_
  refine lv_iadd hx hb d_M_takesWord_14 ?_
  refine g_nI hf (fun x9 hf => ?_)
  have ⟨h10, hf⟩ := gd_e hf
  have ⟨h11, hf⟩ := gd_e hf
  refine g_iald hx hb hK hR h10 h11 d_M_takesWord_15 ?_
  refine g_nI hf (fun x12 hf => ?_)
  have ⟨x13, w14, h15, hf⟩ := kl_e hf
  refine g_ki0 (g_rV (As := [.int x12]) (rest := []) hx hb hml hown hts hK hR hS (c_M_takes l D cA oc B N a0 x12 w h15) I_M_takes m_1256 mp_35 (gRecv hK hR (ci := 12) rfl h6) rfl rfl (Nat.le_of_ble_eq_true rfl) hl.1 ⟨Nat.le_of_ble_eq_true rfl, Nat.le_of_ble_eq_true rfl⟩ ⟨Nat.le_of_ble_eq_true rfl, Nat.le_of_ble_eq_true rfl⟩ d_M_takesWord_16) hS (fun H locs hR hS => ?_)
  refine lv_if_ne (tgt := 24) hx hb d_M_takesWord_19 (by decide) (fun hc => ?_) (fun hc => ?_)
  · have hf := cd_f hc hf
    refine g_iinc (lv' := fun x16 => [(3, .int x16), (0, .ref (B + a0)), (1, .int a1), (2, .int a2)]) hf hx hb d_M_takesWord_24 hl (k := 3) rfl (by decide) (by decide) (fun _ => rfl) (fun x16 ls hf hl => ?_)
    refine lv_goto (tgt := 2) hx hb d_M_takesWord_27 (by decide) ?_
    exact ih2 a0 a1 a2 x16 w14 _ _ _ hf (lv_sub hl [1, 2, 3, 0] rfl) hR hS
  have hf := cd_t hc hf
  refine lv_iconst (v := 0) hx hb d_M_takesWord_22 (by decide) ?_
  exact g_iret hx hb hr hlocks hR hS hf rfl d_M_takesWord_23
theorem c_M_takesWord_l2 {r : Int32} {wz : gW} (C : gC p s m args meth c "RidCoppersModel" b_M_takesWord 4 (some .boolean) D cA oc B) (a0 : Nat) (a1 : Int32) (a2 : Int32) (a3 : Int32) (w : gW) {ls : Array Slot} {H : Heap} {locs : List Loc} (hl : lv_has ls 4 [(0, .ref (B + a0)), (1, .int a1), (2, .int a2), (3, .int a3)]) (hf : f_M_takesWord_l2 N a0 a1 a2 a3 w = some (r, wz)) (hR : gRep D cA B w H) (hS : va_S (gA B) s.heap H locs) : W p l e ({ frames := 3, cells := 0, slots := 0, locals := 81 } : Room) s m args below meth c H locs 0 0 (MQ below (gQi D cA B r wz) args s 0 0 (gA B)) (F0 m 2 ls []) := by
  unfold f_M_takesWord_l2 at hf
  suffices hh : ∀ n : Nat, ∀ (a0 : Nat) (a1 : Int32) (a2 : Int32) (a3 : Int32) (w : gW) (ls : Array Slot) (H : Heap) (locs : List Loc), itr (fun rec (q : Nat × Int32 × Int32 × Int32 × gW) => f_M_takesWord_b2 N rec q.1 q.2.1 q.2.2.1 q.2.2.2.1 q.2.2.2.2) n (a0, a1, a2, a3, w) = some (r, wz) → lv_has ls 4 [(0, .ref (B + a0)), (1, .int a1), (2, .int a2), (3, .int a3)] → gRep D cA B w H → va_S (gA B) s.heap H locs → W p l e ({ frames := 3, cells := 0, slots := 0, locals := 81 } : Room) s m args below meth c H locs 0 0 (MQ below (gQi D cA B r wz) args s 0 0 (gA B)) (F0 m 2 ls []) from hh N a0 a1 a2 a3 w ls H locs hf hl hR hS
  intro n
  induction n with
  | zero => intro a0 a1 a2 a3 w ls H locs hf; cases hf
  | succ n ihn =>
    intro a0 a1 a2 a3 w ls H locs hf hl hR hS
    exact c_M_takesWord_b2 (N := N) ihn C a0 a1 a2 a3 w hl ((itr_s _ _ _).symm.trans hf) hR hS
set_option maxRecDepth 20000 in
theorem c_M_takesWord_b0 {r : Int32} {wz : gW} (C : gC p s m args meth c "RidCoppersModel" b_M_takesWord 4 (some .boolean) D cA oc B) (a0 : Nat) (a1 : Int32) (a2 : Int32) (w : gW) {ls : Array Slot} {H : Heap} {locs : List Loc} (hl : lv_has ls 4 [(0, .ref (B + a0)), (1, .int a1), (2, .int a2)]) (hf : f_M_takesWord_b0 N a0 a1 a2 w = some (r, wz)) (hR : gRep D cA B w H) (hS : va_S (gA B) s.heap H locs) : W p l e ({ frames := 3, cells := 0, slots := 0, locals := 81 } : Room) s m args below meth c H locs 0 0 (MQ below (gQi D cA B r wz) args s 0 0 (gA B)) (F0 m 0 ls []) := by
  obtain ⟨hx, hb, hml, hown, hts, hr, hlocks, hK, hBs⟩ := id C
  unfold f_M_takesWord_b0 at hf
  refine lv_iconst (v := 0) hx hb d_M_takesWord_0 (by decide) ?_
  refine lv_istore_n (lv' := [(3, .int 0), (0, .ref (B + a0)), (1, .int a1), (2, .int a2)]) hx hb d_M_takesWord_1 rfl hl (by decide) rfl (fun ls hl => ?_)
  exact c_M_takesWord_l2 C a0 a1 a2 0 w (lv_sub hl [1, 2, 3, 0] rfl) hf hR hS
theorem c_M_takesWord (l : Launch) (D : va_G) (cA : Nat → ClassId) (oc : gO) (B N : Nat) (a0 : Nat) (a1 : Int32) (a2 : Int32) (w : gW) {wz : gW} {r : Int32} (hf : f_M_takesWord N a0 a1 a2 w = some (r, wz)) : Met l y_M_takesWord (Cond.code y_M_takesWord b_M_takesWord 4 (some .boolean) :: lw_good) ({ frames := 3, cells := 0, slots := 0, locals := 81 } : Room) (gPre D cA oc B [.ref (B + a0), .int a1, .int a2] w) (gQi D cA B r wz) 0 0 (gA B) := by
  refine Met.ofW (cc := b_M_takesWord) (maxL := 4) (ret := (some .boolean)) (by decide +kernel) rfl ?_
  intro p e s m args below meth c s₁ Bd hml hv
  obtain ⟨hargs, C, hR⟩ := gC.enter (l := l) rfl Bd hml hv
  subst hargs
  have hl := lv_entry ([.ref (B + a0), .int a1, .int a2]) (n := 4) (Nat.le_of_ble_eq_true rfl)
  rw [lg_entry_eq]
  generalize (lg_sl ([.ref (B + a0), .int a1, .int a2]) ++ List.replicate (4 - (lg_sl ([.ref (B + a0), .int a1, .int a2])).length) Slot.unset).toArray = ls at hl ⊢
  have hl : lv_has ls 4 [(0, .ref (B + a0)), (1, .int a1), (2, .int a2)] := hl
  exact c_M_takesWord_b0 C a0 a1 a2 w (lv_sub hl [0, 1, 2] rfl) hf hR va_S.rf
theorem d_M_isDigit_0 : decode b_M_isDigit 0 = .ok (.aload_n 0, 1) := by decide +kernel
theorem d_M_isDigit_1 : decode b_M_isDigit 1 = .ok (.aload_n 0, 1) := by decide +kernel
theorem d_M_isDigit_2 : decode b_M_isDigit 2 = .ok (.invokevirtual 241, 3) := by decide +kernel
theorem d_M_isDigit_5 : decode b_M_isDigit 5 = .ok (.bipush 48, 2) := by decide +kernel
theorem d_M_isDigit_7 : decode b_M_isDigit 7 = .ok (.bipush 57, 2) := by decide +kernel
theorem d_M_isDigit_9 : decode b_M_isDigit 9 = .ok (.invokevirtual 230, 3) := by decide +kernel
theorem d_M_isDigit_12 : decode b_M_isDigit 12 = .ok (.ireturn, 1) := by decide +kernel
set_option maxRecDepth 20000 in
theorem c_M_isDigit_b0 {r : Int32} {wz : gW} (C : gC p s m args meth c "RidCoppersModel" b_M_isDigit 1 (some .boolean) D cA oc B) (a0 : Nat) (w : gW) {ls : Array Slot} {H : Heap} {locs : List Loc} (hl : lv_has ls 1 [(0, .ref (B + a0))]) (hf : f_M_isDigit_b0 N a0 w = some (r, wz)) (hR : gRep D cA B w H) (hS : va_S (gA B) s.heap H locs) : W p l e ({ frames := 2, cells := 0, slots := 0, locals := 63 } : Room) s m args below meth c H locs 0 0 (MQ below (gQi D cA B r wz) args s 0 0 (gA B)) (F0 m 0 ls []) := by
  obtain ⟨hx, hb, hml, hown, hts, hr, hlocks, hK, hBs⟩ := id C
  unfold f_M_isDigit_b0 at hf
  refine lv_aload_n hx hb d_M_isDigit_0 rfl (lv_at hl 0 rfl) ?_
  refine lv_aload_n hx hb d_M_isDigit_1 rfl (lv_at hl 0 rfl) ?_
  have ⟨h4, hf⟩ := gd_e hf
  have ⟨x1, w2, h3, hf⟩ := kl_e hf
  refine g_ki0 (g_rV (As := []) (rest := [.ref (B + a0)]) hx hb hml hown hts hK hR hS (c_M_peek l D cA oc B N a0 w h3) I_M_peek m_1248 mp_33 (gRecv hK hR (ci := 12) rfl h4) rfl rfl (Nat.le_of_ble_eq_true rfl) hl.1 ⟨Nat.le_of_ble_eq_true rfl, Nat.le_of_ble_eq_true rfl⟩ ⟨Nat.le_of_ble_eq_true rfl, Nat.le_of_ble_eq_true rfl⟩ d_M_isDigit_2) hS (fun H locs hR hS => ?_)
  refine lv_bipush (v := 48) hx hb d_M_isDigit_5 (by decide) ?_
  refine lv_bipush (v := 57) hx hb d_M_isDigit_7 (by decide) ?_
  have ⟨h8, hf⟩ := gd_e hf
  have ⟨x5, w6, h7, hf⟩ := kl_e hf
  refine g_ki0 (g_rV (As := [.int x1, .int 48, .int 57]) (rest := []) hx hb hml hown hts hK hR hS (c_M_in l D cA oc B N a0 x1 48 57 w2 h7) I_M_in m_1204 mp_27 (gRecv hK hR (ci := 12) rfl h8) rfl rfl (Nat.le_of_ble_eq_true rfl) hl.1 ⟨Nat.le_of_ble_eq_true rfl, Nat.le_of_ble_eq_true rfl⟩ ⟨Nat.le_of_ble_eq_true rfl, Nat.le_of_ble_eq_true rfl⟩ d_M_isDigit_9) hS (fun H locs hR hS => ?_)
  have ⟨h9, hf⟩ := gd_e hf
  exact g_iret hx hb hr hlocks hR hS hf (nb01 h9) d_M_isDigit_12
theorem c_M_isDigit (l : Launch) (D : va_G) (cA : Nat → ClassId) (oc : gO) (B N : Nat) (a0 : Nat) (w : gW) {wz : gW} {r : Int32} (hf : f_M_isDigit N a0 w = some (r, wz)) : Met l y_M_isDigit (Cond.code y_M_isDigit b_M_isDigit 1 (some .boolean) :: lw_good) ({ frames := 2, cells := 0, slots := 0, locals := 63 } : Room) (gPre D cA oc B [.ref (B + a0)] w) (gQi D cA B r wz) 0 0 (gA B) := by
  refine Met.ofW (cc := b_M_isDigit) (maxL := 1) (ret := (some .boolean)) (by decide +kernel) rfl ?_
  intro p e s m args below meth c s₁ Bd hml hv
  obtain ⟨hargs, C, hR⟩ := gC.enter (l := l) rfl Bd hml hv
  subst hargs
  have hl := lv_entry ([.ref (B + a0)]) (n := 1) (Nat.le_of_ble_eq_true rfl)
  rw [lg_entry_eq]
  generalize (lg_sl ([.ref (B + a0)]) ++ List.replicate (1 - (lg_sl ([.ref (B + a0)])).length) Slot.unset).toArray = ls at hl ⊢
  have hl : lv_has ls 1 [(0, .ref (B + a0))] := hl
  exact c_M_isDigit_b0 C a0 w (lv_sub hl [0] rfl) hf hR va_S.rf
theorem d_M_takesNumber_0 : decode b_M_takesNumber 0 = .ok (.aload_n 0, 1) := by decide +kernel
theorem d_M_takesNumber_1 : decode b_M_takesNumber 1 = .ok (.invokevirtual 248, 3) := by decide +kernel
theorem d_M_takesNumber_4 : decode b_M_takesNumber 4 = .ok (.ifCond .ne 5, 3) := by decide +kernel
theorem d_M_takesNumber_7 : decode b_M_takesNumber 7 = .ok (.iconst 0, 1) := by decide +kernel
theorem d_M_takesNumber_8 : decode b_M_takesNumber 8 = .ok (.ireturn, 1) := by decide +kernel
theorem d_M_takesNumber_9 : decode b_M_takesNumber 9 = .ok (.aload_n 0, 1) := by decide +kernel
theorem d_M_takesNumber_10 : decode b_M_takesNumber 10 = .ok (.iconst 0, 1) := by decide +kernel
theorem d_M_takesNumber_11 : decode b_M_takesNumber 11 = .ok (.putfield 47, 3) := by decide +kernel
theorem d_M_takesNumber_14 : decode b_M_takesNumber 14 = .ok (.iconst 0, 1) := by decide +kernel
theorem d_M_takesNumber_15 : decode b_M_takesNumber 15 = .ok (.istore_n 1, 1) := by decide +kernel
theorem d_M_takesNumber_16 : decode b_M_takesNumber 16 = .ok (.iload_n 1, 1) := by decide +kernel
theorem d_M_takesNumber_17 : decode b_M_takesNumber 17 = .ok (.iconst 2, 1) := by decide +kernel
theorem d_M_takesNumber_18 : decode b_M_takesNumber 18 = .ok (.if_icmp .ge 45, 3) := by decide +kernel
theorem d_M_takesNumber_21 : decode b_M_takesNumber 21 = .ok (.aload_n 0, 1) := by decide +kernel
theorem d_M_takesNumber_22 : decode b_M_takesNumber 22 = .ok (.invokevirtual 248, 3) := by decide +kernel
theorem d_M_takesNumber_25 : decode b_M_takesNumber 25 = .ok (.ifCond .eq 38, 3) := by decide +kernel
theorem d_M_takesNumber_28 : decode b_M_takesNumber 28 = .ok (.aload_n 0, 1) := by decide +kernel
theorem d_M_takesNumber_29 : decode b_M_takesNumber 29 = .ok (.bipush 10, 2) := by decide +kernel
theorem d_M_takesNumber_31 : decode b_M_takesNumber 31 = .ok (.aload_n 0, 1) := by decide +kernel
theorem d_M_takesNumber_32 : decode b_M_takesNumber 32 = .ok (.getfield 47, 3) := by decide +kernel
theorem d_M_takesNumber_35 : decode b_M_takesNumber 35 = .ok (.imul, 1) := by decide +kernel
theorem d_M_takesNumber_36 : decode b_M_takesNumber 36 = .ok (.aload_n 0, 1) := by decide +kernel
theorem d_M_takesNumber_37 : decode b_M_takesNumber 37 = .ok (.invokevirtual 241, 3) := by decide +kernel
theorem d_M_takesNumber_40 : decode b_M_takesNumber 40 = .ok (.iadd, 1) := by decide +kernel
theorem d_M_takesNumber_41 : decode b_M_takesNumber 41 = .ok (.bipush 48, 2) := by decide +kernel
theorem d_M_takesNumber_43 : decode b_M_takesNumber 43 = .ok (.isub, 1) := by decide +kernel
theorem d_M_takesNumber_44 : decode b_M_takesNumber 44 = .ok (.putfield 47, 3) := by decide +kernel
theorem d_M_takesNumber_47 : decode b_M_takesNumber 47 = .ok (.aload_n 0, 1) := by decide +kernel
theorem d_M_takesNumber_48 : decode b_M_takesNumber 48 = .ok (.dup, 1) := by decide +kernel
theorem d_M_takesNumber_49 : decode b_M_takesNumber 49 = .ok (.getfield 44, 3) := by decide +kernel
theorem d_M_takesNumber_52 : decode b_M_takesNumber 52 = .ok (.iconst 1, 1) := by decide +kernel
theorem d_M_takesNumber_53 : decode b_M_takesNumber 53 = .ok (.iadd, 1) := by decide +kernel
theorem d_M_takesNumber_54 : decode b_M_takesNumber 54 = .ok (.putfield 44, 3) := by decide +kernel
theorem d_M_takesNumber_57 : decode b_M_takesNumber 57 = .ok (.iinc 1 1, 3) := by decide +kernel
theorem d_M_takesNumber_60 : decode b_M_takesNumber 60 = .ok (.goto (-44), 3) := by decide +kernel
theorem d_M_takesNumber_63 : decode b_M_takesNumber 63 = .ok (.iconst 1, 1) := by decide +kernel
theorem d_M_takesNumber_64 : decode b_M_takesNumber 64 = .ok (.ireturn, 1) := by decide +kernel
set_option maxRecDepth 20000 in
theorem c_M_takesNumber_b16 {r : Int32} {wz : gW} {rec16 : Nat × Int32 × gW → Option (Int32 × gW)} (ih16 : ∀ (a0 : Nat) (a1 : Int32) (w : gW) (ls : Array Slot) (H : Heap) (locs : List Loc), rec16 (a0, a1, w) = some (r, wz) → lv_has ls 2 [(0, .ref (B + a0)), (1, .int a1)] → gRep D cA B w H → va_S (gA B) s.heap H locs → W p l e ({ frames := 3, cells := 0, slots := 0, locals := 83 } : Room) s m args below meth c H locs 0 0 (MQ below (gQi D cA B r wz) args s 0 0 (gA B)) (F0 m 16 ls [])) (C : gC p s m args meth c "RidCoppersModel" b_M_takesNumber 2 (some .boolean) D cA oc B) (a0 : Nat) (a1 : Int32) (w : gW) {ls : Array Slot} {H : Heap} {locs : List Loc} (hl : lv_has ls 2 [(0, .ref (B + a0)), (1, .int a1)]) (hf : f_M_takesNumber_b16 N rec16 a0 a1 w = some (r, wz)) (hR : gRep D cA B w H) (hS : va_S (gA B) s.heap H locs) : W p l e ({ frames := 3, cells := 0, slots := 0, locals := 83 } : Room) s m args below meth c H locs 0 0 (MQ below (gQi D cA B r wz) args s 0 0 (gA B)) (F0 m 16 ls []) := by
  obtain ⟨hx, hb, hml, hown, hts, hr, hlocks, hK, hBs⟩ := id C
  unfold f_M_takesNumber_b16 at hf
  refine lv_iload_n hx hb d_M_takesNumber_16 rfl (lv_at hl 1 rfl) ?_
  refine lv_iconst (v := 2) hx hb d_M_takesNumber_17 (by decide) ?_
  refine lv_icmp_ge (tgt := 63) hx hb d_M_takesNumber_18 (by decide) (fun hc => ?_) (fun hc => ?_)
  · have hf := cd_t hc hf
    refine lv_iconst (v := 1) hx hb d_M_takesNumber_63 (by decide) ?_
    exact g_iret hx hb hr hlocks hR hS hf rfl d_M_takesNumber_64
  have hf := cd_f hc hf
  refine lv_aload_n hx hb d_M_takesNumber_21 rfl (lv_at hl 0 rfl) ?_
  have ⟨h10, hf⟩ := gd_e hf
  have ⟨x7, w8, h9, hf⟩ := kl_e hf
  refine g_ki0 (g_rV (As := []) (rest := []) hx hb hml hown hts hK hR hS (c_M_isDigit l D cA oc B N a0 w h9) I_M_isDigit m_1264 mp_37 (gRecv hK hR (ci := 12) rfl h10) rfl rfl (Nat.le_of_ble_eq_true rfl) hl.1 ⟨Nat.le_of_ble_eq_true rfl, Nat.le_of_ble_eq_true rfl⟩ ⟨Nat.le_of_ble_eq_true rfl, Nat.le_of_ble_eq_true rfl⟩ d_M_takesNumber_22) hS (fun H locs hR hS => ?_)
  refine lv_if_eq (tgt := 63) hx hb d_M_takesNumber_25 (by decide) (fun hc => ?_) (fun hc => ?_)
  · have hf := cd_t hc hf
    refine lv_iconst (v := 1) hx hb d_M_takesNumber_63 (by decide) ?_
    exact g_iret hx hb hr hlocks hR hS hf rfl d_M_takesNumber_64
  have hf := cd_f hc hf
  refine lv_aload_n hx hb d_M_takesNumber_28 rfl (lv_at hl 0 rfl) ?_
  refine lv_bipush (v := 10) hx hb d_M_takesNumber_29 (by decide) ?_
  refine lv_aload_n hx hb d_M_takesNumber_31 rfl (lv_at hl 0 rfl) ?_
  have ⟨h11, hf⟩ := gd_e hf
  refine g_getI hx hb hts hown hK hR fl_M_47 (fun _ => rfl) h11 d_M_takesNumber_32 ?_
  refine g_nI hf (fun x12 hf => ?_)
  refine lv_imul hx hb d_M_takesNumber_35 ?_
  refine g_nI hf (fun x13 hf => ?_)
  refine lv_aload_n hx hb d_M_takesNumber_36 rfl (lv_at hl 0 rfl) ?_
  have ⟨x14, w15, h16, hf⟩ := kl_e hf
  refine g_ki0 (g_rV (As := []) (rest := [.int x13, .ref (B + a0)]) hx hb hml hown hts hK hR hS (c_M_peek l D cA oc B N a0 w8 h16) I_M_peek m_1248 mp_33 (gRecv hK hR (ci := 12) rfl h11) rfl rfl (Nat.le_of_ble_eq_true rfl) hl.1 ⟨Nat.le_of_ble_eq_true rfl, Nat.le_of_ble_eq_true rfl⟩ ⟨Nat.le_of_ble_eq_true rfl, Nat.le_of_ble_eq_true rfl⟩ d_M_takesNumber_37) hS (fun H locs hR hS => ?_)
  refine lv_iadd hx hb d_M_takesNumber_40 ?_
  refine g_nI hf (fun x17 hf => ?_)
  refine lv_bipush (v := 48) hx hb d_M_takesNumber_41 (by decide) ?_
  refine lv_isub hx hb d_M_takesNumber_43 ?_
  refine g_nI hf (fun x18 hf => ?_)
  have ⟨h19, hf⟩ := gd_e hf
  refine g_putI hx hb hts hown hK hR hS pf_M_47 (fun _ => rfl) rfl rfl h19 d_M_takesNumber_44 (fun H locs hR hS => ?_)
  refine g_nW hf hR (fun w20 hf hR => ?_)
  refine lv_aload_n hx hb d_M_takesNumber_47 rfl (lv_at hl 0 rfl) ?_
  refine lv_dup hx hb d_M_takesNumber_48 rfl ?_
  have ⟨h21, hf⟩ := gd_e hf
  refine g_getI hx hb hts hown hK hR fl_M_44 (fun _ => rfl) h21 d_M_takesNumber_49 ?_
  refine g_nI hf (fun x22 hf => ?_)
  refine lv_iconst (v := 1) hx hb d_M_takesNumber_52 (by decide) ?_
  refine lv_iadd hx hb d_M_takesNumber_53 ?_
  refine g_nI hf (fun x23 hf => ?_)
  refine g_putI hx hb hts hown hK hR hS pf_M_44 (fun _ => rfl) rfl rfl h21 d_M_takesNumber_54 (fun H locs hR hS => ?_)
  refine g_nW hf hR (fun w24 hf hR => ?_)
  refine g_iinc (lv' := fun x25 => [(1, .int x25), (0, .ref (B + a0))]) hf hx hb d_M_takesNumber_57 hl (k := 1) rfl (by decide) (by decide) (fun _ => rfl) (fun x25 ls hf hl => ?_)
  refine lv_goto (tgt := 16) hx hb d_M_takesNumber_60 (by decide) ?_
  exact ih16 a0 x25 w24 _ _ _ hf (lv_sub hl [1, 0] rfl) hR hS
theorem c_M_takesNumber_l16 {r : Int32} {wz : gW} (C : gC p s m args meth c "RidCoppersModel" b_M_takesNumber 2 (some .boolean) D cA oc B) (a0 : Nat) (a1 : Int32) (w : gW) {ls : Array Slot} {H : Heap} {locs : List Loc} (hl : lv_has ls 2 [(0, .ref (B + a0)), (1, .int a1)]) (hf : f_M_takesNumber_l16 N a0 a1 w = some (r, wz)) (hR : gRep D cA B w H) (hS : va_S (gA B) s.heap H locs) : W p l e ({ frames := 3, cells := 0, slots := 0, locals := 83 } : Room) s m args below meth c H locs 0 0 (MQ below (gQi D cA B r wz) args s 0 0 (gA B)) (F0 m 16 ls []) := by
  unfold f_M_takesNumber_l16 at hf
  suffices hh : ∀ n : Nat, ∀ (a0 : Nat) (a1 : Int32) (w : gW) (ls : Array Slot) (H : Heap) (locs : List Loc), itr (fun rec (q : Nat × Int32 × gW) => f_M_takesNumber_b16 N rec q.1 q.2.1 q.2.2) n (a0, a1, w) = some (r, wz) → lv_has ls 2 [(0, .ref (B + a0)), (1, .int a1)] → gRep D cA B w H → va_S (gA B) s.heap H locs → W p l e ({ frames := 3, cells := 0, slots := 0, locals := 83 } : Room) s m args below meth c H locs 0 0 (MQ below (gQi D cA B r wz) args s 0 0 (gA B)) (F0 m 16 ls []) from hh N a0 a1 w ls H locs hf hl hR hS
  intro n
  induction n with
  | zero => intro a0 a1 w ls H locs hf; cases hf
  | succ n ihn =>
    intro a0 a1 w ls H locs hf hl hR hS
    exact c_M_takesNumber_b16 (N := N) ihn C a0 a1 w hl ((itr_s _ _ _).symm.trans hf) hR hS
set_option maxRecDepth 20000 in
theorem c_M_takesNumber_b0 {r : Int32} {wz : gW} (C : gC p s m args meth c "RidCoppersModel" b_M_takesNumber 2 (some .boolean) D cA oc B) (a0 : Nat) (w : gW) {ls : Array Slot} {H : Heap} {locs : List Loc} (hl : lv_has ls 2 [(0, .ref (B + a0))]) (hf : f_M_takesNumber_b0 N a0 w = some (r, wz)) (hR : gRep D cA B w H) (hS : va_S (gA B) s.heap H locs) : W p l e ({ frames := 3, cells := 0, slots := 0, locals := 83 } : Room) s m args below meth c H locs 0 0 (MQ below (gQi D cA B r wz) args s 0 0 (gA B)) (F0 m 0 ls []) := by
  obtain ⟨hx, hb, hml, hown, hts, hr, hlocks, hK, hBs⟩ := id C
  unfold f_M_takesNumber_b0 at hf
  refine lv_aload_n hx hb d_M_takesNumber_0 rfl (lv_at hl 0 rfl) ?_
  have ⟨h4, hf⟩ := gd_e hf
  have ⟨x1, w2, h3, hf⟩ := kl_e hf
  refine g_ki0 (g_rV (As := []) (rest := []) hx hb hml hown hts hK hR hS (c_M_isDigit l D cA oc B N a0 w h3) I_M_isDigit m_1264 mp_37 (gRecv hK hR (ci := 12) rfl h4) rfl rfl (Nat.le_of_ble_eq_true rfl) hl.1 ⟨Nat.le_of_ble_eq_true rfl, Nat.le_of_ble_eq_true rfl⟩ ⟨Nat.le_of_ble_eq_true rfl, Nat.le_of_ble_eq_true rfl⟩ d_M_takesNumber_1) hS (fun H locs hR hS => ?_)
  refine lv_if_ne (tgt := 9) hx hb d_M_takesNumber_4 (by decide) (fun hc => ?_) (fun hc => ?_)
  · have hf := cd_f hc hf
    refine lv_aload_n hx hb d_M_takesNumber_9 rfl (lv_at hl 0 rfl) ?_
    refine lv_iconst (v := 0) hx hb d_M_takesNumber_10 (by decide) ?_
    have ⟨h5, hf⟩ := gd_e hf
    refine g_putI hx hb hts hown hK hR hS pf_M_47 (fun _ => rfl) rfl rfl h5 d_M_takesNumber_11 (fun H locs hR hS => ?_)
    refine g_nW hf hR (fun w6 hf hR => ?_)
    refine lv_iconst (v := 0) hx hb d_M_takesNumber_14 (by decide) ?_
    refine lv_istore_n (lv' := [(1, .int 0), (0, .ref (B + a0))]) hx hb d_M_takesNumber_15 rfl hl (by decide) rfl (fun ls hl => ?_)
    exact c_M_takesNumber_l16 C a0 0 w6 (lv_sub hl [1, 0] rfl) hf hR hS
  have hf := cd_t hc hf
  refine lv_iconst (v := 0) hx hb d_M_takesNumber_7 (by decide) ?_
  exact g_iret hx hb hr hlocks hR hS hf rfl d_M_takesNumber_8
theorem c_M_takesNumber (l : Launch) (D : va_G) (cA : Nat → ClassId) (oc : gO) (B N : Nat) (a0 : Nat) (w : gW) {wz : gW} {r : Int32} (hf : f_M_takesNumber N a0 w = some (r, wz)) : Met l y_M_takesNumber (Cond.code y_M_takesNumber b_M_takesNumber 2 (some .boolean) :: lw_good) ({ frames := 3, cells := 0, slots := 0, locals := 83 } : Room) (gPre D cA oc B [.ref (B + a0)] w) (gQi D cA B r wz) 0 0 (gA B) := by
  refine Met.ofW (cc := b_M_takesNumber) (maxL := 2) (ret := (some .boolean)) (by decide +kernel) rfl ?_
  intro p e s m args below meth c s₁ Bd hml hv
  obtain ⟨hargs, C, hR⟩ := gC.enter (l := l) rfl Bd hml hv
  subst hargs
  have hl := lv_entry ([.ref (B + a0)]) (n := 2) (Nat.le_of_ble_eq_true rfl)
  rw [lg_entry_eq]
  generalize (lg_sl ([.ref (B + a0)]) ++ List.replicate (2 - (lg_sl ([.ref (B + a0)])).length) Slot.unset).toArray = ls at hl ⊢
  have hl : lv_has ls 2 [(0, .ref (B + a0))] := hl
  exact c_M_takesNumber_b0 C a0 w (lv_sub hl [0] rfl) hf hR va_S.rf
theorem d_M_emits_0 : decode b_M_emits 0 = .ok (.aload_n 0, 1) := by decide +kernel
theorem d_M_emits_1 : decode b_M_emits 1 = .ok (.getfield 68, 3) := by decide +kernel
theorem d_M_emits_4 : decode b_M_emits 4 = .ok (.aload_n 0, 1) := by decide +kernel
theorem d_M_emits_5 : decode b_M_emits 5 = .ok (.getfield 74, 3) := by decide +kernel
theorem d_M_emits_8 : decode b_M_emits 8 = .ok (.iload_n 1, 1) := by decide +kernel
theorem d_M_emits_9 : decode b_M_emits 9 = .ok (.iastore, 1) := by decide +kernel
theorem d_M_emits_10 : decode b_M_emits 10 = .ok (.aload_n 0, 1) := by decide +kernel
theorem d_M_emits_11 : decode b_M_emits 11 = .ok (.dup, 1) := by decide +kernel
theorem d_M_emits_12 : decode b_M_emits 12 = .ok (.getfield 74, 3) := by decide +kernel
theorem d_M_emits_15 : decode b_M_emits 15 = .ok (.iconst 1, 1) := by decide +kernel
theorem d_M_emits_16 : decode b_M_emits 16 = .ok (.iadd, 1) := by decide +kernel
theorem d_M_emits_17 : decode b_M_emits 17 = .ok (.putfield 74, 3) := by decide +kernel
theorem d_M_emits_20 : decode b_M_emits 20 = .ok (.return_, 1) := by decide +kernel
set_option maxRecDepth 20000 in
theorem c_M_emits_b0 {r : Unit} {wz : gW} (C : gC p s m args meth c "RidCoppersModel" b_M_emits 2 none D cA oc B) (a0 : Nat) (a1 : Int32) (w : gW) {ls : Array Slot} {H : Heap} {locs : List Loc} (hl : lv_has ls 2 [(0, .ref (B + a0)), (1, .int a1)]) (hf : f_M_emits_b0 N a0 a1 w = some (r, wz)) (hR : gRep D cA B w H) (hS : va_S (gA B) s.heap H locs) : W p l e ({ frames := 1, cells := 0, slots := 0, locals := 40 } : Room) s m args below meth c H locs 0 0 (MQ below (gQv D cA B r wz) args s 0 0 (gA B)) (F0 m 0 ls []) := by
  obtain ⟨hx, hb, hml, hown, hts, hr, hlocks, hK, hBs⟩ := id C
  unfold f_M_emits_b0 at hf
  refine lv_aload_n hx hb d_M_emits_0 rfl (lv_at hl 0 rfl) ?_
  have ⟨h1, hf⟩ := gd_e hf
  have ⟨x2, h3, hf⟩ := rr_e hf
  refine g_getR hx hb hts hown hK hR fl_M_68 (fun _ => rfl) h1 h3 d_M_emits_1 ?_
  refine lv_aload_n hx hb d_M_emits_4 rfl (lv_at hl 0 rfl) ?_
  refine g_getI hx hb hts hown hK hR fl_M_74 (fun _ => rfl) h1 d_M_emits_5 ?_
  refine g_nI hf (fun x4 hf => ?_)
  refine lv_iload_n hx hb d_M_emits_8 rfl (lv_at hl 1 rfl) ?_
  have ⟨h5, hf⟩ := gd_e hf
  have ⟨h6, hf⟩ := gd_e hf
  refine g_iast hx hb hK hR hS h5 h6 d_M_emits_9 (fun H locs hR hS => ?_)
  refine g_nW hf hR (fun w7 hf hR => ?_)
  refine lv_aload_n hx hb d_M_emits_10 rfl (lv_at hl 0 rfl) ?_
  refine lv_dup hx hb d_M_emits_11 rfl ?_
  have ⟨h8, hf⟩ := gd_e hf
  refine g_getI hx hb hts hown hK hR fl_M_74 (fun _ => rfl) h8 d_M_emits_12 ?_
  refine g_nI hf (fun x9 hf => ?_)
  refine lv_iconst (v := 1) hx hb d_M_emits_15 (by decide) ?_
  refine lv_iadd hx hb d_M_emits_16 ?_
  refine g_nI hf (fun x10 hf => ?_)
  refine g_putI hx hb hts hown hK hR hS pf_M_74 (fun _ => rfl) rfl rfl h8 d_M_emits_17 (fun H locs hR hS => ?_)
  refine g_nW hf hR (fun w11 hf hR => ?_)
  exact g_vret hx hb hr hlocks hR hS hf d_M_emits_20
theorem c_M_emits (l : Launch) (D : va_G) (cA : Nat → ClassId) (oc : gO) (B N : Nat) (a0 : Nat) (a1 : Int32) (w : gW) {wz : gW} {r : Unit} (hf : f_M_emits N a0 a1 w = some (r, wz)) : Met l y_M_emits (Cond.code y_M_emits b_M_emits 2 none :: lw_good) ({ frames := 1, cells := 0, slots := 0, locals := 40 } : Room) (gPre D cA oc B [.ref (B + a0), .int a1] w) (gQv D cA B r wz) 0 0 (gA B) := by
  refine Met.ofW (cc := b_M_emits) (maxL := 2) (ret := none) (by decide +kernel) rfl ?_
  intro p e s m args below meth c s₁ Bd hml hv
  obtain ⟨hargs, C, hR⟩ := gC.enter (l := l) rfl Bd hml hv
  subst hargs
  have hl := lv_entry ([.ref (B + a0), .int a1]) (n := 2) (Nat.le_of_ble_eq_true rfl)
  rw [lg_entry_eq]
  generalize (lg_sl ([.ref (B + a0), .int a1]) ++ List.replicate (2 - (lg_sl ([.ref (B + a0), .int a1])).length) Slot.unset).toArray = ls at hl ⊢
  have hl : lv_has ls 2 [(0, .ref (B + a0)), (1, .int a1)] := hl
  exact c_M_emits_b0 C a0 a1 w (lv_sub hl [0, 1] rfl) hf hR va_S.rf
theorem d_M_whole_0 : decode b_M_whole 0 = .ok (.aload_n 0, 1) := by decide +kernel
theorem d_M_whole_1 : decode b_M_whole 1 = .ok (.getfield 77, 3) := by decide +kernel
theorem d_M_whole_4 : decode b_M_whole 4 = .ok (.ifCond .le 48, 3) := by decide +kernel
theorem d_M_whole_7 : decode b_M_whole 7 = .ok (.aload_n 0, 1) := by decide +kernel
theorem d_M_whole_8 : decode b_M_whole 8 = .ok (.getfield 71, 3) := by decide +kernel
theorem d_M_whole_11 : decode b_M_whole 11 = .ok (.aload_n 0, 1) := by decide +kernel
theorem d_M_whole_12 : decode b_M_whole 12 = .ok (.getfield 77, 3) := by decide +kernel
theorem d_M_whole_15 : decode b_M_whole 15 = .ok (.iconst 1, 1) := by decide +kernel
theorem d_M_whole_16 : decode b_M_whole 16 = .ok (.isub, 1) := by decide +kernel
theorem d_M_whole_17 : decode b_M_whole 17 = .ok (.iaload, 1) := by decide +kernel
theorem d_M_whole_18 : decode b_M_whole 18 = .ok (.bipush 33, 2) := by decide +kernel
theorem d_M_whole_20 : decode b_M_whole 20 = .ok (.if_icmp .ne 32, 3) := by decide +kernel
theorem d_M_whole_23 : decode b_M_whole 23 = .ok (.aload_n 0, 1) := by decide +kernel
theorem d_M_whole_24 : decode b_M_whole 24 = .ok (.bipush (-33), 2) := by decide +kernel
theorem d_M_whole_26 : decode b_M_whole 26 = .ok (.invokevirtual 252, 3) := by decide +kernel
theorem d_M_whole_29 : decode b_M_whole 29 = .ok (.aload_n 0, 1) := by decide +kernel
theorem d_M_whole_30 : decode b_M_whole 30 = .ok (.dup, 1) := by decide +kernel
theorem d_M_whole_31 : decode b_M_whole 31 = .ok (.getfield 77, 3) := by decide +kernel
theorem d_M_whole_34 : decode b_M_whole 34 = .ok (.iconst 1, 1) := by decide +kernel
theorem d_M_whole_35 : decode b_M_whole 35 = .ok (.isub, 1) := by decide +kernel
theorem d_M_whole_36 : decode b_M_whole 36 = .ok (.putfield 77, 3) := by decide +kernel
theorem d_M_whole_39 : decode b_M_whole 39 = .ok (.aload_n 0, 1) := by decide +kernel
theorem d_M_whole_40 : decode b_M_whole 40 = .ok (.dup, 1) := by decide +kernel
theorem d_M_whole_41 : decode b_M_whole 41 = .ok (.getfield 80, 3) := by decide +kernel
theorem d_M_whole_44 : decode b_M_whole 44 = .ok (.iconst 1, 1) := by decide +kernel
theorem d_M_whole_45 : decode b_M_whole 45 = .ok (.isub, 1) := by decide +kernel
theorem d_M_whole_46 : decode b_M_whole 46 = .ok (.putfield 80, 3) := by decide +kernel
theorem d_M_whole_49 : decode b_M_whole 49 = .ok (.goto (-49), 3) := by decide +kernel
theorem d_M_whole_52 : decode b_M_whole 52 = .ok (.return_, 1) := by decide +kernel
set_option maxRecDepth 20000 in
theorem c_M_whole_b0 {r : Unit} {wz : gW} {rec0 : Nat × gW → Option (Unit × gW)} (ih0 : ∀ (a0 : Nat) (w : gW) (ls : Array Slot) (H : Heap) (locs : List Loc), rec0 (a0, w) = some (r, wz) → lv_has ls 1 [(0, .ref (B + a0))] → gRep D cA B w H → va_S (gA B) s.heap H locs → W p l e ({ frames := 2, cells := 0, slots := 0, locals := 61 } : Room) s m args below meth c H locs 0 0 (MQ below (gQv D cA B r wz) args s 0 0 (gA B)) (F0 m 0 ls [])) (C : gC p s m args meth c "RidCoppersModel" b_M_whole 1 none D cA oc B) (a0 : Nat) (w : gW) {ls : Array Slot} {H : Heap} {locs : List Loc} (hl : lv_has ls 1 [(0, .ref (B + a0))]) (hf : f_M_whole_b0 N rec0 a0 w = some (r, wz)) (hR : gRep D cA B w H) (hS : va_S (gA B) s.heap H locs) : W p l e ({ frames := 2, cells := 0, slots := 0, locals := 61 } : Room) s m args below meth c H locs 0 0 (MQ below (gQv D cA B r wz) args s 0 0 (gA B)) (F0 m 0 ls []) := by
  obtain ⟨hx, hb, hml, hown, hts, hr, hlocks, hK, hBs⟩ := id C
  unfold f_M_whole_b0 at hf
  refine lv_aload_n hx hb d_M_whole_0 rfl (lv_at hl 0 rfl) ?_
  have ⟨h1, hf⟩ := gd_e hf
  refine g_getI hx hb hts hown hK hR fl_M_77 (fun _ => rfl) h1 d_M_whole_1 ?_
  refine g_nI hf (fun x2 hf => ?_)
  refine lv_if_le (tgt := 52) hx hb d_M_whole_4 (by decide) (fun hc => ?_) (fun hc => ?_)
  · have hf := cd_t hc hf
    exact g_vret hx hb hr hlocks hR hS hf d_M_whole_52
  have hf := cd_f hc hf
  refine lv_aload_n hx hb d_M_whole_7 rfl (lv_at hl 0 rfl) ?_
  have ⟨x3, h4, hf⟩ := rr_e hf
  refine g_getR hx hb hts hown hK hR fl_M_71 (fun _ => rfl) h1 h4 d_M_whole_8 ?_
  refine lv_aload_n hx hb d_M_whole_11 rfl (lv_at hl 0 rfl) ?_
  refine g_getI hx hb hts hown hK hR fl_M_77 (fun _ => rfl) h1 d_M_whole_12 ?_
  refine g_nI hf (fun x5 hf => ?_)
  refine lv_iconst (v := 1) hx hb d_M_whole_15 (by decide) ?_
  refine lv_isub hx hb d_M_whole_16 ?_
  refine g_nI hf (fun x6 hf => ?_)
  have ⟨h7, hf⟩ := gd_e hf
  have ⟨h8, hf⟩ := gd_e hf
  refine g_iald hx hb hK hR h7 h8 d_M_whole_17 ?_
  refine g_nI hf (fun x9 hf => ?_)
  refine lv_bipush (v := 33) hx hb d_M_whole_18 (by decide) ?_
  refine lv_icmp_ne (tgt := 52) hx hb d_M_whole_20 (by decide) (fun hc => ?_) (fun hc => ?_)
  · have hf := cd_f hc hf
    exact g_vret hx hb hr hlocks hR hS hf d_M_whole_52
  have hf := cd_t hc hf
  refine lv_aload_n hx hb d_M_whole_23 rfl (lv_at hl 0 rfl) ?_
  refine lv_bipush (v := (-33)) hx hb d_M_whole_24 (by decide) ?_
  have ⟨x10, w11, h12, hf⟩ := kl_e hf
  refine g_kv0 (g_rV (As := [.int (-33)]) (rest := []) hx hb hml hown hts hK hR hS (c_M_emits l D cA oc B N a0 (-33) w h12) I_M_emits m_1280 mp_41 (gRecv hK hR (ci := 12) rfl h1) rfl rfl (Nat.le_of_ble_eq_true rfl) hl.1 ⟨Nat.le_of_ble_eq_true rfl, Nat.le_of_ble_eq_true rfl⟩ ⟨Nat.le_of_ble_eq_true rfl, Nat.le_of_ble_eq_true rfl⟩ d_M_whole_26) hS (fun H locs hR hS => ?_)
  refine lv_aload_n hx hb d_M_whole_29 rfl (lv_at hl 0 rfl) ?_
  refine lv_dup hx hb d_M_whole_30 rfl ?_
  have ⟨h13, hf⟩ := gd_e hf
  refine g_getI hx hb hts hown hK hR fl_M_77 (fun _ => rfl) h13 d_M_whole_31 ?_
  refine g_nI hf (fun x14 hf => ?_)
  refine lv_iconst (v := 1) hx hb d_M_whole_34 (by decide) ?_
  refine lv_isub hx hb d_M_whole_35 ?_
  refine g_nI hf (fun x15 hf => ?_)
  refine g_putI hx hb hts hown hK hR hS pf_M_77 (fun _ => rfl) rfl rfl h13 d_M_whole_36 (fun H locs hR hS => ?_)
  refine g_nW hf hR (fun w16 hf hR => ?_)
  refine lv_aload_n hx hb d_M_whole_39 rfl (lv_at hl 0 rfl) ?_
  refine lv_dup hx hb d_M_whole_40 rfl ?_
  have ⟨h17, hf⟩ := gd_e hf
  refine g_getI hx hb hts hown hK hR fl_M_80 (fun _ => rfl) h17 d_M_whole_41 ?_
  refine g_nI hf (fun x18 hf => ?_)
  refine lv_iconst (v := 1) hx hb d_M_whole_44 (by decide) ?_
  refine lv_isub hx hb d_M_whole_45 ?_
  refine g_nI hf (fun x19 hf => ?_)
  refine g_putI hx hb hts hown hK hR hS pf_M_80 (fun _ => rfl) rfl rfl h17 d_M_whole_46 (fun H locs hR hS => ?_)
  refine g_nW hf hR (fun w20 hf hR => ?_)
  refine lv_goto (tgt := 0) hx hb d_M_whole_49 (by decide) ?_
  exact ih0 a0 w20 _ _ _ hf (lv_sub hl [0] rfl) hR hS
theorem c_M_whole_l0 {r : Unit} {wz : gW} (C : gC p s m args meth c "RidCoppersModel" b_M_whole 1 none D cA oc B) (a0 : Nat) (w : gW) {ls : Array Slot} {H : Heap} {locs : List Loc} (hl : lv_has ls 1 [(0, .ref (B + a0))]) (hf : f_M_whole_l0 N a0 w = some (r, wz)) (hR : gRep D cA B w H) (hS : va_S (gA B) s.heap H locs) : W p l e ({ frames := 2, cells := 0, slots := 0, locals := 61 } : Room) s m args below meth c H locs 0 0 (MQ below (gQv D cA B r wz) args s 0 0 (gA B)) (F0 m 0 ls []) := by
  unfold f_M_whole_l0 at hf
  suffices hh : ∀ n : Nat, ∀ (a0 : Nat) (w : gW) (ls : Array Slot) (H : Heap) (locs : List Loc), itr (fun rec (q : Nat × gW) => f_M_whole_b0 N rec q.1 q.2) n (a0, w) = some (r, wz) → lv_has ls 1 [(0, .ref (B + a0))] → gRep D cA B w H → va_S (gA B) s.heap H locs → W p l e ({ frames := 2, cells := 0, slots := 0, locals := 61 } : Room) s m args below meth c H locs 0 0 (MQ below (gQv D cA B r wz) args s 0 0 (gA B)) (F0 m 0 ls []) from hh N a0 w ls H locs hf hl hR hS
  intro n
  induction n with
  | zero => intro a0 w ls H locs hf; cases hf
  | succ n ihn =>
    intro a0 w ls H locs hf hl hR hS
    exact c_M_whole_b0 (N := N) ihn C a0 w hl ((itr_s _ _ _).symm.trans hf) hR hS
theorem c_M_whole (l : Launch) (D : va_G) (cA : Nat → ClassId) (oc : gO) (B N : Nat) (a0 : Nat) (w : gW) {wz : gW} {r : Unit} (hf : f_M_whole N a0 w = some (r, wz)) : Met l y_M_whole (Cond.code y_M_whole b_M_whole 1 none :: lw_good) ({ frames := 2, cells := 0, slots := 0, locals := 61 } : Room) (gPre D cA oc B [.ref (B + a0)] w) (gQv D cA B r wz) 0 0 (gA B) := by
  refine Met.ofW (cc := b_M_whole) (maxL := 1) (ret := none) (by decide +kernel) rfl ?_
  intro p e s m args below meth c s₁ Bd hml hv
  obtain ⟨hargs, C, hR⟩ := gC.enter (l := l) rfl Bd hml hv
  subst hargs
  have hl := lv_entry ([.ref (B + a0)]) (n := 1) (Nat.le_of_ble_eq_true rfl)
  rw [lg_entry_eq]
  generalize (lg_sl ([.ref (B + a0)]) ++ List.replicate (1 - (lg_sl ([.ref (B + a0)])).length) Slot.unset).toArray = ls at hl ⊢
  have hl : lv_has ls 1 [(0, .ref (B + a0))] := hl
  exact c_M_whole_l0 C a0 w (lv_sub hl [0] rfl) hf hR va_S.rf
theorem d_M_settle_0 : decode b_M_settle 0 = .ok (.aload_n 0, 1) := by decide +kernel
theorem d_M_settle_1 : decode b_M_settle 1 = .ok (.getfield 77, 3) := by decide +kernel
theorem d_M_settle_4 : decode b_M_settle 4 = .ok (.ifCond .le 68, 3) := by decide +kernel
theorem d_M_settle_7 : decode b_M_settle 7 = .ok (.aload_n 0, 1) := by decide +kernel
theorem d_M_settle_8 : decode b_M_settle 8 = .ok (.getfield 71, 3) := by decide +kernel
theorem d_M_settle_11 : decode b_M_settle 11 = .ok (.aload_n 0, 1) := by decide +kernel
theorem d_M_settle_12 : decode b_M_settle 12 = .ok (.getfield 77, 3) := by decide +kernel
theorem d_M_settle_15 : decode b_M_settle 15 = .ok (.iconst 1, 1) := by decide +kernel
theorem d_M_settle_16 : decode b_M_settle 16 = .ok (.isub, 1) := by decide +kernel
theorem d_M_settle_17 : decode b_M_settle 17 = .ok (.iaload, 1) := by decide +kernel
theorem d_M_settle_18 : decode b_M_settle 18 = .ok (.bipush 38, 2) := by decide +kernel
theorem d_M_settle_20 : decode b_M_settle 20 = .ok (.if_icmp .eq 25, 3) := by decide +kernel
theorem d_M_settle_23 : decode b_M_settle 23 = .ok (.aload_n 0, 1) := by decide +kernel
theorem d_M_settle_24 : decode b_M_settle 24 = .ok (.getfield 71, 3) := by decide +kernel
theorem d_M_settle_27 : decode b_M_settle 27 = .ok (.aload_n 0, 1) := by decide +kernel
theorem d_M_settle_28 : decode b_M_settle 28 = .ok (.getfield 77, 3) := by decide +kernel
theorem d_M_settle_31 : decode b_M_settle 31 = .ok (.iconst 1, 1) := by decide +kernel
theorem d_M_settle_32 : decode b_M_settle 32 = .ok (.isub, 1) := by decide +kernel
theorem d_M_settle_33 : decode b_M_settle 33 = .ok (.iaload, 1) := by decide +kernel
theorem d_M_settle_34 : decode b_M_settle 34 = .ok (.bipush 124, 2) := by decide +kernel
theorem d_M_settle_36 : decode b_M_settle 36 = .ok (.if_icmp .ne 36, 3) := by decide +kernel
theorem d_M_settle_39 : decode b_M_settle 39 = .ok (.iload_n 1, 1) := by decide +kernel
theorem d_M_settle_40 : decode b_M_settle 40 = .ok (.bipush 38, 2) := by decide +kernel
theorem d_M_settle_42 : decode b_M_settle 42 = .ok (.if_icmp .eq 30, 3) := by decide +kernel
theorem d_M_settle_45 : decode b_M_settle 45 = .ok (.aload_n 0, 1) := by decide +kernel
theorem d_M_settle_46 : decode b_M_settle 46 = .ok (.dup, 1) := by decide +kernel
theorem d_M_settle_47 : decode b_M_settle 47 = .ok (.getfield 77, 3) := by decide +kernel
theorem d_M_settle_50 : decode b_M_settle 50 = .ok (.iconst 1, 1) := by decide +kernel
theorem d_M_settle_51 : decode b_M_settle 51 = .ok (.isub, 1) := by decide +kernel
theorem d_M_settle_52 : decode b_M_settle 52 = .ok (.putfield 77, 3) := by decide +kernel
theorem d_M_settle_55 : decode b_M_settle 55 = .ok (.aload_n 0, 1) := by decide +kernel
theorem d_M_settle_56 : decode b_M_settle 56 = .ok (.aload_n 0, 1) := by decide +kernel
theorem d_M_settle_57 : decode b_M_settle 57 = .ok (.getfield 71, 3) := by decide +kernel
theorem d_M_settle_60 : decode b_M_settle 60 = .ok (.aload_n 0, 1) := by decide +kernel
theorem d_M_settle_61 : decode b_M_settle 61 = .ok (.getfield 77, 3) := by decide +kernel
theorem d_M_settle_64 : decode b_M_settle 64 = .ok (.iaload, 1) := by decide +kernel
theorem d_M_settle_65 : decode b_M_settle 65 = .ok (.ineg, 1) := by decide +kernel
theorem d_M_settle_66 : decode b_M_settle 66 = .ok (.invokevirtual 252, 3) := by decide +kernel
theorem d_M_settle_69 : decode b_M_settle 69 = .ok (.goto (-69), 3) := by decide +kernel
theorem d_M_settle_72 : decode b_M_settle 72 = .ok (.return_, 1) := by decide +kernel
set_option maxRecDepth 20000 in
theorem c_M_settle_b45 {r : Unit} {wz : gW} {rec0 : Nat × Int32 × gW → Option (Unit × gW)} (ih0 : ∀ (a0 : Nat) (a1 : Int32) (w : gW) (ls : Array Slot) (H : Heap) (locs : List Loc), rec0 (a0, a1, w) = some (r, wz) → lv_has ls 2 [(0, .ref (B + a0)), (1, .int a1)] → gRep D cA B w H → va_S (gA B) s.heap H locs → W p l e ({ frames := 2, cells := 0, slots := 0, locals := 61 } : Room) s m args below meth c H locs 0 0 (MQ below (gQv D cA B r wz) args s 0 0 (gA B)) (F0 m 0 ls [])) (C : gC p s m args meth c "RidCoppersModel" b_M_settle 2 none D cA oc B) (a0 : Nat) (a1 : Int32) (w : gW) {ls : Array Slot} {H : Heap} {locs : List Loc} (hl : lv_has ls 2 [(0, .ref (B + a0)), (1, .int a1)]) (hf : f_M_settle_b45 N rec0 a0 a1 w = some (r, wz)) (hR : gRep D cA B w H) (hS : va_S (gA B) s.heap H locs) : W p l e ({ frames := 2, cells := 0, slots := 0, locals := 61 } : Room) s m args below meth c H locs 0 0 (MQ below (gQv D cA B r wz) args s 0 0 (gA B)) (F0 m 45 ls []) := by
  obtain ⟨hx, hb, hml, hown, hts, hr, hlocks, hK, hBs⟩ := id C
  unfold f_M_settle_b45 at hf
  refine lv_aload_n hx hb d_M_settle_45 rfl (lv_at hl 0 rfl) ?_
  refine lv_dup hx hb d_M_settle_46 rfl ?_
  have ⟨h10, hf⟩ := gd_e hf
  refine g_getI hx hb hts hown hK hR fl_M_77 (fun _ => rfl) h10 d_M_settle_47 ?_
  refine g_nI hf (fun x11 hf => ?_)
  refine lv_iconst (v := 1) hx hb d_M_settle_50 (by decide) ?_
  refine lv_isub hx hb d_M_settle_51 ?_
  refine g_nI hf (fun x12 hf => ?_)
  refine g_putI hx hb hts hown hK hR hS pf_M_77 (fun _ => rfl) rfl rfl h10 d_M_settle_52 (fun H locs hR hS => ?_)
  refine g_nW hf hR (fun w13 hf hR => ?_)
  refine lv_aload_n hx hb d_M_settle_55 rfl (lv_at hl 0 rfl) ?_
  refine lv_aload_n hx hb d_M_settle_56 rfl (lv_at hl 0 rfl) ?_
  have ⟨h14, hf⟩ := gd_e hf
  have ⟨x15, h16, hf⟩ := rr_e hf
  refine g_getR hx hb hts hown hK hR fl_M_71 (fun _ => rfl) h14 h16 d_M_settle_57 ?_
  refine lv_aload_n hx hb d_M_settle_60 rfl (lv_at hl 0 rfl) ?_
  refine g_getI hx hb hts hown hK hR fl_M_77 (fun _ => rfl) h14 d_M_settle_61 ?_
  refine g_nI hf (fun x17 hf => ?_)
  have ⟨h18, hf⟩ := gd_e hf
  have ⟨h19, hf⟩ := gd_e hf
  refine g_iald hx hb hK hR h18 h19 d_M_settle_64 ?_
  refine g_nI hf (fun x20 hf => ?_)
  refine lv_ineg hx hb d_M_settle_65 ?_
  refine g_nI hf (fun x21 hf => ?_)
  have ⟨x22, w23, h24, hf⟩ := kl_e hf
  refine g_kv0 (g_rV (As := [.int x21]) (rest := []) hx hb hml hown hts hK hR hS (c_M_emits l D cA oc B N a0 x21 w13 h24) I_M_emits m_1280 mp_41 (gRecv hK hR (ci := 12) rfl h14) rfl rfl (Nat.le_of_ble_eq_true rfl) hl.1 ⟨Nat.le_of_ble_eq_true rfl, Nat.le_of_ble_eq_true rfl⟩ ⟨Nat.le_of_ble_eq_true rfl, Nat.le_of_ble_eq_true rfl⟩ d_M_settle_66) hS (fun H locs hR hS => ?_)
  refine lv_goto (tgt := 0) hx hb d_M_settle_69 (by decide) ?_
  exact ih0 a0 a1 w23 _ _ _ hf (lv_sub hl [0, 1] rfl) hR hS
set_option maxRecDepth 20000 in
theorem c_M_settle_b0 {r : Unit} {wz : gW} {rec0 : Nat × Int32 × gW → Option (Unit × gW)} (ih0 : ∀ (a0 : Nat) (a1 : Int32) (w : gW) (ls : Array Slot) (H : Heap) (locs : List Loc), rec0 (a0, a1, w) = some (r, wz) → lv_has ls 2 [(0, .ref (B + a0)), (1, .int a1)] → gRep D cA B w H → va_S (gA B) s.heap H locs → W p l e ({ frames := 2, cells := 0, slots := 0, locals := 61 } : Room) s m args below meth c H locs 0 0 (MQ below (gQv D cA B r wz) args s 0 0 (gA B)) (F0 m 0 ls [])) (C : gC p s m args meth c "RidCoppersModel" b_M_settle 2 none D cA oc B) (a0 : Nat) (a1 : Int32) (w : gW) {ls : Array Slot} {H : Heap} {locs : List Loc} (hl : lv_has ls 2 [(0, .ref (B + a0)), (1, .int a1)]) (hf : f_M_settle_b0 N rec0 a0 a1 w = some (r, wz)) (hR : gRep D cA B w H) (hS : va_S (gA B) s.heap H locs) : W p l e ({ frames := 2, cells := 0, slots := 0, locals := 61 } : Room) s m args below meth c H locs 0 0 (MQ below (gQv D cA B r wz) args s 0 0 (gA B)) (F0 m 0 ls []) := by
  obtain ⟨hx, hb, hml, hown, hts, hr, hlocks, hK, hBs⟩ := id C
  unfold f_M_settle_b0 at hf
  refine lv_aload_n hx hb d_M_settle_0 rfl (lv_at hl 0 rfl) ?_
  have ⟨h1, hf⟩ := gd_e hf
  refine g_getI hx hb hts hown hK hR fl_M_77 (fun _ => rfl) h1 d_M_settle_1 ?_
  refine g_nI hf (fun x2 hf => ?_)
  refine lv_if_le (tgt := 72) hx hb d_M_settle_4 (by decide) (fun hc => ?_) (fun hc => ?_)
  · have hf := cd_t hc hf
    exact g_vret hx hb hr hlocks hR hS hf d_M_settle_72
  have hf := cd_f hc hf
  refine lv_aload_n hx hb d_M_settle_7 rfl (lv_at hl 0 rfl) ?_
  have ⟨x3, h4, hf⟩ := rr_e hf
  refine g_getR hx hb hts hown hK hR fl_M_71 (fun _ => rfl) h1 h4 d_M_settle_8 ?_
  refine lv_aload_n hx hb d_M_settle_11 rfl (lv_at hl 0 rfl) ?_
  refine g_getI hx hb hts hown hK hR fl_M_77 (fun _ => rfl) h1 d_M_settle_12 ?_
  refine g_nI hf (fun x5 hf => ?_)
  refine lv_iconst (v := 1) hx hb d_M_settle_15 (by decide) ?_
  refine lv_isub hx hb d_M_settle_16 ?_
  refine g_nI hf (fun x6 hf => ?_)
  have ⟨h7, hf⟩ := gd_e hf
  have ⟨h8, hf⟩ := gd_e hf
  refine g_iald hx hb hK hR h7 h8 d_M_settle_17 ?_
  refine g_nI hf (fun x9 hf => ?_)
  refine lv_bipush (v := 38) hx hb d_M_settle_18 (by decide) ?_
  refine lv_icmp_eq (tgt := 45) hx hb d_M_settle_20 (by decide) (fun hc => ?_) (fun hc => ?_)
  · have hf := cd_t hc hf
    exact c_M_settle_b45 ih0 C a0 a1 w (lv_sub hl [0, 1] rfl) hf hR hS
  have hf := cd_f hc hf
  refine lv_aload_n hx hb d_M_settle_23 rfl (lv_at hl 0 rfl) ?_
  refine g_getR hx hb hts hown hK hR fl_M_71 (fun _ => rfl) h1 h4 d_M_settle_24 ?_
  refine lv_aload_n hx hb d_M_settle_27 rfl (lv_at hl 0 rfl) ?_
  refine g_getI hx hb hts hown hK hR fl_M_77 (fun _ => rfl) h1 d_M_settle_28 ?_
  refine g_nI hf (fun x25 hf => ?_)
  refine lv_iconst (v := 1) hx hb d_M_settle_31 (by decide) ?_
  refine lv_isub hx hb d_M_settle_32 ?_
  refine g_nI hf (fun x26 hf => ?_)
  have ⟨h27, hf⟩ := gd_e hf
  refine g_iald hx hb hK hR h7 h27 d_M_settle_33 ?_
  refine g_nI hf (fun x28 hf => ?_)
  refine lv_bipush (v := 124) hx hb d_M_settle_34 (by decide) ?_
  refine lv_icmp_ne (tgt := 72) hx hb d_M_settle_36 (by decide) (fun hc => ?_) (fun hc => ?_)
  · have hf := cd_f hc hf
    exact g_vret hx hb hr hlocks hR hS hf d_M_settle_72
  have hf := cd_t hc hf
  refine lv_iload_n hx hb d_M_settle_39 rfl (lv_at hl 1 rfl) ?_
  refine lv_bipush (v := 38) hx hb d_M_settle_40 (by decide) ?_
  refine lv_icmp_eq (tgt := 72) hx hb d_M_settle_42 (by decide) (fun hc => ?_) (fun hc => ?_)
  · have hf := cd_t hc hf
    exact g_vret hx hb hr hlocks hR hS hf d_M_settle_72
  have hf := cd_f hc hf
  exact c_M_settle_b45 ih0 C a0 a1 w (lv_sub hl [0, 1] rfl) hf hR hS
theorem c_M_settle_l0 {r : Unit} {wz : gW} (C : gC p s m args meth c "RidCoppersModel" b_M_settle 2 none D cA oc B) (a0 : Nat) (a1 : Int32) (w : gW) {ls : Array Slot} {H : Heap} {locs : List Loc} (hl : lv_has ls 2 [(0, .ref (B + a0)), (1, .int a1)]) (hf : f_M_settle_l0 N a0 a1 w = some (r, wz)) (hR : gRep D cA B w H) (hS : va_S (gA B) s.heap H locs) : W p l e ({ frames := 2, cells := 0, slots := 0, locals := 61 } : Room) s m args below meth c H locs 0 0 (MQ below (gQv D cA B r wz) args s 0 0 (gA B)) (F0 m 0 ls []) := by
  unfold f_M_settle_l0 at hf
  suffices hh : ∀ n : Nat, ∀ (a0 : Nat) (a1 : Int32) (w : gW) (ls : Array Slot) (H : Heap) (locs : List Loc), itr (fun rec (q : Nat × Int32 × gW) => f_M_settle_b0 N rec q.1 q.2.1 q.2.2) n (a0, a1, w) = some (r, wz) → lv_has ls 2 [(0, .ref (B + a0)), (1, .int a1)] → gRep D cA B w H → va_S (gA B) s.heap H locs → W p l e ({ frames := 2, cells := 0, slots := 0, locals := 61 } : Room) s m args below meth c H locs 0 0 (MQ below (gQv D cA B r wz) args s 0 0 (gA B)) (F0 m 0 ls []) from hh N a0 a1 w ls H locs hf hl hR hS
  intro n
  induction n with
  | zero => intro a0 a1 w ls H locs hf; cases hf
  | succ n ihn =>
    intro a0 a1 w ls H locs hf hl hR hS
    exact c_M_settle_b0 (N := N) ihn C a0 a1 w hl ((itr_s _ _ _).symm.trans hf) hR hS
theorem c_M_settle (l : Launch) (D : va_G) (cA : Nat → ClassId) (oc : gO) (B N : Nat) (a0 : Nat) (a1 : Int32) (w : gW) {wz : gW} {r : Unit} (hf : f_M_settle N a0 a1 w = some (r, wz)) : Met l y_M_settle (Cond.code y_M_settle b_M_settle 2 none :: lw_good) ({ frames := 2, cells := 0, slots := 0, locals := 61 } : Room) (gPre D cA oc B [.ref (B + a0), .int a1] w) (gQv D cA B r wz) 0 0 (gA B) := by
  refine Met.ofW (cc := b_M_settle) (maxL := 2) (ret := none) (by decide +kernel) rfl ?_
  intro p e s m args below meth c s₁ Bd hml hv
  obtain ⟨hargs, C, hR⟩ := gC.enter (l := l) rfl Bd hml hv
  subst hargs
  have hl := lv_entry ([.ref (B + a0), .int a1]) (n := 2) (Nat.le_of_ble_eq_true rfl)
  rw [lg_entry_eq]
  generalize (lg_sl ([.ref (B + a0), .int a1]) ++ List.replicate (2 - (lg_sl ([.ref (B + a0), .int a1])).length) Slot.unset).toArray = ls at hl ⊢
  have hl : lv_has ls 2 [(0, .ref (B + a0)), (1, .int a1)] := hl
  exact c_M_settle_l0 C a0 a1 w (lv_sub hl [0, 1] rfl) hf hR va_S.rf
theorem d_M_place_0 : decode b_M_place 0 = .ok (.iload_n 1, 1) := by decide +kernel
theorem d_M_place_1 : decode b_M_place 1 = .ok (.tableswitch 107 100 119 #[105, 107, 107, 107, 107, 107, 107, 103, 107, 107, 107, 107, 101, 107, 107, 95, 99, 107, 107, 97], 95) := by decide +kernel
theorem d_M_place_96 : decode b_M_place 96 = .ok (.iconst 0, 1) := by decide +kernel
theorem d_M_place_97 : decode b_M_place 97 = .ok (.ireturn, 1) := by decide +kernel
theorem d_M_place_98 : decode b_M_place 98 = .ok (.iconst 1, 1) := by decide +kernel
theorem d_M_place_99 : decode b_M_place 99 = .ok (.ireturn, 1) := by decide +kernel
theorem d_M_place_100 : decode b_M_place 100 = .ok (.iconst 2, 1) := by decide +kernel
theorem d_M_place_101 : decode b_M_place 101 = .ok (.ireturn, 1) := by decide +kernel
theorem d_M_place_102 : decode b_M_place 102 = .ok (.iconst 3, 1) := by decide +kernel
theorem d_M_place_103 : decode b_M_place 103 = .ok (.ireturn, 1) := by decide +kernel
theorem d_M_place_104 : decode b_M_place 104 = .ok (.iconst 4, 1) := by decide +kernel
theorem d_M_place_105 : decode b_M_place 105 = .ok (.ireturn, 1) := by decide +kernel
theorem d_M_place_106 : decode b_M_place 106 = .ok (.iconst 5, 1) := by decide +kernel
theorem d_M_place_107 : decode b_M_place 107 = .ok (.ireturn, 1) := by decide +kernel
theorem d_M_place_108 : decode b_M_place 108 = .ok (.iconst (-1), 1) := by decide +kernel
theorem d_M_place_109 : decode b_M_place 109 = .ok (.ireturn, 1) := by decide +kernel
set_option maxRecDepth 20000 in
theorem c_M_place_b0 {r : Int32} {wz : gW} (C : gC p s m args meth c "RidCoppersModel" b_M_place 2 (some .int) D cA oc B) (a1 : Int32) (w : gW) {ls : Array Slot} {H : Heap} {locs : List Loc} (hl : lv_has ls 2 [(1, .int a1)]) (hf : f_M_place_b0 N a1 w = some (r, wz)) (hR : gRep D cA B w H) (hS : va_S (gA B) s.heap H locs) : W p l e ({ frames := 1, cells := 0, slots := 0, locals := 40 } : Room) s m args below meth c H locs 0 0 (MQ below (gQi D cA B r wz) args s 0 0 (gA B)) (F0 m 0 ls []) := by
  obtain ⟨hx, hb, hml, hown, hts, hr, hlocks, hK, hBs⟩ := id C
  unfold f_M_place_b0 at hf
  refine lv_iload_n hx hb d_M_place_0 rfl (lv_at hl 0 rfl) ?_
  by_cases hc1 : a1 = 100
  · refine lv_tableIn (off := 105) (tgt := 106) hx hb d_M_place_1 (by rw [hc1]; decide) (by rw [hc1]; decide) (by rw [hc1]; rfl) (by decide) ?_
    have hf := cd_t hc1 hf
    refine lv_iconst (v := 5) hx hb d_M_place_106 (by decide) ?_
    exact g_iret hx hb hr hlocks hR hS hf rfl d_M_place_107
  have hf := cd_f hc1 hf
  by_cases hc2 : a1 = 107
  · refine lv_tableIn (off := 103) (tgt := 104) hx hb d_M_place_1 (by rw [hc2]; decide) (by rw [hc2]; decide) (by rw [hc2]; rfl) (by decide) ?_
    have hf := cd_t hc2 hf
    refine lv_iconst (v := 4) hx hb d_M_place_104 (by decide) ?_
    exact g_iret hx hb hr hlocks hR hS hf rfl d_M_place_105
  have hf := cd_f hc2 hf
  by_cases hc3 : a1 = 112
  · refine lv_tableIn (off := 101) (tgt := 102) hx hb d_M_place_1 (by rw [hc3]; decide) (by rw [hc3]; decide) (by rw [hc3]; rfl) (by decide) ?_
    have hf := cd_t hc3 hf
    refine lv_iconst (v := 3) hx hb d_M_place_102 (by decide) ?_
    exact g_iret hx hb hr hlocks hR hS hf rfl d_M_place_103
  have hf := cd_f hc3 hf
  by_cases hc4 : a1 = 115
  · refine lv_tableIn (off := 95) (tgt := 96) hx hb d_M_place_1 (by rw [hc4]; decide) (by rw [hc4]; decide) (by rw [hc4]; rfl) (by decide) ?_
    have hf := cd_t hc4 hf
    refine lv_iconst (v := 0) hx hb d_M_place_96 (by decide) ?_
    exact g_iret hx hb hr hlocks hR hS hf rfl d_M_place_97
  have hf := cd_f hc4 hf
  by_cases hc5 : a1 = 116
  · refine lv_tableIn (off := 99) (tgt := 100) hx hb d_M_place_1 (by rw [hc5]; decide) (by rw [hc5]; decide) (by rw [hc5]; rfl) (by decide) ?_
    have hf := cd_t hc5 hf
    refine lv_iconst (v := 2) hx hb d_M_place_100 (by decide) ?_
    exact g_iret hx hb hr hlocks hR hS hf rfl d_M_place_101
  have hf := cd_f hc5 hf
  by_cases hc6 : a1 = 119
  · refine lv_tableIn (off := 97) (tgt := 98) hx hb d_M_place_1 (by rw [hc6]; decide) (by rw [hc6]; decide) (by rw [hc6]; rfl) (by decide) ?_
    have hf := cd_t hc6 hf
    refine lv_iconst (v := 1) hx hb d_M_place_98 (by decide) ?_
    exact g_iret hx hb hr hlocks hR hS hf rfl d_M_place_99
  have hf := cd_f hc6 hf
  by_cases hcm : a1 = 101
  · refine lv_tableIn (off := 107) (tgt := 108) hx hb d_M_place_1 (by rw [hcm]; decide) (by rw [hcm]; decide) (by rw [hcm]; rfl) (by decide) ?_
    refine lv_iconst (v := (-1)) hx hb d_M_place_108 (by decide) ?_
    exact g_iret hx hb hr hlocks hR hS hf rfl d_M_place_109
  have hcm101 := hcm
  by_cases hcm : a1 = 102
  · refine lv_tableIn (off := 107) (tgt := 108) hx hb d_M_place_1 (by rw [hcm]; decide) (by rw [hcm]; decide) (by rw [hcm]; rfl) (by decide) ?_
    refine lv_iconst (v := (-1)) hx hb d_M_place_108 (by decide) ?_
    exact g_iret hx hb hr hlocks hR hS hf rfl d_M_place_109
  have hcm102 := hcm
  by_cases hcm : a1 = 103
  · refine lv_tableIn (off := 107) (tgt := 108) hx hb d_M_place_1 (by rw [hcm]; decide) (by rw [hcm]; decide) (by rw [hcm]; rfl) (by decide) ?_
    refine lv_iconst (v := (-1)) hx hb d_M_place_108 (by decide) ?_
    exact g_iret hx hb hr hlocks hR hS hf rfl d_M_place_109
  have hcm103 := hcm
  by_cases hcm : a1 = 104
  · refine lv_tableIn (off := 107) (tgt := 108) hx hb d_M_place_1 (by rw [hcm]; decide) (by rw [hcm]; decide) (by rw [hcm]; rfl) (by decide) ?_
    refine lv_iconst (v := (-1)) hx hb d_M_place_108 (by decide) ?_
    exact g_iret hx hb hr hlocks hR hS hf rfl d_M_place_109
  have hcm104 := hcm
  by_cases hcm : a1 = 105
  · refine lv_tableIn (off := 107) (tgt := 108) hx hb d_M_place_1 (by rw [hcm]; decide) (by rw [hcm]; decide) (by rw [hcm]; rfl) (by decide) ?_
    refine lv_iconst (v := (-1)) hx hb d_M_place_108 (by decide) ?_
    exact g_iret hx hb hr hlocks hR hS hf rfl d_M_place_109
  have hcm105 := hcm
  by_cases hcm : a1 = 106
  · refine lv_tableIn (off := 107) (tgt := 108) hx hb d_M_place_1 (by rw [hcm]; decide) (by rw [hcm]; decide) (by rw [hcm]; rfl) (by decide) ?_
    refine lv_iconst (v := (-1)) hx hb d_M_place_108 (by decide) ?_
    exact g_iret hx hb hr hlocks hR hS hf rfl d_M_place_109
  have hcm106 := hcm
  by_cases hcm : a1 = 108
  · refine lv_tableIn (off := 107) (tgt := 108) hx hb d_M_place_1 (by rw [hcm]; decide) (by rw [hcm]; decide) (by rw [hcm]; rfl) (by decide) ?_
    refine lv_iconst (v := (-1)) hx hb d_M_place_108 (by decide) ?_
    exact g_iret hx hb hr hlocks hR hS hf rfl d_M_place_109
  have hcm108 := hcm
  by_cases hcm : a1 = 109
  · refine lv_tableIn (off := 107) (tgt := 108) hx hb d_M_place_1 (by rw [hcm]; decide) (by rw [hcm]; decide) (by rw [hcm]; rfl) (by decide) ?_
    refine lv_iconst (v := (-1)) hx hb d_M_place_108 (by decide) ?_
    exact g_iret hx hb hr hlocks hR hS hf rfl d_M_place_109
  have hcm109 := hcm
  by_cases hcm : a1 = 110
  · refine lv_tableIn (off := 107) (tgt := 108) hx hb d_M_place_1 (by rw [hcm]; decide) (by rw [hcm]; decide) (by rw [hcm]; rfl) (by decide) ?_
    refine lv_iconst (v := (-1)) hx hb d_M_place_108 (by decide) ?_
    exact g_iret hx hb hr hlocks hR hS hf rfl d_M_place_109
  have hcm110 := hcm
  by_cases hcm : a1 = 111
  · refine lv_tableIn (off := 107) (tgt := 108) hx hb d_M_place_1 (by rw [hcm]; decide) (by rw [hcm]; decide) (by rw [hcm]; rfl) (by decide) ?_
    refine lv_iconst (v := (-1)) hx hb d_M_place_108 (by decide) ?_
    exact g_iret hx hb hr hlocks hR hS hf rfl d_M_place_109
  have hcm111 := hcm
  by_cases hcm : a1 = 113
  · refine lv_tableIn (off := 107) (tgt := 108) hx hb d_M_place_1 (by rw [hcm]; decide) (by rw [hcm]; decide) (by rw [hcm]; rfl) (by decide) ?_
    refine lv_iconst (v := (-1)) hx hb d_M_place_108 (by decide) ?_
    exact g_iret hx hb hr hlocks hR hS hf rfl d_M_place_109
  have hcm113 := hcm
  by_cases hcm : a1 = 114
  · refine lv_tableIn (off := 107) (tgt := 108) hx hb d_M_place_1 (by rw [hcm]; decide) (by rw [hcm]; decide) (by rw [hcm]; rfl) (by decide) ?_
    refine lv_iconst (v := (-1)) hx hb d_M_place_108 (by decide) ?_
    exact g_iret hx hb hr hlocks hR hS hf rfl d_M_place_109
  have hcm114 := hcm
  by_cases hcm : a1 = 117
  · refine lv_tableIn (off := 107) (tgt := 108) hx hb d_M_place_1 (by rw [hcm]; decide) (by rw [hcm]; decide) (by rw [hcm]; rfl) (by decide) ?_
    refine lv_iconst (v := (-1)) hx hb d_M_place_108 (by decide) ?_
    exact g_iret hx hb hr hlocks hR hS hf rfl d_M_place_109
  have hcm117 := hcm
  by_cases hcm : a1 = 118
  · refine lv_tableIn (off := 107) (tgt := 108) hx hb d_M_place_1 (by rw [hcm]; decide) (by rw [hcm]; decide) (by rw [hcm]; rfl) (by decide) ?_
    refine lv_iconst (v := (-1)) hx hb d_M_place_108 (by decide) ?_
    exact g_iret hx hb hr hlocks hR hS hf rfl d_M_place_109
  have hcm118 := hcm
  have hout : a1.toInt < 100 ∨ 119 < a1.toInt := by
    have := lv_neT (a := 100) hc1 rfl
    have := lv_neT (a := 107) hc2 rfl
    have := lv_neT (a := 112) hc3 rfl
    have := lv_neT (a := 115) hc4 rfl
    have := lv_neT (a := 116) hc5 rfl
    have := lv_neT (a := 119) hc6 rfl
    have := lv_neT (a := 101) hcm101 rfl
    have := lv_neT (a := 102) hcm102 rfl
    have := lv_neT (a := 103) hcm103 rfl
    have := lv_neT (a := 104) hcm104 rfl
    have := lv_neT (a := 105) hcm105 rfl
    have := lv_neT (a := 106) hcm106 rfl
    have := lv_neT (a := 108) hcm108 rfl
    have := lv_neT (a := 109) hcm109 rfl
    have := lv_neT (a := 110) hcm110 rfl
    have := lv_neT (a := 111) hcm111 rfl
    have := lv_neT (a := 113) hcm113 rfl
    have := lv_neT (a := 114) hcm114 rfl
    have := lv_neT (a := 117) hcm117 rfl
    have := lv_neT (a := 118) hcm118 rfl
    omega
  refine lv_tableOut (tgt := 108) hx hb d_M_place_1 hout (by decide) ?_
  refine lv_iconst (v := (-1)) hx hb d_M_place_108 (by decide) ?_
  exact g_iret hx hb hr hlocks hR hS hf rfl d_M_place_109
theorem c_M_place (l : Launch) (D : va_G) (cA : Nat → ClassId) (oc : gO) (B N : Nat) (a0 : Nat) (a1 : Int32) (w : gW) {wz : gW} {r : Int32} (hf : f_M_place N a0 a1 w = some (r, wz)) : Met l y_M_place (Cond.code y_M_place b_M_place 2 (some .int) :: lw_good) ({ frames := 1, cells := 0, slots := 0, locals := 40 } : Room) (gPre D cA oc B [.ref (B + a0), .int a1] w) (gQi D cA B r wz) 0 0 (gA B) := by
  refine Met.ofW (cc := b_M_place) (maxL := 2) (ret := (some .int)) (by decide +kernel) rfl ?_
  intro p e s m args below meth c s₁ Bd hml hv
  obtain ⟨hargs, C, hR⟩ := gC.enter (l := l) rfl Bd hml hv
  subst hargs
  have hl := lv_entry ([.ref (B + a0), .int a1]) (n := 2) (Nat.le_of_ble_eq_true rfl)
  rw [lg_entry_eq]
  generalize (lg_sl ([.ref (B + a0), .int a1]) ++ List.replicate (2 - (lg_sl ([.ref (B + a0), .int a1])).length) Slot.unset).toArray = ls at hl ⊢
  have hl : lv_has ls 2 [(0, .ref (B + a0)), (1, .int a1)] := hl
  exact c_M_place_b0 C a1 w (lv_sub hl [1] rfl) hf hR va_S.rf
theorem d_M_takesTest_0 : decode b_M_takesTest 0 = .ok (.aload_n 0, 1) := by decide +kernel
theorem d_M_takesTest_1 : decode b_M_takesTest 1 = .ok (.aload_n 0, 1) := by decide +kernel
theorem d_M_takesTest_2 : decode b_M_takesTest 2 = .ok (.invokevirtual 241, 3) := by decide +kernel
theorem d_M_takesTest_5 : decode b_M_takesTest 5 = .ok (.invokevirtual 256, 3) := by decide +kernel
theorem d_M_takesTest_8 : decode b_M_takesTest 8 = .ok (.istore_n 1, 1) := by decide +kernel
theorem d_M_takesTest_9 : decode b_M_takesTest 9 = .ok (.iload_n 1, 1) := by decide +kernel
theorem d_M_takesTest_10 : decode b_M_takesTest 10 = .ok (.ifCond .ge 5, 3) := by decide +kernel
theorem d_M_takesTest_13 : decode b_M_takesTest 13 = .ok (.iconst 0, 1) := by decide +kernel
theorem d_M_takesTest_14 : decode b_M_takesTest 14 = .ok (.ireturn, 1) := by decide +kernel
theorem d_M_takesTest_15 : decode b_M_takesTest 15 = .ok (.aload_n 0, 1) := by decide +kernel
theorem d_M_takesTest_16 : decode b_M_takesTest 16 = .ok (.dup, 1) := by decide +kernel
theorem d_M_takesTest_17 : decode b_M_takesTest 17 = .ok (.getfield 44, 3) := by decide +kernel
theorem d_M_takesTest_20 : decode b_M_takesTest 20 = .ok (.iconst 1, 1) := by decide +kernel
theorem d_M_takesTest_21 : decode b_M_takesTest 21 = .ok (.iadd, 1) := by decide +kernel
theorem d_M_takesTest_22 : decode b_M_takesTest 22 = .ok (.putfield 44, 3) := by decide +kernel
theorem d_M_takesTest_25 : decode b_M_takesTest 25 = .ok (.aload_n 0, 1) := by decide +kernel
theorem d_M_takesTest_26 : decode b_M_takesTest 26 = .ok (.invokevirtual 241, 3) := by decide +kernel
theorem d_M_takesTest_29 : decode b_M_takesTest 29 = .ok (.istore_n 2, 1) := by decide +kernel
theorem d_M_takesTest_30 : decode b_M_takesTest 30 = .ok (.aload_n 0, 1) := by decide +kernel
theorem d_M_takesTest_31 : decode b_M_takesTest 31 = .ok (.iload_n 2, 1) := by decide +kernel
theorem d_M_takesTest_32 : decode b_M_takesTest 32 = .ok (.bipush 60, 2) := by decide +kernel
theorem d_M_takesTest_34 : decode b_M_takesTest 34 = .ok (.bipush 62, 2) := by decide +kernel
theorem d_M_takesTest_36 : decode b_M_takesTest 36 = .ok (.invokevirtual 230, 3) := by decide +kernel
theorem d_M_takesTest_39 : decode b_M_takesTest 39 = .ok (.ifCond .ne 5, 3) := by decide +kernel
theorem d_M_takesTest_42 : decode b_M_takesTest 42 = .ok (.iconst 0, 1) := by decide +kernel
theorem d_M_takesTest_43 : decode b_M_takesTest 43 = .ok (.ireturn, 1) := by decide +kernel
theorem d_M_takesTest_44 : decode b_M_takesTest 44 = .ok (.aload_n 0, 1) := by decide +kernel
theorem d_M_takesTest_45 : decode b_M_takesTest 45 = .ok (.dup, 1) := by decide +kernel
theorem d_M_takesTest_46 : decode b_M_takesTest 46 = .ok (.getfield 44, 3) := by decide +kernel
theorem d_M_takesTest_49 : decode b_M_takesTest 49 = .ok (.iconst 1, 1) := by decide +kernel
theorem d_M_takesTest_50 : decode b_M_takesTest 50 = .ok (.iadd, 1) := by decide +kernel
theorem d_M_takesTest_51 : decode b_M_takesTest 51 = .ok (.putfield 44, 3) := by decide +kernel
theorem d_M_takesTest_54 : decode b_M_takesTest 54 = .ok (.aload_n 0, 1) := by decide +kernel
theorem d_M_takesTest_55 : decode b_M_takesTest 55 = .ok (.invokevirtual 260, 3) := by decide +kernel
theorem d_M_takesTest_58 : decode b_M_takesTest 58 = .ok (.ifCond .ne 5, 3) := by decide +kernel
theorem d_M_takesTest_61 : decode b_M_takesTest 61 = .ok (.iconst 0, 1) := by decide +kernel
theorem d_M_takesTest_62 : decode b_M_takesTest 62 = .ok (.ireturn, 1) := by decide +kernel
theorem d_M_takesTest_63 : decode b_M_takesTest 63 = .ok (.aload_n 0, 1) := by decide +kernel
theorem d_M_takesTest_64 : decode b_M_takesTest 64 = .ok (.sipush 1000, 3) := by decide +kernel
theorem d_M_takesTest_67 : decode b_M_takesTest 67 = .ok (.iload_n 1, 1) := by decide +kernel
theorem d_M_takesTest_68 : decode b_M_takesTest 68 = .ok (.imul, 1) := by decide +kernel
theorem d_M_takesTest_69 : decode b_M_takesTest 69 = .ok (.bipush 100, 2) := by decide +kernel
theorem d_M_takesTest_71 : decode b_M_takesTest 71 = .ok (.iload_n 2, 1) := by decide +kernel
theorem d_M_takesTest_72 : decode b_M_takesTest 72 = .ok (.bipush 60, 2) := by decide +kernel
theorem d_M_takesTest_74 : decode b_M_takesTest 74 = .ok (.isub, 1) := by decide +kernel
theorem d_M_takesTest_75 : decode b_M_takesTest 75 = .ok (.imul, 1) := by decide +kernel
theorem d_M_takesTest_76 : decode b_M_takesTest 76 = .ok (.iadd, 1) := by decide +kernel
theorem d_M_takesTest_77 : decode b_M_takesTest 77 = .ok (.aload_n 0, 1) := by decide +kernel
theorem d_M_takesTest_78 : decode b_M_takesTest 78 = .ok (.getfield 47, 3) := by decide +kernel
theorem d_M_takesTest_81 : decode b_M_takesTest 81 = .ok (.iadd, 1) := by decide +kernel
theorem d_M_takesTest_82 : decode b_M_takesTest 82 = .ok (.invokevirtual 252, 3) := by decide +kernel
theorem d_M_takesTest_85 : decode b_M_takesTest 85 = .ok (.aload_n 0, 1) := by decide +kernel
theorem d_M_takesTest_86 : decode b_M_takesTest 86 = .ok (.invokevirtual 263, 3) := by decide +kernel
theorem d_M_takesTest_89 : decode b_M_takesTest 89 = .ok (.iconst 1, 1) := by decide +kernel
theorem d_M_takesTest_90 : decode b_M_takesTest 90 = .ok (.ireturn, 1) := by decide +kernel
set_option maxRecDepth 20000 in
theorem c_M_takesTest_b0 {r : Int32} {wz : gW} (C : gC p s m args meth c "RidCoppersModel" b_M_takesTest 3 (some .boolean) D cA oc B) (a0 : Nat) (w : gW) {ls : Array Slot} {H : Heap} {locs : List Loc} (hl : lv_has ls 3 [(0, .ref (B + a0))]) (hf : f_M_takesTest_b0 N a0 w = some (r, wz)) (hR : gRep D cA B w H) (hS : va_S (gA B) s.heap H locs) : W p l e ({ frames := 4, cells := 0, slots := 0, locals := 104 } : Room) s m args below meth c H locs 0 0 (MQ below (gQi D cA B r wz) args s 0 0 (gA B)) (F0 m 0 ls []) := by
  obtain ⟨hx, hb, hml, hown, hts, hr, hlocks, hK, hBs⟩ := id C
  unfold f_M_takesTest_b0 at hf
  refine lv_aload_n hx hb d_M_takesTest_0 rfl (lv_at hl 0 rfl) ?_
  refine lv_aload_n hx hb d_M_takesTest_1 rfl (lv_at hl 0 rfl) ?_
  have ⟨h4, hf⟩ := gd_e hf
  have ⟨x1, w2, h3, hf⟩ := kl_e hf
  refine g_ki0 (g_rV (As := []) (rest := [.ref (B + a0)]) hx hb hml hown hts hK hR hS (c_M_peek l D cA oc B N a0 w h3) I_M_peek m_1248 mp_33 (gRecv hK hR (ci := 12) rfl h4) rfl rfl (Nat.le_of_ble_eq_true rfl) hl.1 ⟨Nat.le_of_ble_eq_true rfl, Nat.le_of_ble_eq_true rfl⟩ ⟨Nat.le_of_ble_eq_true rfl, Nat.le_of_ble_eq_true rfl⟩ d_M_takesTest_2) hS (fun H locs hR hS => ?_)
  have ⟨h8, hf⟩ := gd_e hf
  have ⟨x5, w6, h7, hf⟩ := kl_e hf
  refine g_ki0 (g_rV (As := [.int x1]) (rest := []) hx hb hml hown hts hK hR hS (c_M_place l D cA oc B N a0 x1 w2 h7) I_M_place m_1276 mp_40 (gRecv hK hR (ci := 12) rfl h8) rfl rfl (Nat.le_of_ble_eq_true rfl) hl.1 ⟨Nat.le_of_ble_eq_true rfl, Nat.le_of_ble_eq_true rfl⟩ ⟨Nat.le_of_ble_eq_true rfl, Nat.le_of_ble_eq_true rfl⟩ d_M_takesTest_5) hS (fun H locs hR hS => ?_)
  refine lv_istore_n (lv' := [(1, .int x5), (0, .ref (B + a0))]) hx hb d_M_takesTest_8 rfl hl (by decide) rfl (fun ls hl => ?_)
  refine lv_iload_n hx hb d_M_takesTest_9 rfl (lv_at hl 0 rfl) ?_
  refine lv_if_ge (tgt := 15) hx hb d_M_takesTest_10 (by decide) (fun hc => ?_) (fun hc => ?_)
  · have hf := cd_t hc hf
    refine lv_aload_n hx hb d_M_takesTest_15 rfl (lv_at hl 1 rfl) ?_
    refine lv_dup hx hb d_M_takesTest_16 rfl ?_
    have ⟨h9, hf⟩ := gd_e hf
    refine g_getI hx hb hts hown hK hR fl_M_44 (fun _ => rfl) h9 d_M_takesTest_17 ?_
    refine g_nI hf (fun x10 hf => ?_)
    refine lv_iconst (v := 1) hx hb d_M_takesTest_20 (by decide) ?_
    refine lv_iadd hx hb d_M_takesTest_21 ?_
    refine g_nI hf (fun x11 hf => ?_)
    refine g_putI hx hb hts hown hK hR hS pf_M_44 (fun _ => rfl) rfl rfl h9 d_M_takesTest_22 (fun H locs hR hS => ?_)
    refine g_nW hf hR (fun w12 hf hR => ?_)
    refine lv_aload_n hx hb d_M_takesTest_25 rfl (lv_at hl 1 rfl) ?_
    have ⟨h16, hf⟩ := gd_e hf
    have ⟨x13, w14, h15, hf⟩ := kl_e hf
    refine g_ki0 (g_rV (As := []) (rest := []) hx hb hml hown hts hK hR hS (c_M_peek l D cA oc B N a0 w12 h15) I_M_peek m_1248 mp_33 (gRecv hK hR (ci := 12) rfl h16) rfl rfl (Nat.le_of_ble_eq_true rfl) hl.1 ⟨Nat.le_of_ble_eq_true rfl, Nat.le_of_ble_eq_true rfl⟩ ⟨Nat.le_of_ble_eq_true rfl, Nat.le_of_ble_eq_true rfl⟩ d_M_takesTest_26) hS (fun H locs hR hS => ?_)
    refine lv_istore_n (lv' := [(2, .int x13), (1, .int x5), (0, .ref (B + a0))]) hx hb d_M_takesTest_29 rfl hl (by decide) rfl (fun ls hl => ?_)
    refine lv_aload_n hx hb d_M_takesTest_30 rfl (lv_at hl 2 rfl) ?_
    refine lv_iload_n hx hb d_M_takesTest_31 rfl (lv_at hl 0 rfl) ?_
    refine lv_bipush (v := 60) hx hb d_M_takesTest_32 (by decide) ?_
    refine lv_bipush (v := 62) hx hb d_M_takesTest_34 (by decide) ?_
    have ⟨h20, hf⟩ := gd_e hf
    have ⟨x17, w18, h19, hf⟩ := kl_e hf
    refine g_ki0 (g_rV (As := [.int x13, .int 60, .int 62]) (rest := []) hx hb hml hown hts hK hR hS (c_M_in l D cA oc B N a0 x13 60 62 w14 h19) I_M_in m_1204 mp_27 (gRecv hK hR (ci := 12) rfl h20) rfl rfl (Nat.le_of_ble_eq_true rfl) hl.1 ⟨Nat.le_of_ble_eq_true rfl, Nat.le_of_ble_eq_true rfl⟩ ⟨Nat.le_of_ble_eq_true rfl, Nat.le_of_ble_eq_true rfl⟩ d_M_takesTest_36) hS (fun H locs hR hS => ?_)
    refine lv_if_ne (tgt := 44) hx hb d_M_takesTest_39 (by decide) (fun hc => ?_) (fun hc => ?_)
    · have hf := cd_f hc hf
      refine lv_aload_n hx hb d_M_takesTest_44 rfl (lv_at hl 2 rfl) ?_
      refine lv_dup hx hb d_M_takesTest_45 rfl ?_
      have ⟨h21, hf⟩ := gd_e hf
      refine g_getI hx hb hts hown hK hR fl_M_44 (fun _ => rfl) h21 d_M_takesTest_46 ?_
      refine g_nI hf (fun x22 hf => ?_)
      refine lv_iconst (v := 1) hx hb d_M_takesTest_49 (by decide) ?_
      refine lv_iadd hx hb d_M_takesTest_50 ?_
      refine g_nI hf (fun x23 hf => ?_)
      refine g_putI hx hb hts hown hK hR hS pf_M_44 (fun _ => rfl) rfl rfl h21 d_M_takesTest_51 (fun H locs hR hS => ?_)
      refine g_nW hf hR (fun w24 hf hR => ?_)
      refine lv_aload_n hx hb d_M_takesTest_54 rfl (lv_at hl 2 rfl) ?_
      have ⟨h28, hf⟩ := gd_e hf
      have ⟨x25, w26, h27, hf⟩ := kl_e hf
      refine g_ki0 (g_rV (As := []) (rest := []) hx hb hml hown hts hK hR hS (c_M_takesNumber l D cA oc B N a0 w24 h27) I_M_takesNumber m_1260 mp_36 (gRecv hK hR (ci := 12) rfl h28) rfl rfl (Nat.le_of_ble_eq_true rfl) hl.1 ⟨Nat.le_of_ble_eq_true rfl, Nat.le_of_ble_eq_true rfl⟩ ⟨Nat.le_of_ble_eq_true rfl, Nat.le_of_ble_eq_true rfl⟩ d_M_takesTest_55) hS (fun H locs hR hS => ?_)
      refine lv_if_ne (tgt := 63) hx hb d_M_takesTest_58 (by decide) (fun hc => ?_) (fun hc => ?_)
      · have hf := cd_f hc hf
        refine lv_aload_n hx hb d_M_takesTest_63 rfl (lv_at hl 2 rfl) ?_
        refine lv_sipush (v := 1000) hx hb d_M_takesTest_64 (by decide) ?_
        refine lv_iload_n hx hb d_M_takesTest_67 rfl (lv_at hl 1 rfl) ?_
        refine lv_imul hx hb d_M_takesTest_68 ?_
        refine g_nI hf (fun x29 hf => ?_)
        refine lv_bipush (v := 100) hx hb d_M_takesTest_69 (by decide) ?_
        refine lv_iload_n hx hb d_M_takesTest_71 rfl (lv_at hl 0 rfl) ?_
        refine lv_bipush (v := 60) hx hb d_M_takesTest_72 (by decide) ?_
        refine lv_isub hx hb d_M_takesTest_74 ?_
        refine g_nI hf (fun x30 hf => ?_)
        refine lv_imul hx hb d_M_takesTest_75 ?_
        refine g_nI hf (fun x31 hf => ?_)
        refine lv_iadd hx hb d_M_takesTest_76 ?_
        refine g_nI hf (fun x32 hf => ?_)
        refine lv_aload_n hx hb d_M_takesTest_77 rfl (lv_at hl 2 rfl) ?_
        have ⟨h33, hf⟩ := gd_e hf
        refine g_getI hx hb hts hown hK hR fl_M_47 (fun _ => rfl) h33 d_M_takesTest_78 ?_
        refine g_nI hf (fun x34 hf => ?_)
        refine lv_iadd hx hb d_M_takesTest_81 ?_
        refine g_nI hf (fun x35 hf => ?_)
        have ⟨x36, w37, h38, hf⟩ := kl_e hf
        refine g_kv0 (g_rV (As := [.int x35]) (rest := []) hx hb hml hown hts hK hR hS (c_M_emits l D cA oc B N a0 x35 w26 h38) I_M_emits m_1280 mp_41 (gRecv hK hR (ci := 12) rfl h33) rfl rfl (Nat.le_of_ble_eq_true rfl) hl.1 ⟨Nat.le_of_ble_eq_true rfl, Nat.le_of_ble_eq_true rfl⟩ ⟨Nat.le_of_ble_eq_true rfl, Nat.le_of_ble_eq_true rfl⟩ d_M_takesTest_82) hS (fun H locs hR hS => ?_)
        refine lv_aload_n hx hb d_M_takesTest_85 rfl (lv_at hl 2 rfl) ?_
        have ⟨h42, hf⟩ := gd_e hf
        have ⟨x39, w40, h41, hf⟩ := kl_e hf
        refine g_kv0 (g_rV (As := []) (rest := []) hx hb hml hown hts hK hR hS (c_M_whole l D cA oc B N a0 w37 h41) I_M_whole m_1284 mp_42 (gRecv hK hR (ci := 12) rfl h42) rfl rfl (Nat.le_of_ble_eq_true rfl) hl.1 ⟨Nat.le_of_ble_eq_true rfl, Nat.le_of_ble_eq_true rfl⟩ ⟨Nat.le_of_ble_eq_true rfl, Nat.le_of_ble_eq_true rfl⟩ d_M_takesTest_86) hS (fun H locs hR hS => ?_)
        refine lv_iconst (v := 1) hx hb d_M_takesTest_89 (by decide) ?_
        exact g_iret hx hb hr hlocks hR hS hf rfl d_M_takesTest_90
      have hf := cd_t hc hf
      refine lv_iconst (v := 0) hx hb d_M_takesTest_61 (by decide) ?_
      exact g_iret hx hb hr hlocks hR hS hf rfl d_M_takesTest_62
    have hf := cd_t hc hf
    refine lv_iconst (v := 0) hx hb d_M_takesTest_42 (by decide) ?_
    exact g_iret hx hb hr hlocks hR hS hf rfl d_M_takesTest_43
  have hf := cd_f hc hf
  refine lv_iconst (v := 0) hx hb d_M_takesTest_13 (by decide) ?_
  exact g_iret hx hb hr hlocks hR hS hf rfl d_M_takesTest_14
theorem c_M_takesTest (l : Launch) (D : va_G) (cA : Nat → ClassId) (oc : gO) (B N : Nat) (a0 : Nat) (w : gW) {wz : gW} {r : Int32} (hf : f_M_takesTest N a0 w = some (r, wz)) : Met l y_M_takesTest (Cond.code y_M_takesTest b_M_takesTest 3 (some .boolean) :: lw_good) ({ frames := 4, cells := 0, slots := 0, locals := 104 } : Room) (gPre D cA oc B [.ref (B + a0)] w) (gQi D cA B r wz) 0 0 (gA B) := by
  refine Met.ofW (cc := b_M_takesTest) (maxL := 3) (ret := (some .boolean)) (by decide +kernel) rfl ?_
  intro p e s m args below meth c s₁ Bd hml hv
  obtain ⟨hargs, C, hR⟩ := gC.enter (l := l) rfl Bd hml hv
  subst hargs
  have hl := lv_entry ([.ref (B + a0)]) (n := 3) (Nat.le_of_ble_eq_true rfl)
  rw [lg_entry_eq]
  generalize (lg_sl ([.ref (B + a0)]) ++ List.replicate (3 - (lg_sl ([.ref (B + a0)])).length) Slot.unset).toArray = ls at hl ⊢
  have hl : lv_has ls 3 [(0, .ref (B + a0))] := hl
  exact c_M_takesTest_b0 C a0 w (lv_sub hl [0] rfl) hf hR va_S.rf
theorem d_M_takesE_0 : decode b_M_takesE 0 = .ok (.aload_n 0, 1) := by decide +kernel
theorem d_M_takesE_1 : decode b_M_takesE 1 = .ok (.iconst 0, 1) := by decide +kernel
theorem d_M_takesE_2 : decode b_M_takesE 2 = .ok (.putfield 77, 3) := by decide +kernel
theorem d_M_takesE_5 : decode b_M_takesE 5 = .ok (.aload_n 0, 1) := by decide +kernel
theorem d_M_takesE_6 : decode b_M_takesE 6 = .ok (.iconst 0, 1) := by decide +kernel
theorem d_M_takesE_7 : decode b_M_takesE 7 = .ok (.putfield 80, 3) := by decide +kernel
theorem d_M_takesE_10 : decode b_M_takesE 10 = .ok (.aload_n 0, 1) := by decide +kernel
theorem d_M_takesE_11 : decode b_M_takesE 11 = .ok (.getfield 62, 3) := by decide +kernel
theorem d_M_takesE_14 : decode b_M_takesE 14 = .ok (.iload_n 1, 1) := by decide +kernel
theorem d_M_takesE_15 : decode b_M_takesE 15 = .ok (.aload_n 0, 1) := by decide +kernel
theorem d_M_takesE_16 : decode b_M_takesE 16 = .ok (.getfield 74, 3) := by decide +kernel
theorem d_M_takesE_19 : decode b_M_takesE 19 = .ok (.iastore, 1) := by decide +kernel
theorem d_M_takesE_20 : decode b_M_takesE 20 = .ok (.iconst 1, 1) := by decide +kernel
theorem d_M_takesE_21 : decode b_M_takesE 21 = .ok (.istore_n 2, 1) := by decide +kernel
theorem d_M_takesE_22 : decode b_M_takesE 22 = .ok (.aload_n 0, 1) := by decide +kernel
theorem d_M_takesE_23 : decode b_M_takesE 23 = .ok (.invokevirtual 241, 3) := by decide +kernel
theorem d_M_takesE_26 : decode b_M_takesE 26 = .ok (.istore_n 3, 1) := by decide +kernel
theorem d_M_takesE_27 : decode b_M_takesE 27 = .ok (.iload_n 2, 1) := by decide +kernel
theorem d_M_takesE_28 : decode b_M_takesE 28 = .ok (.ifCond .eq 82, 3) := by decide +kernel
theorem d_M_takesE_31 : decode b_M_takesE 31 = .ok (.iload_n 3, 1) := by decide +kernel
theorem d_M_takesE_32 : decode b_M_takesE 32 = .ok (.bipush 33, 2) := by decide +kernel
theorem d_M_takesE_34 : decode b_M_takesE 34 = .ok (.if_icmp .eq 9, 3) := by decide +kernel
theorem d_M_takesE_37 : decode b_M_takesE 37 = .ok (.iload_n 3, 1) := by decide +kernel
theorem d_M_takesE_38 : decode b_M_takesE 38 = .ok (.bipush 40, 2) := by decide +kernel
theorem d_M_takesE_40 : decode b_M_takesE 40 = .ok (.if_icmp .ne 56, 3) := by decide +kernel
theorem d_M_takesE_43 : decode b_M_takesE 43 = .ok (.aload_n 0, 1) := by decide +kernel
theorem d_M_takesE_44 : decode b_M_takesE 44 = .ok (.getfield 80, 3) := by decide +kernel
theorem d_M_takesE_47 : decode b_M_takesE 47 = .ok (.iconst 4, 1) := by decide +kernel
theorem d_M_takesE_48 : decode b_M_takesE 48 = .ok (.if_icmp .ne 5, 3) := by decide +kernel
theorem d_M_takesE_51 : decode b_M_takesE 51 = .ok (.iconst 0, 1) := by decide +kernel
theorem d_M_takesE_52 : decode b_M_takesE 52 = .ok (.ireturn, 1) := by decide +kernel
theorem d_M_takesE_53 : decode b_M_takesE 53 = .ok (.aload_n 0, 1) := by decide +kernel
theorem d_M_takesE_54 : decode b_M_takesE 54 = .ok (.dup, 1) := by decide +kernel
theorem d_M_takesE_55 : decode b_M_takesE 55 = .ok (.getfield 80, 3) := by decide +kernel
theorem d_M_takesE_58 : decode b_M_takesE 58 = .ok (.iconst 1, 1) := by decide +kernel
theorem d_M_takesE_59 : decode b_M_takesE 59 = .ok (.iadd, 1) := by decide +kernel
theorem d_M_takesE_60 : decode b_M_takesE 60 = .ok (.putfield 80, 3) := by decide +kernel
theorem d_M_takesE_63 : decode b_M_takesE 63 = .ok (.aload_n 0, 1) := by decide +kernel
theorem d_M_takesE_64 : decode b_M_takesE 64 = .ok (.getfield 71, 3) := by decide +kernel
theorem d_M_takesE_67 : decode b_M_takesE 67 = .ok (.aload_n 0, 1) := by decide +kernel
theorem d_M_takesE_68 : decode b_M_takesE 68 = .ok (.getfield 77, 3) := by decide +kernel
theorem d_M_takesE_71 : decode b_M_takesE 71 = .ok (.iload_n 3, 1) := by decide +kernel
theorem d_M_takesE_72 : decode b_M_takesE 72 = .ok (.iastore, 1) := by decide +kernel
theorem d_M_takesE_73 : decode b_M_takesE 73 = .ok (.aload_n 0, 1) := by decide +kernel
theorem d_M_takesE_74 : decode b_M_takesE 74 = .ok (.dup, 1) := by decide +kernel
theorem d_M_takesE_75 : decode b_M_takesE 75 = .ok (.getfield 77, 3) := by decide +kernel
theorem d_M_takesE_78 : decode b_M_takesE 78 = .ok (.iconst 1, 1) := by decide +kernel
theorem d_M_takesE_79 : decode b_M_takesE 79 = .ok (.iadd, 1) := by decide +kernel
theorem d_M_takesE_80 : decode b_M_takesE 80 = .ok (.putfield 77, 3) := by decide +kernel
theorem d_M_takesE_83 : decode b_M_takesE 83 = .ok (.aload_n 0, 1) := by decide +kernel
theorem d_M_takesE_84 : decode b_M_takesE 84 = .ok (.dup, 1) := by decide +kernel
theorem d_M_takesE_85 : decode b_M_takesE 85 = .ok (.getfield 44, 3) := by decide +kernel
theorem d_M_takesE_88 : decode b_M_takesE 88 = .ok (.iconst 1, 1) := by decide +kernel
theorem d_M_takesE_89 : decode b_M_takesE 89 = .ok (.iadd, 1) := by decide +kernel
theorem d_M_takesE_90 : decode b_M_takesE 90 = .ok (.putfield 44, 3) := by decide +kernel
theorem d_M_takesE_93 : decode b_M_takesE 93 = .ok (.goto (-71), 3) := by decide +kernel
theorem d_M_takesE_96 : decode b_M_takesE 96 = .ok (.aload_n 0, 1) := by decide +kernel
theorem d_M_takesE_97 : decode b_M_takesE 97 = .ok (.invokevirtual 266, 3) := by decide +kernel
theorem d_M_takesE_100 : decode b_M_takesE 100 = .ok (.ifCond .eq 8, 3) := by decide +kernel
theorem d_M_takesE_103 : decode b_M_takesE 103 = .ok (.iconst 0, 1) := by decide +kernel
theorem d_M_takesE_104 : decode b_M_takesE 104 = .ok (.istore_n 2, 1) := by decide +kernel
theorem d_M_takesE_105 : decode b_M_takesE 105 = .ok (.goto (-83), 3) := by decide +kernel
theorem d_M_takesE_108 : decode b_M_takesE 108 = .ok (.iconst 0, 1) := by decide +kernel
theorem d_M_takesE_109 : decode b_M_takesE 109 = .ok (.ireturn, 1) := by decide +kernel
theorem d_M_takesE_110 : decode b_M_takesE 110 = .ok (.iload_n 3, 1) := by decide +kernel
theorem d_M_takesE_111 : decode b_M_takesE 111 = .ok (.bipush 38, 2) := by decide +kernel
theorem d_M_takesE_113 : decode b_M_takesE 113 = .ok (.if_icmp .eq 9, 3) := by decide +kernel
theorem d_M_takesE_116 : decode b_M_takesE 116 = .ok (.iload_n 3, 1) := by decide +kernel
theorem d_M_takesE_117 : decode b_M_takesE 117 = .ok (.bipush 124, 2) := by decide +kernel
theorem d_M_takesE_119 : decode b_M_takesE 119 = .ok (.if_icmp .ne 43, 3) := by decide +kernel
theorem d_M_takesE_122 : decode b_M_takesE 122 = .ok (.aload_n 0, 1) := by decide +kernel
theorem d_M_takesE_123 : decode b_M_takesE 123 = .ok (.iload_n 3, 1) := by decide +kernel
theorem d_M_takesE_124 : decode b_M_takesE 124 = .ok (.invokevirtual 269, 3) := by decide +kernel
theorem d_M_takesE_127 : decode b_M_takesE 127 = .ok (.aload_n 0, 1) := by decide +kernel
theorem d_M_takesE_128 : decode b_M_takesE 128 = .ok (.getfield 71, 3) := by decide +kernel
theorem d_M_takesE_131 : decode b_M_takesE 131 = .ok (.aload_n 0, 1) := by decide +kernel
theorem d_M_takesE_132 : decode b_M_takesE 132 = .ok (.getfield 77, 3) := by decide +kernel
theorem d_M_takesE_135 : decode b_M_takesE 135 = .ok (.iload_n 3, 1) := by decide +kernel
theorem d_M_takesE_136 : decode b_M_takesE 136 = .ok (.iastore, 1) := by decide +kernel
theorem d_M_takesE_137 : decode b_M_takesE 137 = .ok (.aload_n 0, 1) := by decide +kernel
theorem d_M_takesE_138 : decode b_M_takesE 138 = .ok (.dup, 1) := by decide +kernel
theorem d_M_takesE_139 : decode b_M_takesE 139 = .ok (.getfield 77, 3) := by decide +kernel
theorem d_M_takesE_142 : decode b_M_takesE 142 = .ok (.iconst 1, 1) := by decide +kernel
theorem d_M_takesE_143 : decode b_M_takesE 143 = .ok (.iadd, 1) := by decide +kernel
theorem d_M_takesE_144 : decode b_M_takesE 144 = .ok (.putfield 77, 3) := by decide +kernel
theorem d_M_takesE_147 : decode b_M_takesE 147 = .ok (.iconst 1, 1) := by decide +kernel
theorem d_M_takesE_148 : decode b_M_takesE 148 = .ok (.istore_n 2, 1) := by decide +kernel
theorem d_M_takesE_149 : decode b_M_takesE 149 = .ok (.aload_n 0, 1) := by decide +kernel
theorem d_M_takesE_150 : decode b_M_takesE 150 = .ok (.dup, 1) := by decide +kernel
theorem d_M_takesE_151 : decode b_M_takesE 151 = .ok (.getfield 44, 3) := by decide +kernel
theorem d_M_takesE_154 : decode b_M_takesE 154 = .ok (.iconst 1, 1) := by decide +kernel
theorem d_M_takesE_155 : decode b_M_takesE 155 = .ok (.iadd, 1) := by decide +kernel
theorem d_M_takesE_156 : decode b_M_takesE 156 = .ok (.putfield 44, 3) := by decide +kernel
theorem d_M_takesE_159 : decode b_M_takesE 159 = .ok (.goto (-137), 3) := by decide +kernel
theorem d_M_takesE_162 : decode b_M_takesE 162 = .ok (.aload_n 0, 1) := by decide +kernel
theorem d_M_takesE_163 : decode b_M_takesE 163 = .ok (.bipush 124, 2) := by decide +kernel
theorem d_M_takesE_165 : decode b_M_takesE 165 = .ok (.invokevirtual 269, 3) := by decide +kernel
theorem d_M_takesE_168 : decode b_M_takesE 168 = .ok (.aload_n 0, 1) := by decide +kernel
theorem d_M_takesE_169 : decode b_M_takesE 169 = .ok (.getfield 65, 3) := by decide +kernel
theorem d_M_takesE_172 : decode b_M_takesE 172 = .ok (.iload_n 1, 1) := by decide +kernel
theorem d_M_takesE_173 : decode b_M_takesE 173 = .ok (.aload_n 0, 1) := by decide +kernel
theorem d_M_takesE_174 : decode b_M_takesE 174 = .ok (.getfield 74, 3) := by decide +kernel
theorem d_M_takesE_177 : decode b_M_takesE 177 = .ok (.iastore, 1) := by decide +kernel
theorem d_M_takesE_178 : decode b_M_takesE 178 = .ok (.aload_n 0, 1) := by decide +kernel
theorem d_M_takesE_179 : decode b_M_takesE 179 = .ok (.getfield 77, 3) := by decide +kernel
theorem d_M_takesE_182 : decode b_M_takesE 182 = .ok (.ifCond .ne 5, 3) := by decide +kernel
theorem d_M_takesE_185 : decode b_M_takesE 185 = .ok (.iconst 1, 1) := by decide +kernel
theorem d_M_takesE_186 : decode b_M_takesE 186 = .ok (.ireturn, 1) := by decide +kernel
theorem d_M_takesE_187 : decode b_M_takesE 187 = .ok (.iload_n 3, 1) := by decide +kernel
theorem d_M_takesE_188 : decode b_M_takesE 188 = .ok (.bipush 41, 2) := by decide +kernel
theorem d_M_takesE_190 : decode b_M_takesE 190 = .ok (.if_icmp .eq 5, 3) := by decide +kernel
theorem d_M_takesE_193 : decode b_M_takesE 193 = .ok (.iconst 0, 1) := by decide +kernel
theorem d_M_takesE_194 : decode b_M_takesE 194 = .ok (.ireturn, 1) := by decide +kernel
theorem d_M_takesE_195 : decode b_M_takesE 195 = .ok (.aload_n 0, 1) := by decide +kernel
theorem d_M_takesE_196 : decode b_M_takesE 196 = .ok (.dup, 1) := by decide +kernel
theorem d_M_takesE_197 : decode b_M_takesE 197 = .ok (.getfield 77, 3) := by decide +kernel
theorem d_M_takesE_200 : decode b_M_takesE 200 = .ok (.iconst 1, 1) := by decide +kernel
theorem d_M_takesE_201 : decode b_M_takesE 201 = .ok (.isub, 1) := by decide +kernel
theorem d_M_takesE_202 : decode b_M_takesE 202 = .ok (.putfield 77, 3) := by decide +kernel
theorem d_M_takesE_205 : decode b_M_takesE 205 = .ok (.aload_n 0, 1) := by decide +kernel
theorem d_M_takesE_206 : decode b_M_takesE 206 = .ok (.dup, 1) := by decide +kernel
theorem d_M_takesE_207 : decode b_M_takesE 207 = .ok (.getfield 80, 3) := by decide +kernel
theorem d_M_takesE_210 : decode b_M_takesE 210 = .ok (.iconst 1, 1) := by decide +kernel
theorem d_M_takesE_211 : decode b_M_takesE 211 = .ok (.isub, 1) := by decide +kernel
theorem d_M_takesE_212 : decode b_M_takesE 212 = .ok (.putfield 80, 3) := by decide +kernel
theorem d_M_takesE_215 : decode b_M_takesE 215 = .ok (.aload_n 0, 1) := by decide +kernel
theorem d_M_takesE_216 : decode b_M_takesE 216 = .ok (.dup, 1) := by decide +kernel
theorem d_M_takesE_217 : decode b_M_takesE 217 = .ok (.getfield 44, 3) := by decide +kernel
theorem d_M_takesE_220 : decode b_M_takesE 220 = .ok (.iconst 1, 1) := by decide +kernel
theorem d_M_takesE_221 : decode b_M_takesE 221 = .ok (.iadd, 1) := by decide +kernel
theorem d_M_takesE_222 : decode b_M_takesE 222 = .ok (.putfield 44, 3) := by decide +kernel
theorem d_M_takesE_225 : decode b_M_takesE 225 = .ok (.aload_n 0, 1) := by decide +kernel
theorem d_M_takesE_226 : decode b_M_takesE 226 = .ok (.invokevirtual 263, 3) := by decide +kernel
theorem d_M_takesE_229 : decode b_M_takesE 229 = .ok (.goto (-207), 3) := by decide +kernel
set_option maxRecDepth 20000 in
theorem c_M_takesE_b122 {r : Int32} {wz : gW} {rec22 : Nat × Int32 × Int32 × gW → Option (Int32 × gW)} (ih22 : ∀ (a0 : Nat) (a1 : Int32) (a2 : Int32) (w : gW) (ls : Array Slot) (H : Heap) (locs : List Loc), rec22 (a0, a1, a2, w) = some (r, wz) → lv_has ls 4 [(0, .ref (B + a0)), (1, .int a1), (2, .int a2)] → gRep D cA B w H → va_S (gA B) s.heap H locs → W p l e ({ frames := 5, cells := 0, slots := 0, locals := 126 } : Room) s m args below meth c H locs 0 0 (MQ below (gQi D cA B r wz) args s 0 0 (gA B)) (F0 m 22 ls [])) (C : gC p s m args meth c "RidCoppersModel" b_M_takesE 4 (some .boolean) D cA oc B) (a0 : Nat) (a1 : Int32) (a3 : Int32) (w : gW) {ls : Array Slot} {H : Heap} {locs : List Loc} (hl : lv_has ls 4 [(0, .ref (B + a0)), (1, .int a1), (3, .int a3)]) (hf : f_M_takesE_b122 N rec22 a0 a1 a3 w = some (r, wz)) (hR : gRep D cA B w H) (hS : va_S (gA B) s.heap H locs) : W p l e ({ frames := 5, cells := 0, slots := 0, locals := 126 } : Room) s m args below meth c H locs 0 0 (MQ below (gQi D cA B r wz) args s 0 0 (gA B)) (F0 m 122 ls []) := by
  obtain ⟨hx, hb, hml, hown, hts, hr, hlocks, hK, hBs⟩ := id C
  unfold f_M_takesE_b122 at hf
  refine lv_aload_n hx hb d_M_takesE_122 rfl (lv_at hl 0 rfl) ?_
  refine lv_iload_n hx hb d_M_takesE_123 rfl (lv_at hl 2 rfl) ?_
  have ⟨h19, hf⟩ := gd_e hf
  have ⟨x16, w17, h18, hf⟩ := kl_e hf
  refine g_kv0 (g_rV (As := [.int a3]) (rest := []) hx hb hml hown hts hK hR hS (c_M_settle l D cA oc B N a0 a3 w h18) I_M_settle m_1288 mp_43 (gRecv hK hR (ci := 12) rfl h19) rfl rfl (Nat.le_of_ble_eq_true rfl) hl.1 ⟨Nat.le_of_ble_eq_true rfl, Nat.le_of_ble_eq_true rfl⟩ ⟨Nat.le_of_ble_eq_true rfl, Nat.le_of_ble_eq_true rfl⟩ d_M_takesE_124) hS (fun H locs hR hS => ?_)
  refine lv_aload_n hx hb d_M_takesE_127 rfl (lv_at hl 0 rfl) ?_
  have ⟨h20, hf⟩ := gd_e hf
  have ⟨x21, h22, hf⟩ := rr_e hf
  refine g_getR hx hb hts hown hK hR fl_M_71 (fun _ => rfl) h20 h22 d_M_takesE_128 ?_
  refine lv_aload_n hx hb d_M_takesE_131 rfl (lv_at hl 0 rfl) ?_
  refine g_getI hx hb hts hown hK hR fl_M_77 (fun _ => rfl) h20 d_M_takesE_132 ?_
  refine g_nI hf (fun x23 hf => ?_)
  refine lv_iload_n hx hb d_M_takesE_135 rfl (lv_at hl 2 rfl) ?_
  have ⟨h24, hf⟩ := gd_e hf
  have ⟨h25, hf⟩ := gd_e hf
  refine g_iast hx hb hK hR hS h24 h25 d_M_takesE_136 (fun H locs hR hS => ?_)
  refine g_nW hf hR (fun w26 hf hR => ?_)
  refine lv_aload_n hx hb d_M_takesE_137 rfl (lv_at hl 0 rfl) ?_
  refine lv_dup hx hb d_M_takesE_138 rfl ?_
  have ⟨h27, hf⟩ := gd_e hf
  refine g_getI hx hb hts hown hK hR fl_M_77 (fun _ => rfl) h27 d_M_takesE_139 ?_
  refine g_nI hf (fun x28 hf => ?_)
  refine lv_iconst (v := 1) hx hb d_M_takesE_142 (by decide) ?_
  refine lv_iadd hx hb d_M_takesE_143 ?_
  refine g_nI hf (fun x29 hf => ?_)
  refine g_putI hx hb hts hown hK hR hS pf_M_77 (fun _ => rfl) rfl rfl h27 d_M_takesE_144 (fun H locs hR hS => ?_)
  refine g_nW hf hR (fun w30 hf hR => ?_)
  refine lv_iconst (v := 1) hx hb d_M_takesE_147 (by decide) ?_
  refine lv_istore_n (lv' := [(2, .int 1), (0, .ref (B + a0)), (1, .int a1), (3, .int a3)]) hx hb d_M_takesE_148 rfl hl (by decide) rfl (fun ls hl => ?_)
  refine lv_aload_n hx hb d_M_takesE_149 rfl (lv_at hl 1 rfl) ?_
  refine lv_dup hx hb d_M_takesE_150 rfl ?_
  have ⟨h31, hf⟩ := gd_e hf
  refine g_getI hx hb hts hown hK hR fl_M_44 (fun _ => rfl) h31 d_M_takesE_151 ?_
  refine g_nI hf (fun x32 hf => ?_)
  refine lv_iconst (v := 1) hx hb d_M_takesE_154 (by decide) ?_
  refine lv_iadd hx hb d_M_takesE_155 ?_
  refine g_nI hf (fun x33 hf => ?_)
  refine g_putI hx hb hts hown hK hR hS pf_M_44 (fun _ => rfl) rfl rfl h31 d_M_takesE_156 (fun H locs hR hS => ?_)
  refine g_nW hf hR (fun w34 hf hR => ?_)
  refine lv_goto (tgt := 22) hx hb d_M_takesE_159 (by decide) ?_
  exact ih22 a0 a1 1 w34 _ _ _ hf (lv_sub hl [1, 2, 0] rfl) hR hS
set_option maxRecDepth 20000 in
theorem c_M_takesE_b43 {r : Int32} {wz : gW} {rec22 : Nat × Int32 × Int32 × gW → Option (Int32 × gW)} (ih22 : ∀ (a0 : Nat) (a1 : Int32) (a2 : Int32) (w : gW) (ls : Array Slot) (H : Heap) (locs : List Loc), rec22 (a0, a1, a2, w) = some (r, wz) → lv_has ls 4 [(0, .ref (B + a0)), (1, .int a1), (2, .int a2)] → gRep D cA B w H → va_S (gA B) s.heap H locs → W p l e ({ frames := 5, cells := 0, slots := 0, locals := 126 } : Room) s m args below meth c H locs 0 0 (MQ below (gQi D cA B r wz) args s 0 0 (gA B)) (F0 m 22 ls [])) (C : gC p s m args meth c "RidCoppersModel" b_M_takesE 4 (some .boolean) D cA oc B) (a0 : Nat) (a1 : Int32) (a2 : Int32) (a3 : Int32) (w : gW) {ls : Array Slot} {H : Heap} {locs : List Loc} (hl : lv_has ls 4 [(0, .ref (B + a0)), (1, .int a1), (2, .int a2), (3, .int a3)]) (hf : f_M_takesE_b43 N rec22 a0 a1 a2 a3 w = some (r, wz)) (hR : gRep D cA B w H) (hS : va_S (gA B) s.heap H locs) : W p l e ({ frames := 5, cells := 0, slots := 0, locals := 126 } : Room) s m args below meth c H locs 0 0 (MQ below (gQi D cA B r wz) args s 0 0 (gA B)) (F0 m 43 ls []) := by
  obtain ⟨hx, hb, hml, hown, hts, hr, hlocks, hK, hBs⟩ := id C
  unfold f_M_takesE_b43 at hf
  refine lv_aload_n hx hb d_M_takesE_43 rfl (lv_at hl 0 rfl) ?_
  have ⟨h63, hf⟩ := gd_e hf
  refine g_getI hx hb hts hown hK hR fl_M_80 (fun _ => rfl) h63 d_M_takesE_44 ?_
  refine g_nI hf (fun x64 hf => ?_)
  refine lv_iconst (v := 4) hx hb d_M_takesE_47 (by decide) ?_
  refine lv_icmp_ne (tgt := 53) hx hb d_M_takesE_48 (by decide) (fun hc => ?_) (fun hc => ?_)
  · have hf := cd_f hc hf
    refine lv_aload_n hx hb d_M_takesE_53 rfl (lv_at hl 0 rfl) ?_
    refine lv_dup hx hb d_M_takesE_54 rfl ?_
    refine g_getI hx hb hts hown hK hR fl_M_80 (fun _ => rfl) h63 d_M_takesE_55 ?_
    refine g_nI hf (fun x65 hf => ?_)
    refine lv_iconst (v := 1) hx hb d_M_takesE_58 (by decide) ?_
    refine lv_iadd hx hb d_M_takesE_59 ?_
    refine g_nI hf (fun x66 hf => ?_)
    refine g_putI hx hb hts hown hK hR hS pf_M_80 (fun _ => rfl) rfl rfl h63 d_M_takesE_60 (fun H locs hR hS => ?_)
    refine g_nW hf hR (fun w67 hf hR => ?_)
    refine lv_aload_n hx hb d_M_takesE_63 rfl (lv_at hl 0 rfl) ?_
    have ⟨h68, hf⟩ := gd_e hf
    have ⟨x69, h70, hf⟩ := rr_e hf
    refine g_getR hx hb hts hown hK hR fl_M_71 (fun _ => rfl) h68 h70 d_M_takesE_64 ?_
    refine lv_aload_n hx hb d_M_takesE_67 rfl (lv_at hl 0 rfl) ?_
    refine g_getI hx hb hts hown hK hR fl_M_77 (fun _ => rfl) h68 d_M_takesE_68 ?_
    refine g_nI hf (fun x71 hf => ?_)
    refine lv_iload_n hx hb d_M_takesE_71 rfl (lv_at hl 3 rfl) ?_
    have ⟨h72, hf⟩ := gd_e hf
    have ⟨h73, hf⟩ := gd_e hf
    refine g_iast hx hb hK hR hS h72 h73 d_M_takesE_72 (fun H locs hR hS => ?_)
    refine g_nW hf hR (fun w74 hf hR => ?_)
    refine lv_aload_n hx hb d_M_takesE_73 rfl (lv_at hl 0 rfl) ?_
    refine lv_dup hx hb d_M_takesE_74 rfl ?_
    have ⟨h75, hf⟩ := gd_e hf
    refine g_getI hx hb hts hown hK hR fl_M_77 (fun _ => rfl) h75 d_M_takesE_75 ?_
    refine g_nI hf (fun x76 hf => ?_)
    refine lv_iconst (v := 1) hx hb d_M_takesE_78 (by decide) ?_
    refine lv_iadd hx hb d_M_takesE_79 ?_
    refine g_nI hf (fun x77 hf => ?_)
    refine g_putI hx hb hts hown hK hR hS pf_M_77 (fun _ => rfl) rfl rfl h75 d_M_takesE_80 (fun H locs hR hS => ?_)
    refine g_nW hf hR (fun w78 hf hR => ?_)
    refine lv_aload_n hx hb d_M_takesE_83 rfl (lv_at hl 0 rfl) ?_
    refine lv_dup hx hb d_M_takesE_84 rfl ?_
    have ⟨h79, hf⟩ := gd_e hf
    refine g_getI hx hb hts hown hK hR fl_M_44 (fun _ => rfl) h79 d_M_takesE_85 ?_
    refine g_nI hf (fun x80 hf => ?_)
    refine lv_iconst (v := 1) hx hb d_M_takesE_88 (by decide) ?_
    refine lv_iadd hx hb d_M_takesE_89 ?_
    refine g_nI hf (fun x81 hf => ?_)
    refine g_putI hx hb hts hown hK hR hS pf_M_44 (fun _ => rfl) rfl rfl h79 d_M_takesE_90 (fun H locs hR hS => ?_)
    refine g_nW hf hR (fun w82 hf hR => ?_)
    refine lv_goto (tgt := 22) hx hb d_M_takesE_93 (by decide) ?_
    exact ih22 a0 a1 a2 w82 _ _ _ hf (lv_sub hl [0, 1, 2] rfl) hR hS
  have hf := cd_t hc hf
  refine lv_iconst (v := 0) hx hb d_M_takesE_51 (by decide) ?_
  exact g_iret hx hb hr hlocks hR hS hf rfl d_M_takesE_52
set_option maxRecDepth 20000 in
theorem c_M_takesE_b22 {r : Int32} {wz : gW} {rec22 : Nat × Int32 × Int32 × gW → Option (Int32 × gW)} (ih22 : ∀ (a0 : Nat) (a1 : Int32) (a2 : Int32) (w : gW) (ls : Array Slot) (H : Heap) (locs : List Loc), rec22 (a0, a1, a2, w) = some (r, wz) → lv_has ls 4 [(0, .ref (B + a0)), (1, .int a1), (2, .int a2)] → gRep D cA B w H → va_S (gA B) s.heap H locs → W p l e ({ frames := 5, cells := 0, slots := 0, locals := 126 } : Room) s m args below meth c H locs 0 0 (MQ below (gQi D cA B r wz) args s 0 0 (gA B)) (F0 m 22 ls [])) (C : gC p s m args meth c "RidCoppersModel" b_M_takesE 4 (some .boolean) D cA oc B) (a0 : Nat) (a1 : Int32) (a2 : Int32) (w : gW) {ls : Array Slot} {H : Heap} {locs : List Loc} (hl : lv_has ls 4 [(0, .ref (B + a0)), (1, .int a1), (2, .int a2)]) (hf : f_M_takesE_b22 N rec22 a0 a1 a2 w = some (r, wz)) (hR : gRep D cA B w H) (hS : va_S (gA B) s.heap H locs) : W p l e ({ frames := 5, cells := 0, slots := 0, locals := 126 } : Room) s m args below meth c H locs 0 0 (MQ below (gQi D cA B r wz) args s 0 0 (gA B)) (F0 m 22 ls []) := by
  obtain ⟨hx, hb, hml, hown, hts, hr, hlocks, hK, hBs⟩ := id C
  unfold f_M_takesE_b22 at hf
  refine lv_aload_n hx hb d_M_takesE_22 rfl (lv_at hl 0 rfl) ?_
  have ⟨h15, hf⟩ := gd_e hf
  have ⟨x12, w13, h14, hf⟩ := kl_e hf
  refine g_ki0 (g_rV (As := []) (rest := []) hx hb hml hown hts hK hR hS (c_M_peek l D cA oc B N a0 w h14) I_M_peek m_1248 mp_33 (gRecv hK hR (ci := 12) rfl h15) rfl rfl (Nat.le_of_ble_eq_true rfl) hl.1 ⟨Nat.le_of_ble_eq_true rfl, Nat.le_of_ble_eq_true rfl⟩ ⟨Nat.le_of_ble_eq_true rfl, Nat.le_of_ble_eq_true rfl⟩ d_M_takesE_23) hS (fun H locs hR hS => ?_)
  refine lv_istore_n (lv' := [(3, .int x12), (0, .ref (B + a0)), (1, .int a1), (2, .int a2)]) hx hb d_M_takesE_26 rfl hl (by decide) rfl (fun ls hl => ?_)
  refine lv_iload_n hx hb d_M_takesE_27 rfl (lv_at hl 3 rfl) ?_
  refine lv_if_eq (tgt := 110) hx hb d_M_takesE_28 (by decide) (fun hc => ?_) (fun hc => ?_)
  · have hf := cd_t hc hf
    refine lv_iload_n hx hb d_M_takesE_110 rfl (lv_at hl 0 rfl) ?_
    refine lv_bipush (v := 38) hx hb d_M_takesE_111 (by decide) ?_
    refine lv_icmp_eq (tgt := 122) hx hb d_M_takesE_113 (by decide) (fun hc => ?_) (fun hc => ?_)
    · have hf := cd_t hc hf
      exact c_M_takesE_b122 ih22 C a0 a1 x12 w13 (lv_sub hl [1, 2, 0] rfl) hf hR hS
    have hf := cd_f hc hf
    refine lv_iload_n hx hb d_M_takesE_116 rfl (lv_at hl 0 rfl) ?_
    refine lv_bipush (v := 124) hx hb d_M_takesE_117 (by decide) ?_
    refine lv_icmp_ne (tgt := 162) hx hb d_M_takesE_119 (by decide) (fun hc => ?_) (fun hc => ?_)
    · have hf := cd_f hc hf
      refine lv_aload_n hx hb d_M_takesE_162 rfl (lv_at hl 1 rfl) ?_
      refine lv_bipush (v := 124) hx hb d_M_takesE_163 (by decide) ?_
      have ⟨h38, hf⟩ := gd_e hf
      have ⟨x35, w36, h37, hf⟩ := kl_e hf
      refine g_kv0 (g_rV (As := [.int 124]) (rest := []) hx hb hml hown hts hK hR hS (c_M_settle l D cA oc B N a0 124 w13 h37) I_M_settle m_1288 mp_43 (gRecv hK hR (ci := 12) rfl h38) rfl rfl (Nat.le_of_ble_eq_true rfl) hl.1 ⟨Nat.le_of_ble_eq_true rfl, Nat.le_of_ble_eq_true rfl⟩ ⟨Nat.le_of_ble_eq_true rfl, Nat.le_of_ble_eq_true rfl⟩ d_M_takesE_165) hS (fun H locs hR hS => ?_)
      refine lv_aload_n hx hb d_M_takesE_168 rfl (lv_at hl 1 rfl) ?_
      have ⟨h39, hf⟩ := gd_e hf
      have ⟨x40, h41, hf⟩ := rr_e hf
      refine g_getR hx hb hts hown hK hR fl_M_65 (fun _ => rfl) h39 h41 d_M_takesE_169 ?_
      refine lv_iload_n hx hb d_M_takesE_172 rfl (lv_at hl 2 rfl) ?_
      refine lv_aload_n hx hb d_M_takesE_173 rfl (lv_at hl 1 rfl) ?_
      refine g_getI hx hb hts hown hK hR fl_M_74 (fun _ => rfl) h39 d_M_takesE_174 ?_
      refine g_nI hf (fun x42 hf => ?_)
      have ⟨h43, hf⟩ := gd_e hf
      have ⟨h44, hf⟩ := gd_e hf
      refine g_iast hx hb hK hR hS h43 h44 d_M_takesE_177 (fun H locs hR hS => ?_)
      refine g_nW hf hR (fun w45 hf hR => ?_)
      refine lv_aload_n hx hb d_M_takesE_178 rfl (lv_at hl 1 rfl) ?_
      have ⟨h46, hf⟩ := gd_e hf
      refine g_getI hx hb hts hown hK hR fl_M_77 (fun _ => rfl) h46 d_M_takesE_179 ?_
      refine g_nI hf (fun x47 hf => ?_)
      refine lv_if_ne (tgt := 187) hx hb d_M_takesE_182 (by decide) (fun hc => ?_) (fun hc => ?_)
      · have hf := cd_f hc hf
        refine lv_iload_n hx hb d_M_takesE_187 rfl (lv_at hl 0 rfl) ?_
        refine lv_bipush (v := 41) hx hb d_M_takesE_188 (by decide) ?_
        refine lv_icmp_eq (tgt := 195) hx hb d_M_takesE_190 (by decide) (fun hc => ?_) (fun hc => ?_)
        · have hf := cd_t hc hf
          refine lv_aload_n hx hb d_M_takesE_195 rfl (lv_at hl 1 rfl) ?_
          refine lv_dup hx hb d_M_takesE_196 rfl ?_
          refine g_getI hx hb hts hown hK hR fl_M_77 (fun _ => rfl) h46 d_M_takesE_197 ?_
          refine g_nI hf (fun x48 hf => ?_)
          refine lv_iconst (v := 1) hx hb d_M_takesE_200 (by decide) ?_
          refine lv_isub hx hb d_M_takesE_201 ?_
          refine g_nI hf (fun x49 hf => ?_)
          refine g_putI hx hb hts hown hK hR hS pf_M_77 (fun _ => rfl) rfl rfl h46 d_M_takesE_202 (fun H locs hR hS => ?_)
          refine g_nW hf hR (fun w50 hf hR => ?_)
          refine lv_aload_n hx hb d_M_takesE_205 rfl (lv_at hl 1 rfl) ?_
          refine lv_dup hx hb d_M_takesE_206 rfl ?_
          have ⟨h51, hf⟩ := gd_e hf
          refine g_getI hx hb hts hown hK hR fl_M_80 (fun _ => rfl) h51 d_M_takesE_207 ?_
          refine g_nI hf (fun x52 hf => ?_)
          refine lv_iconst (v := 1) hx hb d_M_takesE_210 (by decide) ?_
          refine lv_isub hx hb d_M_takesE_211 ?_
          refine g_nI hf (fun x53 hf => ?_)
          refine g_putI hx hb hts hown hK hR hS pf_M_80 (fun _ => rfl) rfl rfl h51 d_M_takesE_212 (fun H locs hR hS => ?_)
          refine g_nW hf hR (fun w54 hf hR => ?_)
          refine lv_aload_n hx hb d_M_takesE_215 rfl (lv_at hl 1 rfl) ?_
          refine lv_dup hx hb d_M_takesE_216 rfl ?_
          have ⟨h55, hf⟩ := gd_e hf
          refine g_getI hx hb hts hown hK hR fl_M_44 (fun _ => rfl) h55 d_M_takesE_217 ?_
          refine g_nI hf (fun x56 hf => ?_)
          refine lv_iconst (v := 1) hx hb d_M_takesE_220 (by decide) ?_
          refine lv_iadd hx hb d_M_takesE_221 ?_
          refine g_nI hf (fun x57 hf => ?_)
          refine g_putI hx hb hts hown hK hR hS pf_M_44 (fun _ => rfl) rfl rfl h55 d_M_takesE_222 (fun H locs hR hS => ?_)
          refine g_nW hf hR (fun w58 hf hR => ?_)
          refine lv_aload_n hx hb d_M_takesE_225 rfl (lv_at hl 1 rfl) ?_
          have ⟨h62, hf⟩ := gd_e hf
          have ⟨x59, w60, h61, hf⟩ := kl_e hf
          refine g_kv0 (g_rV (As := []) (rest := []) hx hb hml hown hts hK hR hS (c_M_whole l D cA oc B N a0 w58 h61) I_M_whole m_1284 mp_42 (gRecv hK hR (ci := 12) rfl h62) rfl rfl (Nat.le_of_ble_eq_true rfl) hl.1 ⟨Nat.le_of_ble_eq_true rfl, Nat.le_of_ble_eq_true rfl⟩ ⟨Nat.le_of_ble_eq_true rfl, Nat.le_of_ble_eq_true rfl⟩ d_M_takesE_226) hS (fun H locs hR hS => ?_)
          refine lv_goto (tgt := 22) hx hb d_M_takesE_229 (by decide) ?_
          exact ih22 a0 a1 a2 w60 _ _ _ hf (lv_sub hl [1, 2, 3] rfl) hR hS
        have hf := cd_f hc hf
        refine lv_iconst (v := 0) hx hb d_M_takesE_193 (by decide) ?_
        exact g_iret hx hb hr hlocks hR hS hf rfl d_M_takesE_194
      have hf := cd_t hc hf
      refine lv_iconst (v := 1) hx hb d_M_takesE_185 (by decide) ?_
      exact g_iret hx hb hr hlocks hR hS hf rfl d_M_takesE_186
    have hf := cd_t hc hf
    exact c_M_takesE_b122 ih22 C a0 a1 x12 w13 (lv_sub hl [1, 2, 0] rfl) hf hR hS
  have hf := cd_f hc hf
  refine lv_iload_n hx hb d_M_takesE_31 rfl (lv_at hl 0 rfl) ?_
  refine lv_bipush (v := 33) hx hb d_M_takesE_32 (by decide) ?_
  refine lv_icmp_eq (tgt := 43) hx hb d_M_takesE_34 (by decide) (fun hc => ?_) (fun hc => ?_)
  · have hf := cd_t hc hf
    exact c_M_takesE_b43 ih22 C a0 a1 a2 x12 w13 (lv_sub hl [1, 2, 3, 0] rfl) hf hR hS
  have hf := cd_f hc hf
  refine lv_iload_n hx hb d_M_takesE_37 rfl (lv_at hl 0 rfl) ?_
  refine lv_bipush (v := 40) hx hb d_M_takesE_38 (by decide) ?_
  refine lv_icmp_ne (tgt := 96) hx hb d_M_takesE_40 (by decide) (fun hc => ?_) (fun hc => ?_)
  · have hf := cd_f hc hf
    refine lv_aload_n hx hb d_M_takesE_96 rfl (lv_at hl 1 rfl) ?_
    have ⟨h86, hf⟩ := gd_e hf
    have ⟨x83, w84, h85, hf⟩ := kl_e hf
    refine g_ki0 (g_rV (As := []) (rest := []) hx hb hml hown hts hK hR hS (c_M_takesTest l D cA oc B N a0 w13 h85) I_M_takesTest m_1272 mp_39 (gRecv hK hR (ci := 12) rfl h86) rfl rfl (Nat.le_of_ble_eq_true rfl) hl.1 ⟨Nat.le_of_ble_eq_true rfl, Nat.le_of_ble_eq_true rfl⟩ ⟨Nat.le_of_ble_eq_true rfl, Nat.le_of_ble_eq_true rfl⟩ d_M_takesE_97) hS (fun H locs hR hS => ?_)
    refine lv_if_eq (tgt := 108) hx hb d_M_takesE_100 (by decide) (fun hc => ?_) (fun hc => ?_)
    · have hf := cd_t hc hf
      refine lv_iconst (v := 0) hx hb d_M_takesE_108 (by decide) ?_
      exact g_iret hx hb hr hlocks hR hS hf rfl d_M_takesE_109
    have hf := cd_f hc hf
    refine lv_iconst (v := 0) hx hb d_M_takesE_103 (by decide) ?_
    refine lv_istore_n (lv' := [(2, .int 0), (3, .int x12), (0, .ref (B + a0)), (1, .int a1)]) hx hb d_M_takesE_104 rfl hl (by decide) rfl (fun ls hl => ?_)
    refine lv_goto (tgt := 22) hx hb d_M_takesE_105 (by decide) ?_
    exact ih22 a0 a1 0 w84 _ _ _ hf (lv_sub hl [2, 3, 0] rfl) hR hS
  have hf := cd_t hc hf
  exact c_M_takesE_b43 ih22 C a0 a1 a2 x12 w13 (lv_sub hl [1, 2, 3, 0] rfl) hf hR hS
theorem c_M_takesE_l22 {r : Int32} {wz : gW} (C : gC p s m args meth c "RidCoppersModel" b_M_takesE 4 (some .boolean) D cA oc B) (a0 : Nat) (a1 : Int32) (a2 : Int32) (w : gW) {ls : Array Slot} {H : Heap} {locs : List Loc} (hl : lv_has ls 4 [(0, .ref (B + a0)), (1, .int a1), (2, .int a2)]) (hf : f_M_takesE_l22 N a0 a1 a2 w = some (r, wz)) (hR : gRep D cA B w H) (hS : va_S (gA B) s.heap H locs) : W p l e ({ frames := 5, cells := 0, slots := 0, locals := 126 } : Room) s m args below meth c H locs 0 0 (MQ below (gQi D cA B r wz) args s 0 0 (gA B)) (F0 m 22 ls []) := by
  unfold f_M_takesE_l22 at hf
  suffices hh : ∀ n : Nat, ∀ (a0 : Nat) (a1 : Int32) (a2 : Int32) (w : gW) (ls : Array Slot) (H : Heap) (locs : List Loc), itr (fun rec (q : Nat × Int32 × Int32 × gW) => f_M_takesE_b22 N rec q.1 q.2.1 q.2.2.1 q.2.2.2) n (a0, a1, a2, w) = some (r, wz) → lv_has ls 4 [(0, .ref (B + a0)), (1, .int a1), (2, .int a2)] → gRep D cA B w H → va_S (gA B) s.heap H locs → W p l e ({ frames := 5, cells := 0, slots := 0, locals := 126 } : Room) s m args below meth c H locs 0 0 (MQ below (gQi D cA B r wz) args s 0 0 (gA B)) (F0 m 22 ls []) from hh N a0 a1 a2 w ls H locs hf hl hR hS
  intro n
  induction n with
  | zero => intro a0 a1 a2 w ls H locs hf; cases hf
  | succ n ihn =>
    intro a0 a1 a2 w ls H locs hf hl hR hS
    exact c_M_takesE_b22 (N := N) ihn C a0 a1 a2 w hl ((itr_s _ _ _).symm.trans hf) hR hS
set_option maxRecDepth 20000 in
theorem c_M_takesE_b0 {r : Int32} {wz : gW} (C : gC p s m args meth c "RidCoppersModel" b_M_takesE 4 (some .boolean) D cA oc B) (a0 : Nat) (a1 : Int32) (w : gW) {ls : Array Slot} {H : Heap} {locs : List Loc} (hl : lv_has ls 4 [(0, .ref (B + a0)), (1, .int a1)]) (hf : f_M_takesE_b0 N a0 a1 w = some (r, wz)) (hR : gRep D cA B w H) (hS : va_S (gA B) s.heap H locs) : W p l e ({ frames := 5, cells := 0, slots := 0, locals := 126 } : Room) s m args below meth c H locs 0 0 (MQ below (gQi D cA B r wz) args s 0 0 (gA B)) (F0 m 0 ls []) := by
  obtain ⟨hx, hb, hml, hown, hts, hr, hlocks, hK, hBs⟩ := id C
  unfold f_M_takesE_b0 at hf
  refine lv_aload_n hx hb d_M_takesE_0 rfl (lv_at hl 0 rfl) ?_
  refine lv_iconst (v := 0) hx hb d_M_takesE_1 (by decide) ?_
  have ⟨h1, hf⟩ := gd_e hf
  refine g_putI hx hb hts hown hK hR hS pf_M_77 (fun _ => rfl) rfl rfl h1 d_M_takesE_2 (fun H locs hR hS => ?_)
  refine g_nW hf hR (fun w2 hf hR => ?_)
  refine lv_aload_n hx hb d_M_takesE_5 rfl (lv_at hl 0 rfl) ?_
  refine lv_iconst (v := 0) hx hb d_M_takesE_6 (by decide) ?_
  have ⟨h3, hf⟩ := gd_e hf
  refine g_putI hx hb hts hown hK hR hS pf_M_80 (fun _ => rfl) rfl rfl h3 d_M_takesE_7 (fun H locs hR hS => ?_)
  refine g_nW hf hR (fun w4 hf hR => ?_)
  refine lv_aload_n hx hb d_M_takesE_10 rfl (lv_at hl 0 rfl) ?_
  have ⟨h5, hf⟩ := gd_e hf
  have ⟨x6, h7, hf⟩ := rr_e hf
  refine g_getR hx hb hts hown hK hR fl_M_62 (fun _ => rfl) h5 h7 d_M_takesE_11 ?_
  refine lv_iload_n hx hb d_M_takesE_14 rfl (lv_at hl 1 rfl) ?_
  refine lv_aload_n hx hb d_M_takesE_15 rfl (lv_at hl 0 rfl) ?_
  refine g_getI hx hb hts hown hK hR fl_M_74 (fun _ => rfl) h5 d_M_takesE_16 ?_
  refine g_nI hf (fun x8 hf => ?_)
  have ⟨h9, hf⟩ := gd_e hf
  have ⟨h10, hf⟩ := gd_e hf
  refine g_iast hx hb hK hR hS h9 h10 d_M_takesE_19 (fun H locs hR hS => ?_)
  refine g_nW hf hR (fun w11 hf hR => ?_)
  refine lv_iconst (v := 1) hx hb d_M_takesE_20 (by decide) ?_
  refine lv_istore_n (lv' := [(2, .int 1), (0, .ref (B + a0)), (1, .int a1)]) hx hb d_M_takesE_21 rfl hl (by decide) rfl (fun ls hl => ?_)
  exact c_M_takesE_l22 C a0 a1 1 w11 (lv_sub hl [1, 2, 0] rfl) hf hR hS
theorem c_M_takesE (l : Launch) (D : va_G) (cA : Nat → ClassId) (oc : gO) (B N : Nat) (a0 : Nat) (a1 : Int32) (w : gW) {wz : gW} {r : Int32} (hf : f_M_takesE N a0 a1 w = some (r, wz)) : Met l y_M_takesE (Cond.code y_M_takesE b_M_takesE 4 (some .boolean) :: lw_good) ({ frames := 5, cells := 0, slots := 0, locals := 126 } : Room) (gPre D cA oc B [.ref (B + a0), .int a1] w) (gQi D cA B r wz) 0 0 (gA B) := by
  refine Met.ofW (cc := b_M_takesE) (maxL := 4) (ret := (some .boolean)) (by decide +kernel) rfl ?_
  intro p e s m args below meth c s₁ Bd hml hv
  obtain ⟨hargs, C, hR⟩ := gC.enter (l := l) rfl Bd hml hv
  subst hargs
  have hl := lv_entry ([.ref (B + a0), .int a1]) (n := 4) (Nat.le_of_ble_eq_true rfl)
  rw [lg_entry_eq]
  generalize (lg_sl ([.ref (B + a0), .int a1]) ++ List.replicate (4 - (lg_sl ([.ref (B + a0), .int a1])).length) Slot.unset).toArray = ls at hl ⊢
  have hl : lv_has ls 4 [(0, .ref (B + a0)), (1, .int a1)] := hl
  exact c_M_takesE_b0 C a0 a1 w (lv_sub hl [0, 1] rfl) hf hR va_S.rf
theorem d_M_takesHead_0 : decode b_M_takesHead 0 = .ok (.aload_n 0, 1) := by decide +kernel
theorem d_M_takesHead_1 : decode b_M_takesHead 1 = .ok (.invokevirtual 241, 3) := by decide +kernel
theorem d_M_takesHead_4 : decode b_M_takesHead 4 = .ok (.lookupswitch 56 #[(104, 28), (107, 42)], 28) := by decide +kernel
theorem d_M_takesHead_32 : decode b_M_takesHead 32 = .ok (.aload_n 0, 1) := by decide +kernel
theorem d_M_takesHead_33 : decode b_M_takesHead 33 = .ok (.getfield 56, 3) := by decide +kernel
theorem d_M_takesHead_36 : decode b_M_takesHead 36 = .ok (.iload_n 1, 1) := by decide +kernel
theorem d_M_takesHead_37 : decode b_M_takesHead 37 = .ok (.iconst 0, 1) := by decide +kernel
theorem d_M_takesHead_38 : decode b_M_takesHead 38 = .ok (.iastore, 1) := by decide +kernel
theorem d_M_takesHead_39 : decode b_M_takesHead 39 = .ok (.aload_n 0, 1) := by decide +kernel
theorem d_M_takesHead_40 : decode b_M_takesHead 40 = .ok (.iconst 0, 1) := by decide +kernel
theorem d_M_takesHead_41 : decode b_M_takesHead 41 = .ok (.iconst 4, 1) := by decide +kernel
theorem d_M_takesHead_42 : decode b_M_takesHead 42 = .ok (.invokevirtual 272, 3) := by decide +kernel
theorem d_M_takesHead_45 : decode b_M_takesHead 45 = .ok (.ireturn, 1) := by decide +kernel
theorem d_M_takesHead_46 : decode b_M_takesHead 46 = .ok (.aload_n 0, 1) := by decide +kernel
theorem d_M_takesHead_47 : decode b_M_takesHead 47 = .ok (.getfield 56, 3) := by decide +kernel
theorem d_M_takesHead_50 : decode b_M_takesHead 50 = .ok (.iload_n 1, 1) := by decide +kernel
theorem d_M_takesHead_51 : decode b_M_takesHead 51 = .ok (.iconst 1, 1) := by decide +kernel
theorem d_M_takesHead_52 : decode b_M_takesHead 52 = .ok (.iastore, 1) := by decide +kernel
theorem d_M_takesHead_53 : decode b_M_takesHead 53 = .ok (.aload_n 0, 1) := by decide +kernel
theorem d_M_takesHead_54 : decode b_M_takesHead 54 = .ok (.iconst 4, 1) := by decide +kernel
theorem d_M_takesHead_55 : decode b_M_takesHead 55 = .ok (.iconst 4, 1) := by decide +kernel
theorem d_M_takesHead_56 : decode b_M_takesHead 56 = .ok (.invokevirtual 272, 3) := by decide +kernel
theorem d_M_takesHead_59 : decode b_M_takesHead 59 = .ok (.ireturn, 1) := by decide +kernel
theorem d_M_takesHead_60 : decode b_M_takesHead 60 = .ok (.aload_n 0, 1) := by decide +kernel
theorem d_M_takesHead_61 : decode b_M_takesHead 61 = .ok (.getfield 56, 3) := by decide +kernel
theorem d_M_takesHead_64 : decode b_M_takesHead 64 = .ok (.iload_n 1, 1) := by decide +kernel
theorem d_M_takesHead_65 : decode b_M_takesHead 65 = .ok (.iconst 2, 1) := by decide +kernel
theorem d_M_takesHead_66 : decode b_M_takesHead 66 = .ok (.iastore, 1) := by decide +kernel
theorem d_M_takesHead_67 : decode b_M_takesHead 67 = .ok (.aload_n 0, 1) := by decide +kernel
theorem d_M_takesHead_68 : decode b_M_takesHead 68 = .ok (.bipush 8, 2) := by decide +kernel
theorem d_M_takesHead_70 : decode b_M_takesHead 70 = .ok (.iconst 4, 1) := by decide +kernel
theorem d_M_takesHead_71 : decode b_M_takesHead 71 = .ok (.invokevirtual 272, 3) := by decide +kernel
theorem d_M_takesHead_74 : decode b_M_takesHead 74 = .ok (.ireturn, 1) := by decide +kernel
set_option maxRecDepth 20000 in
theorem c_M_takesHead_b0 {r : Int32} {wz : gW} (C : gC p s m args meth c "RidCoppersModel" b_M_takesHead 2 (some .boolean) D cA oc B) (a0 : Nat) (a1 : Int32) (w : gW) {ls : Array Slot} {H : Heap} {locs : List Loc} (hl : lv_has ls 2 [(0, .ref (B + a0)), (1, .int a1)]) (hf : f_M_takesHead_b0 N a0 a1 w = some (r, wz)) (hR : gRep D cA B w H) (hS : va_S (gA B) s.heap H locs) : W p l e ({ frames := 4, cells := 0, slots := 0, locals := 104 } : Room) s m args below meth c H locs 0 0 (MQ below (gQi D cA B r wz) args s 0 0 (gA B)) (F0 m 0 ls []) := by
  obtain ⟨hx, hb, hml, hown, hts, hr, hlocks, hK, hBs⟩ := id C
  unfold f_M_takesHead_b0 at hf
  refine lv_aload_n hx hb d_M_takesHead_0 rfl (lv_at hl 0 rfl) ?_
  have ⟨h4, hf⟩ := gd_e hf
  have ⟨x1, w2, h3, hf⟩ := kl_e hf
  refine g_ki0 (g_rV (As := []) (rest := []) hx hb hml hown hts hK hR hS (c_M_peek l D cA oc B N a0 w h3) I_M_peek m_1248 mp_33 (gRecv hK hR (ci := 12) rfl h4) rfl rfl (Nat.le_of_ble_eq_true rfl) hl.1 ⟨Nat.le_of_ble_eq_true rfl, Nat.le_of_ble_eq_true rfl⟩ ⟨Nat.le_of_ble_eq_true rfl, Nat.le_of_ble_eq_true rfl⟩ d_M_takesHead_1) hS (fun H locs hR hS => ?_)
  by_cases hc5 : x1 = 104
  · refine lv_lookup (off := 28) (tgt := 32) hx hb d_M_takesHead_4 (by decide) (by rw [hc5]; decide) (by decide) ?_
    have hf := cd_t hc5 hf
    refine lv_aload_n hx hb d_M_takesHead_32 rfl (lv_at hl 0 rfl) ?_
    have ⟨h6, hf⟩ := gd_e hf
    have ⟨x7, h8, hf⟩ := rr_e hf
    refine g_getR hx hb hts hown hK hR fl_M_56 (fun _ => rfl) h6 h8 d_M_takesHead_33 ?_
    refine lv_iload_n hx hb d_M_takesHead_36 rfl (lv_at hl 1 rfl) ?_
    refine lv_iconst (v := 0) hx hb d_M_takesHead_37 (by decide) ?_
    have ⟨h9, hf⟩ := gd_e hf
    have ⟨h10, hf⟩ := gd_e hf
    refine g_iast hx hb hK hR hS h9 h10 d_M_takesHead_38 (fun H locs hR hS => ?_)
    refine g_nW hf hR (fun w11 hf hR => ?_)
    refine lv_aload_n hx hb d_M_takesHead_39 rfl (lv_at hl 0 rfl) ?_
    refine lv_iconst (v := 0) hx hb d_M_takesHead_40 (by decide) ?_
    refine lv_iconst (v := 4) hx hb d_M_takesHead_41 (by decide) ?_
    have ⟨h15, hf⟩ := gd_e hf
    have ⟨x12, w13, h14, hf⟩ := kl_e hf
    refine g_ki0 (g_rV (As := [.int 0, .int 4]) (rest := []) hx hb hml hown hts hK hR hS (c_M_takesWord l D cA oc B N a0 0 4 w11 h14) I_M_takesWord m_1252 mp_34 (gRecv hK hR (ci := 12) rfl h15) rfl rfl (Nat.le_of_ble_eq_true rfl) hl.1 ⟨Nat.le_of_ble_eq_true rfl, Nat.le_of_ble_eq_true rfl⟩ ⟨Nat.le_of_ble_eq_true rfl, Nat.le_of_ble_eq_true rfl⟩ d_M_takesHead_42) hS (fun H locs hR hS => ?_)
    have ⟨h16, hf⟩ := gd_e hf
    exact g_iret hx hb hr hlocks hR hS hf (nb01 h16) d_M_takesHead_45
  have hf := cd_f hc5 hf
  by_cases hc17 : x1 = 107
  · refine lv_lookup (off := 42) (tgt := 46) hx hb d_M_takesHead_4 (by decide) (by rw [hc17]; decide) (by decide) ?_
    have hf := cd_t hc17 hf
    refine lv_aload_n hx hb d_M_takesHead_46 rfl (lv_at hl 0 rfl) ?_
    have ⟨h18, hf⟩ := gd_e hf
    have ⟨x19, h20, hf⟩ := rr_e hf
    refine g_getR hx hb hts hown hK hR fl_M_56 (fun _ => rfl) h18 h20 d_M_takesHead_47 ?_
    refine lv_iload_n hx hb d_M_takesHead_50 rfl (lv_at hl 1 rfl) ?_
    refine lv_iconst (v := 1) hx hb d_M_takesHead_51 (by decide) ?_
    have ⟨h21, hf⟩ := gd_e hf
    have ⟨h22, hf⟩ := gd_e hf
    refine g_iast hx hb hK hR hS h21 h22 d_M_takesHead_52 (fun H locs hR hS => ?_)
    refine g_nW hf hR (fun w23 hf hR => ?_)
    refine lv_aload_n hx hb d_M_takesHead_53 rfl (lv_at hl 0 rfl) ?_
    refine lv_iconst (v := 4) hx hb d_M_takesHead_54 (by decide) ?_
    refine lv_iconst (v := 4) hx hb d_M_takesHead_55 (by decide) ?_
    have ⟨h27, hf⟩ := gd_e hf
    have ⟨x24, w25, h26, hf⟩ := kl_e hf
    refine g_ki0 (g_rV (As := [.int 4, .int 4]) (rest := []) hx hb hml hown hts hK hR hS (c_M_takesWord l D cA oc B N a0 4 4 w23 h26) I_M_takesWord m_1252 mp_34 (gRecv hK hR (ci := 12) rfl h27) rfl rfl (Nat.le_of_ble_eq_true rfl) hl.1 ⟨Nat.le_of_ble_eq_true rfl, Nat.le_of_ble_eq_true rfl⟩ ⟨Nat.le_of_ble_eq_true rfl, Nat.le_of_ble_eq_true rfl⟩ d_M_takesHead_56) hS (fun H locs hR hS => ?_)
    have ⟨h28, hf⟩ := gd_e hf
    exact g_iret hx hb hr hlocks hR hS hf (nb01 h28) d_M_takesHead_59
  have hf := cd_f hc17 hf
  refine lv_lookup (off := 56) (tgt := 60) hx hb d_M_takesHead_4 (by decide) ((lv_osw hc5 rfl).trans ((lv_osw hc17 rfl).trans (rfl))) (by decide) ?_
  refine lv_aload_n hx hb d_M_takesHead_60 rfl (lv_at hl 0 rfl) ?_
  have ⟨h29, hf⟩ := gd_e hf
  have ⟨x30, h31, hf⟩ := rr_e hf
  refine g_getR hx hb hts hown hK hR fl_M_56 (fun _ => rfl) h29 h31 d_M_takesHead_61 ?_
  refine lv_iload_n hx hb d_M_takesHead_64 rfl (lv_at hl 1 rfl) ?_
  refine lv_iconst (v := 2) hx hb d_M_takesHead_65 (by decide) ?_
  have ⟨h32, hf⟩ := gd_e hf
  have ⟨h33, hf⟩ := gd_e hf
  refine g_iast hx hb hK hR hS h32 h33 d_M_takesHead_66 (fun H locs hR hS => ?_)
  refine g_nW hf hR (fun w34 hf hR => ?_)
  refine lv_aload_n hx hb d_M_takesHead_67 rfl (lv_at hl 0 rfl) ?_
  refine lv_bipush (v := 8) hx hb d_M_takesHead_68 (by decide) ?_
  refine lv_iconst (v := 4) hx hb d_M_takesHead_70 (by decide) ?_
  have ⟨h38, hf⟩ := gd_e hf
  have ⟨x35, w36, h37, hf⟩ := kl_e hf
  refine g_ki0 (g_rV (As := [.int 8, .int 4]) (rest := []) hx hb hml hown hts hK hR hS (c_M_takesWord l D cA oc B N a0 8 4 w34 h37) I_M_takesWord m_1252 mp_34 (gRecv hK hR (ci := 12) rfl h38) rfl rfl (Nat.le_of_ble_eq_true rfl) hl.1 ⟨Nat.le_of_ble_eq_true rfl, Nat.le_of_ble_eq_true rfl⟩ ⟨Nat.le_of_ble_eq_true rfl, Nat.le_of_ble_eq_true rfl⟩ d_M_takesHead_71) hS (fun H locs hR hS => ?_)
  have ⟨h39, hf⟩ := gd_e hf
  exact g_iret hx hb hr hlocks hR hS hf (nb01 h39) d_M_takesHead_74
theorem c_M_takesHead (l : Launch) (D : va_G) (cA : Nat → ClassId) (oc : gO) (B N : Nat) (a0 : Nat) (a1 : Int32) (w : gW) {wz : gW} {r : Int32} (hf : f_M_takesHead N a0 a1 w = some (r, wz)) : Met l y_M_takesHead (Cond.code y_M_takesHead b_M_takesHead 2 (some .boolean) :: lw_good) ({ frames := 4, cells := 0, slots := 0, locals := 104 } : Room) (gPre D cA oc B [.ref (B + a0), .int a1] w) (gQi D cA B r wz) 0 0 (gA B) := by
  refine Met.ofW (cc := b_M_takesHead) (maxL := 2) (ret := (some .boolean)) (by decide +kernel) rfl ?_
  intro p e s m args below meth c s₁ Bd hml hv
  obtain ⟨hargs, C, hR⟩ := gC.enter (l := l) rfl Bd hml hv
  subst hargs
  have hl := lv_entry ([.ref (B + a0), .int a1]) (n := 2) (Nat.le_of_ble_eq_true rfl)
  rw [lg_entry_eq]
  generalize (lg_sl ([.ref (B + a0), .int a1]) ++ List.replicate (2 - (lg_sl ([.ref (B + a0), .int a1])).length) Slot.unset).toArray = ls at hl ⊢
  have hl : lv_has ls 2 [(0, .ref (B + a0)), (1, .int a1)] := hl
  exact c_M_takesHead_b0 C a0 a1 w (lv_sub hl [0, 1] rfl) hf hR va_S.rf
theorem d_M_takesClause_0 : decode b_M_takesClause 0 = .ok (.aload_n 0, 1) := by decide +kernel
theorem d_M_takesClause_1 : decode b_M_takesClause 1 = .ok (.iload_n 1, 1) := by decide +kernel
theorem d_M_takesClause_2 : decode b_M_takesClause 2 = .ok (.invokevirtual 276, 3) := by decide +kernel
theorem d_M_takesClause_5 : decode b_M_takesClause 5 = .ok (.ifCond .eq 10, 3) := by decide +kernel
theorem d_M_takesClause_8 : decode b_M_takesClause 8 = .ok (.aload_n 0, 1) := by decide +kernel
theorem d_M_takesClause_9 : decode b_M_takesClause 9 = .ok (.invokevirtual 260, 3) := by decide +kernel
theorem d_M_takesClause_12 : decode b_M_takesClause 12 = .ok (.ifCond .ne 5, 3) := by decide +kernel
theorem d_M_takesClause_15 : decode b_M_takesClause 15 = .ok (.iconst 0, 1) := by decide +kernel
theorem d_M_takesClause_16 : decode b_M_takesClause 16 = .ok (.ireturn, 1) := by decide +kernel
theorem d_M_takesClause_17 : decode b_M_takesClause 17 = .ok (.aload_n 0, 1) := by decide +kernel
theorem d_M_takesClause_18 : decode b_M_takesClause 18 = .ok (.getfield 59, 3) := by decide +kernel
theorem d_M_takesClause_21 : decode b_M_takesClause 21 = .ok (.iload_n 1, 1) := by decide +kernel
theorem d_M_takesClause_22 : decode b_M_takesClause 22 = .ok (.aload_n 0, 1) := by decide +kernel
theorem d_M_takesClause_23 : decode b_M_takesClause 23 = .ok (.getfield 47, 3) := by decide +kernel
theorem d_M_takesClause_26 : decode b_M_takesClause 26 = .ok (.iastore, 1) := by decide +kernel
theorem d_M_takesClause_27 : decode b_M_takesClause 27 = .ok (.aload_n 0, 1) := by decide +kernel
theorem d_M_takesClause_28 : decode b_M_takesClause 28 = .ok (.getfield 56, 3) := by decide +kernel
theorem d_M_takesClause_31 : decode b_M_takesClause 31 = .ok (.iload_n 1, 1) := by decide +kernel
theorem d_M_takesClause_32 : decode b_M_takesClause 32 = .ok (.iaload, 1) := by decide +kernel
theorem d_M_takesClause_33 : decode b_M_takesClause 33 = .ok (.iconst 2, 1) := by decide +kernel
theorem d_M_takesClause_34 : decode b_M_takesClause 34 = .ok (.if_icmp .eq 20, 3) := by decide +kernel
theorem d_M_takesClause_37 : decode b_M_takesClause 37 = .ok (.aload_n 0, 1) := by decide +kernel
theorem d_M_takesClause_38 : decode b_M_takesClause 38 = .ok (.bipush 32, 2) := by decide +kernel
theorem d_M_takesClause_40 : decode b_M_takesClause 40 = .ok (.invokevirtual 245, 3) := by decide +kernel
theorem d_M_takesClause_43 : decode b_M_takesClause 43 = .ok (.ifCond .eq 15, 3) := by decide +kernel
theorem d_M_takesClause_46 : decode b_M_takesClause 46 = .ok (.aload_n 0, 1) := by decide +kernel
theorem d_M_takesClause_47 : decode b_M_takesClause 47 = .ok (.iload_n 1, 1) := by decide +kernel
theorem d_M_takesClause_48 : decode b_M_takesClause 48 = .ok (.invokevirtual 279, 3) := by decide +kernel
theorem d_M_takesClause_51 : decode b_M_takesClause 51 = .ok (.ifCond .eq 7, 3) := by decide +kernel
theorem d_M_takesClause_54 : decode b_M_takesClause 54 = .ok (.iconst 1, 1) := by decide +kernel
theorem d_M_takesClause_55 : decode b_M_takesClause 55 = .ok (.goto 4, 3) := by decide +kernel
theorem d_M_takesClause_58 : decode b_M_takesClause 58 = .ok (.iconst 0, 1) := by decide +kernel
theorem d_M_takesClause_59 : decode b_M_takesClause 59 = .ok (.ireturn, 1) := by decide +kernel
set_option maxRecDepth 20000 in
theorem c_M_takesClause_b0 {r : Int32} {wz : gW} (C : gC p s m args meth c "RidCoppersModel" b_M_takesClause 2 (some .boolean) D cA oc B) (a0 : Nat) (a1 : Int32) (w : gW) {ls : Array Slot} {H : Heap} {locs : List Loc} (hl : lv_has ls 2 [(0, .ref (B + a0)), (1, .int a1)]) (hf : f_M_takesClause_b0 N a0 a1 w = some (r, wz)) (hR : gRep D cA B w H) (hS : va_S (gA B) s.heap H locs) : W p l e ({ frames := 6, cells := 0, slots := 0, locals := 149 } : Room) s m args below meth c H locs 0 0 (MQ below (gQi D cA B r wz) args s 0 0 (gA B)) (F0 m 0 ls []) := by
  obtain ⟨hx, hb, hml, hown, hts, hr, hlocks, hK, hBs⟩ := id C
  unfold f_M_takesClause_b0 at hf
  refine lv_aload_n hx hb d_M_takesClause_0 rfl (lv_at hl 0 rfl) ?_
  refine lv_iload_n hx hb d_M_takesClause_1 rfl (lv_at hl 1 rfl) ?_
  have ⟨h4, hf⟩ := gd_e hf
  have ⟨x1, w2, h3, hf⟩ := kl_e hf
  refine g_ki0 (g_rV (As := [.int a1]) (rest := []) hx hb hml hown hts hK hR hS (c_M_takesHead l D cA oc B N a0 a1 w h3) I_M_takesHead m_1244 mp_32 (gRecv hK hR (ci := 12) rfl h4) rfl rfl (Nat.le_of_ble_eq_true rfl) hl.1 ⟨Nat.le_of_ble_eq_true rfl, Nat.le_of_ble_eq_true rfl⟩ ⟨Nat.le_of_ble_eq_true rfl, Nat.le_of_ble_eq_true rfl⟩ d_M_takesClause_2) hS (fun H locs hR hS => ?_)
  refine lv_if_eq (tgt := 15) hx hb d_M_takesClause_5 (by decide) (fun hc => ?_) (fun hc => ?_)
  · have hf := cd_t hc hf
    refine lv_iconst (v := 0) hx hb d_M_takesClause_15 (by decide) ?_
    exact g_iret hx hb hr hlocks hR hS hf rfl d_M_takesClause_16
  have hf := cd_f hc hf
  refine lv_aload_n hx hb d_M_takesClause_8 rfl (lv_at hl 0 rfl) ?_
  have ⟨h8, hf⟩ := gd_e hf
  have ⟨x5, w6, h7, hf⟩ := kl_e hf
  refine g_ki0 (g_rV (As := []) (rest := []) hx hb hml hown hts hK hR hS (c_M_takesNumber l D cA oc B N a0 w2 h7) I_M_takesNumber m_1260 mp_36 (gRecv hK hR (ci := 12) rfl h8) rfl rfl (Nat.le_of_ble_eq_true rfl) hl.1 ⟨Nat.le_of_ble_eq_true rfl, Nat.le_of_ble_eq_true rfl⟩ ⟨Nat.le_of_ble_eq_true rfl, Nat.le_of_ble_eq_true rfl⟩ d_M_takesClause_9) hS (fun H locs hR hS => ?_)
  refine lv_if_ne (tgt := 17) hx hb d_M_takesClause_12 (by decide) (fun hc => ?_) (fun hc => ?_)
  · have hf := cd_f hc hf
    refine lv_aload_n hx hb d_M_takesClause_17 rfl (lv_at hl 0 rfl) ?_
    have ⟨h9, hf⟩ := gd_e hf
    have ⟨x10, h11, hf⟩ := rr_e hf
    refine g_getR hx hb hts hown hK hR fl_M_59 (fun _ => rfl) h9 h11 d_M_takesClause_18 ?_
    refine lv_iload_n hx hb d_M_takesClause_21 rfl (lv_at hl 1 rfl) ?_
    refine lv_aload_n hx hb d_M_takesClause_22 rfl (lv_at hl 0 rfl) ?_
    refine g_getI hx hb hts hown hK hR fl_M_47 (fun _ => rfl) h9 d_M_takesClause_23 ?_
    refine g_nI hf (fun x12 hf => ?_)
    have ⟨h13, hf⟩ := gd_e hf
    have ⟨h14, hf⟩ := gd_e hf
    refine g_iast hx hb hK hR hS h13 h14 d_M_takesClause_26 (fun H locs hR hS => ?_)
    refine g_nW hf hR (fun w15 hf hR => ?_)
    refine lv_aload_n hx hb d_M_takesClause_27 rfl (lv_at hl 0 rfl) ?_
    have ⟨h16, hf⟩ := gd_e hf
    have ⟨x17, h18, hf⟩ := rr_e hf
    refine g_getR hx hb hts hown hK hR fl_M_56 (fun _ => rfl) h16 h18 d_M_takesClause_28 ?_
    refine lv_iload_n hx hb d_M_takesClause_31 rfl (lv_at hl 1 rfl) ?_
    have ⟨h19, hf⟩ := gd_e hf
    have ⟨h20, hf⟩ := gd_e hf
    refine g_iald hx hb hK hR h19 h20 d_M_takesClause_32 ?_
    refine g_nI hf (fun x21 hf => ?_)
    refine lv_iconst (v := 2) hx hb d_M_takesClause_33 (by decide) ?_
    refine lv_icmp_eq (tgt := 54) hx hb d_M_takesClause_34 (by decide) (fun hc => ?_) (fun hc => ?_)
    · have hf := cd_t hc hf
      refine lv_iconst (v := 1) hx hb d_M_takesClause_54 (by decide) ?_
      refine lv_goto (tgt := 59) hx hb d_M_takesClause_55 (by decide) ?_
      exact g_iret hx hb hr hlocks hR hS hf rfl d_M_takesClause_59
    have hf := cd_f hc hf
    refine lv_aload_n hx hb d_M_takesClause_37 rfl (lv_at hl 0 rfl) ?_
    refine lv_bipush (v := 32) hx hb d_M_takesClause_38 (by decide) ?_
    have ⟨x22, w23, h24, hf⟩ := kl_e hf
    refine g_ki0 (g_rV (As := [.int 32]) (rest := []) hx hb hml hown hts hK hR hS (c_M_takes l D cA oc B N a0 32 w15 h24) I_M_takes m_1256 mp_35 (gRecv hK hR (ci := 12) rfl h16) rfl rfl (Nat.le_of_ble_eq_true rfl) hl.1 ⟨Nat.le_of_ble_eq_true rfl, Nat.le_of_ble_eq_true rfl⟩ ⟨Nat.le_of_ble_eq_true rfl, Nat.le_of_ble_eq_true rfl⟩ d_M_takesClause_40) hS (fun H locs hR hS => ?_)
    refine lv_if_eq (tgt := 58) hx hb d_M_takesClause_43 (by decide) (fun hc => ?_) (fun hc => ?_)
    · have hf := cd_t hc hf
      refine lv_iconst (v := 0) hx hb d_M_takesClause_58 (by decide) ?_
      exact g_iret hx hb hr hlocks hR hS hf rfl d_M_takesClause_59
    have hf := cd_f hc hf
    refine lv_aload_n hx hb d_M_takesClause_46 rfl (lv_at hl 0 rfl) ?_
    refine lv_iload_n hx hb d_M_takesClause_47 rfl (lv_at hl 1 rfl) ?_
    have ⟨h28, hf⟩ := gd_e hf
    have ⟨x25, w26, h27, hf⟩ := kl_e hf
    refine g_ki0 (g_rV (As := [.int a1]) (rest := []) hx hb hml hown hts hK hR hS (c_M_takesE l D cA oc B N a0 a1 w23 h27) I_M_takesE m_1268 mp_38 (gRecv hK hR (ci := 12) rfl h28) rfl rfl (Nat.le_of_ble_eq_true rfl) hl.1 ⟨Nat.le_of_ble_eq_true rfl, Nat.le_of_ble_eq_true rfl⟩ ⟨Nat.le_of_ble_eq_true rfl, Nat.le_of_ble_eq_true rfl⟩ d_M_takesClause_48) hS (fun H locs hR hS => ?_)
    refine lv_if_eq (tgt := 58) hx hb d_M_takesClause_51 (by decide) (fun hc => ?_) (fun hc => ?_)
    · have hf := cd_t hc hf
      refine lv_iconst (v := 0) hx hb d_M_takesClause_58 (by decide) ?_
      exact g_iret hx hb hr hlocks hR hS hf rfl d_M_takesClause_59
    have hf := cd_f hc hf
    refine lv_iconst (v := 1) hx hb d_M_takesClause_54 (by decide) ?_
    refine lv_goto (tgt := 59) hx hb d_M_takesClause_55 (by decide) ?_
    exact g_iret hx hb hr hlocks hR hS hf rfl d_M_takesClause_59
  have hf := cd_t hc hf
  refine lv_iconst (v := 0) hx hb d_M_takesClause_15 (by decide) ?_
  exact g_iret hx hb hr hlocks hR hS hf rfl d_M_takesClause_16
theorem c_M_takesClause (l : Launch) (D : va_G) (cA : Nat → ClassId) (oc : gO) (B N : Nat) (a0 : Nat) (a1 : Int32) (w : gW) {wz : gW} {r : Int32} (hf : f_M_takesClause N a0 a1 w = some (r, wz)) : Met l y_M_takesClause (Cond.code y_M_takesClause b_M_takesClause 2 (some .boolean) :: lw_good) ({ frames := 6, cells := 0, slots := 0, locals := 149 } : Room) (gPre D cA oc B [.ref (B + a0), .int a1] w) (gQi D cA B r wz) 0 0 (gA B) := by
  refine Met.ofW (cc := b_M_takesClause) (maxL := 2) (ret := (some .boolean)) (by decide +kernel) rfl ?_
  intro p e s m args below meth c s₁ Bd hml hv
  obtain ⟨hargs, C, hR⟩ := gC.enter (l := l) rfl Bd hml hv
  subst hargs
  have hl := lv_entry ([.ref (B + a0), .int a1]) (n := 2) (Nat.le_of_ble_eq_true rfl)
  rw [lg_entry_eq]
  generalize (lg_sl ([.ref (B + a0), .int a1]) ++ List.replicate (2 - (lg_sl ([.ref (B + a0), .int a1])).length) Slot.unset).toArray = ls at hl ⊢
  have hl : lv_has ls 2 [(0, .ref (B + a0)), (1, .int a1)] := hl
  exact c_M_takesClause_b0 C a0 a1 w (lv_sub hl [0, 1] rfl) hf hR va_S.rf
theorem d_M_goesText_0 : decode b_M_goesText 0 = .ok (.aload_n 0, 1) := by decide +kernel
theorem d_M_goesText_1 : decode b_M_goesText 1 = .ok (.iconst 0, 1) := by decide +kernel
theorem d_M_goesText_2 : decode b_M_goesText 2 = .ok (.putfield 44, 3) := by decide +kernel
theorem d_M_goesText_5 : decode b_M_goesText 5 = .ok (.aload_n 0, 1) := by decide +kernel
theorem d_M_goesText_6 : decode b_M_goesText 6 = .ok (.bipush 100, 2) := by decide +kernel
theorem d_M_goesText_8 : decode b_M_goesText 8 = .ok (.iload_n 1, 1) := by decide +kernel
theorem d_M_goesText_9 : decode b_M_goesText 9 = .ok (.imul, 1) := by decide +kernel
theorem d_M_goesText_10 : decode b_M_goesText 10 = .ok (.putfield 74, 3) := by decide +kernel
theorem d_M_goesText_13 : decode b_M_goesText 13 = .ok (.iconst 0, 1) := by decide +kernel
theorem d_M_goesText_14 : decode b_M_goesText 14 = .ok (.istore_n 2, 1) := by decide +kernel
theorem d_M_goesText_15 : decode b_M_goesText 15 = .ok (.aload_n 0, 1) := by decide +kernel
theorem d_M_goesText_16 : decode b_M_goesText 16 = .ok (.bipush 10, 2) := by decide +kernel
theorem d_M_goesText_18 : decode b_M_goesText 18 = .ok (.iload_n 1, 1) := by decide +kernel
theorem d_M_goesText_19 : decode b_M_goesText 19 = .ok (.imul, 1) := by decide +kernel
theorem d_M_goesText_20 : decode b_M_goesText 20 = .ok (.iload_n 2, 1) := by decide +kernel
theorem d_M_goesText_21 : decode b_M_goesText 21 = .ok (.iadd, 1) := by decide +kernel
theorem d_M_goesText_22 : decode b_M_goesText 22 = .ok (.invokevirtual 282, 3) := by decide +kernel
theorem d_M_goesText_25 : decode b_M_goesText 25 = .ok (.ifCond .ne 5, 3) := by decide +kernel
theorem d_M_goesText_28 : decode b_M_goesText 28 = .ok (.iconst 0, 1) := by decide +kernel
theorem d_M_goesText_29 : decode b_M_goesText 29 = .ok (.ireturn, 1) := by decide +kernel
theorem d_M_goesText_30 : decode b_M_goesText 30 = .ok (.iinc 2 1, 3) := by decide +kernel
theorem d_M_goesText_33 : decode b_M_goesText 33 = .ok (.aload_n 0, 1) := by decide +kernel
theorem d_M_goesText_34 : decode b_M_goesText 34 = .ok (.getfield 53, 3) := by decide +kernel
theorem d_M_goesText_37 : decode b_M_goesText 37 = .ok (.iload_n 1, 1) := by decide +kernel
theorem d_M_goesText_38 : decode b_M_goesText 38 = .ok (.iload_n 2, 1) := by decide +kernel
theorem d_M_goesText_39 : decode b_M_goesText 39 = .ok (.iastore, 1) := by decide +kernel
theorem d_M_goesText_40 : decode b_M_goesText 40 = .ok (.aload_n 0, 1) := by decide +kernel
theorem d_M_goesText_41 : decode b_M_goesText 41 = .ok (.getfield 44, 3) := by decide +kernel
theorem d_M_goesText_44 : decode b_M_goesText 44 = .ok (.aload_n 0, 1) := by decide +kernel
theorem d_M_goesText_45 : decode b_M_goesText 45 = .ok (.getfield 41, 3) := by decide +kernel
theorem d_M_goesText_48 : decode b_M_goesText 48 = .ok (.if_icmp .ne 5, 3) := by decide +kernel
theorem d_M_goesText_51 : decode b_M_goesText 51 = .ok (.iconst 1, 1) := by decide +kernel
theorem d_M_goesText_52 : decode b_M_goesText 52 = .ok (.ireturn, 1) := by decide +kernel
theorem d_M_goesText_53 : decode b_M_goesText 53 = .ok (.iload_n 2, 1) := by decide +kernel
theorem d_M_goesText_54 : decode b_M_goesText 54 = .ok (.bipush 10, 2) := by decide +kernel
theorem d_M_goesText_56 : decode b_M_goesText 56 = .ok (.if_icmp .eq 12, 3) := by decide +kernel
theorem d_M_goesText_59 : decode b_M_goesText 59 = .ok (.aload_n 0, 1) := by decide +kernel
theorem d_M_goesText_60 : decode b_M_goesText 60 = .ok (.bipush 59, 2) := by decide +kernel
theorem d_M_goesText_62 : decode b_M_goesText 62 = .ok (.invokevirtual 245, 3) := by decide +kernel
theorem d_M_goesText_65 : decode b_M_goesText 65 = .ok (.ifCond .ne (-50), 3) := by decide +kernel
theorem d_M_goesText_68 : decode b_M_goesText 68 = .ok (.iconst 0, 1) := by decide +kernel
theorem d_M_goesText_69 : decode b_M_goesText 69 = .ok (.ireturn, 1) := by decide +kernel
set_option maxRecDepth 20000 in
theorem c_M_goesText_b15 {r : Int32} {wz : gW} {rec15 : Nat × Int32 × Int32 × gW → Option (Int32 × gW)} (ih15 : ∀ (a0 : Nat) (a1 : Int32) (a2 : Int32) (w : gW) (ls : Array Slot) (H : Heap) (locs : List Loc), rec15 (a0, a1, a2, w) = some (r, wz) → lv_has ls 3 [(0, .ref (B + a0)), (1, .int a1), (2, .int a2)] → gRep D cA B w H → va_S (gA B) s.heap H locs → W p l e ({ frames := 7, cells := 0, slots := 0, locals := 170 } : Room) s m args below meth c H locs 0 0 (MQ below (gQi D cA B r wz) args s 0 0 (gA B)) (F0 m 15 ls [])) (C : gC p s m args meth c "RidCoppersModel" b_M_goesText 3 (some .boolean) D cA oc B) (a0 : Nat) (a1 : Int32) (a2 : Int32) (w : gW) {ls : Array Slot} {H : Heap} {locs : List Loc} (hl : lv_has ls 3 [(0, .ref (B + a0)), (1, .int a1), (2, .int a2)]) (hf : f_M_goesText_b15 N rec15 a0 a1 a2 w = some (r, wz)) (hR : gRep D cA B w H) (hS : va_S (gA B) s.heap H locs) : W p l e ({ frames := 7, cells := 0, slots := 0, locals := 170 } : Room) s m args below meth c H locs 0 0 (MQ below (gQi D cA B r wz) args s 0 0 (gA B)) (F0 m 15 ls []) := by
  obtain ⟨hx, hb, hml, hown, hts, hr, hlocks, hK, hBs⟩ := id C
  unfold f_M_goesText_b15 at hf
  refine lv_aload_n hx hb d_M_goesText_15 rfl (lv_at hl 0 rfl) ?_
  refine lv_bipush (v := 10) hx hb d_M_goesText_16 (by decide) ?_
  refine lv_iload_n hx hb d_M_goesText_18 rfl (lv_at hl 1 rfl) ?_
  refine lv_imul hx hb d_M_goesText_19 ?_
  refine g_nI hf (fun x6 hf => ?_)
  refine lv_iload_n hx hb d_M_goesText_20 rfl (lv_at hl 2 rfl) ?_
  refine lv_iadd hx hb d_M_goesText_21 ?_
  refine g_nI hf (fun x7 hf => ?_)
  have ⟨h11, hf⟩ := gd_e hf
  have ⟨x8, w9, h10, hf⟩ := kl_e hf
  refine g_ki0 (g_rV (As := [.int x7]) (rest := []) hx hb hml hown hts hK hR hS (c_M_takesClause l D cA oc B N a0 x7 w h10) I_M_takesClause m_1240 mp_31 (gRecv hK hR (ci := 12) rfl h11) rfl rfl (Nat.le_of_ble_eq_true rfl) hl.1 ⟨Nat.le_of_ble_eq_true rfl, Nat.le_of_ble_eq_true rfl⟩ ⟨Nat.le_of_ble_eq_true rfl, Nat.le_of_ble_eq_true rfl⟩ d_M_goesText_22) hS (fun H locs hR hS => ?_)
  refine lv_if_ne (tgt := 30) hx hb d_M_goesText_25 (by decide) (fun hc => ?_) (fun hc => ?_)
  · have hf := cd_f hc hf
    refine g_iinc (lv' := fun x12 => [(2, .int x12), (0, .ref (B + a0)), (1, .int a1)]) hf hx hb d_M_goesText_30 hl (k := 2) rfl (by decide) (by decide) (fun _ => rfl) (fun x12 ls hf hl => ?_)
    refine lv_aload_n hx hb d_M_goesText_33 rfl (lv_at hl 1 rfl) ?_
    have ⟨h13, hf⟩ := gd_e hf
    have ⟨x14, h15, hf⟩ := rr_e hf
    refine g_getR hx hb hts hown hK hR fl_M_53 (fun _ => rfl) h13 h15 d_M_goesText_34 ?_
    refine lv_iload_n hx hb d_M_goesText_37 rfl (lv_at hl 2 rfl) ?_
    refine lv_iload_n hx hb d_M_goesText_38 rfl (lv_at hl 0 rfl) ?_
    have ⟨h16, hf⟩ := gd_e hf
    have ⟨h17, hf⟩ := gd_e hf
    refine g_iast hx hb hK hR hS h16 h17 d_M_goesText_39 (fun H locs hR hS => ?_)
    refine g_nW hf hR (fun w18 hf hR => ?_)
    refine lv_aload_n hx hb d_M_goesText_40 rfl (lv_at hl 1 rfl) ?_
    have ⟨h19, hf⟩ := gd_e hf
    refine g_getI hx hb hts hown hK hR fl_M_44 (fun _ => rfl) h19 d_M_goesText_41 ?_
    refine g_nI hf (fun x20 hf => ?_)
    refine lv_aload_n hx hb d_M_goesText_44 rfl (lv_at hl 1 rfl) ?_
    refine g_getI hx hb hts hown hK hR fl_M_41 (fun _ => rfl) h19 d_M_goesText_45 ?_
    refine g_nI hf (fun x21 hf => ?_)
    refine lv_icmp_ne (tgt := 53) hx hb d_M_goesText_48 (by decide) (fun hc => ?_) (fun hc => ?_)
    · have hf := cd_f hc hf
      refine lv_iload_n hx hb d_M_goesText_53 rfl (lv_at hl 0 rfl) ?_
      refine lv_bipush (v := 10) hx hb d_M_goesText_54 (by decide) ?_
      refine lv_icmp_eq (tgt := 68) hx hb d_M_goesText_56 (by decide) (fun hc => ?_) (fun hc => ?_)
      · have hf := cd_t hc hf
        refine lv_iconst (v := 0) hx hb d_M_goesText_68 (by decide) ?_
        exact g_iret hx hb hr hlocks hR hS hf rfl d_M_goesText_69
      have hf := cd_f hc hf
      refine lv_aload_n hx hb d_M_goesText_59 rfl (lv_at hl 1 rfl) ?_
      refine lv_bipush (v := 59) hx hb d_M_goesText_60 (by decide) ?_
      have ⟨x22, w23, h24, hf⟩ := kl_e hf
      refine g_ki0 (g_rV (As := [.int 59]) (rest := []) hx hb hml hown hts hK hR hS (c_M_takes l D cA oc B N a0 59 w18 h24) I_M_takes m_1256 mp_35 (gRecv hK hR (ci := 12) rfl h19) rfl rfl (Nat.le_of_ble_eq_true rfl) hl.1 ⟨Nat.le_of_ble_eq_true rfl, Nat.le_of_ble_eq_true rfl⟩ ⟨Nat.le_of_ble_eq_true rfl, Nat.le_of_ble_eq_true rfl⟩ d_M_goesText_62) hS (fun H locs hR hS => ?_)
      refine lv_if_ne (tgt := 15) hx hb d_M_goesText_65 (by decide) (fun hc => ?_) (fun hc => ?_)
      · have hf := cd_f hc hf
        exact ih15 a0 a1 x12 w23 _ _ _ hf (lv_sub hl [1, 2, 0] rfl) hR hS
      have hf := cd_t hc hf
      refine lv_iconst (v := 0) hx hb d_M_goesText_68 (by decide) ?_
      exact g_iret hx hb hr hlocks hR hS hf rfl d_M_goesText_69
    have hf := cd_t hc hf
    refine lv_iconst (v := 1) hx hb d_M_goesText_51 (by decide) ?_
    exact g_iret hx hb hr hlocks hR hS hf rfl d_M_goesText_52
  have hf := cd_t hc hf
  refine lv_iconst (v := 0) hx hb d_M_goesText_28 (by decide) ?_
  exact g_iret hx hb hr hlocks hR hS hf rfl d_M_goesText_29
theorem c_M_goesText_l15 {r : Int32} {wz : gW} (C : gC p s m args meth c "RidCoppersModel" b_M_goesText 3 (some .boolean) D cA oc B) (a0 : Nat) (a1 : Int32) (a2 : Int32) (w : gW) {ls : Array Slot} {H : Heap} {locs : List Loc} (hl : lv_has ls 3 [(0, .ref (B + a0)), (1, .int a1), (2, .int a2)]) (hf : f_M_goesText_l15 N a0 a1 a2 w = some (r, wz)) (hR : gRep D cA B w H) (hS : va_S (gA B) s.heap H locs) : W p l e ({ frames := 7, cells := 0, slots := 0, locals := 170 } : Room) s m args below meth c H locs 0 0 (MQ below (gQi D cA B r wz) args s 0 0 (gA B)) (F0 m 15 ls []) := by
  unfold f_M_goesText_l15 at hf
  suffices hh : ∀ n : Nat, ∀ (a0 : Nat) (a1 : Int32) (a2 : Int32) (w : gW) (ls : Array Slot) (H : Heap) (locs : List Loc), itr (fun rec (q : Nat × Int32 × Int32 × gW) => f_M_goesText_b15 N rec q.1 q.2.1 q.2.2.1 q.2.2.2) n (a0, a1, a2, w) = some (r, wz) → lv_has ls 3 [(0, .ref (B + a0)), (1, .int a1), (2, .int a2)] → gRep D cA B w H → va_S (gA B) s.heap H locs → W p l e ({ frames := 7, cells := 0, slots := 0, locals := 170 } : Room) s m args below meth c H locs 0 0 (MQ below (gQi D cA B r wz) args s 0 0 (gA B)) (F0 m 15 ls []) from hh N a0 a1 a2 w ls H locs hf hl hR hS
  intro n
  induction n with
  | zero => intro a0 a1 a2 w ls H locs hf; cases hf
  | succ n ihn =>
    intro a0 a1 a2 w ls H locs hf hl hR hS
    exact c_M_goesText_b15 (N := N) ihn C a0 a1 a2 w hl ((itr_s _ _ _).symm.trans hf) hR hS
set_option maxRecDepth 20000 in
theorem c_M_goesText_b0 {r : Int32} {wz : gW} (C : gC p s m args meth c "RidCoppersModel" b_M_goesText 3 (some .boolean) D cA oc B) (a0 : Nat) (a1 : Int32) (w : gW) {ls : Array Slot} {H : Heap} {locs : List Loc} (hl : lv_has ls 3 [(0, .ref (B + a0)), (1, .int a1)]) (hf : f_M_goesText_b0 N a0 a1 w = some (r, wz)) (hR : gRep D cA B w H) (hS : va_S (gA B) s.heap H locs) : W p l e ({ frames := 7, cells := 0, slots := 0, locals := 170 } : Room) s m args below meth c H locs 0 0 (MQ below (gQi D cA B r wz) args s 0 0 (gA B)) (F0 m 0 ls []) := by
  obtain ⟨hx, hb, hml, hown, hts, hr, hlocks, hK, hBs⟩ := id C
  unfold f_M_goesText_b0 at hf
  refine lv_aload_n hx hb d_M_goesText_0 rfl (lv_at hl 0 rfl) ?_
  refine lv_iconst (v := 0) hx hb d_M_goesText_1 (by decide) ?_
  have ⟨h1, hf⟩ := gd_e hf
  refine g_putI hx hb hts hown hK hR hS pf_M_44 (fun _ => rfl) rfl rfl h1 d_M_goesText_2 (fun H locs hR hS => ?_)
  refine g_nW hf hR (fun w2 hf hR => ?_)
  refine lv_aload_n hx hb d_M_goesText_5 rfl (lv_at hl 0 rfl) ?_
  refine lv_bipush (v := 100) hx hb d_M_goesText_6 (by decide) ?_
  refine lv_iload_n hx hb d_M_goesText_8 rfl (lv_at hl 1 rfl) ?_
  refine lv_imul hx hb d_M_goesText_9 ?_
  refine g_nI hf (fun x3 hf => ?_)
  have ⟨h4, hf⟩ := gd_e hf
  refine g_putI hx hb hts hown hK hR hS pf_M_74 (fun _ => rfl) rfl rfl h4 d_M_goesText_10 (fun H locs hR hS => ?_)
  refine g_nW hf hR (fun w5 hf hR => ?_)
  refine lv_iconst (v := 0) hx hb d_M_goesText_13 (by decide) ?_
  refine lv_istore_n (lv' := [(2, .int 0), (0, .ref (B + a0)), (1, .int a1)]) hx hb d_M_goesText_14 rfl hl (by decide) rfl (fun ls hl => ?_)
  exact c_M_goesText_l15 C a0 a1 0 w5 (lv_sub hl [1, 2, 0] rfl) hf hR hS
theorem c_M_goesText (l : Launch) (D : va_G) (cA : Nat → ClassId) (oc : gO) (B N : Nat) (a0 : Nat) (a1 : Int32) (w : gW) {wz : gW} {r : Int32} (hf : f_M_goesText N a0 a1 w = some (r, wz)) : Met l y_M_goesText (Cond.code y_M_goesText b_M_goesText 3 (some .boolean) :: lw_good) ({ frames := 7, cells := 0, slots := 0, locals := 170 } : Room) (gPre D cA oc B [.ref (B + a0), .int a1] w) (gQi D cA B r wz) 0 0 (gA B) := by
  refine Met.ofW (cc := b_M_goesText) (maxL := 3) (ret := (some .boolean)) (by decide +kernel) rfl ?_
  intro p e s m args below meth c s₁ Bd hml hv
  obtain ⟨hargs, C, hR⟩ := gC.enter (l := l) rfl Bd hml hv
  subst hargs
  have hl := lv_entry ([.ref (B + a0), .int a1]) (n := 3) (Nat.le_of_ble_eq_true rfl)
  rw [lg_entry_eq]
  generalize (lg_sl ([.ref (B + a0), .int a1]) ++ List.replicate (3 - (lg_sl ([.ref (B + a0), .int a1])).length) Slot.unset).toArray = ls at hl ⊢
  have hl : lv_has ls 3 [(0, .ref (B + a0)), (1, .int a1)] := hl
  exact c_M_goesText_b0 C a0 a1 w (lv_sub hl [0, 1] rfl) hf hR va_S.rf
theorem d_M_town_0 : decode b_M_town 0 = .ok (.aload_n 0, 1) := by decide +kernel
theorem d_M_town_1 : decode b_M_town 1 = .ok (.getfield 35, 3) := by decide +kernel
theorem d_M_town_4 : decode b_M_town 4 = .ok (.bipush 6, 2) := by decide +kernel
theorem d_M_town_6 : decode b_M_town 6 = .ok (.if_icmp .ne 6, 3) := by decide +kernel
theorem d_M_town_9 : decode b_M_town 9 = .ok (.bipush (-4), 2) := by decide +kernel
theorem d_M_town_11 : decode b_M_town 11 = .ok (.ireturn, 1) := by decide +kernel
theorem d_M_town_12 : decode b_M_town 12 = .ok (.aload_n 0, 1) := by decide +kernel
theorem d_M_town_13 : decode b_M_town 13 = .ok (.aload_n 0, 1) := by decide +kernel
theorem d_M_town_14 : decode b_M_town 14 = .ok (.getfield 35, 3) := by decide +kernel
theorem d_M_town_17 : decode b_M_town 17 = .ok (.invokevirtual 285, 3) := by decide +kernel
theorem d_M_town_20 : decode b_M_town 20 = .ok (.istore_n 1, 1) := by decide +kernel
theorem d_M_town_21 : decode b_M_town 21 = .ok (.aload_n 0, 1) := by decide +kernel
theorem d_M_town_22 : decode b_M_town 22 = .ok (.iconst 0, 1) := by decide +kernel
theorem d_M_town_23 : decode b_M_town 23 = .ok (.putfield 41, 3) := by decide +kernel
theorem d_M_town_26 : decode b_M_town 26 = .ok (.iload_n 1, 1) := by decide +kernel
theorem d_M_town_27 : decode b_M_town 27 = .ok (.ifCond .ne 11, 3) := by decide +kernel
theorem d_M_town_30 : decode b_M_town 30 = .ok (.bipush (-10), 2) := by decide +kernel
theorem d_M_town_32 : decode b_M_town 32 = .ok (.aload_n 0, 1) := by decide +kernel
theorem d_M_town_33 : decode b_M_town 33 = .ok (.getfield 44, 3) := by decide +kernel
theorem d_M_town_36 : decode b_M_town 36 = .ok (.isub, 1) := by decide +kernel
theorem d_M_town_37 : decode b_M_town 37 = .ok (.ireturn, 1) := by decide +kernel
theorem d_M_town_38 : decode b_M_town 38 = .ok (.aload_n 0, 1) := by decide +kernel
theorem d_M_town_39 : decode b_M_town 39 = .ok (.aload_n 0, 1) := by decide +kernel
theorem d_M_town_40 : decode b_M_town 40 = .ok (.getfield 35, 3) := by decide +kernel
theorem d_M_town_43 : decode b_M_town 43 = .ok (.putfield 38, 3) := by decide +kernel
theorem d_M_town_46 : decode b_M_town 46 = .ok (.aload_n 0, 1) := by decide +kernel
theorem d_M_town_47 : decode b_M_town 47 = .ok (.dup, 1) := by decide +kernel
theorem d_M_town_48 : decode b_M_town 48 = .ok (.getfield 35, 3) := by decide +kernel
theorem d_M_town_51 : decode b_M_town 51 = .ok (.iconst 1, 1) := by decide +kernel
theorem d_M_town_52 : decode b_M_town 52 = .ok (.iadd, 1) := by decide +kernel
theorem d_M_town_53 : decode b_M_town 53 = .ok (.putfield 35, 3) := by decide +kernel
theorem d_M_town_56 : decode b_M_town 56 = .ok (.aload_n 0, 1) := by decide +kernel
theorem d_M_town_57 : decode b_M_town 57 = .ok (.getfield 38, 3) := by decide +kernel
theorem d_M_town_60 : decode b_M_town 60 = .ok (.ireturn, 1) := by decide +kernel
set_option maxRecDepth 20000 in
theorem c_M_town_b0 {r : Int32} {wz : gW} (C : gC p s m args meth c "RidCoppersModel" b_M_town 2 (some .int) D cA oc B) (a0 : Nat) (w : gW) {ls : Array Slot} {H : Heap} {locs : List Loc} (hl : lv_has ls 2 [(0, .ref (B + a0))]) (hf : f_M_town_b0 N a0 w = some (r, wz)) (hR : gRep D cA B w H) (hS : va_S (gA B) s.heap H locs) : W p l e ({ frames := 8, cells := 0, slots := 0, locals := 192 } : Room) s m args below meth c H locs 0 0 (MQ below (gQi D cA B r wz) args s 0 0 (gA B)) (F0 m 0 ls []) := by
  obtain ⟨hx, hb, hml, hown, hts, hr, hlocks, hK, hBs⟩ := id C
  unfold f_M_town_b0 at hf
  refine lv_aload_n hx hb d_M_town_0 rfl (lv_at hl 0 rfl) ?_
  have ⟨h1, hf⟩ := gd_e hf
  refine g_getI hx hb hts hown hK hR fl_M_35 (fun _ => rfl) h1 d_M_town_1 ?_
  refine g_nI hf (fun x2 hf => ?_)
  refine lv_bipush (v := 6) hx hb d_M_town_4 (by decide) ?_
  refine lv_icmp_ne (tgt := 12) hx hb d_M_town_6 (by decide) (fun hc => ?_) (fun hc => ?_)
  · have hf := cd_f hc hf
    refine lv_aload_n hx hb d_M_town_12 rfl (lv_at hl 0 rfl) ?_
    refine lv_aload_n hx hb d_M_town_13 rfl (lv_at hl 0 rfl) ?_
    refine g_getI hx hb hts hown hK hR fl_M_35 (fun _ => rfl) h1 d_M_town_14 ?_
    refine g_nI hf (fun x3 hf => ?_)
    have ⟨x4, w5, h6, hf⟩ := kl_e hf
    refine g_ki0 (g_rV (As := [.int x3]) (rest := []) hx hb hml hown hts hK hR hS (c_M_goesText l D cA oc B N a0 x3 w h6) I_M_goesText m_1236 mp_30 (gRecv hK hR (ci := 12) rfl h1) rfl rfl (Nat.le_of_ble_eq_true rfl) hl.1 ⟨Nat.le_of_ble_eq_true rfl, Nat.le_of_ble_eq_true rfl⟩ ⟨Nat.le_of_ble_eq_true rfl, Nat.le_of_ble_eq_true rfl⟩ d_M_town_17) hS (fun H locs hR hS => ?_)
    refine lv_istore_n (lv' := [(1, .int x4), (0, .ref (B + a0))]) hx hb d_M_town_20 rfl hl (by decide) rfl (fun ls hl => ?_)
    refine lv_aload_n hx hb d_M_town_21 rfl (lv_at hl 1 rfl) ?_
    refine lv_iconst (v := 0) hx hb d_M_town_22 (by decide) ?_
    have ⟨h7, hf⟩ := gd_e hf
    refine g_putI hx hb hts hown hK hR hS pf_M_41 (fun _ => rfl) rfl rfl h7 d_M_town_23 (fun H locs hR hS => ?_)
    refine g_nW hf hR (fun w8 hf hR => ?_)
    refine lv_iload_n hx hb d_M_town_26 rfl (lv_at hl 0 rfl) ?_
    refine lv_if_ne (tgt := 38) hx hb d_M_town_27 (by decide) (fun hc => ?_) (fun hc => ?_)
    · have hf := cd_f hc hf
      refine lv_aload_n hx hb d_M_town_38 rfl (lv_at hl 1 rfl) ?_
      refine lv_aload_n hx hb d_M_town_39 rfl (lv_at hl 1 rfl) ?_
      have ⟨h9, hf⟩ := gd_e hf
      refine g_getI hx hb hts hown hK hR fl_M_35 (fun _ => rfl) h9 d_M_town_40 ?_
      refine g_nI hf (fun x10 hf => ?_)
      refine g_putI hx hb hts hown hK hR hS pf_M_38 (fun _ => rfl) rfl rfl h9 d_M_town_43 (fun H locs hR hS => ?_)
      refine g_nW hf hR (fun w11 hf hR => ?_)
      refine lv_aload_n hx hb d_M_town_46 rfl (lv_at hl 1 rfl) ?_
      refine lv_dup hx hb d_M_town_47 rfl ?_
      have ⟨h12, hf⟩ := gd_e hf
      refine g_getI hx hb hts hown hK hR fl_M_35 (fun _ => rfl) h12 d_M_town_48 ?_
      refine g_nI hf (fun x13 hf => ?_)
      refine lv_iconst (v := 1) hx hb d_M_town_51 (by decide) ?_
      refine lv_iadd hx hb d_M_town_52 ?_
      refine g_nI hf (fun x14 hf => ?_)
      refine g_putI hx hb hts hown hK hR hS pf_M_35 (fun _ => rfl) rfl rfl h12 d_M_town_53 (fun H locs hR hS => ?_)
      refine g_nW hf hR (fun w15 hf hR => ?_)
      refine lv_aload_n hx hb d_M_town_56 rfl (lv_at hl 1 rfl) ?_
      have ⟨h16, hf⟩ := gd_e hf
      refine g_getI hx hb hts hown hK hR fl_M_38 (fun _ => rfl) h16 d_M_town_57 ?_
      refine g_nI hf (fun x17 hf => ?_)
      exact g_iret hx hb hr hlocks hR hS hf rfl d_M_town_60
    have hf := cd_t hc hf
    refine lv_bipush (v := (-10)) hx hb d_M_town_30 (by decide) ?_
    refine lv_aload_n hx hb d_M_town_32 rfl (lv_at hl 1 rfl) ?_
    have ⟨h18, hf⟩ := gd_e hf
    refine g_getI hx hb hts hown hK hR fl_M_44 (fun _ => rfl) h18 d_M_town_33 ?_
    refine g_nI hf (fun x19 hf => ?_)
    refine lv_isub hx hb d_M_town_36 ?_
    refine g_nI hf (fun x20 hf => ?_)
    exact g_iret hx hb hr hlocks hR hS hf rfl d_M_town_37
  have hf := cd_t hc hf
  refine lv_bipush (v := (-4)) hx hb d_M_town_9 (by decide) ?_
  exact g_iret hx hb hr hlocks hR hS hf rfl d_M_town_11
theorem c_M_town (l : Launch) (D : va_G) (cA : Nat → ClassId) (oc : gO) (B N : Nat) (a0 : Nat) (w : gW) {wz : gW} {r : Int32} (hf : f_M_town N a0 w = some (r, wz)) : Met l y_M_town (Cond.code y_M_town b_M_town 2 (some .int) :: lw_good) ({ frames := 8, cells := 0, slots := 0, locals := 192 } : Room) (gPre D cA oc B [.ref (B + a0)] w) (gQi D cA B r wz) 0 0 (gA B) := by
  refine Met.ofW (cc := b_M_town) (maxL := 2) (ret := (some .int)) (by decide +kernel) rfl ?_
  intro p e s m args below meth c s₁ Bd hml hv
  obtain ⟨hargs, C, hR⟩ := gC.enter (l := l) rfl Bd hml hv
  subst hargs
  have hl := lv_entry ([.ref (B + a0)]) (n := 2) (Nat.le_of_ble_eq_true rfl)
  rw [lg_entry_eq]
  generalize (lg_sl ([.ref (B + a0)]) ++ List.replicate (2 - (lg_sl ([.ref (B + a0)])).length) Slot.unset).toArray = ls at hl ⊢
  have hl : lv_has ls 2 [(0, .ref (B + a0))] := hl
  exact c_M_town_b0 C a0 w (lv_sub hl [0] rfl) hf hR va_S.rf
theorem d_M_begin_0 : decode b_M_begin 0 = .ok (.aload_n 0, 1) := by decide +kernel
theorem d_M_begin_1 : decode b_M_begin 1 = .ok (.getfield 38, 3) := by decide +kernel
theorem d_M_begin_4 : decode b_M_begin 4 = .ok (.ifCond .ge 7, 3) := by decide +kernel
theorem d_M_begin_7 : decode b_M_begin 7 = .ok (.iconst 0, 1) := by decide +kernel
theorem d_M_begin_8 : decode b_M_begin 8 = .ok (.goto 10, 3) := by decide +kernel
theorem d_M_begin_11 : decode b_M_begin 11 = .ok (.bipush 10, 2) := by decide +kernel
theorem d_M_begin_13 : decode b_M_begin 13 = .ok (.aload_n 0, 1) := by decide +kernel
theorem d_M_begin_14 : decode b_M_begin 14 = .ok (.getfield 38, 3) := by decide +kernel
theorem d_M_begin_17 : decode b_M_begin 17 = .ok (.imul, 1) := by decide +kernel
theorem d_M_begin_18 : decode b_M_begin 18 = .ok (.ireturn, 1) := by decide +kernel
set_option maxRecDepth 20000 in
theorem c_M_begin_b0 {r : Int32} {wz : gW} (C : gC p s m args meth c "RidCoppersModel" b_M_begin 1 (some .int) D cA oc B) (a0 : Nat) (w : gW) {ls : Array Slot} {H : Heap} {locs : List Loc} (hl : lv_has ls 1 [(0, .ref (B + a0))]) (hf : f_M_begin_b0 N a0 w = some (r, wz)) (hR : gRep D cA B w H) (hS : va_S (gA B) s.heap H locs) : W p l e ({ frames := 1, cells := 0, slots := 0, locals := 40 } : Room) s m args below meth c H locs 0 0 (MQ below (gQi D cA B r wz) args s 0 0 (gA B)) (F0 m 0 ls []) := by
  obtain ⟨hx, hb, hml, hown, hts, hr, hlocks, hK, hBs⟩ := id C
  unfold f_M_begin_b0 at hf
  refine lv_aload_n hx hb d_M_begin_0 rfl (lv_at hl 0 rfl) ?_
  have ⟨h1, hf⟩ := gd_e hf
  refine g_getI hx hb hts hown hK hR fl_M_38 (fun _ => rfl) h1 d_M_begin_1 ?_
  refine g_nI hf (fun x2 hf => ?_)
  refine lv_if_ge (tgt := 11) hx hb d_M_begin_4 (by decide) (fun hc => ?_) (fun hc => ?_)
  · have hf := cd_t hc hf
    refine lv_bipush (v := 10) hx hb d_M_begin_11 (by decide) ?_
    refine lv_aload_n hx hb d_M_begin_13 rfl (lv_at hl 0 rfl) ?_
    refine g_getI hx hb hts hown hK hR fl_M_38 (fun _ => rfl) h1 d_M_begin_14 ?_
    refine g_nI hf (fun x3 hf => ?_)
    refine lv_imul hx hb d_M_begin_17 ?_
    refine g_nI hf (fun x4 hf => ?_)
    exact g_iret hx hb hr hlocks hR hS hf rfl d_M_begin_18
  have hf := cd_f hc hf
  refine lv_iconst (v := 0) hx hb d_M_begin_7 (by decide) ?_
  refine lv_goto (tgt := 18) hx hb d_M_begin_8 (by decide) ?_
  exact g_iret hx hb hr hlocks hR hS hf rfl d_M_begin_18
theorem c_M_begin (l : Launch) (D : va_G) (cA : Nat → ClassId) (oc : gO) (B N : Nat) (a0 : Nat) (w : gW) {wz : gW} {r : Int32} (hf : f_M_begin N a0 w = some (r, wz)) : Met l y_M_begin (Cond.code y_M_begin b_M_begin 1 (some .int) :: lw_good) ({ frames := 1, cells := 0, slots := 0, locals := 40 } : Room) (gPre D cA oc B [.ref (B + a0)] w) (gQi D cA B r wz) 0 0 (gA B) := by
  refine Met.ofW (cc := b_M_begin) (maxL := 1) (ret := (some .int)) (by decide +kernel) rfl ?_
  intro p e s m args below meth c s₁ Bd hml hv
  obtain ⟨hargs, C, hR⟩ := gC.enter (l := l) rfl Bd hml hv
  subst hargs
  have hl := lv_entry ([.ref (B + a0)]) (n := 1) (Nat.le_of_ble_eq_true rfl)
  rw [lg_entry_eq]
  generalize (lg_sl ([.ref (B + a0)]) ++ List.replicate (1 - (lg_sl ([.ref (B + a0)])).length) Slot.unset).toArray = ls at hl ⊢
  have hl : lv_has ls 1 [(0, .ref (B + a0))] := hl
  exact c_M_begin_b0 C a0 w (lv_sub hl [0] rfl) hf hR va_S.rf
theorem d_M_behindText_0 : decode b_M_behindText 0 = .ok (.aload_n 0, 1) := by decide +kernel
theorem d_M_behindText_1 : decode b_M_behindText 1 = .ok (.getfield 38, 3) := by decide +kernel
theorem d_M_behindText_4 : decode b_M_behindText 4 = .ok (.ifCond .ge 7, 3) := by decide +kernel
theorem d_M_behindText_7 : decode b_M_behindText 7 = .ok (.iconst 0, 1) := by decide +kernel
theorem d_M_behindText_8 : decode b_M_behindText 8 = .ok (.goto 20, 3) := by decide +kernel
theorem d_M_behindText_11 : decode b_M_behindText 11 = .ok (.bipush 10, 2) := by decide +kernel
theorem d_M_behindText_13 : decode b_M_behindText 13 = .ok (.aload_n 0, 1) := by decide +kernel
theorem d_M_behindText_14 : decode b_M_behindText 14 = .ok (.getfield 38, 3) := by decide +kernel
theorem d_M_behindText_17 : decode b_M_behindText 17 = .ok (.imul, 1) := by decide +kernel
theorem d_M_behindText_18 : decode b_M_behindText 18 = .ok (.aload_n 0, 1) := by decide +kernel
theorem d_M_behindText_19 : decode b_M_behindText 19 = .ok (.getfield 53, 3) := by decide +kernel
theorem d_M_behindText_22 : decode b_M_behindText 22 = .ok (.aload_n 0, 1) := by decide +kernel
theorem d_M_behindText_23 : decode b_M_behindText 23 = .ok (.getfield 38, 3) := by decide +kernel
theorem d_M_behindText_26 : decode b_M_behindText 26 = .ok (.iaload, 1) := by decide +kernel
theorem d_M_behindText_27 : decode b_M_behindText 27 = .ok (.iadd, 1) := by decide +kernel
theorem d_M_behindText_28 : decode b_M_behindText 28 = .ok (.ireturn, 1) := by decide +kernel
set_option maxRecDepth 20000 in
theorem c_M_behindText_b0 {r : Int32} {wz : gW} (C : gC p s m args meth c "RidCoppersModel" b_M_behindText 1 (some .int) D cA oc B) (a0 : Nat) (w : gW) {ls : Array Slot} {H : Heap} {locs : List Loc} (hl : lv_has ls 1 [(0, .ref (B + a0))]) (hf : f_M_behindText_b0 N a0 w = some (r, wz)) (hR : gRep D cA B w H) (hS : va_S (gA B) s.heap H locs) : W p l e ({ frames := 1, cells := 0, slots := 0, locals := 40 } : Room) s m args below meth c H locs 0 0 (MQ below (gQi D cA B r wz) args s 0 0 (gA B)) (F0 m 0 ls []) := by
  obtain ⟨hx, hb, hml, hown, hts, hr, hlocks, hK, hBs⟩ := id C
  unfold f_M_behindText_b0 at hf
  refine lv_aload_n hx hb d_M_behindText_0 rfl (lv_at hl 0 rfl) ?_
  have ⟨h1, hf⟩ := gd_e hf
  refine g_getI hx hb hts hown hK hR fl_M_38 (fun _ => rfl) h1 d_M_behindText_1 ?_
  refine g_nI hf (fun x2 hf => ?_)
  refine lv_if_ge (tgt := 11) hx hb d_M_behindText_4 (by decide) (fun hc => ?_) (fun hc => ?_)
  · have hf := cd_t hc hf
    refine lv_bipush (v := 10) hx hb d_M_behindText_11 (by decide) ?_
    refine lv_aload_n hx hb d_M_behindText_13 rfl (lv_at hl 0 rfl) ?_
    refine g_getI hx hb hts hown hK hR fl_M_38 (fun _ => rfl) h1 d_M_behindText_14 ?_
    refine g_nI hf (fun x3 hf => ?_)
    refine lv_imul hx hb d_M_behindText_17 ?_
    refine g_nI hf (fun x4 hf => ?_)
    refine lv_aload_n hx hb d_M_behindText_18 rfl (lv_at hl 0 rfl) ?_
    have ⟨x5, h6, hf⟩ := rr_e hf
    refine g_getR hx hb hts hown hK hR fl_M_53 (fun _ => rfl) h1 h6 d_M_behindText_19 ?_
    refine lv_aload_n hx hb d_M_behindText_22 rfl (lv_at hl 0 rfl) ?_
    refine g_getI hx hb hts hown hK hR fl_M_38 (fun _ => rfl) h1 d_M_behindText_23 ?_
    refine g_nI hf (fun x7 hf => ?_)
    have ⟨h8, hf⟩ := gd_e hf
    have ⟨h9, hf⟩ := gd_e hf
    refine g_iald hx hb hK hR h8 h9 d_M_behindText_26 ?_
    refine g_nI hf (fun x10 hf => ?_)
    refine lv_iadd hx hb d_M_behindText_27 ?_
    refine g_nI hf (fun x11 hf => ?_)
    exact g_iret hx hb hr hlocks hR hS hf rfl d_M_behindText_28
  have hf := cd_f hc hf
  refine lv_iconst (v := 0) hx hb d_M_behindText_7 (by decide) ?_
  refine lv_goto (tgt := 28) hx hb d_M_behindText_8 (by decide) ?_
  exact g_iret hx hb hr hlocks hR hS hf rfl d_M_behindText_28
theorem c_M_behindText (l : Launch) (D : va_G) (cA : Nat → ClassId) (oc : gO) (B N : Nat) (a0 : Nat) (w : gW) {wz : gW} {r : Int32} (hf : f_M_behindText N a0 w = some (r, wz)) : Met l y_M_behindText (Cond.code y_M_behindText b_M_behindText 1 (some .int) :: lw_good) ({ frames := 1, cells := 0, slots := 0, locals := 40 } : Room) (gPre D cA oc B [.ref (B + a0)] w) (gQi D cA B r wz) 0 0 (gA B) := by
  refine Met.ofW (cc := b_M_behindText) (maxL := 1) (ret := (some .int)) (by decide +kernel) rfl ?_
  intro p e s m args below meth c s₁ Bd hml hv
  obtain ⟨hargs, C, hR⟩ := gC.enter (l := l) rfl Bd hml hv
  subst hargs
  have hl := lv_entry ([.ref (B + a0)]) (n := 1) (Nat.le_of_ble_eq_true rfl)
  rw [lg_entry_eq]
  generalize (lg_sl ([.ref (B + a0)]) ++ List.replicate (1 - (lg_sl ([.ref (B + a0)])).length) Slot.unset).toArray = ls at hl ⊢
  have hl : lv_has ls 1 [(0, .ref (B + a0))] := hl
  exact c_M_behindText_b0 C a0 w (lv_sub hl [0] rfl) hf hR va_S.rf
theorem d_M_mostNow_0 : decode b_M_mostNow 0 = .ok (.iconst 2, 1) := by decide +kernel
theorem d_M_mostNow_1 : decode b_M_mostNow 1 = .ok (.istore_n 1, 1) := by decide +kernel
theorem d_M_mostNow_2 : decode b_M_mostNow 2 = .ok (.aload_n 0, 1) := by decide +kernel
theorem d_M_mostNow_3 : decode b_M_mostNow 3 = .ok (.invokevirtual 288, 3) := by decide +kernel
theorem d_M_mostNow_6 : decode b_M_mostNow 6 = .ok (.istore_n 2, 1) := by decide +kernel
theorem d_M_mostNow_7 : decode b_M_mostNow 7 = .ok (.iload_n 2, 1) := by decide +kernel
theorem d_M_mostNow_8 : decode b_M_mostNow 8 = .ok (.aload_n 0, 1) := by decide +kernel
theorem d_M_mostNow_9 : decode b_M_mostNow 9 = .ok (.invokevirtual 291, 3) := by decide +kernel
theorem d_M_mostNow_12 : decode b_M_mostNow 12 = .ok (.if_icmp .ge 30, 3) := by decide +kernel
theorem d_M_mostNow_15 : decode b_M_mostNow 15 = .ok (.aload_n 0, 1) := by decide +kernel
theorem d_M_mostNow_16 : decode b_M_mostNow 16 = .ok (.getfield 56, 3) := by decide +kernel
theorem d_M_mostNow_19 : decode b_M_mostNow 19 = .ok (.iload_n 2, 1) := by decide +kernel
theorem d_M_mostNow_20 : decode b_M_mostNow 20 = .ok (.iaload, 1) := by decide +kernel
theorem d_M_mostNow_21 : decode b_M_mostNow 21 = .ok (.iconst 2, 1) := by decide +kernel
theorem d_M_mostNow_22 : decode b_M_mostNow 22 = .ok (.if_icmp .ne 12, 3) := by decide +kernel
theorem d_M_mostNow_25 : decode b_M_mostNow 25 = .ok (.aload_n 0, 1) := by decide +kernel
theorem d_M_mostNow_26 : decode b_M_mostNow 26 = .ok (.getfield 59, 3) := by decide +kernel
theorem d_M_mostNow_29 : decode b_M_mostNow 29 = .ok (.iload_n 2, 1) := by decide +kernel
theorem d_M_mostNow_30 : decode b_M_mostNow 30 = .ok (.iaload, 1) := by decide +kernel
theorem d_M_mostNow_31 : decode b_M_mostNow 31 = .ok (.goto 4, 3) := by decide +kernel
theorem d_M_mostNow_34 : decode b_M_mostNow 34 = .ok (.iload_n 1, 1) := by decide +kernel
theorem d_M_mostNow_35 : decode b_M_mostNow 35 = .ok (.istore_n 1, 1) := by decide +kernel
theorem d_M_mostNow_36 : decode b_M_mostNow 36 = .ok (.iinc 2 1, 3) := by decide +kernel
theorem d_M_mostNow_39 : decode b_M_mostNow 39 = .ok (.goto (-32), 3) := by decide +kernel
theorem d_M_mostNow_42 : decode b_M_mostNow 42 = .ok (.iload_n 1, 1) := by decide +kernel
theorem d_M_mostNow_43 : decode b_M_mostNow 43 = .ok (.iconst 2, 1) := by decide +kernel
theorem d_M_mostNow_44 : decode b_M_mostNow 44 = .ok (.if_icmp .le 7, 3) := by decide +kernel
theorem d_M_mostNow_47 : decode b_M_mostNow 47 = .ok (.iconst 2, 1) := by decide +kernel
theorem d_M_mostNow_48 : decode b_M_mostNow 48 = .ok (.goto 4, 3) := by decide +kernel
theorem d_M_mostNow_51 : decode b_M_mostNow 51 = .ok (.iload_n 1, 1) := by decide +kernel
theorem d_M_mostNow_52 : decode b_M_mostNow 52 = .ok (.ireturn, 1) := by decide +kernel
set_option maxRecDepth 20000 in
theorem c_M_mostNow_b7 {r : Int32} {wz : gW} {rec7 : Nat × Int32 × Int32 × gW → Option (Int32 × gW)} (ih7 : ∀ (a0 : Nat) (a1 : Int32) (a2 : Int32) (w : gW) (ls : Array Slot) (H : Heap) (locs : List Loc), rec7 (a0, a1, a2, w) = some (r, wz) → lv_has ls 3 [(0, .ref (B + a0)), (1, .int a1), (2, .int a2)] → gRep D cA B w H → va_S (gA B) s.heap H locs → W p l e ({ frames := 2, cells := 0, slots := 0, locals := 60 } : Room) s m args below meth c H locs 0 0 (MQ below (gQi D cA B r wz) args s 0 0 (gA B)) (F0 m 7 ls [])) (C : gC p s m args meth c "RidCoppersModel" b_M_mostNow 3 (some .int) D cA oc B) (a0 : Nat) (a1 : Int32) (a2 : Int32) (w : gW) {ls : Array Slot} {H : Heap} {locs : List Loc} (hl : lv_has ls 3 [(0, .ref (B + a0)), (1, .int a1), (2, .int a2)]) (hf : f_M_mostNow_b7 N rec7 a0 a1 a2 w = some (r, wz)) (hR : gRep D cA B w H) (hS : va_S (gA B) s.heap H locs) : W p l e ({ frames := 2, cells := 0, slots := 0, locals := 60 } : Room) s m args below meth c H locs 0 0 (MQ below (gQi D cA B r wz) args s 0 0 (gA B)) (F0 m 7 ls []) := by
  obtain ⟨hx, hb, hml, hown, hts, hr, hlocks, hK, hBs⟩ := id C
  unfold f_M_mostNow_b7 at hf
  refine lv_iload_n hx hb d_M_mostNow_7 rfl (lv_at hl 2 rfl) ?_
  refine lv_aload_n hx hb d_M_mostNow_8 rfl (lv_at hl 0 rfl) ?_
  have ⟨h8, hf⟩ := gd_e hf
  have ⟨x5, w6, h7, hf⟩ := kl_e hf
  refine g_ki0 (g_rV (As := []) (rest := [.int a2]) hx hb hml hown hts hK hR hS (c_M_behindText l D cA oc B N a0 w h7) I_M_behindText m_1308 mp_47 (gRecv hK hR (ci := 12) rfl h8) rfl rfl (Nat.le_of_ble_eq_true rfl) hl.1 ⟨Nat.le_of_ble_eq_true rfl, Nat.le_of_ble_eq_true rfl⟩ ⟨Nat.le_of_ble_eq_true rfl, Nat.le_of_ble_eq_true rfl⟩ d_M_mostNow_9) hS (fun H locs hR hS => ?_)
  refine lv_icmp_ge (tgt := 42) hx hb d_M_mostNow_12 (by decide) (fun hc => ?_) (fun hc => ?_)
  · have hf := cd_t hc hf
    refine lv_iload_n hx hb d_M_mostNow_42 rfl (lv_at hl 1 rfl) ?_
    refine lv_iconst (v := 2) hx hb d_M_mostNow_43 (by decide) ?_
    refine lv_icmp_le (tgt := 51) hx hb d_M_mostNow_44 (by decide) (fun hc => ?_) (fun hc => ?_)
    · have hf := cd_t hc hf
      refine lv_iload_n hx hb d_M_mostNow_51 rfl (lv_at hl 1 rfl) ?_
      exact g_iret hx hb hr hlocks hR hS hf rfl d_M_mostNow_52
    have hf := cd_f hc hf
    refine lv_iconst (v := 2) hx hb d_M_mostNow_47 (by decide) ?_
    refine lv_goto (tgt := 52) hx hb d_M_mostNow_48 (by decide) ?_
    exact g_iret hx hb hr hlocks hR hS hf rfl d_M_mostNow_52
  have hf := cd_f hc hf
  refine lv_aload_n hx hb d_M_mostNow_15 rfl (lv_at hl 0 rfl) ?_
  have ⟨h9, hf⟩ := gd_e hf
  have ⟨x10, h11, hf⟩ := rr_e hf
  refine g_getR hx hb hts hown hK hR fl_M_56 (fun _ => rfl) h9 h11 d_M_mostNow_16 ?_
  refine lv_iload_n hx hb d_M_mostNow_19 rfl (lv_at hl 2 rfl) ?_
  have ⟨h12, hf⟩ := gd_e hf
  have ⟨h13, hf⟩ := gd_e hf
  refine g_iald hx hb hK hR h12 h13 d_M_mostNow_20 ?_
  refine g_nI hf (fun x14 hf => ?_)
  refine lv_iconst (v := 2) hx hb d_M_mostNow_21 (by decide) ?_
  refine lv_icmp_ne (tgt := 34) hx hb d_M_mostNow_22 (by decide) (fun hc => ?_) (fun hc => ?_)
  · have hf := cd_f hc hf
    refine lv_iload_n hx hb d_M_mostNow_34 rfl (lv_at hl 1 rfl) ?_
    refine lv_istore_n (lv' := [(1, .int a1), (0, .ref (B + a0)), (2, .int a2)]) hx hb d_M_mostNow_35 rfl hl (by decide) rfl (fun ls hl => ?_)
    refine g_iinc (lv' := fun x15 => [(2, .int x15), (1, .int a1), (0, .ref (B + a0))]) hf hx hb d_M_mostNow_36 hl (k := 2) rfl (by decide) (by decide) (fun _ => rfl) (fun x15 ls hf hl => ?_)
    refine lv_goto (tgt := 7) hx hb d_M_mostNow_39 (by decide) ?_
    exact ih7 a0 a1 x15 w6 _ _ _ hf (lv_sub hl [2, 1, 0] rfl) hR hS
  have hf := cd_t hc hf
  refine lv_aload_n hx hb d_M_mostNow_25 rfl (lv_at hl 0 rfl) ?_
  have ⟨x16, h17, hf⟩ := rr_e hf
  refine g_getR hx hb hts hown hK hR fl_M_59 (fun _ => rfl) h9 h17 d_M_mostNow_26 ?_
  refine lv_iload_n hx hb d_M_mostNow_29 rfl (lv_at hl 2 rfl) ?_
  have ⟨h18, hf⟩ := gd_e hf
  have ⟨h19, hf⟩ := gd_e hf
  refine g_iald hx hb hK hR h18 h19 d_M_mostNow_30 ?_
  refine g_nI hf (fun x20 hf => ?_)
  refine lv_goto (tgt := 35) hx hb d_M_mostNow_31 (by decide) ?_
  refine lv_istore_n (lv' := [(1, .int x20), (0, .ref (B + a0)), (2, .int a2)]) hx hb d_M_mostNow_35 rfl hl (by decide) rfl (fun ls hl => ?_)
  refine g_iinc (lv' := fun x21 => [(2, .int x21), (1, .int x20), (0, .ref (B + a0))]) hf hx hb d_M_mostNow_36 hl (k := 2) rfl (by decide) (by decide) (fun _ => rfl) (fun x21 ls hf hl => ?_)
  refine lv_goto (tgt := 7) hx hb d_M_mostNow_39 (by decide) ?_
  exact ih7 a0 x20 x21 w6 _ _ _ hf (lv_sub hl [2, 1, 0] rfl) hR hS
theorem c_M_mostNow_l7 {r : Int32} {wz : gW} (C : gC p s m args meth c "RidCoppersModel" b_M_mostNow 3 (some .int) D cA oc B) (a0 : Nat) (a1 : Int32) (a2 : Int32) (w : gW) {ls : Array Slot} {H : Heap} {locs : List Loc} (hl : lv_has ls 3 [(0, .ref (B + a0)), (1, .int a1), (2, .int a2)]) (hf : f_M_mostNow_l7 N a0 a1 a2 w = some (r, wz)) (hR : gRep D cA B w H) (hS : va_S (gA B) s.heap H locs) : W p l e ({ frames := 2, cells := 0, slots := 0, locals := 60 } : Room) s m args below meth c H locs 0 0 (MQ below (gQi D cA B r wz) args s 0 0 (gA B)) (F0 m 7 ls []) := by
  unfold f_M_mostNow_l7 at hf
  suffices hh : ∀ n : Nat, ∀ (a0 : Nat) (a1 : Int32) (a2 : Int32) (w : gW) (ls : Array Slot) (H : Heap) (locs : List Loc), itr (fun rec (q : Nat × Int32 × Int32 × gW) => f_M_mostNow_b7 N rec q.1 q.2.1 q.2.2.1 q.2.2.2) n (a0, a1, a2, w) = some (r, wz) → lv_has ls 3 [(0, .ref (B + a0)), (1, .int a1), (2, .int a2)] → gRep D cA B w H → va_S (gA B) s.heap H locs → W p l e ({ frames := 2, cells := 0, slots := 0, locals := 60 } : Room) s m args below meth c H locs 0 0 (MQ below (gQi D cA B r wz) args s 0 0 (gA B)) (F0 m 7 ls []) from hh N a0 a1 a2 w ls H locs hf hl hR hS
  intro n
  induction n with
  | zero => intro a0 a1 a2 w ls H locs hf; cases hf
  | succ n ihn =>
    intro a0 a1 a2 w ls H locs hf hl hR hS
    exact c_M_mostNow_b7 (N := N) ihn C a0 a1 a2 w hl ((itr_s _ _ _).symm.trans hf) hR hS
set_option maxRecDepth 20000 in
theorem c_M_mostNow_b0 {r : Int32} {wz : gW} (C : gC p s m args meth c "RidCoppersModel" b_M_mostNow 3 (some .int) D cA oc B) (a0 : Nat) (w : gW) {ls : Array Slot} {H : Heap} {locs : List Loc} (hl : lv_has ls 3 [(0, .ref (B + a0))]) (hf : f_M_mostNow_b0 N a0 w = some (r, wz)) (hR : gRep D cA B w H) (hS : va_S (gA B) s.heap H locs) : W p l e ({ frames := 2, cells := 0, slots := 0, locals := 60 } : Room) s m args below meth c H locs 0 0 (MQ below (gQi D cA B r wz) args s 0 0 (gA B)) (F0 m 0 ls []) := by
  obtain ⟨hx, hb, hml, hown, hts, hr, hlocks, hK, hBs⟩ := id C
  unfold f_M_mostNow_b0 at hf
  refine lv_iconst (v := 2) hx hb d_M_mostNow_0 (by decide) ?_
  refine lv_istore_n (lv' := [(1, .int 2), (0, .ref (B + a0))]) hx hb d_M_mostNow_1 rfl hl (by decide) rfl (fun ls hl => ?_)
  refine lv_aload_n hx hb d_M_mostNow_2 rfl (lv_at hl 1 rfl) ?_
  have ⟨h4, hf⟩ := gd_e hf
  have ⟨x1, w2, h3, hf⟩ := kl_e hf
  refine g_ki0 (g_rV (As := []) (rest := []) hx hb hml hown hts hK hR hS (c_M_begin l D cA oc B N a0 w h3) I_M_begin m_1304 mp_46 (gRecv hK hR (ci := 12) rfl h4) rfl rfl (Nat.le_of_ble_eq_true rfl) hl.1 ⟨Nat.le_of_ble_eq_true rfl, Nat.le_of_ble_eq_true rfl⟩ ⟨Nat.le_of_ble_eq_true rfl, Nat.le_of_ble_eq_true rfl⟩ d_M_mostNow_3) hS (fun H locs hR hS => ?_)
  refine lv_istore_n (lv' := [(2, .int x1), (1, .int 2), (0, .ref (B + a0))]) hx hb d_M_mostNow_6 rfl hl (by decide) rfl (fun ls hl => ?_)
  exact c_M_mostNow_l7 C a0 2 x1 w2 (lv_sub hl [2, 1, 0] rfl) hf hR hS
theorem c_M_mostNow (l : Launch) (D : va_G) (cA : Nat → ClassId) (oc : gO) (B N : Nat) (a0 : Nat) (w : gW) {wz : gW} {r : Int32} (hf : f_M_mostNow N a0 w = some (r, wz)) : Met l y_M_mostNow (Cond.code y_M_mostNow b_M_mostNow 3 (some .int) :: lw_good) ({ frames := 2, cells := 0, slots := 0, locals := 60 } : Room) (gPre D cA oc B [.ref (B + a0)] w) (gQi D cA B r wz) 0 0 (gA B) := by
  refine Met.ofW (cc := b_M_mostNow) (maxL := 3) (ret := (some .int)) (by decide +kernel) rfl ?_
  intro p e s m args below meth c s₁ Bd hml hv
  obtain ⟨hargs, C, hR⟩ := gC.enter (l := l) rfl Bd hml hv
  subst hargs
  have hl := lv_entry ([.ref (B + a0)]) (n := 3) (Nat.le_of_ble_eq_true rfl)
  rw [lg_entry_eq]
  generalize (lg_sl ([.ref (B + a0)]) ++ List.replicate (3 - (lg_sl ([.ref (B + a0)])).length) Slot.unset).toArray = ls at hl ⊢
  have hl : lv_has ls 3 [(0, .ref (B + a0))] := hl
  exact c_M_mostNow_b0 C a0 w (lv_sub hl [0] rfl) hf hR va_S.rf
theorem d_M_factOf_0 : decode b_M_factOf 0 = .ok (.iload_n 1, 1) := by decide +kernel
theorem d_M_factOf_1 : decode b_M_factOf 1 = .ok (.iconst 1, 1) := by decide +kernel
theorem d_M_factOf_2 : decode b_M_factOf 2 = .ok (.if_icmp .le 9, 3) := by decide +kernel
theorem d_M_factOf_5 : decode b_M_factOf 5 = .ok (.iload_n 3, 1) := by decide +kernel
theorem d_M_factOf_6 : decode b_M_factOf 6 = .ok (.ifCond .ge 5, 3) := by decide +kernel
theorem d_M_factOf_9 : decode b_M_factOf 9 = .ok (.iconst 0, 1) := by decide +kernel
theorem d_M_factOf_10 : decode b_M_factOf 10 = .ok (.ireturn, 1) := by decide +kernel
theorem d_M_factOf_11 : decode b_M_factOf 11 = .ok (.iload_n 1, 1) := by decide +kernel
theorem d_M_factOf_12 : decode b_M_factOf 12 = .ok (.tableswitch 61 0 4 #[36, 38, 45, 52, 54], 36) := by decide +kernel
theorem d_M_factOf_48 : decode b_M_factOf 48 = .ok (.iload_n 2, 1) := by decide +kernel
theorem d_M_factOf_49 : decode b_M_factOf 49 = .ok (.ireturn, 1) := by decide +kernel
theorem d_M_factOf_50 : decode b_M_factOf 50 = .ok (.aload_n 0, 1) := by decide +kernel
theorem d_M_factOf_51 : decode b_M_factOf 51 = .ok (.getfield 13, 3) := by decide +kernel
theorem d_M_factOf_54 : decode b_M_factOf 54 = .ok (.iload_n 2, 1) := by decide +kernel
theorem d_M_factOf_55 : decode b_M_factOf 55 = .ok (.iaload, 1) := by decide +kernel
theorem d_M_factOf_56 : decode b_M_factOf 56 = .ok (.ireturn, 1) := by decide +kernel
theorem d_M_factOf_57 : decode b_M_factOf 57 = .ok (.aload_n 0, 1) := by decide +kernel
theorem d_M_factOf_58 : decode b_M_factOf 58 = .ok (.getfield 32, 3) := by decide +kernel
theorem d_M_factOf_61 : decode b_M_factOf 61 = .ok (.iload_n 2, 1) := by decide +kernel
theorem d_M_factOf_62 : decode b_M_factOf 62 = .ok (.iaload, 1) := by decide +kernel
theorem d_M_factOf_63 : decode b_M_factOf 63 = .ok (.ireturn, 1) := by decide +kernel
theorem d_M_factOf_64 : decode b_M_factOf 64 = .ok (.iload_n 3, 1) := by decide +kernel
theorem d_M_factOf_65 : decode b_M_factOf 65 = .ok (.ireturn, 1) := by decide +kernel
theorem d_M_factOf_66 : decode b_M_factOf 66 = .ok (.aload_n 0, 1) := by decide +kernel
theorem d_M_factOf_67 : decode b_M_factOf 67 = .ok (.getfield 17, 3) := by decide +kernel
theorem d_M_factOf_70 : decode b_M_factOf 70 = .ok (.iload_n 3, 1) := by decide +kernel
theorem d_M_factOf_71 : decode b_M_factOf 71 = .ok (.iaload, 1) := by decide +kernel
theorem d_M_factOf_72 : decode b_M_factOf 72 = .ok (.ireturn, 1) := by decide +kernel
theorem d_M_factOf_73 : decode b_M_factOf 73 = .ok (.aload_n 0, 1) := by decide +kernel
theorem d_M_factOf_74 : decode b_M_factOf 74 = .ok (.getfield 23, 3) := by decide +kernel
theorem d_M_factOf_77 : decode b_M_factOf 77 = .ok (.iload_n 3, 1) := by decide +kernel
theorem d_M_factOf_78 : decode b_M_factOf 78 = .ok (.iaload, 1) := by decide +kernel
theorem d_M_factOf_79 : decode b_M_factOf 79 = .ok (.bipush 7, 2) := by decide +kernel
theorem d_M_factOf_81 : decode b_M_factOf 81 = .ok (.irem, 1) := by decide +kernel
theorem d_M_factOf_82 : decode b_M_factOf 82 = .ok (.ireturn, 1) := by decide +kernel
set_option maxRecDepth 20000 in
theorem c_M_factOf_b11 {r : Int32} {wz : gW} (C : gC p s m args meth c "RidCoppersModel" b_M_factOf 4 (some .int) D cA oc B) (a0 : Nat) (a1 : Int32) (a2 : Int32) (a3 : Int32) (w : gW) {ls : Array Slot} {H : Heap} {locs : List Loc} (hl : lv_has ls 4 [(0, .ref (B + a0)), (1, .int a1), (2, .int a2), (3, .int a3)]) (hf : f_M_factOf_b11 N a0 a1 a2 a3 w = some (r, wz)) (hR : gRep D cA B w H) (hS : va_S (gA B) s.heap H locs) : W p l e ({ frames := 1, cells := 0, slots := 0, locals := 40 } : Room) s m args below meth c H locs 0 0 (MQ below (gQi D cA B r wz) args s 0 0 (gA B)) (F0 m 11 ls []) := by
  obtain ⟨hx, hb, hml, hown, hts, hr, hlocks, hK, hBs⟩ := id C
  unfold f_M_factOf_b11 at hf
  refine lv_iload_n hx hb d_M_factOf_11 rfl (lv_at hl 1 rfl) ?_
  by_cases hc1 : a1 = 0
  · refine lv_tableIn (off := 36) (tgt := 48) hx hb d_M_factOf_12 (by rw [hc1]; decide) (by rw [hc1]; decide) (by rw [hc1]; rfl) (by decide) ?_
    have hf := cd_t hc1 hf
    refine lv_iload_n hx hb d_M_factOf_48 rfl (lv_at hl 2 rfl) ?_
    exact g_iret hx hb hr hlocks hR hS hf rfl d_M_factOf_49
  have hf := cd_f hc1 hf
  by_cases hc2 : a1 = 1
  · refine lv_tableIn (off := 38) (tgt := 50) hx hb d_M_factOf_12 (by rw [hc2]; decide) (by rw [hc2]; decide) (by rw [hc2]; rfl) (by decide) ?_
    have hf := cd_t hc2 hf
    refine lv_aload_n hx hb d_M_factOf_50 rfl (lv_at hl 0 rfl) ?_
    have ⟨h3, hf⟩ := gd_e hf
    have ⟨x4, h5, hf⟩ := rr_e hf
    refine g_getR hx hb hts hown hK hR fl_M_13 (fun _ => rfl) h3 h5 d_M_factOf_51 ?_
    refine lv_iload_n hx hb d_M_factOf_54 rfl (lv_at hl 2 rfl) ?_
    have ⟨h6, hf⟩ := gd_e hf
    have ⟨h7, hf⟩ := gd_e hf
    refine g_iald hx hb hK hR h6 h7 d_M_factOf_55 ?_
    refine g_nI hf (fun x8 hf => ?_)
    exact g_iret hx hb hr hlocks hR hS hf rfl d_M_factOf_56
  have hf := cd_f hc2 hf
  by_cases hc9 : a1 = 2
  · refine lv_tableIn (off := 45) (tgt := 57) hx hb d_M_factOf_12 (by rw [hc9]; decide) (by rw [hc9]; decide) (by rw [hc9]; rfl) (by decide) ?_
    have hf := cd_t hc9 hf
    refine lv_aload_n hx hb d_M_factOf_57 rfl (lv_at hl 0 rfl) ?_
    have ⟨h10, hf⟩ := gd_e hf
    have ⟨x11, h12, hf⟩ := rr_e hf
    refine g_getR hx hb hts hown hK hR fl_M_32 (fun _ => rfl) h10 h12 d_M_factOf_58 ?_
    refine lv_iload_n hx hb d_M_factOf_61 rfl (lv_at hl 2 rfl) ?_
    have ⟨h13, hf⟩ := gd_e hf
    have ⟨h14, hf⟩ := gd_e hf
    refine g_iald hx hb hK hR h13 h14 d_M_factOf_62 ?_
    refine g_nI hf (fun x15 hf => ?_)
    exact g_iret hx hb hr hlocks hR hS hf rfl d_M_factOf_63
  have hf := cd_f hc9 hf
  by_cases hc16 : a1 = 3
  · refine lv_tableIn (off := 52) (tgt := 64) hx hb d_M_factOf_12 (by rw [hc16]; decide) (by rw [hc16]; decide) (by rw [hc16]; rfl) (by decide) ?_
    have hf := cd_t hc16 hf
    refine lv_iload_n hx hb d_M_factOf_64 rfl (lv_at hl 3 rfl) ?_
    exact g_iret hx hb hr hlocks hR hS hf rfl d_M_factOf_65
  have hf := cd_f hc16 hf
  by_cases hc17 : a1 = 4
  · refine lv_tableIn (off := 54) (tgt := 66) hx hb d_M_factOf_12 (by rw [hc17]; decide) (by rw [hc17]; decide) (by rw [hc17]; rfl) (by decide) ?_
    have hf := cd_t hc17 hf
    refine lv_aload_n hx hb d_M_factOf_66 rfl (lv_at hl 0 rfl) ?_
    have ⟨h18, hf⟩ := gd_e hf
    have ⟨x19, h20, hf⟩ := rr_e hf
    refine g_getR hx hb hts hown hK hR fl_M_17 (fun _ => rfl) h18 h20 d_M_factOf_67 ?_
    refine lv_iload_n hx hb d_M_factOf_70 rfl (lv_at hl 3 rfl) ?_
    have ⟨h21, hf⟩ := gd_e hf
    have ⟨h22, hf⟩ := gd_e hf
    refine g_iald hx hb hK hR h21 h22 d_M_factOf_71 ?_
    refine g_nI hf (fun x23 hf => ?_)
    exact g_iret hx hb hr hlocks hR hS hf rfl d_M_factOf_72
  have hf := cd_f hc17 hf
  have hout : a1.toInt < 0 ∨ 4 < a1.toInt := by
    have := lv_neT (a := 0) hc1 rfl
    have := lv_neT (a := 1) hc2 rfl
    have := lv_neT (a := 2) hc9 rfl
    have := lv_neT (a := 3) hc16 rfl
    have := lv_neT (a := 4) hc17 rfl
    omega
  refine lv_tableOut (tgt := 73) hx hb d_M_factOf_12 hout (by decide) ?_
  refine lv_aload_n hx hb d_M_factOf_73 rfl (lv_at hl 0 rfl) ?_
  have ⟨h24, hf⟩ := gd_e hf
  have ⟨x25, h26, hf⟩ := rr_e hf
  refine g_getR hx hb hts hown hK hR fl_M_23 (fun _ => rfl) h24 h26 d_M_factOf_74 ?_
  refine lv_iload_n hx hb d_M_factOf_77 rfl (lv_at hl 3 rfl) ?_
  have ⟨h27, hf⟩ := gd_e hf
  have ⟨h28, hf⟩ := gd_e hf
  refine g_iald hx hb hK hR h27 h28 d_M_factOf_78 ?_
  refine g_nI hf (fun x29 hf => ?_)
  refine lv_bipush (v := 7) hx hb d_M_factOf_79 (by decide) ?_
  refine lv_irem hx hb d_M_factOf_81 (by decide) ?_
  refine g_nI hf (fun x30 hf => ?_)
  exact g_iret hx hb hr hlocks hR hS hf rfl d_M_factOf_82
set_option maxRecDepth 20000 in
theorem c_M_factOf_b0 {r : Int32} {wz : gW} (C : gC p s m args meth c "RidCoppersModel" b_M_factOf 4 (some .int) D cA oc B) (a0 : Nat) (a1 : Int32) (a2 : Int32) (a3 : Int32) (w : gW) {ls : Array Slot} {H : Heap} {locs : List Loc} (hl : lv_has ls 4 [(0, .ref (B + a0)), (1, .int a1), (2, .int a2), (3, .int a3)]) (hf : f_M_factOf_b0 N a0 a1 a2 a3 w = some (r, wz)) (hR : gRep D cA B w H) (hS : va_S (gA B) s.heap H locs) : W p l e ({ frames := 1, cells := 0, slots := 0, locals := 40 } : Room) s m args below meth c H locs 0 0 (MQ below (gQi D cA B r wz) args s 0 0 (gA B)) (F0 m 0 ls []) := by
  obtain ⟨hx, hb, hml, hown, hts, hr, hlocks, hK, hBs⟩ := id C
  unfold f_M_factOf_b0 at hf
  refine lv_iload_n hx hb d_M_factOf_0 rfl (lv_at hl 1 rfl) ?_
  refine lv_iconst (v := 1) hx hb d_M_factOf_1 (by decide) ?_
  refine lv_icmp_le (tgt := 11) hx hb d_M_factOf_2 (by decide) (fun hc => ?_) (fun hc => ?_)
  · have hf := cd_t hc hf
    exact c_M_factOf_b11 C a0 a1 a2 a3 w (lv_sub hl [0, 1, 2, 3] rfl) hf hR hS
  have hf := cd_f hc hf
  refine lv_iload_n hx hb d_M_factOf_5 rfl (lv_at hl 3 rfl) ?_
  refine lv_if_ge (tgt := 11) hx hb d_M_factOf_6 (by decide) (fun hc => ?_) (fun hc => ?_)
  · have hf := cd_t hc hf
    exact c_M_factOf_b11 C a0 a1 a2 a3 w (lv_sub hl [0, 1, 2, 3] rfl) hf hR hS
  have hf := cd_f hc hf
  refine lv_iconst (v := 0) hx hb d_M_factOf_9 (by decide) ?_
  exact g_iret hx hb hr hlocks hR hS hf rfl d_M_factOf_10
theorem c_M_factOf (l : Launch) (D : va_G) (cA : Nat → ClassId) (oc : gO) (B N : Nat) (a0 : Nat) (a1 : Int32) (a2 : Int32) (a3 : Int32) (w : gW) {wz : gW} {r : Int32} (hf : f_M_factOf N a0 a1 a2 a3 w = some (r, wz)) : Met l y_M_factOf (Cond.code y_M_factOf b_M_factOf 4 (some .int) :: lw_good) ({ frames := 1, cells := 0, slots := 0, locals := 40 } : Room) (gPre D cA oc B [.ref (B + a0), .int a1, .int a2, .int a3] w) (gQi D cA B r wz) 0 0 (gA B) := by
  refine Met.ofW (cc := b_M_factOf) (maxL := 4) (ret := (some .int)) (by decide +kernel) rfl ?_
  intro p e s m args below meth c s₁ Bd hml hv
  obtain ⟨hargs, C, hR⟩ := gC.enter (l := l) rfl Bd hml hv
  subst hargs
  have hl := lv_entry ([.ref (B + a0), .int a1, .int a2, .int a3]) (n := 4) (Nat.le_of_ble_eq_true rfl)
  rw [lg_entry_eq]
  generalize (lg_sl ([.ref (B + a0), .int a1, .int a2, .int a3]) ++ List.replicate (4 - (lg_sl ([.ref (B + a0), .int a1, .int a2, .int a3])).length) Slot.unset).toArray = ls at hl ⊢
  have hl : lv_has ls 4 [(0, .ref (B + a0)), (1, .int a1), (2, .int a2), (3, .int a3)] := hl
  exact c_M_factOf_b0 C a0 a1 a2 a3 w (lv_sub hl [0, 1, 2, 3] rfl) hf hR va_S.rf
theorem d_M_holds_0 : decode b_M_holds 0 = .ok (.iconst 0, 1) := by decide +kernel
theorem d_M_holds_1 : decode b_M_holds 1 = .ok (.istore 4, 2) := by decide +kernel
theorem d_M_holds_3 : decode b_M_holds 3 = .ok (.aload_n 0, 1) := by decide +kernel
theorem d_M_holds_4 : decode b_M_holds 4 = .ok (.getfield 62, 3) := by decide +kernel
theorem d_M_holds_7 : decode b_M_holds 7 = .ok (.iload_n 1, 1) := by decide +kernel
theorem d_M_holds_8 : decode b_M_holds 8 = .ok (.iaload, 1) := by decide +kernel
theorem d_M_holds_9 : decode b_M_holds 9 = .ok (.istore 5, 2) := by decide +kernel
theorem d_M_holds_11 : decode b_M_holds 11 = .ok (.iload 5, 2) := by decide +kernel
theorem d_M_holds_13 : decode b_M_holds 13 = .ok (.aload_n 0, 1) := by decide +kernel
theorem d_M_holds_14 : decode b_M_holds 14 = .ok (.getfield 65, 3) := by decide +kernel
theorem d_M_holds_17 : decode b_M_holds 17 = .ok (.iload_n 1, 1) := by decide +kernel
theorem d_M_holds_18 : decode b_M_holds 18 = .ok (.iaload, 1) := by decide +kernel
theorem d_M_holds_19 : decode b_M_holds 19 = .ok (.if_icmp .ge 234, 3) := by decide +kernel
theorem d_M_holds_22 : decode b_M_holds 22 = .ok (.aload_n 0, 1) := by decide +kernel
theorem d_M_holds_23 : decode b_M_holds 23 = .ok (.getfield 68, 3) := by decide +kernel
theorem d_M_holds_26 : decode b_M_holds 26 = .ok (.iload 5, 2) := by decide +kernel
theorem d_M_holds_28 : decode b_M_holds 28 = .ok (.iaload, 1) := by decide +kernel
theorem d_M_holds_29 : decode b_M_holds 29 = .ok (.istore 6, 2) := by decide +kernel
theorem d_M_holds_31 : decode b_M_holds 31 = .ok (.iload 6, 2) := by decide +kernel
theorem d_M_holds_33 : decode b_M_holds 33 = .ok (.bipush (-33), 2) := by decide +kernel
theorem d_M_holds_35 : decode b_M_holds 35 = .ok (.if_icmp .ne 32, 3) := by decide +kernel
theorem d_M_holds_38 : decode b_M_holds 38 = .ok (.aload_n 0, 1) := by decide +kernel
theorem d_M_holds_39 : decode b_M_holds 39 = .ok (.getfield 86, 3) := by decide +kernel
theorem d_M_holds_42 : decode b_M_holds 42 = .ok (.iload 4, 2) := by decide +kernel
theorem d_M_holds_44 : decode b_M_holds 44 = .ok (.iconst 1, 1) := by decide +kernel
theorem d_M_holds_45 : decode b_M_holds 45 = .ok (.isub, 1) := by decide +kernel
theorem d_M_holds_46 : decode b_M_holds 46 = .ok (.aload_n 0, 1) := by decide +kernel
theorem d_M_holds_47 : decode b_M_holds 47 = .ok (.getfield 86, 3) := by decide +kernel
theorem d_M_holds_50 : decode b_M_holds 50 = .ok (.iload 4, 2) := by decide +kernel
theorem d_M_holds_52 : decode b_M_holds 52 = .ok (.iconst 1, 1) := by decide +kernel
theorem d_M_holds_53 : decode b_M_holds 53 = .ok (.isub, 1) := by decide +kernel
theorem d_M_holds_54 : decode b_M_holds 54 = .ok (.baload, 1) := by decide +kernel
theorem d_M_holds_55 : decode b_M_holds 55 = .ok (.ifCond .ne 7, 3) := by decide +kernel
theorem d_M_holds_58 : decode b_M_holds 58 = .ok (.iconst 1, 1) := by decide +kernel
theorem d_M_holds_59 : decode b_M_holds 59 = .ok (.goto 4, 3) := by decide +kernel
theorem d_M_holds_62 : decode b_M_holds 62 = .ok (.iconst 0, 1) := by decide +kernel
theorem d_M_holds_63 : decode b_M_holds 63 = .ok (.bastore, 1) := by decide +kernel
theorem d_M_holds_64 : decode b_M_holds 64 = .ok (.goto 183, 3) := by decide +kernel
theorem d_M_holds_67 : decode b_M_holds 67 = .ok (.iload 6, 2) := by decide +kernel
theorem d_M_holds_69 : decode b_M_holds 69 = .ok (.ifCond .ge 82, 3) := by decide +kernel
theorem d_M_holds_72 : decode b_M_holds 72 = .ok (.iinc 4 (-1), 3) := by decide +kernel
theorem d_M_holds_75 : decode b_M_holds 75 = .ok (.aload_n 0, 1) := by decide +kernel
theorem d_M_holds_76 : decode b_M_holds 76 = .ok (.getfield 86, 3) := by decide +kernel
theorem d_M_holds_79 : decode b_M_holds 79 = .ok (.iload 4, 2) := by decide +kernel
theorem d_M_holds_81 : decode b_M_holds 81 = .ok (.iconst 1, 1) := by decide +kernel
theorem d_M_holds_82 : decode b_M_holds 82 = .ok (.isub, 1) := by decide +kernel
theorem d_M_holds_83 : decode b_M_holds 83 = .ok (.iload 6, 2) := by decide +kernel
theorem d_M_holds_85 : decode b_M_holds 85 = .ok (.bipush (-38), 2) := by decide +kernel
theorem d_M_holds_87 : decode b_M_holds 87 = .ok (.if_icmp .ne 33, 3) := by decide +kernel
theorem d_M_holds_90 : decode b_M_holds 90 = .ok (.aload_n 0, 1) := by decide +kernel
theorem d_M_holds_91 : decode b_M_holds 91 = .ok (.getfield 86, 3) := by decide +kernel
theorem d_M_holds_94 : decode b_M_holds 94 = .ok (.iload 4, 2) := by decide +kernel
theorem d_M_holds_96 : decode b_M_holds 96 = .ok (.iconst 1, 1) := by decide +kernel
theorem d_M_holds_97 : decode b_M_holds 97 = .ok (.isub, 1) := by decide +kernel
theorem d_M_holds_98 : decode b_M_holds 98 = .ok (.baload, 1) := by decide +kernel
theorem d_M_holds_99 : decode b_M_holds 99 = .ok (.ifCond .eq 17, 3) := by decide +kernel
theorem d_M_holds_102 : decode b_M_holds 102 = .ok (.aload_n 0, 1) := by decide +kernel
theorem d_M_holds_103 : decode b_M_holds 103 = .ok (.getfield 86, 3) := by decide +kernel
theorem d_M_holds_106 : decode b_M_holds 106 = .ok (.iload 4, 2) := by decide +kernel
theorem d_M_holds_108 : decode b_M_holds 108 = .ok (.baload, 1) := by decide +kernel
theorem d_M_holds_109 : decode b_M_holds 109 = .ok (.ifCond .eq 7, 3) := by decide +kernel
theorem d_M_holds_112 : decode b_M_holds 112 = .ok (.iconst 1, 1) := by decide +kernel
theorem d_M_holds_113 : decode b_M_holds 113 = .ok (.goto 34, 3) := by decide +kernel
theorem d_M_holds_116 : decode b_M_holds 116 = .ok (.iconst 0, 1) := by decide +kernel
theorem d_M_holds_117 : decode b_M_holds 117 = .ok (.goto 30, 3) := by decide +kernel
theorem d_M_holds_120 : decode b_M_holds 120 = .ok (.aload_n 0, 1) := by decide +kernel
theorem d_M_holds_121 : decode b_M_holds 121 = .ok (.getfield 86, 3) := by decide +kernel
theorem d_M_holds_124 : decode b_M_holds 124 = .ok (.iload 4, 2) := by decide +kernel
theorem d_M_holds_126 : decode b_M_holds 126 = .ok (.iconst 1, 1) := by decide +kernel
theorem d_M_holds_127 : decode b_M_holds 127 = .ok (.isub, 1) := by decide +kernel
theorem d_M_holds_128 : decode b_M_holds 128 = .ok (.baload, 1) := by decide +kernel
theorem d_M_holds_129 : decode b_M_holds 129 = .ok (.ifCond .ne 13, 3) := by decide +kernel
theorem d_M_holds_132 : decode b_M_holds 132 = .ok (.aload_n 0, 1) := by decide +kernel
theorem d_M_holds_133 : decode b_M_holds 133 = .ok (.getfield 86, 3) := by decide +kernel
theorem d_M_holds_136 : decode b_M_holds 136 = .ok (.iload 4, 2) := by decide +kernel
theorem d_M_holds_138 : decode b_M_holds 138 = .ok (.baload, 1) := by decide +kernel
theorem d_M_holds_139 : decode b_M_holds 139 = .ok (.ifCond .eq 7, 3) := by decide +kernel
theorem d_M_holds_142 : decode b_M_holds 142 = .ok (.iconst 1, 1) := by decide +kernel
theorem d_M_holds_143 : decode b_M_holds 143 = .ok (.goto 4, 3) := by decide +kernel
theorem d_M_holds_146 : decode b_M_holds 146 = .ok (.iconst 0, 1) := by decide +kernel
theorem d_M_holds_147 : decode b_M_holds 147 = .ok (.bastore, 1) := by decide +kernel
theorem d_M_holds_148 : decode b_M_holds 148 = .ok (.goto 99, 3) := by decide +kernel
theorem d_M_holds_151 : decode b_M_holds 151 = .ok (.aload_n 0, 1) := by decide +kernel
theorem d_M_holds_152 : decode b_M_holds 152 = .ok (.iload 6, 2) := by decide +kernel
theorem d_M_holds_154 : decode b_M_holds 154 = .ok (.sipush 1000, 3) := by decide +kernel
theorem d_M_holds_157 : decode b_M_holds 157 = .ok (.idiv, 1) := by decide +kernel
theorem d_M_holds_158 : decode b_M_holds 158 = .ok (.iload_n 2, 1) := by decide +kernel
theorem d_M_holds_159 : decode b_M_holds 159 = .ok (.iload_n 3, 1) := by decide +kernel
theorem d_M_holds_160 : decode b_M_holds 160 = .ok (.invokevirtual 294, 3) := by decide +kernel
theorem d_M_holds_163 : decode b_M_holds 163 = .ok (.istore 7, 2) := by decide +kernel
theorem d_M_holds_165 : decode b_M_holds 165 = .ok (.iload 6, 2) := by decide +kernel
theorem d_M_holds_167 : decode b_M_holds 167 = .ok (.bipush 100, 2) := by decide +kernel
theorem d_M_holds_169 : decode b_M_holds 169 = .ok (.idiv, 1) := by decide +kernel
theorem d_M_holds_170 : decode b_M_holds 170 = .ok (.bipush 10, 2) := by decide +kernel
theorem d_M_holds_172 : decode b_M_holds 172 = .ok (.irem, 1) := by decide +kernel
theorem d_M_holds_173 : decode b_M_holds 173 = .ok (.istore 8, 2) := by decide +kernel
theorem d_M_holds_175 : decode b_M_holds 175 = .ok (.aload_n 0, 1) := by decide +kernel
theorem d_M_holds_176 : decode b_M_holds 176 = .ok (.getfield 86, 3) := by decide +kernel
theorem d_M_holds_179 : decode b_M_holds 179 = .ok (.iload 4, 2) := by decide +kernel
theorem d_M_holds_181 : decode b_M_holds 181 = .ok (.iload 8, 2) := by decide +kernel
theorem d_M_holds_183 : decode b_M_holds 183 = .ok (.ifCond .ne 21, 3) := by decide +kernel
theorem d_M_holds_186 : decode b_M_holds 186 = .ok (.iload 7, 2) := by decide +kernel
theorem d_M_holds_188 : decode b_M_holds 188 = .ok (.iload 6, 2) := by decide +kernel
theorem d_M_holds_190 : decode b_M_holds 190 = .ok (.bipush 100, 2) := by decide +kernel
theorem d_M_holds_192 : decode b_M_holds 192 = .ok (.irem, 1) := by decide +kernel
theorem d_M_holds_193 : decode b_M_holds 193 = .ok (.if_icmp .ge 7, 3) := by decide +kernel
theorem d_M_holds_196 : decode b_M_holds 196 = .ok (.iconst 1, 1) := by decide +kernel
theorem d_M_holds_197 : decode b_M_holds 197 = .ok (.goto 46, 3) := by decide +kernel
theorem d_M_holds_200 : decode b_M_holds 200 = .ok (.iconst 0, 1) := by decide +kernel
theorem d_M_holds_201 : decode b_M_holds 201 = .ok (.goto 42, 3) := by decide +kernel
theorem d_M_holds_204 : decode b_M_holds 204 = .ok (.iload 8, 2) := by decide +kernel
theorem d_M_holds_206 : decode b_M_holds 206 = .ok (.iconst 1, 1) := by decide +kernel
theorem d_M_holds_207 : decode b_M_holds 207 = .ok (.if_icmp .ne 21, 3) := by decide +kernel
theorem d_M_holds_210 : decode b_M_holds 210 = .ok (.iload 7, 2) := by decide +kernel
theorem d_M_holds_212 : decode b_M_holds 212 = .ok (.iload 6, 2) := by decide +kernel
theorem d_M_holds_214 : decode b_M_holds 214 = .ok (.bipush 100, 2) := by decide +kernel
theorem d_M_holds_216 : decode b_M_holds 216 = .ok (.irem, 1) := by decide +kernel
theorem d_M_holds_217 : decode b_M_holds 217 = .ok (.if_icmp .ne 7, 3) := by decide +kernel
theorem d_M_holds_220 : decode b_M_holds 220 = .ok (.iconst 1, 1) := by decide +kernel
theorem d_M_holds_221 : decode b_M_holds 221 = .ok (.goto 22, 3) := by decide +kernel
theorem d_M_holds_224 : decode b_M_holds 224 = .ok (.iconst 0, 1) := by decide +kernel
theorem d_M_holds_225 : decode b_M_holds 225 = .ok (.goto 18, 3) := by decide +kernel
theorem d_M_holds_228 : decode b_M_holds 228 = .ok (.iload 7, 2) := by decide +kernel
theorem d_M_holds_230 : decode b_M_holds 230 = .ok (.iload 6, 2) := by decide +kernel
theorem d_M_holds_232 : decode b_M_holds 232 = .ok (.bipush 100, 2) := by decide +kernel
theorem d_M_holds_234 : decode b_M_holds 234 = .ok (.irem, 1) := by decide +kernel
theorem d_M_holds_235 : decode b_M_holds 235 = .ok (.if_icmp .le 7, 3) := by decide +kernel
theorem d_M_holds_238 : decode b_M_holds 238 = .ok (.iconst 1, 1) := by decide +kernel
theorem d_M_holds_239 : decode b_M_holds 239 = .ok (.goto 4, 3) := by decide +kernel
theorem d_M_holds_242 : decode b_M_holds 242 = .ok (.iconst 0, 1) := by decide +kernel
theorem d_M_holds_243 : decode b_M_holds 243 = .ok (.bastore, 1) := by decide +kernel
theorem d_M_holds_244 : decode b_M_holds 244 = .ok (.iinc 4 1, 3) := by decide +kernel
theorem d_M_holds_247 : decode b_M_holds 247 = .ok (.iinc 5 1, 3) := by decide +kernel
theorem d_M_holds_250 : decode b_M_holds 250 = .ok (.goto (-239), 3) := by decide +kernel
theorem d_M_holds_253 : decode b_M_holds 253 = .ok (.aload_n 0, 1) := by decide +kernel
theorem d_M_holds_254 : decode b_M_holds 254 = .ok (.getfield 86, 3) := by decide +kernel
theorem d_M_holds_257 : decode b_M_holds 257 = .ok (.iconst 0, 1) := by decide +kernel
theorem d_M_holds_258 : decode b_M_holds 258 = .ok (.baload, 1) := by decide +kernel
theorem d_M_holds_259 : decode b_M_holds 259 = .ok (.ireturn, 1) := by decide +kernel
set_option maxRecDepth 20000 in
theorem c_M_holds_b142 {r : Int32} {wz : gW} {rec11 : Nat × Int32 × Int32 × Int32 × Int32 × Int32 × gW → Option (Int32 × gW)} (ih11 : ∀ (a0 : Nat) (a1 : Int32) (a2 : Int32) (a3 : Int32) (a4 : Int32) (a5 : Int32) (w : gW) (ls : Array Slot) (H : Heap) (locs : List Loc), rec11 (a0, a1, a2, a3, a4, a5, w) = some (r, wz) → lv_has ls 9 [(0, .ref (B + a0)), (1, .int a1), (2, .int a2), (3, .int a3), (4, .int a4), (5, .int a5)] → gRep D cA B w H → va_S (gA B) s.heap H locs → W p l e ({ frames := 2, cells := 0, slots := 0, locals := 63 } : Room) s m args below meth c H locs 0 0 (MQ below (gQi D cA B r wz) args s 0 0 (gA B)) (F0 m 11 ls [])) (C : gC p s m args meth c "RidCoppersModel" b_M_holds 9 (some .boolean) D cA oc B) (a0 : Nat) (a1 : Int32) (a2 : Int32) (a3 : Int32) (a4 : Int32) (a5 : Int32) (z0 : Int32) (z1 : Nat) (w : gW) {ls : Array Slot} {H : Heap} {locs : List Loc} (hl : lv_has ls 9 [(0, .ref (B + a0)), (1, .int a1), (2, .int a2), (3, .int a3), (4, .int a4), (5, .int a5)]) (hf : f_M_holds_b142 N rec11 a0 a1 a2 a3 a4 a5 z0 z1 w = some (r, wz)) (hR : gRep D cA B w H) (hS : va_S (gA B) s.heap H locs) : W p l e ({ frames := 2, cells := 0, slots := 0, locals := 63 } : Room) s m args below meth c H locs 0 0 (MQ below (gQi D cA B r wz) args s 0 0 (gA B)) (F0 m 142 ls [.int z0, .ref (B + z1)]) := by
  obtain ⟨hx, hb, hml, hown, hts, hr, hlocks, hK, hBs⟩ := id C
  unfold f_M_holds_b142 at hf
  refine lv_iconst (v := 1) hx hb d_M_holds_142 (by decide) ?_
  refine lv_goto (tgt := 147) hx hb d_M_holds_143 (by decide) ?_
  have ⟨h74, hf⟩ := gd_e hf
  have ⟨h75, hf⟩ := gd_e hf
  refine g_zast hx hb hK hR hS h74 h75 d_M_holds_147 (fun H locs hR hS => ?_)
  refine g_nW hf hR (fun w76 hf hR => ?_)
  refine lv_goto (tgt := 247) hx hb d_M_holds_148 (by decide) ?_
  refine g_iinc (lv' := fun x77 => [(5, .int x77), (0, .ref (B + a0)), (1, .int a1), (2, .int a2), (3, .int a3), (4, .int a4)]) hf hx hb d_M_holds_247 hl (k := 5) rfl (by decide) (by decide) (fun _ => rfl) (fun x77 ls hf hl => ?_)
  refine lv_goto (tgt := 11) hx hb d_M_holds_250 (by decide) ?_
  exact ih11 a0 a1 a2 a3 a4 x77 w76 _ _ _ hf (lv_sub hl [1, 2, 3, 4, 5, 0] rfl) hR hS
set_option maxRecDepth 20000 in
theorem c_M_holds_b116 {r : Int32} {wz : gW} {rec11 : Nat × Int32 × Int32 × Int32 × Int32 × Int32 × gW → Option (Int32 × gW)} (ih11 : ∀ (a0 : Nat) (a1 : Int32) (a2 : Int32) (a3 : Int32) (a4 : Int32) (a5 : Int32) (w : gW) (ls : Array Slot) (H : Heap) (locs : List Loc), rec11 (a0, a1, a2, a3, a4, a5, w) = some (r, wz) → lv_has ls 9 [(0, .ref (B + a0)), (1, .int a1), (2, .int a2), (3, .int a3), (4, .int a4), (5, .int a5)] → gRep D cA B w H → va_S (gA B) s.heap H locs → W p l e ({ frames := 2, cells := 0, slots := 0, locals := 63 } : Room) s m args below meth c H locs 0 0 (MQ below (gQi D cA B r wz) args s 0 0 (gA B)) (F0 m 11 ls [])) (C : gC p s m args meth c "RidCoppersModel" b_M_holds 9 (some .boolean) D cA oc B) (a0 : Nat) (a1 : Int32) (a2 : Int32) (a3 : Int32) (a4 : Int32) (a5 : Int32) (z0 : Int32) (z1 : Nat) (w : gW) {ls : Array Slot} {H : Heap} {locs : List Loc} (hl : lv_has ls 9 [(0, .ref (B + a0)), (1, .int a1), (2, .int a2), (3, .int a3), (4, .int a4), (5, .int a5)]) (hf : f_M_holds_b116 N rec11 a0 a1 a2 a3 a4 a5 z0 z1 w = some (r, wz)) (hR : gRep D cA B w H) (hS : va_S (gA B) s.heap H locs) : W p l e ({ frames := 2, cells := 0, slots := 0, locals := 63 } : Room) s m args below meth c H locs 0 0 (MQ below (gQi D cA B r wz) args s 0 0 (gA B)) (F0 m 116 ls [.int z0, .ref (B + z1)]) := by
  obtain ⟨hx, hb, hml, hown, hts, hr, hlocks, hK, hBs⟩ := id C
  unfold f_M_holds_b116 at hf
  refine lv_iconst (v := 0) hx hb d_M_holds_116 (by decide) ?_
  refine lv_goto (tgt := 147) hx hb d_M_holds_117 (by decide) ?_
  have ⟨h87, hf⟩ := gd_e hf
  have ⟨h88, hf⟩ := gd_e hf
  refine g_zast hx hb hK hR hS h87 h88 d_M_holds_147 (fun H locs hR hS => ?_)
  refine g_nW hf hR (fun w89 hf hR => ?_)
  refine lv_goto (tgt := 247) hx hb d_M_holds_148 (by decide) ?_
  refine g_iinc (lv' := fun x90 => [(5, .int x90), (0, .ref (B + a0)), (1, .int a1), (2, .int a2), (3, .int a3), (4, .int a4)]) hf hx hb d_M_holds_247 hl (k := 5) rfl (by decide) (by decide) (fun _ => rfl) (fun x90 ls hf hl => ?_)
  refine lv_goto (tgt := 11) hx hb d_M_holds_250 (by decide) ?_
  exact ih11 a0 a1 a2 a3 a4 x90 w89 _ _ _ hf (lv_sub hl [1, 2, 3, 4, 5, 0] rfl) hR hS
set_option maxRecDepth 20000 in
theorem c_M_holds_b11 {r : Int32} {wz : gW} {rec11 : Nat × Int32 × Int32 × Int32 × Int32 × Int32 × gW → Option (Int32 × gW)} (ih11 : ∀ (a0 : Nat) (a1 : Int32) (a2 : Int32) (a3 : Int32) (a4 : Int32) (a5 : Int32) (w : gW) (ls : Array Slot) (H : Heap) (locs : List Loc), rec11 (a0, a1, a2, a3, a4, a5, w) = some (r, wz) → lv_has ls 9 [(0, .ref (B + a0)), (1, .int a1), (2, .int a2), (3, .int a3), (4, .int a4), (5, .int a5)] → gRep D cA B w H → va_S (gA B) s.heap H locs → W p l e ({ frames := 2, cells := 0, slots := 0, locals := 63 } : Room) s m args below meth c H locs 0 0 (MQ below (gQi D cA B r wz) args s 0 0 (gA B)) (F0 m 11 ls [])) (C : gC p s m args meth c "RidCoppersModel" b_M_holds 9 (some .boolean) D cA oc B) (a0 : Nat) (a1 : Int32) (a2 : Int32) (a3 : Int32) (a4 : Int32) (a5 : Int32) (w : gW) {ls : Array Slot} {H : Heap} {locs : List Loc} (hl : lv_has ls 9 [(0, .ref (B + a0)), (1, .int a1), (2, .int a2), (3, .int a3), (4, .int a4), (5, .int a5)]) (hf : f_M_holds_b11 N rec11 a0 a1 a2 a3 a4 a5 w = some (r, wz)) (hR : gRep D cA B w H) (hS : va_S (gA B) s.heap H locs) : W p l e ({ frames := 2, cells := 0, slots := 0, locals := 63 } : Room) s m args below meth c H locs 0 0 (MQ below (gQi D cA B r wz) args s 0 0 (gA B)) (F0 m 11 ls []) := by
  obtain ⟨hx, hb, hml, hown, hts, hr, hlocks, hK, hBs⟩ := id C
  unfold f_M_holds_b11 at hf
  refine lv_iload hx hb d_M_holds_11 (lv_at hl 5 rfl) ?_
  refine lv_aload_n hx hb d_M_holds_13 rfl (lv_at hl 0 rfl) ?_
  have ⟨h7, hf⟩ := gd_e hf
  have ⟨x8, h9, hf⟩ := rr_e hf
  refine g_getR hx hb hts hown hK hR fl_M_65 (fun _ => rfl) h7 h9 d_M_holds_14 ?_
  refine lv_iload_n hx hb d_M_holds_17 rfl (lv_at hl 1 rfl) ?_
  have ⟨h10, hf⟩ := gd_e hf
  have ⟨h11, hf⟩ := gd_e hf
  refine g_iald hx hb hK hR h10 h11 d_M_holds_18 ?_
  refine g_nI hf (fun x12 hf => ?_)
  refine lv_icmp_ge (tgt := 253) hx hb d_M_holds_19 (by decide) (fun hc => ?_) (fun hc => ?_)
  · have hf := cd_t hc hf
    refine lv_aload_n hx hb d_M_holds_253 rfl (lv_at hl 0 rfl) ?_
    have ⟨x13, h14, hf⟩ := rr_e hf
    refine g_getR hx hb hts hown hK hR fl_M_86 (fun _ => rfl) h7 h14 d_M_holds_254 ?_
    refine lv_iconst (v := 0) hx hb d_M_holds_257 (by decide) ?_
    have ⟨h15, hf⟩ := gd_e hf
    have ⟨h16, hf⟩ := gd_e hf
    refine g_zald hx hb hK hR h15 h16 d_M_holds_258 ?_
    refine g_nI hf (fun x17 hf => ?_)
    have ⟨h18, hf⟩ := gd_e hf
    exact g_iret hx hb hr hlocks hR hS hf (nb01 h18) d_M_holds_259
  have hf := cd_f hc hf
  refine lv_aload_n hx hb d_M_holds_22 rfl (lv_at hl 0 rfl) ?_
  have ⟨x19, h20, hf⟩ := rr_e hf
  refine g_getR hx hb hts hown hK hR fl_M_68 (fun _ => rfl) h7 h20 d_M_holds_23 ?_
  refine lv_iload hx hb d_M_holds_26 (lv_at hl 5 rfl) ?_
  have ⟨h21, hf⟩ := gd_e hf
  have ⟨h22, hf⟩ := gd_e hf
  refine g_iald hx hb hK hR h21 h22 d_M_holds_28 ?_
  refine g_nI hf (fun x23 hf => ?_)
  refine lv_istore (lv' := [(6, .int x23), (0, .ref (B + a0)), (1, .int a1), (2, .int a2), (3, .int a3), (4, .int a4), (5, .int a5)]) hx hb d_M_holds_29 hl (by decide) rfl (fun ls hl => ?_)
  refine lv_iload hx hb d_M_holds_31 (lv_at hl 0 rfl) ?_
  refine lv_bipush (v := (-33)) hx hb d_M_holds_33 (by decide) ?_
  refine lv_icmp_ne (tgt := 67) hx hb d_M_holds_35 (by decide) (fun hc => ?_) (fun hc => ?_)
  · have hf := cd_f hc hf
    refine lv_iload hx hb d_M_holds_67 (lv_at hl 0 rfl) ?_
    refine lv_if_ge (tgt := 151) hx hb d_M_holds_69 (by decide) (fun hc => ?_) (fun hc => ?_)
    · have hf := cd_t hc hf
      refine lv_aload_n hx hb d_M_holds_151 rfl (lv_at hl 1 rfl) ?_
      refine lv_iload hx hb d_M_holds_152 (lv_at hl 0 rfl) ?_
      refine lv_sipush (v := 1000) hx hb d_M_holds_154 (by decide) ?_
      refine lv_idiv hx hb d_M_holds_157 (by decide) ?_
      refine g_nI hf (fun x24 hf => ?_)
      refine lv_iload_n hx hb d_M_holds_158 rfl (lv_at hl 3 rfl) ?_
      refine lv_iload_n hx hb d_M_holds_159 rfl (lv_at hl 4 rfl) ?_
      have ⟨x25, w26, h27, hf⟩ := kl_e hf
      refine g_ki0 (g_rV (As := [.int x24, .int a2, .int a3]) (rest := []) hx hb hml hown hts hK hR hS (c_M_factOf l D cA oc B N a0 x24 a2 a3 w h27) I_M_factOf m_1316 mp_49 (gRecv hK hR (ci := 12) rfl h7) rfl rfl (Nat.le_of_ble_eq_true rfl) hl.1 ⟨Nat.le_of_ble_eq_true rfl, Nat.le_of_ble_eq_true rfl⟩ ⟨Nat.le_of_ble_eq_true rfl, Nat.le_of_ble_eq_true rfl⟩ d_M_holds_160) hS (fun H locs hR hS => ?_)
      refine lv_istore (lv' := [(7, .int x25), (6, .int x23), (0, .ref (B + a0)), (1, .int a1), (2, .int a2), (3, .int a3), (4, .int a4), (5, .int a5)]) hx hb d_M_holds_163 hl (by decide) rfl (fun ls hl => ?_)
      refine lv_iload hx hb d_M_holds_165 (lv_at hl 1 rfl) ?_
      refine lv_bipush (v := 100) hx hb d_M_holds_167 (by decide) ?_
      refine lv_idiv hx hb d_M_holds_169 (by decide) ?_
      refine g_nI hf (fun x28 hf => ?_)
      refine lv_bipush (v := 10) hx hb d_M_holds_170 (by decide) ?_
      refine lv_irem hx hb d_M_holds_172 (by decide) ?_
      refine g_nI hf (fun x29 hf => ?_)
      refine lv_istore (lv' := [(8, .int x29), (7, .int x25), (6, .int x23), (0, .ref (B + a0)), (1, .int a1), (2, .int a2), (3, .int a3), (4, .int a4), (5, .int a5)]) hx hb d_M_holds_173 hl (by decide) rfl (fun ls hl => ?_)
      refine lv_aload_n hx hb d_M_holds_175 rfl (lv_at hl 3 rfl) ?_
      have ⟨h30, hf⟩ := gd_e hf
      have ⟨x31, h32, hf⟩ := rr_e hf
      refine g_getR hx hb hts hown hK hR fl_M_86 (fun _ => rfl) h30 h32 d_M_holds_176 ?_
      refine lv_iload hx hb d_M_holds_179 (lv_at hl 7 rfl) ?_
      refine lv_iload hx hb d_M_holds_181 (lv_at hl 0 rfl) ?_
      refine lv_if_ne (tgt := 204) hx hb d_M_holds_183 (by decide) (fun hc => ?_) (fun hc => ?_)
      · have hf := cd_f hc hf
        refine lv_iload hx hb d_M_holds_204 (lv_at hl 0 rfl) ?_
        refine lv_iconst (v := 1) hx hb d_M_holds_206 (by decide) ?_
        refine lv_icmp_ne (tgt := 228) hx hb d_M_holds_207 (by decide) (fun hc => ?_) (fun hc => ?_)
        · have hf := cd_f hc hf
          refine lv_iload hx hb d_M_holds_228 (lv_at hl 1 rfl) ?_
          refine lv_iload hx hb d_M_holds_230 (lv_at hl 2 rfl) ?_
          refine lv_bipush (v := 100) hx hb d_M_holds_232 (by decide) ?_
          refine lv_irem hx hb d_M_holds_234 (by decide) ?_
          refine g_nI hf (fun x33 hf => ?_)
          refine lv_icmp_le (tgt := 242) hx hb d_M_holds_235 (by decide) (fun hc => ?_) (fun hc => ?_)
          · have hf := cd_t hc hf
            refine lv_iconst (v := 0) hx hb d_M_holds_242 (by decide) ?_
            have ⟨h34, hf⟩ := gd_e hf
            have ⟨h35, hf⟩ := gd_e hf
            refine g_zast hx hb hK hR hS h34 h35 d_M_holds_243 (fun H locs hR hS => ?_)
            refine g_nW hf hR (fun w36 hf hR => ?_)
            refine g_iinc (lv' := fun x37 => [(4, .int x37), (8, .int x29), (7, .int x25), (6, .int x23), (0, .ref (B + a0)), (1, .int a1), (2, .int a2), (3, .int a3), (5, .int a5)]) hf hx hb d_M_holds_244 hl (k := 7) rfl (by decide) (by decide) (fun _ => rfl) (fun x37 ls hf hl => ?_)
            refine g_iinc (lv' := fun x38 => [(5, .int x38), (4, .int x37), (8, .int x29), (7, .int x25), (6, .int x23), (0, .ref (B + a0)), (1, .int a1), (2, .int a2), (3, .int a3)]) hf hx hb d_M_holds_247 hl (k := 8) rfl (by decide) (by decide) (fun _ => rfl) (fun x38 ls hf hl => ?_)
            refine lv_goto (tgt := 11) hx hb d_M_holds_250 (by decide) ?_
            exact ih11 a0 a1 a2 a3 x37 x38 w36 _ _ _ hf (lv_sub hl [5, 6, 7, 8, 1, 0] rfl) hR hS
          have hf := cd_f hc hf
          refine lv_iconst (v := 1) hx hb d_M_holds_238 (by decide) ?_
          refine lv_goto (tgt := 243) hx hb d_M_holds_239 (by decide) ?_
          have ⟨h39, hf⟩ := gd_e hf
          have ⟨h40, hf⟩ := gd_e hf
          refine g_zast hx hb hK hR hS h39 h40 d_M_holds_243 (fun H locs hR hS => ?_)
          refine g_nW hf hR (fun w41 hf hR => ?_)
          refine g_iinc (lv' := fun x42 => [(4, .int x42), (8, .int x29), (7, .int x25), (6, .int x23), (0, .ref (B + a0)), (1, .int a1), (2, .int a2), (3, .int a3), (5, .int a5)]) hf hx hb d_M_holds_244 hl (k := 7) rfl (by decide) (by decide) (fun _ => rfl) (fun x42 ls hf hl => ?_)
          refine g_iinc (lv' := fun x43 => [(5, .int x43), (4, .int x42), (8, .int x29), (7, .int x25), (6, .int x23), (0, .ref (B + a0)), (1, .int a1), (2, .int a2), (3, .int a3)]) hf hx hb d_M_holds_247 hl (k := 8) rfl (by decide) (by decide) (fun _ => rfl) (fun x43 ls hf hl => ?_)
          refine lv_goto (tgt := 11) hx hb d_M_holds_250 (by decide) ?_
          exact ih11 a0 a1 a2 a3 x42 x43 w41 _ _ _ hf (lv_sub hl [5, 6, 7, 8, 1, 0] rfl) hR hS
        have hf := cd_t hc hf
        refine lv_iload hx hb d_M_holds_210 (lv_at hl 1 rfl) ?_
        refine lv_iload hx hb d_M_holds_212 (lv_at hl 2 rfl) ?_
        refine lv_bipush (v := 100) hx hb d_M_holds_214 (by decide) ?_
        refine lv_irem hx hb d_M_holds_216 (by decide) ?_
        refine g_nI hf (fun x44 hf => ?_)
        refine lv_icmp_ne (tgt := 224) hx hb d_M_holds_217 (by decide) (fun hc => ?_) (fun hc => ?_)
        · have hf := cd_f hc hf
          refine lv_iconst (v := 0) hx hb d_M_holds_224 (by decide) ?_
          refine lv_goto (tgt := 243) hx hb d_M_holds_225 (by decide) ?_
          have ⟨h45, hf⟩ := gd_e hf
          have ⟨h46, hf⟩ := gd_e hf
          refine g_zast hx hb hK hR hS h45 h46 d_M_holds_243 (fun H locs hR hS => ?_)
          refine g_nW hf hR (fun w47 hf hR => ?_)
          refine g_iinc (lv' := fun x48 => [(4, .int x48), (8, .int x29), (7, .int x25), (6, .int x23), (0, .ref (B + a0)), (1, .int a1), (2, .int a2), (3, .int a3), (5, .int a5)]) hf hx hb d_M_holds_244 hl (k := 7) rfl (by decide) (by decide) (fun _ => rfl) (fun x48 ls hf hl => ?_)
          refine g_iinc (lv' := fun x49 => [(5, .int x49), (4, .int x48), (8, .int x29), (7, .int x25), (6, .int x23), (0, .ref (B + a0)), (1, .int a1), (2, .int a2), (3, .int a3)]) hf hx hb d_M_holds_247 hl (k := 8) rfl (by decide) (by decide) (fun _ => rfl) (fun x49 ls hf hl => ?_)
          refine lv_goto (tgt := 11) hx hb d_M_holds_250 (by decide) ?_
          exact ih11 a0 a1 a2 a3 x48 x49 w47 _ _ _ hf (lv_sub hl [5, 6, 7, 8, 1, 0] rfl) hR hS
        have hf := cd_t hc hf
        refine lv_iconst (v := 1) hx hb d_M_holds_220 (by decide) ?_
        refine lv_goto (tgt := 243) hx hb d_M_holds_221 (by decide) ?_
        have ⟨h50, hf⟩ := gd_e hf
        have ⟨h51, hf⟩ := gd_e hf
        refine g_zast hx hb hK hR hS h50 h51 d_M_holds_243 (fun H locs hR hS => ?_)
        refine g_nW hf hR (fun w52 hf hR => ?_)
        refine g_iinc (lv' := fun x53 => [(4, .int x53), (8, .int x29), (7, .int x25), (6, .int x23), (0, .ref (B + a0)), (1, .int a1), (2, .int a2), (3, .int a3), (5, .int a5)]) hf hx hb d_M_holds_244 hl (k := 7) rfl (by decide) (by decide) (fun _ => rfl) (fun x53 ls hf hl => ?_)
        refine g_iinc (lv' := fun x54 => [(5, .int x54), (4, .int x53), (8, .int x29), (7, .int x25), (6, .int x23), (0, .ref (B + a0)), (1, .int a1), (2, .int a2), (3, .int a3)]) hf hx hb d_M_holds_247 hl (k := 8) rfl (by decide) (by decide) (fun _ => rfl) (fun x54 ls hf hl => ?_)
        refine lv_goto (tgt := 11) hx hb d_M_holds_250 (by decide) ?_
        exact ih11 a0 a1 a2 a3 x53 x54 w52 _ _ _ hf (lv_sub hl [5, 6, 7, 8, 1, 0] rfl) hR hS
      have hf := cd_t hc hf
      refine lv_iload hx hb d_M_holds_186 (lv_at hl 1 rfl) ?_
      refine lv_iload hx hb d_M_holds_188 (lv_at hl 2 rfl) ?_
      refine lv_bipush (v := 100) hx hb d_M_holds_190 (by decide) ?_
      refine lv_irem hx hb d_M_holds_192 (by decide) ?_
      refine g_nI hf (fun x55 hf => ?_)
      refine lv_icmp_ge (tgt := 200) hx hb d_M_holds_193 (by decide) (fun hc => ?_) (fun hc => ?_)
      · have hf := cd_t hc hf
        refine lv_iconst (v := 0) hx hb d_M_holds_200 (by decide) ?_
        refine lv_goto (tgt := 243) hx hb d_M_holds_201 (by decide) ?_
        have ⟨h56, hf⟩ := gd_e hf
        have ⟨h57, hf⟩ := gd_e hf
        refine g_zast hx hb hK hR hS h56 h57 d_M_holds_243 (fun H locs hR hS => ?_)
        refine g_nW hf hR (fun w58 hf hR => ?_)
        refine g_iinc (lv' := fun x59 => [(4, .int x59), (8, .int x29), (7, .int x25), (6, .int x23), (0, .ref (B + a0)), (1, .int a1), (2, .int a2), (3, .int a3), (5, .int a5)]) hf hx hb d_M_holds_244 hl (k := 7) rfl (by decide) (by decide) (fun _ => rfl) (fun x59 ls hf hl => ?_)
        refine g_iinc (lv' := fun x60 => [(5, .int x60), (4, .int x59), (8, .int x29), (7, .int x25), (6, .int x23), (0, .ref (B + a0)), (1, .int a1), (2, .int a2), (3, .int a3)]) hf hx hb d_M_holds_247 hl (k := 8) rfl (by decide) (by decide) (fun _ => rfl) (fun x60 ls hf hl => ?_)
        refine lv_goto (tgt := 11) hx hb d_M_holds_250 (by decide) ?_
        exact ih11 a0 a1 a2 a3 x59 x60 w58 _ _ _ hf (lv_sub hl [5, 6, 7, 8, 1, 0] rfl) hR hS
      have hf := cd_f hc hf
      refine lv_iconst (v := 1) hx hb d_M_holds_196 (by decide) ?_
      refine lv_goto (tgt := 243) hx hb d_M_holds_197 (by decide) ?_
      have ⟨h61, hf⟩ := gd_e hf
      have ⟨h62, hf⟩ := gd_e hf
      refine g_zast hx hb hK hR hS h61 h62 d_M_holds_243 (fun H locs hR hS => ?_)
      refine g_nW hf hR (fun w63 hf hR => ?_)
      refine g_iinc (lv' := fun x64 => [(4, .int x64), (8, .int x29), (7, .int x25), (6, .int x23), (0, .ref (B + a0)), (1, .int a1), (2, .int a2), (3, .int a3), (5, .int a5)]) hf hx hb d_M_holds_244 hl (k := 7) rfl (by decide) (by decide) (fun _ => rfl) (fun x64 ls hf hl => ?_)
      refine g_iinc (lv' := fun x65 => [(5, .int x65), (4, .int x64), (8, .int x29), (7, .int x25), (6, .int x23), (0, .ref (B + a0)), (1, .int a1), (2, .int a2), (3, .int a3)]) hf hx hb d_M_holds_247 hl (k := 8) rfl (by decide) (by decide) (fun _ => rfl) (fun x65 ls hf hl => ?_)
      refine lv_goto (tgt := 11) hx hb d_M_holds_250 (by decide) ?_
      exact ih11 a0 a1 a2 a3 x64 x65 w63 _ _ _ hf (lv_sub hl [5, 6, 7, 8, 1, 0] rfl) hR hS
    have hf := cd_f hc hf
    refine g_iinc (lv' := fun x66 => [(4, .int x66), (6, .int x23), (0, .ref (B + a0)), (1, .int a1), (2, .int a2), (3, .int a3), (5, .int a5)]) hf hx hb d_M_holds_72 hl (k := 5) rfl (by decide) (by decide) (fun _ => rfl) (fun x66 ls hf hl => ?_)
    refine lv_aload_n hx hb d_M_holds_75 rfl (lv_at hl 2 rfl) ?_
    have ⟨x67, h68, hf⟩ := rr_e hf
    refine g_getR hx hb hts hown hK hR fl_M_86 (fun _ => rfl) h7 h68 d_M_holds_76 ?_
    refine lv_iload hx hb d_M_holds_79 (lv_at hl 0 rfl) ?_
    refine lv_iconst (v := 1) hx hb d_M_holds_81 (by decide) ?_
    refine lv_isub hx hb d_M_holds_82 ?_
    refine g_nI hf (fun x69 hf => ?_)
    refine lv_iload hx hb d_M_holds_83 (lv_at hl 1 rfl) ?_
    refine lv_bipush (v := (-38)) hx hb d_M_holds_85 (by decide) ?_
    refine lv_icmp_ne (tgt := 120) hx hb d_M_holds_87 (by decide) (fun hc => ?_) (fun hc => ?_)
    · have hf := cd_f hc hf
      refine lv_aload_n hx hb d_M_holds_120 rfl (lv_at hl 2 rfl) ?_
      refine g_getR hx hb hts hown hK hR fl_M_86 (fun _ => rfl) h7 h68 d_M_holds_121 ?_
      refine lv_iload hx hb d_M_holds_124 (lv_at hl 0 rfl) ?_
      refine lv_iconst (v := 1) hx hb d_M_holds_126 (by decide) ?_
      refine lv_isub hx hb d_M_holds_127 ?_
      refine g_nI hf (fun x70 hf => ?_)
      have ⟨h71, hf⟩ := gd_e hf
      have ⟨h72, hf⟩ := gd_e hf
      refine g_zald hx hb hK hR h71 h72 d_M_holds_128 ?_
      refine g_nI hf (fun x73 hf => ?_)
      refine lv_if_ne (tgt := 142) hx hb d_M_holds_129 (by decide) (fun hc => ?_) (fun hc => ?_)
      · have hf := cd_f hc hf
        exact c_M_holds_b142 ih11 C a0 a1 a2 a3 x66 a5 x69 x67 w (lv_sub hl [2, 3, 4, 5, 0, 6] rfl) hf hR hS
      have hf := cd_t hc hf
      refine lv_aload_n hx hb d_M_holds_132 rfl (lv_at hl 2 rfl) ?_
      refine g_getR hx hb hts hown hK hR fl_M_86 (fun _ => rfl) h7 h68 d_M_holds_133 ?_
      refine lv_iload hx hb d_M_holds_136 (lv_at hl 0 rfl) ?_
      have ⟨h78, hf⟩ := gd_e hf
      refine g_zald hx hb hK hR h71 h78 d_M_holds_138 ?_
      refine g_nI hf (fun x79 hf => ?_)
      refine lv_if_eq (tgt := 146) hx hb d_M_holds_139 (by decide) (fun hc => ?_) (fun hc => ?_)
      · have hf := cd_t hc hf
        refine lv_iconst (v := 0) hx hb d_M_holds_146 (by decide) ?_
        have ⟨h80, hf⟩ := gd_e hf
        refine g_zast hx hb hK hR hS h71 h80 d_M_holds_147 (fun H locs hR hS => ?_)
        refine g_nW hf hR (fun w81 hf hR => ?_)
        refine lv_goto (tgt := 247) hx hb d_M_holds_148 (by decide) ?_
        refine g_iinc (lv' := fun x82 => [(5, .int x82), (4, .int x66), (6, .int x23), (0, .ref (B + a0)), (1, .int a1), (2, .int a2), (3, .int a3)]) hf hx hb d_M_holds_247 hl (k := 6) rfl (by decide) (by decide) (fun _ => rfl) (fun x82 ls hf hl => ?_)
        refine lv_goto (tgt := 11) hx hb d_M_holds_250 (by decide) ?_
        exact ih11 a0 a1 a2 a3 x66 x82 w81 _ _ _ hf (lv_sub hl [3, 4, 5, 6, 1, 0] rfl) hR hS
      have hf := cd_f hc hf
      exact c_M_holds_b142 ih11 C a0 a1 a2 a3 x66 a5 x69 x67 w (lv_sub hl [2, 3, 4, 5, 0, 6] rfl) hf hR hS
    have hf := cd_t hc hf
    refine lv_aload_n hx hb d_M_holds_90 rfl (lv_at hl 2 rfl) ?_
    refine g_getR hx hb hts hown hK hR fl_M_86 (fun _ => rfl) h7 h68 d_M_holds_91 ?_
    refine lv_iload hx hb d_M_holds_94 (lv_at hl 0 rfl) ?_
    refine lv_iconst (v := 1) hx hb d_M_holds_96 (by decide) ?_
    refine lv_isub hx hb d_M_holds_97 ?_
    refine g_nI hf (fun x83 hf => ?_)
    have ⟨h84, hf⟩ := gd_e hf
    have ⟨h85, hf⟩ := gd_e hf
    refine g_zald hx hb hK hR h84 h85 d_M_holds_98 ?_
    refine g_nI hf (fun x86 hf => ?_)
    refine lv_if_eq (tgt := 116) hx hb d_M_holds_99 (by decide) (fun hc => ?_) (fun hc => ?_)
    · have hf := cd_t hc hf
      exact c_M_holds_b116 ih11 C a0 a1 a2 a3 x66 a5 x69 x67 w (lv_sub hl [2, 3, 4, 5, 0, 6] rfl) hf hR hS
    have hf := cd_f hc hf
    refine lv_aload_n hx hb d_M_holds_102 rfl (lv_at hl 2 rfl) ?_
    refine g_getR hx hb hts hown hK hR fl_M_86 (fun _ => rfl) h7 h68 d_M_holds_103 ?_
    refine lv_iload hx hb d_M_holds_106 (lv_at hl 0 rfl) ?_
    have ⟨h91, hf⟩ := gd_e hf
    refine g_zald hx hb hK hR h84 h91 d_M_holds_108 ?_
    refine g_nI hf (fun x92 hf => ?_)
    refine lv_if_eq (tgt := 116) hx hb d_M_holds_109 (by decide) (fun hc => ?_) (fun hc => ?_)
    · have hf := cd_t hc hf
      exact c_M_holds_b116 ih11 C a0 a1 a2 a3 x66 a5 x69 x67 w (lv_sub hl [2, 3, 4, 5, 0, 6] rfl) hf hR hS
    have hf := cd_f hc hf
    refine lv_iconst (v := 1) hx hb d_M_holds_112 (by decide) ?_
    refine lv_goto (tgt := 147) hx hb d_M_holds_113 (by decide) ?_
    have ⟨h93, hf⟩ := gd_e hf
    refine g_zast hx hb hK hR hS h84 h93 d_M_holds_147 (fun H locs hR hS => ?_)
    refine g_nW hf hR (fun w94 hf hR => ?_)
    refine lv_goto (tgt := 247) hx hb d_M_holds_148 (by decide) ?_
    refine g_iinc (lv' := fun x95 => [(5, .int x95), (4, .int x66), (6, .int x23), (0, .ref (B + a0)), (1, .int a1), (2, .int a2), (3, .int a3)]) hf hx hb d_M_holds_247 hl (k := 6) rfl (by decide) (by decide) (fun _ => rfl) (fun x95 ls hf hl => ?_)
    refine lv_goto (tgt := 11) hx hb d_M_holds_250 (by decide) ?_
    exact ih11 a0 a1 a2 a3 x66 x95 w94 _ _ _ hf (lv_sub hl [3, 4, 5, 6, 1, 0] rfl) hR hS
  have hf := cd_t hc hf
  refine lv_aload_n hx hb d_M_holds_38 rfl (lv_at hl 1 rfl) ?_
  have ⟨x96, h97, hf⟩ := rr_e hf
  refine g_getR hx hb hts hown hK hR fl_M_86 (fun _ => rfl) h7 h97 d_M_holds_39 ?_
  refine lv_iload hx hb d_M_holds_42 (lv_at hl 5 rfl) ?_
  refine lv_iconst (v := 1) hx hb d_M_holds_44 (by decide) ?_
  refine lv_isub hx hb d_M_holds_45 ?_
  refine g_nI hf (fun x98 hf => ?_)
  refine lv_aload_n hx hb d_M_holds_46 rfl (lv_at hl 1 rfl) ?_
  refine g_getR hx hb hts hown hK hR fl_M_86 (fun _ => rfl) h7 h97 d_M_holds_47 ?_
  refine lv_iload hx hb d_M_holds_50 (lv_at hl 5 rfl) ?_
  refine lv_iconst (v := 1) hx hb d_M_holds_52 (by decide) ?_
  refine lv_isub hx hb d_M_holds_53 ?_
  refine g_nI hf (fun x99 hf => ?_)
  have ⟨h100, hf⟩ := gd_e hf
  have ⟨h101, hf⟩ := gd_e hf
  refine g_zald hx hb hK hR h100 h101 d_M_holds_54 ?_
  refine g_nI hf (fun x102 hf => ?_)
  refine lv_if_ne (tgt := 62) hx hb d_M_holds_55 (by decide) (fun hc => ?_) (fun hc => ?_)
  · have hf := cd_f hc hf
    refine lv_iconst (v := 0) hx hb d_M_holds_62 (by decide) ?_
    have ⟨h103, hf⟩ := gd_e hf
    refine g_zast hx hb hK hR hS h100 h103 d_M_holds_63 (fun H locs hR hS => ?_)
    refine g_nW hf hR (fun w104 hf hR => ?_)
    refine lv_goto (tgt := 247) hx hb d_M_holds_64 (by decide) ?_
    refine g_iinc (lv' := fun x105 => [(5, .int x105), (6, .int x23), (0, .ref (B + a0)), (1, .int a1), (2, .int a2), (3, .int a3), (4, .int a4)]) hf hx hb d_M_holds_247 hl (k := 6) rfl (by decide) (by decide) (fun _ => rfl) (fun x105 ls hf hl => ?_)
    refine lv_goto (tgt := 11) hx hb d_M_holds_250 (by decide) ?_
    exact ih11 a0 a1 a2 a3 a4 x105 w104 _ _ _ hf (lv_sub hl [2, 3, 4, 5, 6, 0] rfl) hR hS
  have hf := cd_t hc hf
  refine lv_iconst (v := 1) hx hb d_M_holds_58 (by decide) ?_
  refine lv_goto (tgt := 63) hx hb d_M_holds_59 (by decide) ?_
  have ⟨h106, hf⟩ := gd_e hf
  refine g_zast hx hb hK hR hS h100 h106 d_M_holds_63 (fun H locs hR hS => ?_)
  refine g_nW hf hR (fun w107 hf hR => ?_)
  refine lv_goto (tgt := 247) hx hb d_M_holds_64 (by decide) ?_
  refine g_iinc (lv' := fun x108 => [(5, .int x108), (6, .int x23), (0, .ref (B + a0)), (1, .int a1), (2, .int a2), (3, .int a3), (4, .int a4)]) hf hx hb d_M_holds_247 hl (k := 6) rfl (by decide) (by decide) (fun _ => rfl) (fun x108 ls hf hl => ?_)
  refine lv_goto (tgt := 11) hx hb d_M_holds_250 (by decide) ?_
  exact ih11 a0 a1 a2 a3 a4 x108 w107 _ _ _ hf (lv_sub hl [2, 3, 4, 5, 6, 0] rfl) hR hS
theorem c_M_holds_l11 {r : Int32} {wz : gW} (C : gC p s m args meth c "RidCoppersModel" b_M_holds 9 (some .boolean) D cA oc B) (a0 : Nat) (a1 : Int32) (a2 : Int32) (a3 : Int32) (a4 : Int32) (a5 : Int32) (w : gW) {ls : Array Slot} {H : Heap} {locs : List Loc} (hl : lv_has ls 9 [(0, .ref (B + a0)), (1, .int a1), (2, .int a2), (3, .int a3), (4, .int a4), (5, .int a5)]) (hf : f_M_holds_l11 N a0 a1 a2 a3 a4 a5 w = some (r, wz)) (hR : gRep D cA B w H) (hS : va_S (gA B) s.heap H locs) : W p l e ({ frames := 2, cells := 0, slots := 0, locals := 63 } : Room) s m args below meth c H locs 0 0 (MQ below (gQi D cA B r wz) args s 0 0 (gA B)) (F0 m 11 ls []) := by
  unfold f_M_holds_l11 at hf
  suffices hh : ∀ n : Nat, ∀ (a0 : Nat) (a1 : Int32) (a2 : Int32) (a3 : Int32) (a4 : Int32) (a5 : Int32) (w : gW) (ls : Array Slot) (H : Heap) (locs : List Loc), itr (fun rec (q : Nat × Int32 × Int32 × Int32 × Int32 × Int32 × gW) => f_M_holds_b11 N rec q.1 q.2.1 q.2.2.1 q.2.2.2.1 q.2.2.2.2.1 q.2.2.2.2.2.1 q.2.2.2.2.2.2) n (a0, a1, a2, a3, a4, a5, w) = some (r, wz) → lv_has ls 9 [(0, .ref (B + a0)), (1, .int a1), (2, .int a2), (3, .int a3), (4, .int a4), (5, .int a5)] → gRep D cA B w H → va_S (gA B) s.heap H locs → W p l e ({ frames := 2, cells := 0, slots := 0, locals := 63 } : Room) s m args below meth c H locs 0 0 (MQ below (gQi D cA B r wz) args s 0 0 (gA B)) (F0 m 11 ls []) from hh N a0 a1 a2 a3 a4 a5 w ls H locs hf hl hR hS
  intro n
  induction n with
  | zero => intro a0 a1 a2 a3 a4 a5 w ls H locs hf; cases hf
  | succ n ihn =>
    intro a0 a1 a2 a3 a4 a5 w ls H locs hf hl hR hS
    exact c_M_holds_b11 (N := N) ihn C a0 a1 a2 a3 a4 a5 w hl ((itr_s _ _ _).symm.trans hf) hR hS
set_option maxRecDepth 20000 in
theorem c_M_holds_b0 {r : Int32} {wz : gW} (C : gC p s m args meth c "RidCoppersModel" b_M_holds 9 (some .boolean) D cA oc B) (a0 : Nat) (a1 : Int32) (a2 : Int32) (a3 : Int32) (w : gW) {ls : Array Slot} {H : Heap} {locs : List Loc} (hl : lv_has ls 9 [(0, .ref (B + a0)), (1, .int a1), (2, .int a2), (3, .int a3)]) (hf : f_M_holds_b0 N a0 a1 a2 a3 w = some (r, wz)) (hR : gRep D cA B w H) (hS : va_S (gA B) s.heap H locs) : W p l e ({ frames := 2, cells := 0, slots := 0, locals := 63 } : Room) s m args below meth c H locs 0 0 (MQ below (gQi D cA B r wz) args s 0 0 (gA B)) (F0 m 0 ls []) := by
  obtain ⟨hx, hb, hml, hown, hts, hr, hlocks, hK, hBs⟩ := id C
  unfold f_M_holds_b0 at hf
  refine lv_iconst (v := 0) hx hb d_M_holds_0 (by decide) ?_
  refine lv_istore (lv' := [(4, .int 0), (0, .ref (B + a0)), (1, .int a1), (2, .int a2), (3, .int a3)]) hx hb d_M_holds_1 hl (by decide) rfl (fun ls hl => ?_)
  refine lv_aload_n hx hb d_M_holds_3 rfl (lv_at hl 1 rfl) ?_
  have ⟨h1, hf⟩ := gd_e hf
  have ⟨x2, h3, hf⟩ := rr_e hf
  refine g_getR hx hb hts hown hK hR fl_M_62 (fun _ => rfl) h1 h3 d_M_holds_4 ?_
  refine lv_iload_n hx hb d_M_holds_7 rfl (lv_at hl 2 rfl) ?_
  have ⟨h4, hf⟩ := gd_e hf
  have ⟨h5, hf⟩ := gd_e hf
  refine g_iald hx hb hK hR h4 h5 d_M_holds_8 ?_
  refine g_nI hf (fun x6 hf => ?_)
  refine lv_istore (lv' := [(5, .int x6), (4, .int 0), (0, .ref (B + a0)), (1, .int a1), (2, .int a2), (3, .int a3)]) hx hb d_M_holds_9 hl (by decide) rfl (fun ls hl => ?_)
  exact c_M_holds_l11 C a0 a1 a2 a3 0 x6 w (lv_sub hl [2, 3, 4, 5, 1, 0] rfl) hf hR hS
theorem c_M_holds (l : Launch) (D : va_G) (cA : Nat → ClassId) (oc : gO) (B N : Nat) (a0 : Nat) (a1 : Int32) (a2 : Int32) (a3 : Int32) (w : gW) {wz : gW} {r : Int32} (hf : f_M_holds N a0 a1 a2 a3 w = some (r, wz)) : Met l y_M_holds (Cond.code y_M_holds b_M_holds 9 (some .boolean) :: lw_good) ({ frames := 2, cells := 0, slots := 0, locals := 63 } : Room) (gPre D cA oc B [.ref (B + a0), .int a1, .int a2, .int a3] w) (gQi D cA B r wz) 0 0 (gA B) := by
  refine Met.ofW (cc := b_M_holds) (maxL := 9) (ret := (some .boolean)) (by decide +kernel) rfl ?_
  intro p e s m args below meth c s₁ Bd hml hv
  obtain ⟨hargs, C, hR⟩ := gC.enter (l := l) rfl Bd hml hv
  subst hargs
  have hl := lv_entry ([.ref (B + a0), .int a1, .int a2, .int a3]) (n := 9) (Nat.le_of_ble_eq_true rfl)
  rw [lg_entry_eq]
  generalize (lg_sl ([.ref (B + a0), .int a1, .int a2, .int a3]) ++ List.replicate (9 - (lg_sl ([.ref (B + a0), .int a1, .int a2, .int a3])).length) Slot.unset).toArray = ls at hl ⊢
  have hl : lv_has ls 9 [(0, .ref (B + a0)), (1, .int a1), (2, .int a2), (3, .int a3)] := hl
  exact c_M_holds_b0 C a0 a1 a2 a3 w (lv_sub hl [0, 1, 2, 3] rfl) hf hR va_S.rf
theorem d_M_sumOf_0 : decode b_M_sumOf 0 = .ok (.iconst 0, 1) := by decide +kernel
theorem d_M_sumOf_1 : decode b_M_sumOf 1 = .ok (.istore 5, 2) := by decide +kernel
theorem d_M_sumOf_3 : decode b_M_sumOf 3 = .ok (.iconst 0, 1) := by decide +kernel
theorem d_M_sumOf_4 : decode b_M_sumOf 4 = .ok (.istore 6, 2) := by decide +kernel
theorem d_M_sumOf_6 : decode b_M_sumOf 6 = .ok (.aload_n 0, 1) := by decide +kernel
theorem d_M_sumOf_7 : decode b_M_sumOf 7 = .ok (.invokevirtual 288, 3) := by decide +kernel
theorem d_M_sumOf_10 : decode b_M_sumOf 10 = .ok (.istore 7, 2) := by decide +kernel
theorem d_M_sumOf_12 : decode b_M_sumOf 12 = .ok (.iload 7, 2) := by decide +kernel
theorem d_M_sumOf_14 : decode b_M_sumOf 14 = .ok (.aload_n 0, 1) := by decide +kernel
theorem d_M_sumOf_15 : decode b_M_sumOf 15 = .ok (.invokevirtual 291, 3) := by decide +kernel
theorem d_M_sumOf_18 : decode b_M_sumOf 18 = .ok (.if_icmp .ge 53, 3) := by decide +kernel
theorem d_M_sumOf_21 : decode b_M_sumOf 21 = .ok (.aload_n 0, 1) := by decide +kernel
theorem d_M_sumOf_22 : decode b_M_sumOf 22 = .ok (.getfield 56, 3) := by decide +kernel
theorem d_M_sumOf_25 : decode b_M_sumOf 25 = .ok (.iload 7, 2) := by decide +kernel
theorem d_M_sumOf_27 : decode b_M_sumOf 27 = .ok (.iaload, 1) := by decide +kernel
theorem d_M_sumOf_28 : decode b_M_sumOf 28 = .ok (.iload_n 1, 1) := by decide +kernel
theorem d_M_sumOf_29 : decode b_M_sumOf 29 = .ok (.if_icmp .eq 6, 3) := by decide +kernel
theorem d_M_sumOf_32 : decode b_M_sumOf 32 = .ok (.goto 33, 3) := by decide +kernel
theorem d_M_sumOf_35 : decode b_M_sumOf 35 = .ok (.iconst 1, 1) := by decide +kernel
theorem d_M_sumOf_36 : decode b_M_sumOf 36 = .ok (.istore 6, 2) := by decide +kernel
theorem d_M_sumOf_38 : decode b_M_sumOf 38 = .ok (.iload 5, 2) := by decide +kernel
theorem d_M_sumOf_40 : decode b_M_sumOf 40 = .ok (.aload_n 0, 1) := by decide +kernel
theorem d_M_sumOf_41 : decode b_M_sumOf 41 = .ok (.iload 7, 2) := by decide +kernel
theorem d_M_sumOf_43 : decode b_M_sumOf 43 = .ok (.iload_n 2, 1) := by decide +kernel
theorem d_M_sumOf_44 : decode b_M_sumOf 44 = .ok (.iload_n 3, 1) := by decide +kernel
theorem d_M_sumOf_45 : decode b_M_sumOf 45 = .ok (.invokevirtual 298, 3) := by decide +kernel
theorem d_M_sumOf_48 : decode b_M_sumOf 48 = .ok (.ifCond .eq 13, 3) := by decide +kernel
theorem d_M_sumOf_51 : decode b_M_sumOf 51 = .ok (.aload_n 0, 1) := by decide +kernel
theorem d_M_sumOf_52 : decode b_M_sumOf 52 = .ok (.getfield 59, 3) := by decide +kernel
theorem d_M_sumOf_55 : decode b_M_sumOf 55 = .ok (.iload 7, 2) := by decide +kernel
theorem d_M_sumOf_57 : decode b_M_sumOf 57 = .ok (.iaload, 1) := by decide +kernel
theorem d_M_sumOf_58 : decode b_M_sumOf 58 = .ok (.goto 4, 3) := by decide +kernel
theorem d_M_sumOf_61 : decode b_M_sumOf 61 = .ok (.iconst 0, 1) := by decide +kernel
theorem d_M_sumOf_62 : decode b_M_sumOf 62 = .ok (.iadd, 1) := by decide +kernel
theorem d_M_sumOf_63 : decode b_M_sumOf 63 = .ok (.istore 5, 2) := by decide +kernel
theorem d_M_sumOf_65 : decode b_M_sumOf 65 = .ok (.iinc 7 1, 3) := by decide +kernel
theorem d_M_sumOf_68 : decode b_M_sumOf 68 = .ok (.goto (-56), 3) := by decide +kernel
theorem d_M_sumOf_71 : decode b_M_sumOf 71 = .ok (.iload 6, 2) := by decide +kernel
theorem d_M_sumOf_73 : decode b_M_sumOf 73 = .ok (.ifCond .eq 8, 3) := by decide +kernel
theorem d_M_sumOf_76 : decode b_M_sumOf 76 = .ok (.iload 5, 2) := by decide +kernel
theorem d_M_sumOf_78 : decode b_M_sumOf 78 = .ok (.goto 5, 3) := by decide +kernel
theorem d_M_sumOf_81 : decode b_M_sumOf 81 = .ok (.iload 4, 2) := by decide +kernel
theorem d_M_sumOf_83 : decode b_M_sumOf 83 = .ok (.ireturn, 1) := by decide +kernel
set_option maxRecDepth 20000 in
theorem c_M_sumOf_b12 {r : Int32} {wz : gW} {rec12 : Nat × Int32 × Int32 × Int32 × Int32 × Int32 × Int32 × Int32 × gW → Option (Int32 × gW)} (ih12 : ∀ (a0 : Nat) (a1 : Int32) (a2 : Int32) (a3 : Int32) (a4 : Int32) (a5 : Int32) (a6 : Int32) (a7 : Int32) (w : gW) (ls : Array Slot) (H : Heap) (locs : List Loc), rec12 (a0, a1, a2, a3, a4, a5, a6, a7, w) = some (r, wz) → lv_has ls 8 [(0, .ref (B + a0)), (1, .int a1), (2, .int a2), (3, .int a3), (4, .int a4), (5, .int a5), (6, .int a6), (7, .int a7)] → gRep D cA B w H → va_S (gA B) s.heap H locs → W p l e ({ frames := 3, cells := 0, slots := 0, locals := 91 } : Room) s m args below meth c H locs 0 0 (MQ below (gQi D cA B r wz) args s 0 0 (gA B)) (F0 m 12 ls [])) (C : gC p s m args meth c "RidCoppersModel" b_M_sumOf 8 (some .int) D cA oc B) (a0 : Nat) (a1 : Int32) (a2 : Int32) (a3 : Int32) (a4 : Int32) (a5 : Int32) (a6 : Int32) (a7 : Int32) (w : gW) {ls : Array Slot} {H : Heap} {locs : List Loc} (hl : lv_has ls 8 [(0, .ref (B + a0)), (1, .int a1), (2, .int a2), (3, .int a3), (4, .int a4), (5, .int a5), (6, .int a6), (7, .int a7)]) (hf : f_M_sumOf_b12 N rec12 a0 a1 a2 a3 a4 a5 a6 a7 w = some (r, wz)) (hR : gRep D cA B w H) (hS : va_S (gA B) s.heap H locs) : W p l e ({ frames := 3, cells := 0, slots := 0, locals := 91 } : Room) s m args below meth c H locs 0 0 (MQ below (gQi D cA B r wz) args s 0 0 (gA B)) (F0 m 12 ls []) := by
  obtain ⟨hx, hb, hml, hown, hts, hr, hlocks, hK, hBs⟩ := id C
  unfold f_M_sumOf_b12 at hf
  refine lv_iload hx hb d_M_sumOf_12 (lv_at hl 7 rfl) ?_
  refine lv_aload_n hx hb d_M_sumOf_14 rfl (lv_at hl 0 rfl) ?_
  have ⟨h8, hf⟩ := gd_e hf
  have ⟨x5, w6, h7, hf⟩ := kl_e hf
  refine g_ki0 (g_rV (As := []) (rest := [.int a7]) hx hb hml hown hts hK hR hS (c_M_behindText l D cA oc B N a0 w h7) I_M_behindText m_1308 mp_47 (gRecv hK hR (ci := 12) rfl h8) rfl rfl (Nat.le_of_ble_eq_true rfl) hl.1 ⟨Nat.le_of_ble_eq_true rfl, Nat.le_of_ble_eq_true rfl⟩ ⟨Nat.le_of_ble_eq_true rfl, Nat.le_of_ble_eq_true rfl⟩ d_M_sumOf_15) hS (fun H locs hR hS => ?_)
  refine lv_icmp_ge (tgt := 71) hx hb d_M_sumOf_18 (by decide) (fun hc => ?_) (fun hc => ?_)
  · have hf := cd_t hc hf
    refine lv_iload hx hb d_M_sumOf_71 (lv_at hl 6 rfl) ?_
    refine lv_if_eq (tgt := 81) hx hb d_M_sumOf_73 (by decide) (fun hc => ?_) (fun hc => ?_)
    · have hf := cd_t hc hf
      refine lv_iload hx hb d_M_sumOf_81 (lv_at hl 4 rfl) ?_
      exact g_iret hx hb hr hlocks hR hS hf rfl d_M_sumOf_83
    have hf := cd_f hc hf
    refine lv_iload hx hb d_M_sumOf_76 (lv_at hl 5 rfl) ?_
    refine lv_goto (tgt := 83) hx hb d_M_sumOf_78 (by decide) ?_
    exact g_iret hx hb hr hlocks hR hS hf rfl d_M_sumOf_83
  have hf := cd_f hc hf
  refine lv_aload_n hx hb d_M_sumOf_21 rfl (lv_at hl 0 rfl) ?_
  have ⟨h9, hf⟩ := gd_e hf
  have ⟨x10, h11, hf⟩ := rr_e hf
  refine g_getR hx hb hts hown hK hR fl_M_56 (fun _ => rfl) h9 h11 d_M_sumOf_22 ?_
  refine lv_iload hx hb d_M_sumOf_25 (lv_at hl 7 rfl) ?_
  have ⟨h12, hf⟩ := gd_e hf
  have ⟨h13, hf⟩ := gd_e hf
  refine g_iald hx hb hK hR h12 h13 d_M_sumOf_27 ?_
  refine g_nI hf (fun x14 hf => ?_)
  refine lv_iload_n hx hb d_M_sumOf_28 rfl (lv_at hl 1 rfl) ?_
  refine lv_icmp_eq (tgt := 35) hx hb d_M_sumOf_29 (by decide) (fun hc => ?_) (fun hc => ?_)
  · have hf := cd_t hc hf
    refine lv_iconst (v := 1) hx hb d_M_sumOf_35 (by decide) ?_
    refine lv_istore (lv' := [(6, .int 1), (0, .ref (B + a0)), (1, .int a1), (2, .int a2), (3, .int a3), (4, .int a4), (5, .int a5), (7, .int a7)]) hx hb d_M_sumOf_36 hl (by decide) rfl (fun ls hl => ?_)
    refine lv_iload hx hb d_M_sumOf_38 (lv_at hl 6 rfl) ?_
    refine lv_aload_n hx hb d_M_sumOf_40 rfl (lv_at hl 1 rfl) ?_
    refine lv_iload hx hb d_M_sumOf_41 (lv_at hl 7 rfl) ?_
    refine lv_iload_n hx hb d_M_sumOf_43 rfl (lv_at hl 3 rfl) ?_
    refine lv_iload_n hx hb d_M_sumOf_44 rfl (lv_at hl 4 rfl) ?_
    have ⟨x15, w16, h17, hf⟩ := kl_e hf
    refine g_ki0 (g_rV (As := [.int a7, .int a2, .int a3]) (rest := [.int a5]) hx hb hml hown hts hK hR hS (c_M_holds l D cA oc B N a0 a7 a2 a3 w6 h17) I_M_holds m_1312 mp_48 (gRecv hK hR (ci := 12) rfl h9) rfl rfl (Nat.le_of_ble_eq_true rfl) hl.1 ⟨Nat.le_of_ble_eq_true rfl, Nat.le_of_ble_eq_true rfl⟩ ⟨Nat.le_of_ble_eq_true rfl, Nat.le_of_ble_eq_true rfl⟩ d_M_sumOf_45) hS (fun H locs hR hS => ?_)
    refine lv_if_eq (tgt := 61) hx hb d_M_sumOf_48 (by decide) (fun hc => ?_) (fun hc => ?_)
    · have hf := cd_t hc hf
      refine lv_iconst (v := 0) hx hb d_M_sumOf_61 (by decide) ?_
      refine lv_iadd hx hb d_M_sumOf_62 ?_
      refine g_nI hf (fun x18 hf => ?_)
      refine lv_istore (lv' := [(5, .int x18), (6, .int 1), (0, .ref (B + a0)), (1, .int a1), (2, .int a2), (3, .int a3), (4, .int a4), (7, .int a7)]) hx hb d_M_sumOf_63 hl (by decide) rfl (fun ls hl => ?_)
      refine g_iinc (lv' := fun x19 => [(7, .int x19), (5, .int x18), (6, .int 1), (0, .ref (B + a0)), (1, .int a1), (2, .int a2), (3, .int a3), (4, .int a4)]) hf hx hb d_M_sumOf_65 hl (k := 7) rfl (by decide) (by decide) (fun _ => rfl) (fun x19 ls hf hl => ?_)
      refine lv_goto (tgt := 12) hx hb d_M_sumOf_68 (by decide) ?_
      exact ih12 a0 a1 a2 a3 a4 x18 1 x19 w16 _ _ _ hf (lv_sub hl [3, 4, 5, 6, 7, 1, 2, 0] rfl) hR hS
    have hf := cd_f hc hf
    refine lv_aload_n hx hb d_M_sumOf_51 rfl (lv_at hl 1 rfl) ?_
    have ⟨h20, hf⟩ := gd_e hf
    have ⟨x21, h22, hf⟩ := rr_e hf
    refine g_getR hx hb hts hown hK hR fl_M_59 (fun _ => rfl) h20 h22 d_M_sumOf_52 ?_
    refine lv_iload hx hb d_M_sumOf_55 (lv_at hl 7 rfl) ?_
    have ⟨h23, hf⟩ := gd_e hf
    have ⟨h24, hf⟩ := gd_e hf
    refine g_iald hx hb hK hR h23 h24 d_M_sumOf_57 ?_
    refine g_nI hf (fun x25 hf => ?_)
    refine lv_goto (tgt := 62) hx hb d_M_sumOf_58 (by decide) ?_
    refine lv_iadd hx hb d_M_sumOf_62 ?_
    refine g_nI hf (fun x26 hf => ?_)
    refine lv_istore (lv' := [(5, .int x26), (6, .int 1), (0, .ref (B + a0)), (1, .int a1), (2, .int a2), (3, .int a3), (4, .int a4), (7, .int a7)]) hx hb d_M_sumOf_63 hl (by decide) rfl (fun ls hl => ?_)
    refine g_iinc (lv' := fun x27 => [(7, .int x27), (5, .int x26), (6, .int 1), (0, .ref (B + a0)), (1, .int a1), (2, .int a2), (3, .int a3), (4, .int a4)]) hf hx hb d_M_sumOf_65 hl (k := 7) rfl (by decide) (by decide) (fun _ => rfl) (fun x27 ls hf hl => ?_)
    refine lv_goto (tgt := 12) hx hb d_M_sumOf_68 (by decide) ?_
    exact ih12 a0 a1 a2 a3 a4 x26 1 x27 w16 _ _ _ hf (lv_sub hl [3, 4, 5, 6, 7, 1, 2, 0] rfl) hR hS
  have hf := cd_f hc hf
  refine lv_goto (tgt := 65) hx hb d_M_sumOf_32 (by decide) ?_
  refine g_iinc (lv' := fun x28 => [(7, .int x28), (0, .ref (B + a0)), (1, .int a1), (2, .int a2), (3, .int a3), (4, .int a4), (5, .int a5), (6, .int a6)]) hf hx hb d_M_sumOf_65 hl (k := 7) rfl (by decide) (by decide) (fun _ => rfl) (fun x28 ls hf hl => ?_)
  refine lv_goto (tgt := 12) hx hb d_M_sumOf_68 (by decide) ?_
  exact ih12 a0 a1 a2 a3 a4 a5 a6 x28 w6 _ _ _ hf (lv_sub hl [1, 2, 3, 4, 5, 6, 7, 0] rfl) hR hS
theorem c_M_sumOf_l12 {r : Int32} {wz : gW} (C : gC p s m args meth c "RidCoppersModel" b_M_sumOf 8 (some .int) D cA oc B) (a0 : Nat) (a1 : Int32) (a2 : Int32) (a3 : Int32) (a4 : Int32) (a5 : Int32) (a6 : Int32) (a7 : Int32) (w : gW) {ls : Array Slot} {H : Heap} {locs : List Loc} (hl : lv_has ls 8 [(0, .ref (B + a0)), (1, .int a1), (2, .int a2), (3, .int a3), (4, .int a4), (5, .int a5), (6, .int a6), (7, .int a7)]) (hf : f_M_sumOf_l12 N a0 a1 a2 a3 a4 a5 a6 a7 w = some (r, wz)) (hR : gRep D cA B w H) (hS : va_S (gA B) s.heap H locs) : W p l e ({ frames := 3, cells := 0, slots := 0, locals := 91 } : Room) s m args below meth c H locs 0 0 (MQ below (gQi D cA B r wz) args s 0 0 (gA B)) (F0 m 12 ls []) := by
  unfold f_M_sumOf_l12 at hf
  suffices hh : ∀ n : Nat, ∀ (a0 : Nat) (a1 : Int32) (a2 : Int32) (a3 : Int32) (a4 : Int32) (a5 : Int32) (a6 : Int32) (a7 : Int32) (w : gW) (ls : Array Slot) (H : Heap) (locs : List Loc), itr (fun rec (q : Nat × Int32 × Int32 × Int32 × Int32 × Int32 × Int32 × Int32 × gW) => f_M_sumOf_b12 N rec q.1 q.2.1 q.2.2.1 q.2.2.2.1 q.2.2.2.2.1 q.2.2.2.2.2.1 q.2.2.2.2.2.2.1 q.2.2.2.2.2.2.2.1 q.2.2.2.2.2.2.2.2) n (a0, a1, a2, a3, a4, a5, a6, a7, w) = some (r, wz) → lv_has ls 8 [(0, .ref (B + a0)), (1, .int a1), (2, .int a2), (3, .int a3), (4, .int a4), (5, .int a5), (6, .int a6), (7, .int a7)] → gRep D cA B w H → va_S (gA B) s.heap H locs → W p l e ({ frames := 3, cells := 0, slots := 0, locals := 91 } : Room) s m args below meth c H locs 0 0 (MQ below (gQi D cA B r wz) args s 0 0 (gA B)) (F0 m 12 ls []) from hh N a0 a1 a2 a3 a4 a5 a6 a7 w ls H locs hf hl hR hS
  intro n
  induction n with
  | zero => intro a0 a1 a2 a3 a4 a5 a6 a7 w ls H locs hf; cases hf
  | succ n ihn =>
    intro a0 a1 a2 a3 a4 a5 a6 a7 w ls H locs hf hl hR hS
    exact c_M_sumOf_b12 (N := N) ihn C a0 a1 a2 a3 a4 a5 a6 a7 w hl ((itr_s _ _ _).symm.trans hf) hR hS
set_option maxRecDepth 20000 in
theorem c_M_sumOf_b0 {r : Int32} {wz : gW} (C : gC p s m args meth c "RidCoppersModel" b_M_sumOf 8 (some .int) D cA oc B) (a0 : Nat) (a1 : Int32) (a2 : Int32) (a3 : Int32) (a4 : Int32) (w : gW) {ls : Array Slot} {H : Heap} {locs : List Loc} (hl : lv_has ls 8 [(0, .ref (B + a0)), (1, .int a1), (2, .int a2), (3, .int a3), (4, .int a4)]) (hf : f_M_sumOf_b0 N a0 a1 a2 a3 a4 w = some (r, wz)) (hR : gRep D cA B w H) (hS : va_S (gA B) s.heap H locs) : W p l e ({ frames := 3, cells := 0, slots := 0, locals := 91 } : Room) s m args below meth c H locs 0 0 (MQ below (gQi D cA B r wz) args s 0 0 (gA B)) (F0 m 0 ls []) := by
  obtain ⟨hx, hb, hml, hown, hts, hr, hlocks, hK, hBs⟩ := id C
  unfold f_M_sumOf_b0 at hf
  refine lv_iconst (v := 0) hx hb d_M_sumOf_0 (by decide) ?_
  refine lv_istore (lv' := [(5, .int 0), (0, .ref (B + a0)), (1, .int a1), (2, .int a2), (3, .int a3), (4, .int a4)]) hx hb d_M_sumOf_1 hl (by decide) rfl (fun ls hl => ?_)
  refine lv_iconst (v := 0) hx hb d_M_sumOf_3 (by decide) ?_
  refine lv_istore (lv' := [(6, .int 0), (5, .int 0), (0, .ref (B + a0)), (1, .int a1), (2, .int a2), (3, .int a3), (4, .int a4)]) hx hb d_M_sumOf_4 hl (by decide) rfl (fun ls hl => ?_)
  refine lv_aload_n hx hb d_M_sumOf_6 rfl (lv_at hl 2 rfl) ?_
  have ⟨h4, hf⟩ := gd_e hf
  have ⟨x1, w2, h3, hf⟩ := kl_e hf
  refine g_ki0 (g_rV (As := []) (rest := []) hx hb hml hown hts hK hR hS (c_M_begin l D cA oc B N a0 w h3) I_M_begin m_1304 mp_46 (gRecv hK hR (ci := 12) rfl h4) rfl rfl (Nat.le_of_ble_eq_true rfl) hl.1 ⟨Nat.le_of_ble_eq_true rfl, Nat.le_of_ble_eq_true rfl⟩ ⟨Nat.le_of_ble_eq_true rfl, Nat.le_of_ble_eq_true rfl⟩ d_M_sumOf_7) hS (fun H locs hR hS => ?_)
  refine lv_istore (lv' := [(7, .int x1), (6, .int 0), (5, .int 0), (0, .ref (B + a0)), (1, .int a1), (2, .int a2), (3, .int a3), (4, .int a4)]) hx hb d_M_sumOf_10 hl (by decide) rfl (fun ls hl => ?_)
  exact c_M_sumOf_l12 C a0 a1 a2 a3 a4 0 0 x1 w2 (lv_sub hl [3, 4, 5, 6, 7, 2, 1, 0] rfl) hf hR hS
theorem c_M_sumOf (l : Launch) (D : va_G) (cA : Nat → ClassId) (oc : gO) (B N : Nat) (a0 : Nat) (a1 : Int32) (a2 : Int32) (a3 : Int32) (a4 : Int32) (w : gW) {wz : gW} {r : Int32} (hf : f_M_sumOf N a0 a1 a2 a3 a4 w = some (r, wz)) : Met l y_M_sumOf (Cond.code y_M_sumOf b_M_sumOf 8 (some .int) :: lw_good) ({ frames := 3, cells := 0, slots := 0, locals := 91 } : Room) (gPre D cA oc B [.ref (B + a0), .int a1, .int a2, .int a3, .int a4] w) (gQi D cA B r wz) 0 0 (gA B) := by
  refine Met.ofW (cc := b_M_sumOf) (maxL := 8) (ret := (some .int)) (by decide +kernel) rfl ?_
  intro p e s m args below meth c s₁ Bd hml hv
  obtain ⟨hargs, C, hR⟩ := gC.enter (l := l) rfl Bd hml hv
  subst hargs
  have hl := lv_entry ([.ref (B + a0), .int a1, .int a2, .int a3, .int a4]) (n := 8) (Nat.le_of_ble_eq_true rfl)
  rw [lg_entry_eq]
  generalize (lg_sl ([.ref (B + a0), .int a1, .int a2, .int a3, .int a4]) ++ List.replicate (8 - (lg_sl ([.ref (B + a0), .int a1, .int a2, .int a3, .int a4])).length) Slot.unset).toArray = ls at hl ⊢
  have hl : lv_has ls 8 [(0, .ref (B + a0)), (1, .int a1), (2, .int a2), (3, .int a3), (4, .int a4)] := hl
  exact c_M_sumOf_b0 C a0 a1 a2 a3 a4 w (lv_sub hl [0, 1, 2, 3, 4] rfl) hf hR va_S.rf
