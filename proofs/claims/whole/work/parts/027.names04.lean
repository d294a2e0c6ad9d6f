set_option maxRecDepth 20000 in
theorem ggX7_init_X7_windowAt : GoodIn wsX7_init wsX7_windowAt := goodIn_rr _ [(21, 1)] rfl (by decide +kernel)
set_option maxRecDepth 20000 in
theorem gX7_init_X7_windowAt : GoodIn wsX7_init (va_wsS RX7 48 yX7_windowAt wsX7_windowAt) := goodIn_app (goodIn_of _ (by decide +kernel)) ggX7_init_X7_windowAt
theorem dX7_init_0 : decode cX7_init 0 = .ok (.aload_n 0, 1) := by decide +kernel
theorem dX7_init_1 : decode cX7_init 1 = .ok (.invokespecial 1, 3) := by decide +kernel
theorem dX7_init_4 : decode cX7_init 4 = .ok (.aload_n 0, 1) := by decide +kernel
theorem dX7_init_5 : decode cX7_init 5 = .ok (.sipush 159, 3) := by decide +kernel
theorem dX7_init_8 : decode cX7_init 8 = .ok (.newarray .int, 2) := by decide +kernel
theorem dX7_init_10 : decode cX7_init 10 = .ok (.putfield 9, 3) := by decide +kernel
theorem dX7_init_13 : decode cX7_init 13 = .ok (.aload_n 0, 1) := by decide +kernel
theorem dX7_init_14 : decode cX7_init 14 = .ok (.sipush 159, 3) := by decide +kernel
theorem dX7_init_17 : decode cX7_init 17 = .ok (.newarray .int, 2) := by decide +kernel
theorem dX7_init_19 : decode cX7_init 19 = .ok (.putfield 13, 3) := by decide +kernel
theorem dX7_init_22 : decode cX7_init 22 = .ok (.aload_n 0, 1) := by decide +kernel
theorem dX7_init_23 : decode cX7_init 23 = .ok (.sipush 159, 3) := by decide +kernel
theorem dX7_init_26 : decode cX7_init 26 = .ok (.newarray .int, 2) := by decide +kernel
theorem dX7_init_28 : decode cX7_init 28 = .ok (.putfield 16, 3) := by decide +kernel
theorem dX7_init_31 : decode cX7_init 31 = .ok (.aload_n 0, 1) := by decide +kernel
theorem dX7_init_32 : decode cX7_init 32 = .ok (.sipush 159, 3) := by decide +kernel
theorem dX7_init_35 : decode cX7_init 35 = .ok (.newarray .int, 2) := by decide +kernel
theorem dX7_init_37 : decode cX7_init 37 = .ok (.putfield 19, 3) := by decide +kernel
theorem dX7_init_40 : decode cX7_init 40 = .ok (.aload_n 0, 1) := by decide +kernel
theorem dX7_init_41 : decode cX7_init 41 = .ok (.sipush 1272, 3) := by decide +kernel
theorem dX7_init_44 : decode cX7_init 44 = .ok (.newarray .int, 2) := by decide +kernel
theorem dX7_init_46 : decode cX7_init 46 = .ok (.putfield 22, 3) := by decide +kernel
theorem dX7_init_49 : decode cX7_init 49 = .ok (.aload_n 0, 1) := by decide +kernel
theorem dX7_init_50 : decode cX7_init 50 = .ok (.iconst (-1), 1) := by decide +kernel
theorem dX7_init_51 : decode cX7_init 51 = .ok (.putfield 25, 3) := by decide +kernel
theorem dX7_init_54 : decode cX7_init 54 = .ok (.aload_n 0, 1) := by decide +kernel
theorem dX7_init_55 : decode cX7_init 55 = .ok (.iconst (-1), 1) := by decide +kernel
theorem dX7_init_56 : decode cX7_init 56 = .ok (.putfield 29, 3) := by decide +kernel
theorem dX7_init_59 : decode cX7_init 59 = .ok (.aload_n 0, 1) := by decide +kernel
theorem dX7_init_60 : decode cX7_init 60 = .ok (.bipush 60, 2) := by decide +kernel
theorem dX7_init_62 : decode cX7_init 62 = .ok (.newarray .int, 2) := by decide +kernel
theorem dX7_init_64 : decode cX7_init 64 = .ok (.putfield 32, 3) := by decide +kernel
theorem dX7_init_67 : decode cX7_init 67 = .ok (.aload_n 0, 1) := by decide +kernel
theorem dX7_init_68 : decode cX7_init 68 = .ok (.sipush 160, 3) := by decide +kernel
theorem dX7_init_71 : decode cX7_init 71 = .ok (.newarray .int, 2) := by decide +kernel
theorem dX7_init_73 : decode cX7_init 73 = .ok (.putfield 35, 3) := by decide +kernel
theorem dX7_init_76 : decode cX7_init 76 = .ok (.aload_n 0, 1) := by decide +kernel
theorem dX7_init_77 : decode cX7_init 77 = .ok (.bipush 48, 2) := by decide +kernel
theorem dX7_init_79 : decode cX7_init 79 = .ok (.newarray .char, 2) := by decide +kernel
theorem dX7_init_81 : decode cX7_init 81 = .ok (.dup, 1) := by decide +kernel
theorem dX7_init_82 : decode cX7_init 82 = .ok (.iconst 0, 1) := by decide +kernel
theorem dX7_init_83 : decode cX7_init 83 = .ok (.bipush 97, 2) := by decide +kernel
theorem dX7_init_85 : decode cX7_init 85 = .ok (.castore, 1) := by decide +kernel
theorem dX7_init_86 : decode cX7_init 86 = .ok (.dup, 1) := by decide +kernel
theorem dX7_init_87 : decode cX7_init 87 = .ok (.iconst 1, 1) := by decide +kernel
theorem dX7_init_88 : decode cX7_init 88 = .ok (.bipush 100, 2) := by decide +kernel
theorem dX7_init_90 : decode cX7_init 90 = .ok (.castore, 1) := by decide +kernel
theorem dX7_init_91 : decode cX7_init 91 = .ok (.dup, 1) := by decide +kernel
theorem dX7_init_92 : decode cX7_init 92 = .ok (.iconst 2, 1) := by decide +kernel
theorem dX7_init_93 : decode cX7_init 93 = .ok (.bipush 100, 2) := by decide +kernel
theorem dX7_init_95 : decode cX7_init 95 = .ok (.castore, 1) := by decide +kernel
theorem dX7_init_96 : decode cX7_init 96 = .ok (.dup, 1) := by decide +kernel
theorem dX7_init_97 : decode cX7_init 97 = .ok (.iconst 3, 1) := by decide +kernel
theorem dX7_init_98 : decode cX7_init 98 = .ok (.bipush 32, 2) := by decide +kernel
theorem dX7_init_100 : decode cX7_init 100 = .ok (.castore, 1) := by decide +kernel
theorem dX7_init_101 : decode cX7_init 101 = .ok (.dup, 1) := by decide +kernel
theorem dX7_init_102 : decode cX7_init 102 = .ok (.iconst 4, 1) := by decide +kernel
theorem dX7_init_103 : decode cX7_init 103 = .ok (.bipush 111, 2) := by decide +kernel
theorem dX7_init_105 : decode cX7_init 105 = .ok (.castore, 1) := by decide +kernel
theorem dX7_init_106 : decode cX7_init 106 = .ok (.dup, 1) := by decide +kernel
theorem dX7_init_107 : decode cX7_init 107 = .ok (.iconst 5, 1) := by decide +kernel
theorem dX7_init_108 : decode cX7_init 108 = .ok (.bipush 112, 2) := by decide +kernel
theorem dX7_init_110 : decode cX7_init 110 = .ok (.castore, 1) := by decide +kernel
theorem dX7_init_111 : decode cX7_init 111 = .ok (.dup, 1) := by decide +kernel
theorem dX7_init_112 : decode cX7_init 112 = .ok (.bipush 6, 2) := by decide +kernel
theorem dX7_init_114 : decode cX7_init 114 = .ok (.bipush 101, 2) := by decide +kernel
theorem dX7_init_116 : decode cX7_init 116 = .ok (.castore, 1) := by decide +kernel
theorem dX7_init_117 : decode cX7_init 117 = .ok (.dup, 1) := by decide +kernel
theorem dX7_init_118 : decode cX7_init 118 = .ok (.bipush 7, 2) := by decide +kernel
theorem dX7_init_120 : decode cX7_init 120 = .ok (.bipush 110, 2) := by decide +kernel
theorem dX7_init_122 : decode cX7_init 122 = .ok (.castore, 1) := by decide +kernel
theorem dX7_init_123 : decode cX7_init 123 = .ok (.dup, 1) := by decide +kernel
theorem dX7_init_124 : decode cX7_init 124 = .ok (.bipush 8, 2) := by decide +kernel
theorem dX7_init_126 : decode cX7_init 126 = .ok (.bipush 32, 2) := by decide +kernel
theorem dX7_init_128 : decode cX7_init 128 = .ok (.castore, 1) := by decide +kernel
theorem dX7_init_129 : decode cX7_init 129 = .ok (.dup, 1) := by decide +kernel
theorem dX7_init_130 : decode cX7_init 130 = .ok (.bipush 9, 2) := by decide +kernel
theorem dX7_init_132 : decode cX7_init 132 = .ok (.bipush 99, 2) := by decide +kernel
theorem dX7_init_134 : decode cX7_init 134 = .ok (.castore, 1) := by decide +kernel
theorem dX7_init_135 : decode cX7_init 135 = .ok (.dup, 1) := by decide +kernel
theorem dX7_init_136 : decode cX7_init 136 = .ok (.bipush 10, 2) := by decide +kernel
theorem dX7_init_138 : decode cX7_init 138 = .ok (.bipush 108, 2) := by decide +kernel
theorem dX7_init_140 : decode cX7_init 140 = .ok (.castore, 1) := by decide +kernel
theorem dX7_init_141 : decode cX7_init 141 = .ok (.dup, 1) := by decide +kernel
theorem dX7_init_142 : decode cX7_init 142 = .ok (.bipush 11, 2) := by decide +kernel
theorem dX7_init_144 : decode cX7_init 144 = .ok (.bipush 111, 2) := by decide +kernel
theorem dX7_init_146 : decode cX7_init 146 = .ok (.castore, 1) := by decide +kernel
theorem dX7_init_147 : decode cX7_init 147 = .ok (.dup, 1) := by decide +kernel
theorem dX7_init_148 : decode cX7_init 148 = .ok (.bipush 12, 2) := by decide +kernel
theorem dX7_init_150 : decode cX7_init 150 = .ok (.bipush 115, 2) := by decide +kernel
theorem dX7_init_152 : decode cX7_init 152 = .ok (.castore, 1) := by decide +kernel
theorem dX7_init_153 : decode cX7_init 153 = .ok (.dup, 1) := by decide +kernel
theorem dX7_init_154 : decode cX7_init 154 = .ok (.bipush 13, 2) := by decide +kernel
theorem dX7_init_156 : decode cX7_init 156 = .ok (.bipush 101, 2) := by decide +kernel
theorem dX7_init_158 : decode cX7_init 158 = .ok (.castore, 1) := by decide +kernel
theorem dX7_init_159 : decode cX7_init 159 = .ok (.dup, 1) := by decide +kernel
theorem dX7_init_160 : decode cX7_init 160 = .ok (.bipush 14, 2) := by decide +kernel
theorem dX7_init_162 : decode cX7_init 162 = .ok (.bipush 32, 2) := by decide +kernel
theorem dX7_init_164 : decode cX7_init 164 = .ok (.castore, 1) := by decide +kernel
theorem dX7_init_165 : decode cX7_init 165 = .ok (.dup, 1) := by decide +kernel
theorem dX7_init_166 : decode cX7_init 166 = .ok (.bipush 15, 2) := by decide +kernel
theorem dX7_init_168 : decode cX7_init 168 = .ok (.bipush 115, 2) := by decide +kernel
theorem dX7_init_170 : decode cX7_init 170 = .ok (.castore, 1) := by decide +kernel
theorem dX7_init_171 : decode cX7_init 171 = .ok (.dup, 1) := by decide +kernel
theorem dX7_init_172 : decode cX7_init 172 = .ok (.bipush 16, 2) := by decide +kernel
theorem dX7_init_174 : decode cX7_init 174 = .ok (.bipush 119, 2) := by decide +kernel
theorem dX7_init_176 : decode cX7_init 176 = .ok (.castore, 1) := by decide +kernel
theorem dX7_init_177 : decode cX7_init 177 = .ok (.dup, 1) := by decide +kernel
theorem dX7_init_178 : decode cX7_init 178 = .ok (.bipush 17, 2) := by decide +kernel
theorem dX7_init_180 : decode cX7_init 180 = .ok (.bipush 97, 2) := by decide +kernel
theorem dX7_init_182 : decode cX7_init 182 = .ok (.castore, 1) := by decide +kernel
theorem dX7_init_183 : decode cX7_init 183 = .ok (.dup, 1) := by decide +kernel
theorem dX7_init_184 : decode cX7_init 184 = .ok (.bipush 18, 2) := by decide +kernel
theorem dX7_init_186 : decode cX7_init 186 = .ok (.bipush 112, 2) := by decide +kernel
theorem dX7_init_188 : decode cX7_init 188 = .ok (.castore, 1) := by decide +kernel
theorem dX7_init_189 : decode cX7_init 189 = .ok (.dup, 1) := by decide +kernel
theorem dX7_init_190 : decode cX7_init 190 = .ok (.bipush 19, 2) := by decide +kernel
theorem dX7_init_192 : decode cX7_init 192 = .ok (.bipush 32, 2) := by decide +kernel
theorem dX7_init_194 : decode cX7_init 194 = .ok (.castore, 1) := by decide +kernel
theorem dX7_init_195 : decode cX7_init 195 = .ok (.dup, 1) := by decide +kernel
theorem dX7_init_196 : decode cX7_init 196 = .ok (.bipush 20, 2) := by decide +kernel
theorem dX7_init_198 : decode cX7_init 198 = .ok (.bipush 115, 2) := by decide +kernel
theorem dX7_init_200 : decode cX7_init 200 = .ok (.castore, 1) := by decide +kernel
theorem dX7_init_201 : decode cX7_init 201 = .ok (.dup, 1) := by decide +kernel
theorem dX7_init_202 : decode cX7_init 202 = .ok (.bipush 21, 2) := by decide +kernel
theorem dX7_init_204 : decode cX7_init 204 = .ok (.bipush 105, 2) := by decide +kernel
theorem dX7_init_206 : decode cX7_init 206 = .ok (.castore, 1) := by decide +kernel
theorem dX7_init_207 : decode cX7_init 207 = .ok (.dup, 1) := by decide +kernel
theorem dX7_init_208 : decode cX7_init 208 = .ok (.bipush 22, 2) := by decide +kernel
theorem dX7_init_210 : decode cX7_init 210 = .ok (.bipush 116, 2) := by decide +kernel
theorem dX7_init_212 : decode cX7_init 212 = .ok (.castore, 1) := by decide +kernel
theorem dX7_init_213 : decode cX7_init 213 = .ok (.dup, 1) := by decide +kernel
theorem dX7_init_214 : decode cX7_init 214 = .ok (.bipush 23, 2) := by decide +kernel
theorem dX7_init_216 : decode cX7_init 216 = .ok (.bipush 32, 2) := by decide +kernel
theorem dX7_init_218 : decode cX7_init 218 = .ok (.castore, 1) := by decide +kernel
theorem dX7_init_219 : decode cX7_init 219 = .ok (.dup, 1) := by decide +kernel
theorem dX7_init_220 : decode cX7_init 220 = .ok (.bipush 24, 2) := by decide +kernel
theorem dX7_init_222 : decode cX7_init 222 = .ok (.bipush 115, 2) := by decide +kernel
theorem dX7_init_224 : decode cX7_init 224 = .ok (.castore, 1) := by decide +kernel
theorem dX7_init_225 : decode cX7_init 225 = .ok (.dup, 1) := by decide +kernel
theorem dX7_init_226 : decode cX7_init 226 = .ok (.bipush 25, 2) := by decide +kernel
theorem dX7_init_228 : decode cX7_init 228 = .ok (.bipush 116, 2) := by decide +kernel
theorem dX7_init_230 : decode cX7_init 230 = .ok (.castore, 1) := by decide +kernel
theorem dX7_init_231 : decode cX7_init 231 = .ok (.dup, 1) := by decide +kernel
theorem dX7_init_232 : decode cX7_init 232 = .ok (.bipush 26, 2) := by decide +kernel
theorem dX7_init_234 : decode cX7_init 234 = .ok (.bipush 97, 2) := by decide +kernel
theorem dX7_init_236 : decode cX7_init 236 = .ok (.castore, 1) := by decide +kernel
theorem dX7_init_237 : decode cX7_init 237 = .ok (.dup, 1) := by decide +kernel
theorem dX7_init_238 : decode cX7_init 238 = .ok (.bipush 27, 2) := by decide +kernel
theorem dX7_init_240 : decode cX7_init 240 = .ok (.bipush 110, 2) := by decide +kernel
theorem dX7_init_242 : decode cX7_init 242 = .ok (.castore, 1) := by decide +kernel
theorem dX7_init_243 : decode cX7_init 243 = .ok (.dup, 1) := by decide +kernel
theorem dX7_init_244 : decode cX7_init 244 = .ok (.bipush 28, 2) := by decide +kernel
theorem dX7_init_246 : decode cX7_init 246 = .ok (.bipush 100, 2) := by decide +kernel
theorem dX7_init_248 : decode cX7_init 248 = .ok (.castore, 1) := by decide +kernel
theorem dX7_init_249 : decode cX7_init 249 = .ok (.dup, 1) := by decide +kernel
theorem dX7_init_250 : decode cX7_init 250 = .ok (.bipush 29, 2) := by decide +kernel
theorem dX7_init_252 : decode cX7_init 252 = .ok (.bipush 32, 2) := by decide +kernel
theorem dX7_init_254 : decode cX7_init 254 = .ok (.castore, 1) := by decide +kernel
theorem dX7_init_255 : decode cX7_init 255 = .ok (.dup, 1) := by decide +kernel
theorem dX7_init_256 : decode cX7_init 256 = .ok (.bipush 30, 2) := by decide +kernel
theorem dX7_init_258 : decode cX7_init 258 = .ok (.bipush 114, 2) := by decide +kernel
theorem dX7_init_260 : decode cX7_init 260 = .ok (.castore, 1) := by decide +kernel
theorem dX7_init_261 : decode cX7_init 261 = .ok (.dup, 1) := by decide +kernel
theorem dX7_init_262 : decode cX7_init 262 = .ok (.bipush 31, 2) := by decide +kernel
theorem dX7_init_264 : decode cX7_init 264 = .ok (.bipush 101, 2) := by decide +kernel
theorem dX7_init_266 : decode cX7_init 266 = .ok (.castore, 1) := by decide +kernel
theorem dX7_init_267 : decode cX7_init 267 = .ok (.dup, 1) := by decide +kernel
theorem dX7_init_268 : decode cX7_init 268 = .ok (.bipush 32, 2) := by decide +kernel
theorem dX7_init_270 : decode cX7_init 270 = .ok (.bipush 109, 2) := by decide +kernel
theorem dX7_init_272 : decode cX7_init 272 = .ok (.castore, 1) := by decide +kernel
theorem dX7_init_273 : decode cX7_init 273 = .ok (.dup, 1) := by decide +kernel
theorem dX7_init_274 : decode cX7_init 274 = .ok (.bipush 33, 2) := by decide +kernel
theorem dX7_init_276 : decode cX7_init 276 = .ok (.bipush 111, 2) := by decide +kernel
theorem dX7_init_278 : decode cX7_init 278 = .ok (.castore, 1) := by decide +kernel
theorem dX7_init_279 : decode cX7_init 279 = .ok (.dup, 1) := by decide +kernel
theorem dX7_init_280 : decode cX7_init 280 = .ok (.bipush 34, 2) := by decide +kernel
theorem dX7_init_282 : decode cX7_init 282 = .ok (.bipush 118, 2) := by decide +kernel
theorem dX7_init_284 : decode cX7_init 284 = .ok (.castore, 1) := by decide +kernel
theorem dX7_init_285 : decode cX7_init 285 = .ok (.dup, 1) := by decide +kernel
theorem dX7_init_286 : decode cX7_init 286 = .ok (.bipush 35, 2) := by decide +kernel
theorem dX7_init_288 : decode cX7_init 288 = .ok (.bipush 101, 2) := by decide +kernel
theorem dX7_init_290 : decode cX7_init 290 = .ok (.castore, 1) := by decide +kernel
theorem dX7_init_291 : decode cX7_init 291 = .ok (.dup, 1) := by decide +kernel
theorem dX7_init_292 : decode cX7_init 292 = .ok (.bipush 36, 2) := by decide +kernel
theorem dX7_init_294 : decode cX7_init 294 = .ok (.bipush 32, 2) := by decide +kernel
theorem dX7_init_296 : decode cX7_init 296 = .ok (.castore, 1) := by decide +kernel
theorem dX7_init_297 : decode cX7_init 297 = .ok (.dup, 1) := by decide +kernel
theorem dX7_init_298 : decode cX7_init 298 = .ok (.bipush 37, 2) := by decide +kernel
theorem dX7_init_300 : decode cX7_init 300 = .ok (.bipush 99, 2) := by decide +kernel
theorem dX7_init_302 : decode cX7_init 302 = .ok (.castore, 1) := by decide +kernel
theorem dX7_init_303 : decode cX7_init 303 = .ok (.dup, 1) := by decide +kernel
theorem dX7_init_304 : decode cX7_init 304 = .ok (.bipush 38, 2) := by decide +kernel
theorem dX7_init_306 : decode cX7_init 306 = .ok (.bipush 97, 2) := by decide +kernel
theorem dX7_init_308 : decode cX7_init 308 = .ok (.castore, 1) := by decide +kernel
theorem dX7_init_309 : decode cX7_init 309 = .ok (.dup, 1) := by decide +kernel
theorem dX7_init_310 : decode cX7_init 310 = .ok (.bipush 39, 2) := by decide +kernel
theorem dX7_init_312 : decode cX7_init 312 = .ok (.bipush 108, 2) := by decide +kernel
theorem dX7_init_314 : decode cX7_init 314 = .ok (.castore, 1) := by decide +kernel
theorem dX7_init_315 : decode cX7_init 315 = .ok (.dup, 1) := by decide +kernel
theorem dX7_init_316 : decode cX7_init 316 = .ok (.bipush 40, 2) := by decide +kernel
theorem dX7_init_318 : decode cX7_init 318 = .ok (.bipush 108, 2) := by decide +kernel
theorem dX7_init_320 : decode cX7_init 320 = .ok (.castore, 1) := by decide +kernel
theorem dX7_init_321 : decode cX7_init 321 = .ok (.dup, 1) := by decide +kernel
theorem dX7_init_322 : decode cX7_init 322 = .ok (.bipush 41, 2) := by decide +kernel
theorem dX7_init_324 : decode cX7_init 324 = .ok (.bipush 97, 2) := by decide +kernel
theorem dX7_init_326 : decode cX7_init 326 = .ok (.castore, 1) := by decide +kernel
theorem dX7_init_327 : decode cX7_init 327 = .ok (.dup, 1) := by decide +kernel
theorem dX7_init_328 : decode cX7_init 328 = .ok (.bipush 42, 2) := by decide +kernel
theorem dX7_init_330 : decode cX7_init 330 = .ok (.bipush 100, 2) := by decide +kernel
theorem dX7_init_332 : decode cX7_init 332 = .ok (.castore, 1) := by decide +kernel
theorem dX7_init_333 : decode cX7_init 333 = .ok (.dup, 1) := by decide +kernel
theorem dX7_init_334 : decode cX7_init 334 = .ok (.bipush 43, 2) := by decide +kernel
theorem dX7_init_336 : decode cX7_init 336 = .ok (.bipush 118, 2) := by decide +kernel
theorem dX7_init_338 : decode cX7_init 338 = .ok (.castore, 1) := by decide +kernel
theorem dX7_init_339 : decode cX7_init 339 = .ok (.dup, 1) := by decide +kernel
theorem dX7_init_340 : decode cX7_init 340 = .ok (.bipush 44, 2) := by decide +kernel
theorem dX7_init_342 : decode cX7_init 342 = .ok (.bipush 97, 2) := by decide +kernel
theorem dX7_init_344 : decode cX7_init 344 = .ok (.castore, 1) := by decide +kernel
theorem dX7_init_345 : decode cX7_init 345 = .ok (.dup, 1) := by decide +kernel
theorem dX7_init_346 : decode cX7_init 346 = .ok (.bipush 45, 2) := by decide +kernel
theorem dX7_init_348 : decode cX7_init 348 = .ok (.bipush 110, 2) := by decide +kernel
theorem dX7_init_350 : decode cX7_init 350 = .ok (.castore, 1) := by decide +kernel
theorem dX7_init_351 : decode cX7_init 351 = .ok (.dup, 1) := by decide +kernel
theorem dX7_init_352 : decode cX7_init 352 = .ok (.bipush 46, 2) := by decide +kernel
theorem dX7_init_354 : decode cX7_init 354 = .ok (.bipush 99, 2) := by decide +kernel
theorem dX7_init_356 : decode cX7_init 356 = .ok (.castore, 1) := by decide +kernel
theorem dX7_init_357 : decode cX7_init 357 = .ok (.dup, 1) := by decide +kernel
theorem dX7_init_358 : decode cX7_init 358 = .ok (.bipush 47, 2) := by decide +kernel
theorem dX7_init_360 : decode cX7_init 360 = .ok (.bipush 101, 2) := by decide +kernel
theorem dX7_init_362 : decode cX7_init 362 = .ok (.castore, 1) := by decide +kernel
theorem dX7_init_363 : decode cX7_init 363 = .ok (.putfield 38, 3) := by decide +kernel
theorem dX7_init_366 : decode cX7_init 366 = .ok (.aload_n 0, 1) := by decide +kernel
theorem dX7_init_367 : decode cX7_init 367 = .ok (.bipush 10, 2) := by decide +kernel
theorem dX7_init_369 : decode cX7_init 369 = .ok (.newarray .int, 2) := by decide +kernel
theorem dX7_init_371 : decode cX7_init 371 = .ok (.dup, 1) := by decide +kernel
theorem dX7_init_372 : decode cX7_init 372 = .ok (.iconst 0, 1) := by decide +kernel
theorem dX7_init_373 : decode cX7_init 373 = .ok (.iconst 0, 1) := by decide +kernel
theorem dX7_init_374 : decode cX7_init 374 = .ok (.iastore, 1) := by decide +kernel
theorem dX7_init_375 : decode cX7_init 375 = .ok (.dup, 1) := by decide +kernel
theorem dX7_init_376 : decode cX7_init 376 = .ok (.iconst 1, 1) := by decide +kernel
theorem dX7_init_377 : decode cX7_init 377 = .ok (.iconst 4, 1) := by decide +kernel
theorem dX7_init_378 : decode cX7_init 378 = .ok (.iastore, 1) := by decide +kernel
theorem dX7_init_379 : decode cX7_init 379 = .ok (.dup, 1) := by decide +kernel
theorem dX7_init_380 : decode cX7_init 380 = .ok (.iconst 2, 1) := by decide +kernel
theorem dX7_init_381 : decode cX7_init 381 = .ok (.bipush 9, 2) := by decide +kernel
theorem dX7_init_383 : decode cX7_init 383 = .ok (.iastore, 1) := by decide +kernel
theorem dX7_init_384 : decode cX7_init 384 = .ok (.dup, 1) := by decide +kernel
theorem dX7_init_385 : decode cX7_init 385 = .ok (.iconst 3, 1) := by decide +kernel
theorem dX7_init_386 : decode cX7_init 386 = .ok (.bipush 15, 2) := by decide +kernel
theorem dX7_init_388 : decode cX7_init 388 = .ok (.iastore, 1) := by decide +kernel
theorem dX7_init_389 : decode cX7_init 389 = .ok (.dup, 1) := by decide +kernel
theorem dX7_init_390 : decode cX7_init 390 = .ok (.iconst 4, 1) := by decide +kernel
theorem dX7_init_391 : decode cX7_init 391 = .ok (.bipush 20, 2) := by decide +kernel
theorem dX7_init_393 : decode cX7_init 393 = .ok (.iastore, 1) := by decide +kernel
theorem dX7_init_394 : decode cX7_init 394 = .ok (.dup, 1) := by decide +kernel
theorem dX7_init_395 : decode cX7_init 395 = .ok (.iconst 5, 1) := by decide +kernel
theorem dX7_init_396 : decode cX7_init 396 = .ok (.bipush 24, 2) := by decide +kernel
theorem dX7_init_398 : decode cX7_init 398 = .ok (.iastore, 1) := by decide +kernel
theorem dX7_init_399 : decode cX7_init 399 = .ok (.dup, 1) := by decide +kernel
theorem dX7_init_400 : decode cX7_init 400 = .ok (.bipush 6, 2) := by decide +kernel
theorem dX7_init_402 : decode cX7_init 402 = .ok (.bipush 30, 2) := by decide +kernel
theorem dX7_init_404 : decode cX7_init 404 = .ok (.iastore, 1) := by decide +kernel
theorem dX7_init_405 : decode cX7_init 405 = .ok (.dup, 1) := by decide +kernel
theorem dX7_init_406 : decode cX7_init 406 = .ok (.bipush 7, 2) := by decide +kernel
theorem dX7_init_408 : decode cX7_init 408 = .ok (.bipush 37, 2) := by decide +kernel
theorem dX7_init_410 : decode cX7_init 410 = .ok (.iastore, 1) := by decide +kernel
theorem dX7_init_411 : decode cX7_init 411 = .ok (.dup, 1) := by decide +kernel
theorem dX7_init_412 : decode cX7_init 412 = .ok (.bipush 8, 2) := by decide +kernel
theorem dX7_init_414 : decode cX7_init 414 = .ok (.bipush 41, 2) := by decide +kernel
theorem dX7_init_416 : decode cX7_init 416 = .ok (.iastore, 1) := by decide +kernel
theorem dX7_init_417 : decode cX7_init 417 = .ok (.dup, 1) := by decide +kernel
theorem dX7_init_418 : decode cX7_init 418 = .ok (.bipush 9, 2) := by decide +kernel
theorem dX7_init_420 : decode cX7_init 420 = .ok (.bipush 48, 2) := by decide +kernel
theorem dX7_init_422 : decode cX7_init 422 = .ok (.iastore, 1) := by decide +kernel
theorem dX7_init_423 : decode cX7_init 423 = .ok (.putfield 42, 3) := by decide +kernel
theorem dX7_init_426 : decode cX7_init 426 = .ok (.aload_n 0, 1) := by decide +kernel
theorem dX7_init_427 : decode cX7_init 427 = .ok (.sipush 244, 3) := by decide +kernel
theorem dX7_init_430 : decode cX7_init 430 = .ok (.newarray .int, 2) := by decide +kernel
theorem dX7_init_432 : decode cX7_init 432 = .ok (.putfield 45, 3) := by decide +kernel
theorem dX7_init_435 : decode cX7_init 435 = .ok (.iconst 0, 1) := by decide +kernel
theorem dX7_init_436 : decode cX7_init 436 = .ok (.istore_n 1, 1) := by decide +kernel
theorem dX7_init_437 : decode cX7_init 437 = .ok (.iload_n 1, 1) := by decide +kernel
theorem dX7_init_438 : decode cX7_init 438 = .ok (.iconst 3, 1) := by decide +kernel
theorem dX7_init_439 : decode cX7_init 439 = .ok (.if_icmp .ge 21, 3) := by decide +kernel
theorem dX7_init_442 : decode cX7_init 442 = .ok (.aload_n 0, 1) := by decide +kernel
theorem dX7_init_443 : decode cX7_init 443 = .ok (.getfield 9, 3) := by decide +kernel
theorem dX7_init_446 : decode cX7_init 446 = .ok (.iload_n 1, 1) := by decide +kernel
theorem dX7_init_447 : decode cX7_init 447 = .ok (.invokestatic 48, 3) := by decide +kernel
theorem dX7_init_450 : decode cX7_init 450 = .ok (.iconst 2, 1) := by decide +kernel
theorem dX7_init_451 : decode cX7_init 451 = .ok (.iadd, 1) := by decide +kernel
theorem dX7_init_452 : decode cX7_init 452 = .ok (.iconst (-1), 1) := by decide +kernel
theorem dX7_init_453 : decode cX7_init 453 = .ok (.iastore, 1) := by decide +kernel
theorem dX7_init_454 : decode cX7_init 454 = .ok (.iinc 1 1, 3) := by decide +kernel
theorem dX7_init_457 : decode cX7_init 457 = .ok (.goto (-20), 3) := by decide +kernel
theorem dX7_init_460 : decode cX7_init 460 = .ok (.return_, 1) := by decide +kernel
theorem dX7_in_0 : decode cX7_in 0 = .ok (.lload_n 0, 1) := by decide +kernel
theorem dX7_in_1 : decode cX7_in 1 = .ok (.lload_n 2, 1) := by decide +kernel
theorem dX7_in_2 : decode cX7_in 2 = .ok (.lcmp, 1) := by decide +kernel
theorem dX7_in_3 : decode cX7_in 3 = .ok (.ifCond .lt 14, 3) := by decide +kernel
theorem dX7_in_6 : decode cX7_in 6 = .ok (.lload_n 0, 1) := by decide +kernel
theorem dX7_in_7 : decode cX7_in 7 = .ok (.lload 4, 2) := by decide +kernel
theorem dX7_in_9 : decode cX7_in 9 = .ok (.lcmp, 1) := by decide +kernel
theorem dX7_in_10 : decode cX7_in 10 = .ok (.ifCond .gt 7, 3) := by decide +kernel
theorem dX7_in_13 : decode cX7_in 13 = .ok (.iconst 1, 1) := by decide +kernel
theorem dX7_in_14 : decode cX7_in 14 = .ok (.goto 4, 3) := by decide +kernel
theorem dX7_in_17 : decode cX7_in 17 = .ok (.iconst 0, 1) := by decide +kernel
theorem dX7_in_18 : decode cX7_in 18 = .ok (.ireturn, 1) := by decide +kernel
theorem dX7_thrown_0 : decode cX7_thrown 0 = .ok (.aload_n 0, 1) := by decide +kernel
theorem dX7_thrown_1 : decode cX7_thrown 1 = .ok (.getfield 52, 3) := by decide +kernel
theorem dX7_thrown_4 : decode cX7_thrown 4 = .ok (.ireturn, 1) := by decide +kernel
theorem dX7_throwing_0 : decode cX7_throwing 0 = .ok (.aload_n 0, 1) := by decide +kernel
theorem dX7_throwing_1 : decode cX7_throwing 1 = .ok (.iload_n 1, 1) := by decide +kernel
theorem dX7_throwing_2 : decode cX7_throwing 2 = .ok (.putfield 52, 3) := by decide +kernel
theorem dX7_throwing_5 : decode cX7_throwing 5 = .ok (.iconst (-1), 1) := by decide +kernel
theorem dX7_throwing_6 : decode cX7_throwing 6 = .ok (.ireturn, 1) := by decide +kernel
theorem dX7_starts_0 : decode cX7_starts 0 = .ok (.aload_n 0, 1) := by decide +kernel
theorem dX7_starts_1 : decode cX7_starts 1 = .ok (.iconst 0, 1) := by decide +kernel
theorem dX7_starts_2 : decode cX7_starts 2 = .ok (.putfield 52, 3) := by decide +kernel
theorem dX7_starts_5 : decode cX7_starts 5 = .ok (.iconst 0, 1) := by decide +kernel
theorem dX7_starts_6 : decode cX7_starts 6 = .ok (.istore_n 1, 1) := by decide +kernel
theorem dX7_starts_7 : decode cX7_starts 7 = .ok (.iload_n 1, 1) := by decide +kernel
theorem dX7_starts_8 : decode cX7_starts 8 = .ok (.sipush 159, 3) := by decide +kernel
theorem dX7_starts_11 : decode cX7_starts 11 = .ok (.if_icmp .ge 21, 3) := by decide +kernel
theorem dX7_starts_14 : decode cX7_starts 14 = .ok (.aload_n 0, 1) := by decide +kernel
theorem dX7_starts_15 : decode cX7_starts 15 = .ok (.getfield 13, 3) := by decide +kernel
theorem dX7_starts_18 : decode cX7_starts 18 = .ok (.iload_n 1, 1) := by decide +kernel
theorem dX7_starts_19 : decode cX7_starts 19 = .ok (.aload_n 0, 1) := by decide +kernel
theorem dX7_starts_20 : decode cX7_starts 20 = .ok (.getfield 9, 3) := by decide +kernel
theorem dX7_starts_23 : decode cX7_starts 23 = .ok (.iload_n 1, 1) := by decide +kernel
theorem dX7_starts_24 : decode cX7_starts 24 = .ok (.iaload, 1) := by decide +kernel
theorem dX7_starts_25 : decode cX7_starts 25 = .ok (.iastore, 1) := by decide +kernel
theorem dX7_starts_26 : decode cX7_starts 26 = .ok (.iinc 1 1, 3) := by decide +kernel
theorem dX7_starts_29 : decode cX7_starts 29 = .ok (.goto (-22), 3) := by decide +kernel
theorem dX7_starts_32 : decode cX7_starts 32 = .ok (.return_, 1) := by decide +kernel
theorem dX7_changed_0 : decode cX7_changed 0 = .ok (.aload_n 0, 1) := by decide +kernel
theorem dX7_changed_1 : decode cX7_changed 1 = .ok (.getfield 52, 3) := by decide +kernel
theorem dX7_changed_4 : decode cX7_changed 4 = .ok (.ifCond .le 5, 3) := by decide +kernel
theorem dX7_changed_7 : decode cX7_changed 7 = .ok (.iload_n 1, 1) := by decide +kernel
theorem dX7_changed_8 : decode cX7_changed 8 = .ok (.ireturn, 1) := by decide +kernel
theorem dX7_changed_9 : decode cX7_changed 9 = .ok (.aload_n 0, 1) := by decide +kernel
theorem dX7_changed_10 : decode cX7_changed 10 = .ok (.getfield 55, 3) := by decide +kernel
theorem dX7_changed_13 : decode cX7_changed 13 = .ok (.bipush 8, 2) := by decide +kernel
theorem dX7_changed_15 : decode cX7_changed 15 = .ok (.if_icmp .ne 44, 3) := by decide +kernel
theorem dX7_changed_18 : decode cX7_changed 18 = .ok (.iconst 0, 1) := by decide +kernel
theorem dX7_changed_19 : decode cX7_changed 19 = .ok (.istore_n 2, 1) := by decide +kernel
theorem dX7_changed_20 : decode cX7_changed 20 = .ok (.iload_n 2, 1) := by decide +kernel
theorem dX7_changed_21 : decode cX7_changed 21 = .ok (.sipush 1113, 3) := by decide +kernel
theorem dX7_changed_24 : decode cX7_changed 24 = .ok (.if_icmp .ge 25, 3) := by decide +kernel
theorem dX7_changed_27 : decode cX7_changed 27 = .ok (.aload_n 0, 1) := by decide +kernel
theorem dX7_changed_28 : decode cX7_changed 28 = .ok (.getfield 22, 3) := by decide +kernel
theorem dX7_changed_31 : decode cX7_changed 31 = .ok (.iload_n 2, 1) := by decide +kernel
theorem dX7_changed_32 : decode cX7_changed 32 = .ok (.aload_n 0, 1) := by decide +kernel
theorem dX7_changed_33 : decode cX7_changed 33 = .ok (.getfield 22, 3) := by decide +kernel
theorem dX7_changed_36 : decode cX7_changed 36 = .ok (.iload_n 2, 1) := by decide +kernel
theorem dX7_changed_37 : decode cX7_changed 37 = .ok (.sipush 159, 3) := by decide +kernel
theorem dX7_changed_40 : decode cX7_changed 40 = .ok (.iadd, 1) := by decide +kernel
theorem dX7_changed_41 : decode cX7_changed 41 = .ok (.iaload, 1) := by decide +kernel
theorem dX7_changed_42 : decode cX7_changed 42 = .ok (.iastore, 1) := by decide +kernel
theorem dX7_changed_43 : decode cX7_changed 43 = .ok (.iinc 2 1, 3) := by decide +kernel
theorem dX7_changed_46 : decode cX7_changed 46 = .ok (.goto (-26), 3) := by decide +kernel
theorem dX7_changed_49 : decode cX7_changed 49 = .ok (.aload_n 0, 1) := by decide +kernel
theorem dX7_changed_50 : decode cX7_changed 50 = .ok (.dup, 1) := by decide +kernel
theorem dX7_changed_51 : decode cX7_changed 51 = .ok (.getfield 55, 3) := by decide +kernel
theorem dX7_changed_54 : decode cX7_changed 54 = .ok (.iconst 1, 1) := by decide +kernel
theorem dX7_changed_55 : decode cX7_changed 55 = .ok (.isub, 1) := by decide +kernel
theorem dX7_changed_56 : decode cX7_changed 56 = .ok (.putfield 55, 3) := by decide +kernel
theorem dX7_changed_59 : decode cX7_changed 59 = .ok (.iconst 0, 1) := by decide +kernel
theorem dX7_changed_60 : decode cX7_changed 60 = .ok (.istore_n 2, 1) := by decide +kernel
theorem dX7_changed_61 : decode cX7_changed 61 = .ok (.iload_n 2, 1) := by decide +kernel
theorem dX7_changed_62 : decode cX7_changed 62 = .ok (.sipush 159, 3) := by decide +kernel
theorem dX7_changed_65 : decode cX7_changed 65 = .ok (.if_icmp .ge 30, 3) := by decide +kernel
theorem dX7_changed_68 : decode cX7_changed 68 = .ok (.aload_n 0, 1) := by decide +kernel
theorem dX7_changed_69 : decode cX7_changed 69 = .ok (.getfield 22, 3) := by decide +kernel
theorem dX7_changed_72 : decode cX7_changed 72 = .ok (.sipush 159, 3) := by decide +kernel
theorem dX7_changed_75 : decode cX7_changed 75 = .ok (.aload_n 0, 1) := by decide +kernel
theorem dX7_changed_76 : decode cX7_changed 76 = .ok (.getfield 55, 3) := by decide +kernel
theorem dX7_changed_79 : decode cX7_changed 79 = .ok (.imul, 1) := by decide +kernel
theorem dX7_changed_80 : decode cX7_changed 80 = .ok (.iload_n 2, 1) := by decide +kernel
theorem dX7_changed_81 : decode cX7_changed 81 = .ok (.iadd, 1) := by decide +kernel
theorem dX7_changed_82 : decode cX7_changed 82 = .ok (.aload_n 0, 1) := by decide +kernel
theorem dX7_changed_83 : decode cX7_changed 83 = .ok (.getfield 13, 3) := by decide +kernel
theorem dX7_changed_86 : decode cX7_changed 86 = .ok (.iload_n 2, 1) := by decide +kernel
theorem dX7_changed_87 : decode cX7_changed 87 = .ok (.iaload, 1) := by decide +kernel
theorem dX7_changed_88 : decode cX7_changed 88 = .ok (.iastore, 1) := by decide +kernel
theorem dX7_changed_89 : decode cX7_changed 89 = .ok (.iinc 2 1, 3) := by decide +kernel
theorem dX7_changed_92 : decode cX7_changed 92 = .ok (.goto (-31), 3) := by decide +kernel
theorem dX7_changed_95 : decode cX7_changed 95 = .ok (.aload_n 0, 1) := by decide +kernel
theorem dX7_changed_96 : decode cX7_changed 96 = .ok (.dup, 1) := by decide +kernel
theorem dX7_changed_97 : decode cX7_changed 97 = .ok (.getfield 55, 3) := by decide +kernel
theorem dX7_changed_100 : decode cX7_changed 100 = .ok (.iconst 1, 1) := by decide +kernel
theorem dX7_changed_101 : decode cX7_changed 101 = .ok (.iadd, 1) := by decide +kernel
theorem dX7_changed_102 : decode cX7_changed 102 = .ok (.putfield 55, 3) := by decide +kernel
theorem dX7_changed_105 : decode cX7_changed 105 = .ok (.iload_n 1, 1) := by decide +kernel
theorem dX7_changed_106 : decode cX7_changed 106 = .ok (.ireturn, 1) := by decide +kernel
theorem dX7_windowAt_0 : decode cX7_windowAt 0 = .ok (.bipush 12, 2) := by decide +kernel
theorem dX7_windowAt_2 : decode cX7_windowAt 2 = .ok (.iconst 5, 1) := by decide +kernel
theorem dX7_windowAt_3 : decode cX7_windowAt 3 = .ok (.iload_n 0, 1) := by decide +kernel
theorem dX7_windowAt_4 : decode cX7_windowAt 4 = .ok (.imul, 1) := by decide +kernel
theorem dX7_windowAt_5 : decode cX7_windowAt 5 = .ok (.iadd, 1) := by decide +kernel
theorem dX7_windowAt_6 : decode cX7_windowAt 6 = .ok (.ireturn, 1) := by decide +kernel
theorem dX7_personAt_0 : decode cX7_personAt 0 = .ok (.bipush 27, 2) := by decide +kernel
theorem dX7_personAt_2 : decode cX7_personAt 2 = .ok (.bipush 8, 2) := by decide +kernel
theorem dX7_personAt_4 : decode cX7_personAt 4 = .ok (.iload_n 0, 1) := by decide +kernel
theorem dX7_personAt_5 : decode cX7_personAt 5 = .ok (.imul, 1) := by decide +kernel
theorem dX7_personAt_6 : decode cX7_personAt 6 = .ok (.iadd, 1) := by decide +kernel
theorem dX7_personAt_7 : decode cX7_personAt 7 = .ok (.ireturn, 1) := by decide +kernel
set_option maxRecDepth 20000 in
theorem ggX7_isWindow_X7_in : GoodIn wsX7_isWindow wsX7_in := goodIn_rr _ [(5, 1)] rfl (by decide +kernel)
set_option maxRecDepth 20000 in
theorem gX7_isWindow_X7_in : GoodIn wsX7_isWindow (va_wsS RX7 60 yX7_in wsX7_in) := goodIn_app (goodIn_of _ (by decide +kernel)) ggX7_isWindow_X7_in
theorem dX7_isWindow_0 : decode cX7_isWindow 0 = .ok (.iload_n 0, 1) := by decide +kernel
theorem dX7_isWindow_1 : decode cX7_isWindow 1 = .ok (.i2l, 1) := by decide +kernel
theorem dX7_isWindow_2 : decode cX7_isWindow 2 = .ok (.lconst 0, 1) := by decide +kernel
theorem dX7_isWindow_3 : decode cX7_isWindow 3 = .ok (.ldc2_w 58, 3) := by decide +kernel
theorem dX7_isWindow_6 : decode cX7_isWindow 6 = .ok (.invokestatic 60, 3) := by decide +kernel
theorem dX7_isWindow_9 : decode cX7_isWindow 9 = .ok (.ireturn, 1) := by decide +kernel
set_option maxRecDepth 20000 in
theorem ggX7_isHere_X7_in : GoodIn wsX7_isHere wsX7_in := goodIn_rr _ [(5, 1)] rfl (by decide +kernel)
set_option maxRecDepth 20000 in
theorem gX7_isHere_X7_in : GoodIn wsX7_isHere (va_wsS RX7 60 yX7_in wsX7_in) := goodIn_app (goodIn_of _ (by decide +kernel)) ggX7_isHere_X7_in
theorem dX7_isHere_0 : decode cX7_isHere 0 = .ok (.iload_n 1, 1) := by decide +kernel
theorem dX7_isHere_1 : decode cX7_isHere 1 = .ok (.i2l, 1) := by decide +kernel
theorem dX7_isHere_2 : decode cX7_isHere 2 = .ok (.lconst 0, 1) := by decide +kernel
theorem dX7_isHere_3 : decode cX7_isHere 3 = .ok (.aload_n 0, 1) := by decide +kernel
theorem dX7_isHere_4 : decode cX7_isHere 4 = .ok (.getfield 9, 3) := by decide +kernel
theorem dX7_isHere_7 : decode cX7_isHere 7 = .ok (.iconst 0, 1) := by decide +kernel
theorem dX7_isHere_8 : decode cX7_isHere 8 = .ok (.iaload, 1) := by decide +kernel
theorem dX7_isHere_9 : decode cX7_isHere 9 = .ok (.iconst 1, 1) := by decide +kernel
theorem dX7_isHere_10 : decode cX7_isHere 10 = .ok (.isub, 1) := by decide +kernel
theorem dX7_isHere_11 : decode cX7_isHere 11 = .ok (.i2l, 1) := by decide +kernel
theorem dX7_isHere_12 : decode cX7_isHere 12 = .ok (.invokestatic 60, 3) := by decide +kernel
theorem dX7_isHere_15 : decode cX7_isHere 15 = .ok (.ireturn, 1) := by decide +kernel
set_option maxRecDepth 20000 in
theorem ggX7_isOpen_X7_windowAt : GoodIn wsX7_isOpen wsX7_windowAt := goodIn_rr _ [(5, 1)] rfl (by decide +kernel)
set_option maxRecDepth 20000 in
theorem gX7_isOpen_X7_windowAt : GoodIn wsX7_isOpen (va_wsS RX7 48 yX7_windowAt wsX7_windowAt) := goodIn_app (goodIn_of _ (by decide +kernel)) ggX7_isOpen_X7_windowAt
theorem dX7_isOpen_0 : decode cX7_isOpen 0 = .ok (.aload_n 0, 1) := by decide +kernel
theorem dX7_isOpen_1 : decode cX7_isOpen 1 = .ok (.getfield 9, 3) := by decide +kernel
theorem dX7_isOpen_4 : decode cX7_isOpen 4 = .ok (.iload_n 1, 1) := by decide +kernel
theorem dX7_isOpen_5 : decode cX7_isOpen 5 = .ok (.invokestatic 48, 3) := by decide +kernel
theorem dX7_isOpen_8 : decode cX7_isOpen 8 = .ok (.iaload, 1) := by decide +kernel
theorem dX7_isOpen_9 : decode cX7_isOpen 9 = .ok (.ifCond .le 7, 3) := by decide +kernel
theorem dX7_isOpen_12 : decode cX7_isOpen 12 = .ok (.iconst 1, 1) := by decide +kernel
theorem dX7_isOpen_13 : decode cX7_isOpen 13 = .ok (.goto 4, 3) := by decide +kernel
theorem dX7_isOpen_16 : decode cX7_isOpen 16 = .ok (.iconst 0, 1) := by decide +kernel
theorem dX7_isOpen_17 : decode cX7_isOpen 17 = .ok (.ireturn, 1) := by decide +kernel
set_option maxRecDepth 20000 in
theorem ggX7_isAtWindow_X7_personAt : GoodIn wsX7_isAtWindow wsX7_personAt := goodIn_rr _ [(5, 1)] rfl (by decide +kernel)
set_option maxRecDepth 20000 in
theorem gX7_isAtWindow_X7_personAt : GoodIn wsX7_isAtWindow (va_wsS RX7 64 yX7_personAt wsX7_personAt) := goodIn_app (goodIn_of _ (by decide +kernel)) ggX7_isAtWindow_X7_personAt
theorem dX7_isAtWindow_0 : decode cX7_isAtWindow 0 = .ok (.aload_n 0, 1) := by decide +kernel
theorem dX7_isAtWindow_1 : decode cX7_isAtWindow 1 = .ok (.getfield 9, 3) := by decide +kernel
theorem dX7_isAtWindow_4 : decode cX7_isAtWindow 4 = .ok (.iload_n 1, 1) := by decide +kernel
theorem dX7_isAtWindow_5 : decode cX7_isAtWindow 5 = .ok (.invokestatic 64, 3) := by decide +kernel
theorem dX7_isAtWindow_8 : decode cX7_isAtWindow 8 = .ok (.bipush 7, 2) := by decide +kernel
theorem dX7_isAtWindow_10 : decode cX7_isAtWindow 10 = .ok (.iadd, 1) := by decide +kernel
theorem dX7_isAtWindow_11 : decode cX7_isAtWindow 11 = .ok (.iaload, 1) := by decide +kernel
theorem dX7_isAtWindow_12 : decode cX7_isAtWindow 12 = .ok (.iconst (-1), 1) := by decide +kernel
theorem dX7_isAtWindow_13 : decode cX7_isAtWindow 13 = .ok (.if_icmp .eq 7, 3) := by decide +kernel
theorem dX7_isAtWindow_16 : decode cX7_isAtWindow 16 = .ok (.iconst 1, 1) := by decide +kernel
theorem dX7_isAtWindow_17 : decode cX7_isAtWindow 17 = .ok (.goto 4, 3) := by decide +kernel
theorem dX7_isAtWindow_20 : decode cX7_isAtWindow 20 = .ok (.iconst 0, 1) := by decide +kernel
theorem dX7_isAtWindow_21 : decode cX7_isAtWindow 21 = .ok (.ireturn, 1) := by decide +kernel
set_option maxRecDepth 20000 in
theorem ggX7_openMany_X7_isOpen : GoodIn wsX7_openMany wsX7_isOpen := goodIn_ca (goodIn_rr _ [(5, 4), (4, 1), (9, 22)] rfl (by decide +kernel)) (goodIn_sub (fun _ h => List.mem_cons_of_mem _ (List.mem_append_right _ h)) (by decide +kernel))
set_option maxRecDepth 20000 in
theorem gX7_openMany_X7_isOpen : GoodIn wsX7_openMany (wsV RX7 67 RX7 yX7_isOpen wsX7_isOpen) := goodIn_app (goodIn_of _ (by decide +kernel)) ggX7_openMany_X7_isOpen
theorem dX7_openMany_0 : decode cX7_openMany 0 = .ok (.iconst 0, 1) := by decide +kernel
theorem dX7_openMany_1 : decode cX7_openMany 1 = .ok (.istore_n 1, 1) := by decide +kernel
theorem dX7_openMany_2 : decode cX7_openMany 2 = .ok (.iconst 0, 1) := by decide +kernel
theorem dX7_openMany_3 : decode cX7_openMany 3 = .ok (.istore_n 2, 1) := by decide +kernel
theorem dX7_openMany_4 : decode cX7_openMany 4 = .ok (.iload_n 2, 1) := by decide +kernel
theorem dX7_openMany_5 : decode cX7_openMany 5 = .ok (.iconst 3, 1) := by decide +kernel
theorem dX7_openMany_6 : decode cX7_openMany 6 = .ok (.if_icmp .ge 25, 3) := by decide +kernel
theorem dX7_openMany_9 : decode cX7_openMany 9 = .ok (.iload_n 1, 1) := by decide +kernel
theorem dX7_openMany_10 : decode cX7_openMany 10 = .ok (.aload_n 0, 1) := by decide +kernel
theorem dX7_openMany_11 : decode cX7_openMany 11 = .ok (.iload_n 2, 1) := by decide +kernel
theorem dX7_openMany_12 : decode cX7_openMany 12 = .ok (.invokevirtual 67, 3) := by decide +kernel
theorem dX7_openMany_15 : decode cX7_openMany 15 = .ok (.ifCond .eq 7, 3) := by decide +kernel
theorem dX7_openMany_18 : decode cX7_openMany 18 = .ok (.iconst 1, 1) := by decide +kernel
theorem dX7_openMany_19 : decode cX7_openMany 19 = .ok (.goto 4, 3) := by decide +kernel
theorem dX7_openMany_22 : decode cX7_openMany 22 = .ok (.iconst 0, 1) := by decide +kernel
theorem dX7_openMany_23 : decode cX7_openMany 23 = .ok (.iadd, 1) := by decide +kernel
theorem dX7_openMany_24 : decode cX7_openMany 24 = .ok (.istore_n 1, 1) := by decide +kernel
theorem dX7_openMany_25 : decode cX7_openMany 25 = .ok (.iinc 2 1, 3) := by decide +kernel
theorem dX7_openMany_28 : decode cX7_openMany 28 = .ok (.goto (-24), 3) := by decide +kernel
theorem dX7_openMany_31 : decode cX7_openMany 31 = .ok (.iload_n 1, 1) := by decide +kernel
theorem dX7_openMany_32 : decode cX7_openMany 32 = .ok (.ireturn, 1) := by decide +kernel
set_option maxRecDepth 20000 in
theorem ggX7_sitting_X7_personAt : GoodIn wsX7_sitting wsX7_personAt := goodIn_rr _ [(5, 1)] rfl (by decide +kernel)
set_option maxRecDepth 20000 in
theorem gX7_sitting_X7_personAt : GoodIn wsX7_sitting (va_wsS RX7 64 yX7_personAt wsX7_personAt) := goodIn_app (goodIn_of _ (by decide +kernel)) ggX7_sitting_X7_personAt
theorem dX7_sitting_0 : decode cX7_sitting 0 = .ok (.iconst 0, 1) := by decide +kernel
theorem dX7_sitting_1 : decode cX7_sitting 1 = .ok (.istore_n 1, 1) := by decide +kernel
theorem dX7_sitting_2 : decode cX7_sitting 2 = .ok (.iconst 0, 1) := by decide +kernel
theorem dX7_sitting_3 : decode cX7_sitting 3 = .ok (.istore_n 2, 1) := by decide +kernel
theorem dX7_sitting_4 : decode cX7_sitting 4 = .ok (.iload_n 2, 1) := by decide +kernel
theorem dX7_sitting_5 : decode cX7_sitting 5 = .ok (.aload_n 0, 1) := by decide +kernel
theorem dX7_sitting_6 : decode cX7_sitting 6 = .ok (.getfield 9, 3) := by decide +kernel
theorem dX7_sitting_9 : decode cX7_sitting 9 = .ok (.iconst 0, 1) := by decide +kernel
theorem dX7_sitting_10 : decode cX7_sitting 10 = .ok (.iaload, 1) := by decide +kernel
theorem dX7_sitting_11 : decode cX7_sitting 11 = .ok (.if_icmp .ge 23, 3) := by decide +kernel
theorem dX7_sitting_14 : decode cX7_sitting 14 = .ok (.iload_n 1, 1) := by decide +kernel
theorem dX7_sitting_15 : decode cX7_sitting 15 = .ok (.aload_n 0, 1) := by decide +kernel
theorem dX7_sitting_16 : decode cX7_sitting 16 = .ok (.getfield 9, 3) := by decide +kernel
theorem dX7_sitting_19 : decode cX7_sitting 19 = .ok (.iload_n 2, 1) := by decide +kernel
theorem dX7_sitting_20 : decode cX7_sitting 20 = .ok (.invokestatic 64, 3) := by decide +kernel
theorem dX7_sitting_23 : decode cX7_sitting 23 = .ok (.iconst 4, 1) := by decide +kernel
theorem dX7_sitting_24 : decode cX7_sitting 24 = .ok (.iadd, 1) := by decide +kernel
theorem dX7_sitting_25 : decode cX7_sitting 25 = .ok (.iaload, 1) := by decide +kernel
theorem dX7_sitting_26 : decode cX7_sitting 26 = .ok (.iadd, 1) := by decide +kernel
theorem dX7_sitting_27 : decode cX7_sitting 27 = .ok (.istore_n 1, 1) := by decide +kernel
theorem dX7_sitting_28 : decode cX7_sitting 28 = .ok (.iinc 2 1, 3) := by decide +kernel
theorem dX7_sitting_31 : decode cX7_sitting 31 = .ok (.goto (-27), 3) := by decide +kernel
theorem dX7_sitting_34 : decode cX7_sitting 34 = .ok (.iload_n 1, 1) := by decide +kernel
theorem dX7_sitting_35 : decode cX7_sitting 35 = .ok (.ireturn, 1) := by decide +kernel
theorem dX7_placeOf_0 : decode cX7_placeOf 0 = .ok (.iconst 0, 1) := by decide +kernel
theorem dX7_placeOf_1 : decode cX7_placeOf 1 = .ok (.istore_n 2, 1) := by decide +kernel
theorem dX7_placeOf_2 : decode cX7_placeOf 2 = .ok (.iload_n 2, 1) := by decide +kernel
theorem dX7_placeOf_3 : decode cX7_placeOf 3 = .ok (.aload_n 0, 1) := by decide +kernel
theorem dX7_placeOf_4 : decode cX7_placeOf 4 = .ok (.getfield 9, 3) := by decide +kernel
theorem dX7_placeOf_7 : decode cX7_placeOf 7 = .ok (.bipush 9, 2) := by decide +kernel
theorem dX7_placeOf_9 : decode cX7_placeOf 9 = .ok (.iaload, 1) := by decide +kernel
theorem dX7_placeOf_10 : decode cX7_placeOf 10 = .ok (.if_icmp .ge 24, 3) := by decide +kernel
theorem dX7_placeOf_13 : decode cX7_placeOf 13 = .ok (.aload_n 0, 1) := by decide +kernel
theorem dX7_placeOf_14 : decode cX7_placeOf 14 = .ok (.getfield 9, 3) := by decide +kernel
theorem dX7_placeOf_17 : decode cX7_placeOf 17 = .ok (.bipush 123, 2) := by decide +kernel
theorem dX7_placeOf_19 : decode cX7_placeOf 19 = .ok (.iload_n 2, 1) := by decide +kernel
theorem dX7_placeOf_20 : decode cX7_placeOf 20 = .ok (.iadd, 1) := by decide +kernel
theorem dX7_placeOf_21 : decode cX7_placeOf 21 = .ok (.iaload, 1) := by decide +kernel
theorem dX7_placeOf_22 : decode cX7_placeOf 22 = .ok (.iload_n 1, 1) := by decide +kernel
theorem dX7_placeOf_23 : decode cX7_placeOf 23 = .ok (.if_icmp .ne 5, 3) := by decide +kernel
theorem dX7_placeOf_26 : decode cX7_placeOf 26 = .ok (.iload_n 2, 1) := by decide +kernel
theorem dX7_placeOf_27 : decode cX7_placeOf 27 = .ok (.ireturn, 1) := by decide +kernel
theorem dX7_placeOf_28 : decode cX7_placeOf 28 = .ok (.iinc 2 1, 3) := by decide +kernel
theorem dX7_placeOf_31 : decode cX7_placeOf 31 = .ok (.goto (-29), 3) := by decide +kernel
theorem dX7_placeOf_34 : decode cX7_placeOf 34 = .ok (.iconst (-1), 1) := by decide +kernel
theorem dX7_placeOf_35 : decode cX7_placeOf 35 = .ok (.ireturn, 1) := by decide +kernel
theorem dX7_leavesRow_0 : decode cX7_leavesRow 0 = .ok (.iload_n 1, 1) := by decide +kernel
theorem dX7_leavesRow_1 : decode cX7_leavesRow 1 = .ok (.istore_n 2, 1) := by decide +kernel
theorem dX7_leavesRow_2 : decode cX7_leavesRow 2 = .ok (.iload_n 2, 1) := by decide +kernel
theorem dX7_leavesRow_3 : decode cX7_leavesRow 3 = .ok (.aload_n 0, 1) := by decide +kernel
theorem dX7_leavesRow_4 : decode cX7_leavesRow 4 = .ok (.getfield 9, 3) := by decide +kernel
theorem dX7_leavesRow_7 : decode cX7_leavesRow 7 = .ok (.bipush 9, 2) := by decide +kernel
theorem dX7_leavesRow_9 : decode cX7_leavesRow 9 = .ok (.iaload, 1) := by decide +kernel
theorem dX7_leavesRow_10 : decode cX7_leavesRow 10 = .ok (.iconst 1, 1) := by decide +kernel
theorem dX7_leavesRow_11 : decode cX7_leavesRow 11 = .ok (.isub, 1) := by decide +kernel
theorem dX7_leavesRow_12 : decode cX7_leavesRow 12 = .ok (.if_icmp .ge 29, 3) := by decide +kernel
theorem dX7_leavesRow_15 : decode cX7_leavesRow 15 = .ok (.aload_n 0, 1) := by decide +kernel
theorem dX7_leavesRow_16 : decode cX7_leavesRow 16 = .ok (.getfield 9, 3) := by decide +kernel
theorem dX7_leavesRow_19 : decode cX7_leavesRow 19 = .ok (.bipush 123, 2) := by decide +kernel
theorem dX7_leavesRow_21 : decode cX7_leavesRow 21 = .ok (.iload_n 2, 1) := by decide +kernel
theorem dX7_leavesRow_22 : decode cX7_leavesRow 22 = .ok (.iadd, 1) := by decide +kernel
theorem dX7_leavesRow_23 : decode cX7_leavesRow 23 = .ok (.aload_n 0, 1) := by decide +kernel
theorem dX7_leavesRow_24 : decode cX7_leavesRow 24 = .ok (.getfield 9, 3) := by decide +kernel
theorem dX7_leavesRow_27 : decode cX7_leavesRow 27 = .ok (.bipush 123, 2) := by decide +kernel
theorem dX7_leavesRow_29 : decode cX7_leavesRow 29 = .ok (.iload_n 2, 1) := by decide +kernel
theorem dX7_leavesRow_30 : decode cX7_leavesRow 30 = .ok (.iadd, 1) := by decide +kernel
theorem dX7_leavesRow_31 : decode cX7_leavesRow 31 = .ok (.iconst 1, 1) := by decide +kernel
theorem dX7_leavesRow_32 : decode cX7_leavesRow 32 = .ok (.iadd, 1) := by decide +kernel
theorem dX7_leavesRow_33 : decode cX7_leavesRow 33 = .ok (.iaload, 1) := by decide +kernel
theorem dX7_leavesRow_34 : decode cX7_leavesRow 34 = .ok (.iastore, 1) := by decide +kernel
theorem dX7_leavesRow_35 : decode cX7_leavesRow 35 = .ok (.iinc 2 1, 3) := by decide +kernel
theorem dX7_leavesRow_38 : decode cX7_leavesRow 38 = .ok (.goto (-36), 3) := by decide +kernel
theorem dX7_leavesRow_41 : decode cX7_leavesRow 41 = .ok (.aload_n 0, 1) := by decide +kernel
theorem dX7_leavesRow_42 : decode cX7_leavesRow 42 = .ok (.getfield 9, 3) := by decide +kernel
theorem dX7_leavesRow_45 : decode cX7_leavesRow 45 = .ok (.bipush 9, 2) := by decide +kernel
theorem dX7_leavesRow_47 : decode cX7_leavesRow 47 = .ok (.dup2, 1) := by decide +kernel
theorem dX7_leavesRow_48 : decode cX7_leavesRow 48 = .ok (.iaload, 1) := by decide +kernel
theorem dX7_leavesRow_49 : decode cX7_leavesRow 49 = .ok (.iconst 1, 1) := by decide +kernel
theorem dX7_leavesRow_50 : decode cX7_leavesRow 50 = .ok (.isub, 1) := by decide +kernel
theorem dX7_leavesRow_51 : decode cX7_leavesRow 51 = .ok (.iastore, 1) := by decide +kernel
theorem dX7_leavesRow_52 : decode cX7_leavesRow 52 = .ok (.aload_n 0, 1) := by decide +kernel
theorem dX7_leavesRow_53 : decode cX7_leavesRow 53 = .ok (.getfield 9, 3) := by decide +kernel
theorem dX7_leavesRow_56 : decode cX7_leavesRow 56 = .ok (.bipush 123, 2) := by decide +kernel
theorem dX7_leavesRow_58 : decode cX7_leavesRow 58 = .ok (.aload_n 0, 1) := by decide +kernel
theorem dX7_leavesRow_59 : decode cX7_leavesRow 59 = .ok (.getfield 9, 3) := by decide +kernel
theorem dX7_leavesRow_62 : decode cX7_leavesRow 62 = .ok (.bipush 9, 2) := by decide +kernel
theorem dX7_leavesRow_64 : decode cX7_leavesRow 64 = .ok (.iaload, 1) := by decide +kernel
theorem dX7_leavesRow_65 : decode cX7_leavesRow 65 = .ok (.iadd, 1) := by decide +kernel
theorem dX7_leavesRow_66 : decode cX7_leavesRow 66 = .ok (.iconst 0, 1) := by decide +kernel
theorem dX7_leavesRow_67 : decode cX7_leavesRow 67 = .ok (.iastore, 1) := by decide +kernel
theorem dX7_leavesRow_68 : decode cX7_leavesRow 68 = .ok (.return_, 1) := by decide +kernel
set_option maxRecDepth 20000 in
theorem ggX7_goesBack_X7_personAt : GoodIn wsX7_goesBack wsX7_personAt := goodIn_rr _ [(5, 1)] rfl (by decide +kernel)
set_option maxRecDepth 20000 in
theorem gX7_goesBack_X7_personAt : GoodIn wsX7_goesBack (va_wsS RX7 64 yX7_personAt wsX7_personAt) := goodIn_app (goodIn_of _ (by decide +kernel)) ggX7_goesBack_X7_personAt
theorem dX7_goesBack_0 : decode cX7_goesBack 0 = .ok (.aload_n 0, 1) := by decide +kernel
theorem dX7_goesBack_1 : decode cX7_goesBack 1 = .ok (.getfield 9, 3) := by decide +kernel
theorem dX7_goesBack_4 : decode cX7_goesBack 4 = .ok (.bipush 9, 2) := by decide +kernel
theorem dX7_goesBack_6 : decode cX7_goesBack 6 = .ok (.iaload, 1) := by decide +kernel
theorem dX7_goesBack_7 : decode cX7_goesBack 7 = .ok (.istore_n 2, 1) := by decide +kernel
theorem dX7_goesBack_8 : decode cX7_goesBack 8 = .ok (.iload_n 2, 1) := by decide +kernel
theorem dX7_goesBack_9 : decode cX7_goesBack 9 = .ok (.ifCond .le 29, 3) := by decide +kernel
theorem dX7_goesBack_12 : decode cX7_goesBack 12 = .ok (.aload_n 0, 1) := by decide +kernel
theorem dX7_goesBack_13 : decode cX7_goesBack 13 = .ok (.getfield 9, 3) := by decide +kernel
theorem dX7_goesBack_16 : decode cX7_goesBack 16 = .ok (.bipush 123, 2) := by decide +kernel
theorem dX7_goesBack_18 : decode cX7_goesBack 18 = .ok (.iload_n 2, 1) := by decide +kernel
theorem dX7_goesBack_19 : decode cX7_goesBack 19 = .ok (.iadd, 1) := by decide +kernel
theorem dX7_goesBack_20 : decode cX7_goesBack 20 = .ok (.aload_n 0, 1) := by decide +kernel
theorem dX7_goesBack_21 : decode cX7_goesBack 21 = .ok (.getfield 9, 3) := by decide +kernel
theorem dX7_goesBack_24 : decode cX7_goesBack 24 = .ok (.bipush 123, 2) := by decide +kernel
theorem dX7_goesBack_26 : decode cX7_goesBack 26 = .ok (.iload_n 2, 1) := by decide +kernel
theorem dX7_goesBack_27 : decode cX7_goesBack 27 = .ok (.iadd, 1) := by decide +kernel
theorem dX7_goesBack_28 : decode cX7_goesBack 28 = .ok (.iconst 1, 1) := by decide +kernel
theorem dX7_goesBack_29 : decode cX7_goesBack 29 = .ok (.isub, 1) := by decide +kernel
theorem dX7_goesBack_30 : decode cX7_goesBack 30 = .ok (.iaload, 1) := by decide +kernel
theorem dX7_goesBack_31 : decode cX7_goesBack 31 = .ok (.iastore, 1) := by decide +kernel
theorem dX7_goesBack_32 : decode cX7_goesBack 32 = .ok (.iinc 2 (-1), 3) := by decide +kernel
theorem dX7_goesBack_35 : decode cX7_goesBack 35 = .ok (.goto (-27), 3) := by decide +kernel
theorem dX7_goesBack_38 : decode cX7_goesBack 38 = .ok (.aload_n 0, 1) := by decide +kernel
theorem dX7_goesBack_39 : decode cX7_goesBack 39 = .ok (.getfield 9, 3) := by decide +kernel
theorem dX7_goesBack_42 : decode cX7_goesBack 42 = .ok (.bipush 123, 2) := by decide +kernel
theorem dX7_goesBack_44 : decode cX7_goesBack 44 = .ok (.iload_n 1, 1) := by decide +kernel
theorem dX7_goesBack_45 : decode cX7_goesBack 45 = .ok (.iastore, 1) := by decide +kernel
theorem dX7_goesBack_46 : decode cX7_goesBack 46 = .ok (.aload_n 0, 1) := by decide +kernel
theorem dX7_goesBack_47 : decode cX7_goesBack 47 = .ok (.getfield 9, 3) := by decide +kernel
theorem dX7_goesBack_50 : decode cX7_goesBack 50 = .ok (.bipush 9, 2) := by decide +kernel
theorem dX7_goesBack_52 : decode cX7_goesBack 52 = .ok (.dup2, 1) := by decide +kernel
theorem dX7_goesBack_53 : decode cX7_goesBack 53 = .ok (.iaload, 1) := by decide +kernel
theorem dX7_goesBack_54 : decode cX7_goesBack 54 = .ok (.iconst 1, 1) := by decide +kernel
theorem dX7_goesBack_55 : decode cX7_goesBack 55 = .ok (.iadd, 1) := by decide +kernel
theorem dX7_goesBack_56 : decode cX7_goesBack 56 = .ok (.iastore, 1) := by decide +kernel
theorem dX7_goesBack_57 : decode cX7_goesBack 57 = .ok (.aload_n 0, 1) := by decide +kernel
theorem dX7_goesBack_58 : decode cX7_goesBack 58 = .ok (.getfield 9, 3) := by decide +kernel
theorem dX7_goesBack_61 : decode cX7_goesBack 61 = .ok (.iload_n 1, 1) := by decide +kernel
theorem dX7_goesBack_62 : decode cX7_goesBack 62 = .ok (.invokestatic 64, 3) := by decide +kernel
theorem dX7_goesBack_65 : decode cX7_goesBack 65 = .ok (.bipush 7, 2) := by decide +kernel
theorem dX7_goesBack_67 : decode cX7_goesBack 67 = .ok (.iadd, 1) := by decide +kernel
theorem dX7_goesBack_68 : decode cX7_goesBack 68 = .ok (.iconst (-1), 1) := by decide +kernel
theorem dX7_goesBack_69 : decode cX7_goesBack 69 = .ok (.iastore, 1) := by decide +kernel
theorem dX7_goesBack_70 : decode cX7_goesBack 70 = .ok (.return_, 1) := by decide +kernel
set_option maxRecDepth 20000 in
theorem ggX7_goes_X7_personAt : GoodIn wsX7_goes wsX7_personAt := goodIn_rr _ [(5, 1)] rfl (by decide +kernel)
set_option maxRecDepth 20000 in
theorem gX7_goes_X7_personAt : GoodIn wsX7_goes (va_wsS RX7 64 yX7_personAt wsX7_personAt) := goodIn_app (goodIn_of _ (by decide +kernel)) ggX7_goes_X7_personAt
set_option maxRecDepth 20000 in
theorem ggX7_goes_X7_placeOf : GoodIn wsX7_goes wsX7_placeOf := goodIn_ca (goodIn_rr _ [(9, 1), (1, 1), (17, 21)] rfl (by decide +kernel)) (goodIn_sub (fun _ h => List.mem_cons_of_mem _ (List.mem_append_right _ h)) (by decide +kernel))
set_option maxRecDepth 20000 in
theorem gX7_goes_X7_placeOf : GoodIn wsX7_goes (wsV RX7 71 RX7 yX7_placeOf wsX7_placeOf) := goodIn_app (goodIn_of _ (by decide +kernel)) ggX7_goes_X7_placeOf
set_option maxRecDepth 20000 in
theorem ggX7_goes_X7_leavesRow : GoodIn wsX7_goes wsX7_leavesRow := goodIn_ca (goodIn_rr _ [(13, 1), (1, 1), (17, 21)] rfl (by decide +kernel)) (goodIn_sub (fun _ h => List.mem_cons_of_mem _ (List.mem_append_right _ h)) (by decide +kernel))
set_option maxRecDepth 20000 in
theorem gX7_goes_X7_leavesRow : GoodIn wsX7_goes (wsV RX7 74 RX7 yX7_leavesRow wsX7_leavesRow) := goodIn_app (goodIn_of _ (by decide +kernel)) ggX7_goes_X7_leavesRow
set_option maxRecDepth 20000 in
theorem ggX7_goes_X7_windowAt : GoodIn wsX7_goes wsX7_windowAt := goodIn_rr _ [(16, 1)] rfl (by decide +kernel)
set_option maxRecDepth 20000 in
theorem gX7_goes_X7_windowAt : GoodIn wsX7_goes (va_wsS RX7 48 yX7_windowAt wsX7_windowAt) := goodIn_app (goodIn_of _ (by decide +kernel)) ggX7_goes_X7_windowAt
theorem dX7_goes_0 : decode cX7_goes 0 = .ok (.aload_n 0, 1) := by decide +kernel
theorem dX7_goes_1 : decode cX7_goes 1 = .ok (.getfield 9, 3) := by decide +kernel
theorem dX7_goes_4 : decode cX7_goes 4 = .ok (.iload_n 1, 1) := by decide +kernel
theorem dX7_goes_5 : decode cX7_goes 5 = .ok (.invokestatic 64, 3) := by decide +kernel
theorem dX7_goes_8 : decode cX7_goes 8 = .ok (.bipush 7, 2) := by decide +kernel
theorem dX7_goes_10 : decode cX7_goes 10 = .ok (.iadd, 1) := by decide +kernel
theorem dX7_goes_11 : decode cX7_goes 11 = .ok (.iaload, 1) := by decide +kernel
theorem dX7_goes_12 : decode cX7_goes 12 = .ok (.istore_n 2, 1) := by decide +kernel
theorem dX7_goes_13 : decode cX7_goes 13 = .ok (.iload_n 2, 1) := by decide +kernel
theorem dX7_goes_14 : decode cX7_goes 14 = .ok (.iconst (-1), 1) := by decide +kernel
theorem dX7_goes_15 : decode cX7_goes 15 = .ok (.if_icmp .ne 15, 3) := by decide +kernel
theorem dX7_goes_18 : decode cX7_goes 18 = .ok (.aload_n 0, 1) := by decide +kernel
theorem dX7_goes_19 : decode cX7_goes 19 = .ok (.aload_n 0, 1) := by decide +kernel
theorem dX7_goes_20 : decode cX7_goes 20 = .ok (.iload_n 1, 1) := by decide +kernel
theorem dX7_goes_21 : decode cX7_goes 21 = .ok (.invokevirtual 71, 3) := by decide +kernel
theorem dX7_goes_24 : decode cX7_goes 24 = .ok (.invokevirtual 74, 3) := by decide +kernel
theorem dX7_goes_27 : decode cX7_goes 27 = .ok (.goto 27, 3) := by decide +kernel
theorem dX7_goes_30 : decode cX7_goes 30 = .ok (.aload_n 0, 1) := by decide +kernel
theorem dX7_goes_31 : decode cX7_goes 31 = .ok (.getfield 9, 3) := by decide +kernel
theorem dX7_goes_34 : decode cX7_goes 34 = .ok (.iload_n 2, 1) := by decide +kernel
theorem dX7_goes_35 : decode cX7_goes 35 = .ok (.invokestatic 48, 3) := by decide +kernel
theorem dX7_goes_38 : decode cX7_goes 38 = .ok (.iconst 2, 1) := by decide +kernel
theorem dX7_goes_39 : decode cX7_goes 39 = .ok (.iadd, 1) := by decide +kernel
theorem dX7_goes_40 : decode cX7_goes 40 = .ok (.iconst (-1), 1) := by decide +kernel
theorem dX7_goes_41 : decode cX7_goes 41 = .ok (.iastore, 1) := by decide +kernel
theorem dX7_goes_42 : decode cX7_goes 42 = .ok (.aload_n 0, 1) := by decide +kernel
theorem dX7_goes_43 : decode cX7_goes 43 = .ok (.getfield 9, 3) := by decide +kernel
theorem dX7_goes_46 : decode cX7_goes 46 = .ok (.iload_n 2, 1) := by decide +kernel
theorem dX7_goes_47 : decode cX7_goes 47 = .ok (.invokestatic 48, 3) := by decide +kernel
theorem dX7_goes_50 : decode cX7_goes 50 = .ok (.iconst 3, 1) := by decide +kernel
theorem dX7_goes_51 : decode cX7_goes 51 = .ok (.iadd, 1) := by decide +kernel
theorem dX7_goes_52 : decode cX7_goes 52 = .ok (.iconst 0, 1) := by decide +kernel
theorem dX7_goes_53 : decode cX7_goes 53 = .ok (.iastore, 1) := by decide +kernel
theorem dX7_goes_54 : decode cX7_goes 54 = .ok (.iconst 0, 1) := by decide +kernel
theorem dX7_goes_55 : decode cX7_goes 55 = .ok (.istore_n 3, 1) := by decide +kernel
theorem dX7_goes_56 : decode cX7_goes 56 = .ok (.iload_n 3, 1) := by decide +kernel
theorem dX7_goes_57 : decode cX7_goes 57 = .ok (.aload_n 0, 1) := by decide +kernel
theorem dX7_goes_58 : decode cX7_goes 58 = .ok (.getfield 9, 3) := by decide +kernel
theorem dX7_goes_61 : decode cX7_goes 61 = .ok (.bipush 9, 2) := by decide +kernel
theorem dX7_goes_63 : decode cX7_goes 63 = .ok (.iaload, 1) := by decide +kernel
theorem dX7_goes_64 : decode cX7_goes 64 = .ok (.if_icmp .ge 39, 3) := by decide +kernel
theorem dX7_goes_67 : decode cX7_goes 67 = .ok (.aload_n 0, 1) := by decide +kernel
theorem dX7_goes_68 : decode cX7_goes 68 = .ok (.getfield 9, 3) := by decide +kernel
theorem dX7_goes_71 : decode cX7_goes 71 = .ok (.bipush 123, 2) := by decide +kernel
theorem dX7_goes_73 : decode cX7_goes 73 = .ok (.iload_n 3, 1) := by decide +kernel
theorem dX7_goes_74 : decode cX7_goes 74 = .ok (.iadd, 1) := by decide +kernel
theorem dX7_goes_75 : decode cX7_goes 75 = .ok (.dup2, 1) := by decide +kernel
theorem dX7_goes_76 : decode cX7_goes 76 = .ok (.iaload, 1) := by decide +kernel
theorem dX7_goes_77 : decode cX7_goes 77 = .ok (.aload_n 0, 1) := by decide +kernel
theorem dX7_goes_78 : decode cX7_goes 78 = .ok (.getfield 9, 3) := by decide +kernel
theorem dX7_goes_81 : decode cX7_goes 81 = .ok (.bipush 123, 2) := by decide +kernel
theorem dX7_goes_83 : decode cX7_goes 83 = .ok (.iload_n 3, 1) := by decide +kernel
theorem dX7_goes_84 : decode cX7_goes 84 = .ok (.iadd, 1) := by decide +kernel
theorem dX7_goes_85 : decode cX7_goes 85 = .ok (.iaload, 1) := by decide +kernel
theorem dX7_goes_86 : decode cX7_goes 86 = .ok (.iload_n 1, 1) := by decide +kernel
theorem dX7_goes_87 : decode cX7_goes 87 = .ok (.if_icmp .le 7, 3) := by decide +kernel
theorem dX7_goes_90 : decode cX7_goes 90 = .ok (.iconst 1, 1) := by decide +kernel
theorem dX7_goes_91 : decode cX7_goes 91 = .ok (.goto 4, 3) := by decide +kernel
theorem dX7_goes_94 : decode cX7_goes 94 = .ok (.iconst 0, 1) := by decide +kernel
theorem dX7_goes_95 : decode cX7_goes 95 = .ok (.isub, 1) := by decide +kernel
theorem dX7_goes_96 : decode cX7_goes 96 = .ok (.iastore, 1) := by decide +kernel
theorem dX7_goes_97 : decode cX7_goes 97 = .ok (.iinc 3 1, 3) := by decide +kernel
theorem dX7_goes_100 : decode cX7_goes 100 = .ok (.goto (-44), 3) := by decide +kernel
theorem dX7_goes_103 : decode cX7_goes 103 = .ok (.iconst 0, 1) := by decide +kernel
theorem dX7_goes_104 : decode cX7_goes 104 = .ok (.istore_n 3, 1) := by decide +kernel
theorem dX7_goes_105 : decode cX7_goes 105 = .ok (.iload_n 3, 1) := by decide +kernel
theorem dX7_goes_106 : decode cX7_goes 106 = .ok (.iconst 3, 1) := by decide +kernel
theorem dX7_goes_107 : decode cX7_goes 107 = .ok (.if_icmp .ge 43, 3) := by decide +kernel
theorem dX7_goes_110 : decode cX7_goes 110 = .ok (.aload_n 0, 1) := by decide +kernel
theorem dX7_goes_111 : decode cX7_goes 111 = .ok (.getfield 9, 3) := by decide +kernel
theorem dX7_goes_114 : decode cX7_goes 114 = .ok (.iload_n 3, 1) := by decide +kernel
theorem dX7_goes_115 : decode cX7_goes 115 = .ok (.invokestatic 48, 3) := by decide +kernel
theorem dX7_goes_118 : decode cX7_goes 118 = .ok (.iconst 2, 1) := by decide +kernel
theorem dX7_goes_119 : decode cX7_goes 119 = .ok (.iadd, 1) := by decide +kernel
theorem dX7_goes_120 : decode cX7_goes 120 = .ok (.dup2, 1) := by decide +kernel
theorem dX7_goes_121 : decode cX7_goes 121 = .ok (.iaload, 1) := by decide +kernel
theorem dX7_goes_122 : decode cX7_goes 122 = .ok (.aload_n 0, 1) := by decide +kernel
theorem dX7_goes_123 : decode cX7_goes 123 = .ok (.getfield 9, 3) := by decide +kernel
theorem dX7_goes_126 : decode cX7_goes 126 = .ok (.iload_n 3, 1) := by decide +kernel
theorem dX7_goes_127 : decode cX7_goes 127 = .ok (.invokestatic 48, 3) := by decide +kernel
theorem dX7_goes_130 : decode cX7_goes 130 = .ok (.iconst 2, 1) := by decide +kernel
theorem dX7_goes_131 : decode cX7_goes 131 = .ok (.iadd, 1) := by decide +kernel
theorem dX7_goes_132 : decode cX7_goes 132 = .ok (.iaload, 1) := by decide +kernel
theorem dX7_goes_133 : decode cX7_goes 133 = .ok (.iload_n 1, 1) := by decide +kernel
theorem dX7_goes_134 : decode cX7_goes 134 = .ok (.if_icmp .le 7, 3) := by decide +kernel
theorem dX7_goes_137 : decode cX7_goes 137 = .ok (.iconst 1, 1) := by decide +kernel
theorem dX7_goes_138 : decode cX7_goes 138 = .ok (.goto 4, 3) := by decide +kernel
theorem dX7_goes_141 : decode cX7_goes 141 = .ok (.iconst 0, 1) := by decide +kernel
theorem dX7_goes_142 : decode cX7_goes 142 = .ok (.isub, 1) := by decide +kernel
theorem dX7_goes_143 : decode cX7_goes 143 = .ok (.iastore, 1) := by decide +kernel
theorem dX7_goes_144 : decode cX7_goes 144 = .ok (.iinc 3 1, 3) := by decide +kernel
theorem dX7_goes_147 : decode cX7_goes 147 = .ok (.goto (-42), 3) := by decide +kernel
theorem dX7_goes_150 : decode cX7_goes 150 = .ok (.iload_n 1, 1) := by decide +kernel
theorem dX7_goes_151 : decode cX7_goes 151 = .ok (.invokestatic 64, 3) := by decide +kernel
theorem dX7_goes_154 : decode cX7_goes 154 = .ok (.istore_n 3, 1) := by decide +kernel
theorem dX7_goes_155 : decode cX7_goes 155 = .ok (.iload_n 3, 1) := by decide +kernel
theorem dX7_goes_156 : decode cX7_goes 156 = .ok (.bipush 115, 2) := by decide +kernel
theorem dX7_goes_158 : decode cX7_goes 158 = .ok (.if_icmp .ge 24, 3) := by decide +kernel
theorem dX7_goes_161 : decode cX7_goes 161 = .ok (.aload_n 0, 1) := by decide +kernel
theorem dX7_goes_162 : decode cX7_goes 162 = .ok (.getfield 9, 3) := by decide +kernel
theorem dX7_goes_165 : decode cX7_goes 165 = .ok (.iload_n 3, 1) := by decide +kernel
theorem dX7_goes_166 : decode cX7_goes 166 = .ok (.aload_n 0, 1) := by decide +kernel
theorem dX7_goes_167 : decode cX7_goes 167 = .ok (.getfield 9, 3) := by decide +kernel
theorem dX7_goes_170 : decode cX7_goes 170 = .ok (.iload_n 3, 1) := by decide +kernel
theorem dX7_goes_171 : decode cX7_goes 171 = .ok (.bipush 8, 2) := by decide +kernel
theorem dX7_goes_173 : decode cX7_goes 173 = .ok (.iadd, 1) := by decide +kernel
theorem dX7_goes_174 : decode cX7_goes 174 = .ok (.iaload, 1) := by decide +kernel
theorem dX7_goes_175 : decode cX7_goes 175 = .ok (.iastore, 1) := by decide +kernel
theorem dX7_goes_176 : decode cX7_goes 176 = .ok (.iinc 3 1, 3) := by decide +kernel
theorem dX7_goes_179 : decode cX7_goes 179 = .ok (.goto (-24), 3) := by decide +kernel
theorem dX7_goes_182 : decode cX7_goes 182 = .ok (.bipush 115, 2) := by decide +kernel
theorem dX7_goes_184 : decode cX7_goes 184 = .ok (.istore_n 3, 1) := by decide +kernel
theorem dX7_goes_185 : decode cX7_goes 185 = .ok (.iload_n 3, 1) := by decide +kernel
theorem dX7_goes_186 : decode cX7_goes 186 = .ok (.bipush 123, 2) := by decide +kernel
theorem dX7_goes_188 : decode cX7_goes 188 = .ok (.if_icmp .ge 16, 3) := by decide +kernel
theorem dX7_goes_191 : decode cX7_goes 191 = .ok (.aload_n 0, 1) := by decide +kernel
theorem dX7_goes_192 : decode cX7_goes 192 = .ok (.getfield 9, 3) := by decide +kernel
theorem dX7_goes_195 : decode cX7_goes 195 = .ok (.iload_n 3, 1) := by decide +kernel
theorem dX7_goes_196 : decode cX7_goes 196 = .ok (.iconst 0, 1) := by decide +kernel
theorem dX7_goes_197 : decode cX7_goes 197 = .ok (.iastore, 1) := by decide +kernel
theorem dX7_goes_198 : decode cX7_goes 198 = .ok (.iinc 3 1, 3) := by decide +kernel
theorem dX7_goes_201 : decode cX7_goes 201 = .ok (.goto (-16), 3) := by decide +kernel
theorem dX7_goes_204 : decode cX7_goes 204 = .ok (.aload_n 0, 1) := by decide +kernel
theorem dX7_goes_205 : decode cX7_goes 205 = .ok (.getfield 9, 3) := by decide +kernel
theorem dX7_goes_208 : decode cX7_goes 208 = .ok (.iconst 0, 1) := by decide +kernel
theorem dX7_goes_209 : decode cX7_goes 209 = .ok (.dup2, 1) := by decide +kernel
theorem dX7_goes_210 : decode cX7_goes 210 = .ok (.iaload, 1) := by decide +kernel
theorem dX7_goes_211 : decode cX7_goes 211 = .ok (.iconst 1, 1) := by decide +kernel
theorem dX7_goes_212 : decode cX7_goes 212 = .ok (.isub, 1) := by decide +kernel
theorem dX7_goes_213 : decode cX7_goes 213 = .ok (.iastore, 1) := by decide +kernel
theorem dX7_goes_214 : decode cX7_goes 214 = .ok (.return_, 1) := by decide +kernel
set_option maxRecDepth 20000 in
theorem ggX7_closes_X7_windowAt : GoodIn wsX7_closes wsX7_windowAt := goodIn_rr _ [(5, 1)] rfl (by decide +kernel)
set_option maxRecDepth 20000 in
theorem gX7_closes_X7_windowAt : GoodIn wsX7_closes (va_wsS RX7 48 yX7_windowAt wsX7_windowAt) := goodIn_app (goodIn_of _ (by decide +kernel)) ggX7_closes_X7_windowAt
set_option maxRecDepth 20000 in
theorem ggX7_closes_X7_goesBack : GoodIn wsX7_closes wsX7_goesBack := goodIn_ca (goodIn_rr _ [(9, 1), (1, 1), (10, 2), (4, 1), (12, 22)] rfl (by decide +kernel)) (goodIn_sub (fun _ h => List.mem_cons_of_mem _ (List.mem_append_right _ h)) (by decide +kernel))
set_option maxRecDepth 20000 in
theorem gX7_closes_X7_goesBack : GoodIn wsX7_closes (wsV RX7 78 RX7 yX7_goesBack wsX7_goesBack) := goodIn_app (goodIn_of _ (by decide +kernel)) ggX7_closes_X7_goesBack
theorem dX7_closes_0 : decode cX7_closes 0 = .ok (.iload_n 1, 1) := by decide +kernel
theorem dX7_closes_1 : decode cX7_closes 1 = .ok (.invokestatic 48, 3) := by decide +kernel
theorem dX7_closes_4 : decode cX7_closes 4 = .ok (.istore_n 2, 1) := by decide +kernel
theorem dX7_closes_5 : decode cX7_closes 5 = .ok (.aload_n 0, 1) := by decide +kernel
theorem dX7_closes_6 : decode cX7_closes 6 = .ok (.getfield 9, 3) := by decide +kernel
theorem dX7_closes_9 : decode cX7_closes 9 = .ok (.iload_n 2, 1) := by decide +kernel
theorem dX7_closes_10 : decode cX7_closes 10 = .ok (.iconst 2, 1) := by decide +kernel
theorem dX7_closes_11 : decode cX7_closes 11 = .ok (.iadd, 1) := by decide +kernel
theorem dX7_closes_12 : decode cX7_closes 12 = .ok (.iaload, 1) := by decide +kernel
theorem dX7_closes_13 : decode cX7_closes 13 = .ok (.istore_n 3, 1) := by decide +kernel
theorem dX7_closes_14 : decode cX7_closes 14 = .ok (.aload_n 0, 1) := by decide +kernel
theorem dX7_closes_15 : decode cX7_closes 15 = .ok (.getfield 9, 3) := by decide +kernel
theorem dX7_closes_18 : decode cX7_closes 18 = .ok (.iload_n 2, 1) := by decide +kernel
theorem dX7_closes_19 : decode cX7_closes 19 = .ok (.iconst 0, 1) := by decide +kernel
theorem dX7_closes_20 : decode cX7_closes 20 = .ok (.iastore, 1) := by decide +kernel
theorem dX7_closes_21 : decode cX7_closes 21 = .ok (.aload_n 0, 1) := by decide +kernel
theorem dX7_closes_22 : decode cX7_closes 22 = .ok (.getfield 9, 3) := by decide +kernel
theorem dX7_closes_25 : decode cX7_closes 25 = .ok (.iload_n 2, 1) := by decide +kernel
theorem dX7_closes_26 : decode cX7_closes 26 = .ok (.iconst 1, 1) := by decide +kernel
theorem dX7_closes_27 : decode cX7_closes 27 = .ok (.iadd, 1) := by decide +kernel
theorem dX7_closes_28 : decode cX7_closes 28 = .ok (.iconst 0, 1) := by decide +kernel
theorem dX7_closes_29 : decode cX7_closes 29 = .ok (.iastore, 1) := by decide +kernel
theorem dX7_closes_30 : decode cX7_closes 30 = .ok (.aload_n 0, 1) := by decide +kernel
theorem dX7_closes_31 : decode cX7_closes 31 = .ok (.getfield 9, 3) := by decide +kernel
theorem dX7_closes_34 : decode cX7_closes 34 = .ok (.iload_n 2, 1) := by decide +kernel
theorem dX7_closes_35 : decode cX7_closes 35 = .ok (.iconst 2, 1) := by decide +kernel
theorem dX7_closes_36 : decode cX7_closes 36 = .ok (.iadd, 1) := by decide +kernel
theorem dX7_closes_37 : decode cX7_closes 37 = .ok (.iconst (-1), 1) := by decide +kernel
theorem dX7_closes_38 : decode cX7_closes 38 = .ok (.iastore, 1) := by decide +kernel
theorem dX7_closes_39 : decode cX7_closes 39 = .ok (.aload_n 0, 1) := by decide +kernel
theorem dX7_closes_40 : decode cX7_closes 40 = .ok (.getfield 9, 3) := by decide +kernel
theorem dX7_closes_43 : decode cX7_closes 43 = .ok (.iload_n 2, 1) := by decide +kernel
theorem dX7_closes_44 : decode cX7_closes 44 = .ok (.iconst 3, 1) := by decide +kernel
theorem dX7_closes_45 : decode cX7_closes 45 = .ok (.iadd, 1) := by decide +kernel
theorem dX7_closes_46 : decode cX7_closes 46 = .ok (.iconst 0, 1) := by decide +kernel
theorem dX7_closes_47 : decode cX7_closes 47 = .ok (.iastore, 1) := by decide +kernel
theorem dX7_closes_48 : decode cX7_closes 48 = .ok (.iload_n 3, 1) := by decide +kernel
theorem dX7_closes_49 : decode cX7_closes 49 = .ok (.iconst (-1), 1) := by decide +kernel
theorem dX7_closes_50 : decode cX7_closes 50 = .ok (.if_icmp .eq 8, 3) := by decide +kernel
theorem dX7_closes_53 : decode cX7_closes 53 = .ok (.aload_n 0, 1) := by decide +kernel
theorem dX7_closes_54 : decode cX7_closes 54 = .ok (.iload_n 3, 1) := by decide +kernel
theorem dX7_closes_55 : decode cX7_closes 55 = .ok (.invokevirtual 78, 3) := by decide +kernel
theorem dX7_closes_58 : decode cX7_closes 58 = .ok (.return_, 1) := by decide +kernel
set_option maxRecDepth 20000 in
theorem ggX7_addIt_X7_in : GoodIn wsX7_addIt wsX7_in := goodIn_rr _ [(6, 1)] rfl (by decide +kernel)
set_option maxRecDepth 20000 in
theorem gX7_addIt_X7_in : GoodIn wsX7_addIt (va_wsS RX7 60 yX7_in wsX7_in) := goodIn_app (goodIn_of _ (by decide +kernel)) ggX7_addIt_X7_in
set_option maxRecDepth 20000 in
theorem ggX7_addIt_X7_throwing : GoodIn wsX7_addIt wsX7_throwing := goodIn_rr _ [(10, 2), (15, 21)] rfl (by decide +kernel)
set_option maxRecDepth 20000 in
theorem gX7_addIt_X7_throwing : GoodIn wsX7_addIt (wsV RX7 83 RX7 yX7_throwing wsX7_throwing) := goodIn_app (goodIn_of _ (by decide +kernel)) ggX7_addIt_X7_throwing
set_option maxRecDepth 20000 in
theorem ggX7_addIt_X7_personAt : GoodIn wsX7_addIt wsX7_personAt := goodIn_rr _ [(14, 1)] rfl (by decide +kernel)
set_option maxRecDepth 20000 in
theorem gX7_addIt_X7_personAt : GoodIn wsX7_addIt (va_wsS RX7 64 yX7_personAt wsX7_personAt) := goodIn_app (goodIn_of _ (by decide +kernel)) ggX7_addIt_X7_personAt
theorem dX7_addIt_0 : decode cX7_addIt 0 = .ok (.iload_n 1, 1) := by decide +kernel
theorem dX7_addIt_1 : decode cX7_addIt 1 = .ok (.i2l, 1) := by decide +kernel
theorem dX7_addIt_2 : decode cX7_addIt 2 = .ok (.lconst 1, 1) := by decide +kernel
theorem dX7_addIt_3 : decode cX7_addIt 3 = .ok (.ldc2_w 81, 3) := by decide +kernel
theorem dX7_addIt_6 : decode cX7_addIt 6 = .ok (.invokestatic 60, 3) := by decide +kernel
theorem dX7_addIt_9 : decode cX7_addIt 9 = .ok (.ifCond .ne 9, 3) := by decide +kernel
theorem dX7_addIt_12 : decode cX7_addIt 12 = .ok (.aload_n 0, 1) := by decide +kernel
theorem dX7_addIt_13 : decode cX7_addIt 13 = .ok (.iconst 1, 1) := by decide +kernel
theorem dX7_addIt_14 : decode cX7_addIt 14 = .ok (.invokevirtual 83, 3) := by decide +kernel
theorem dX7_addIt_17 : decode cX7_addIt 17 = .ok (.ireturn, 1) := by decide +kernel
theorem dX7_addIt_18 : decode cX7_addIt 18 = .ok (.aload_n 0, 1) := by decide +kernel
theorem dX7_addIt_19 : decode cX7_addIt 19 = .ok (.getfield 9, 3) := by decide +kernel
theorem dX7_addIt_22 : decode cX7_addIt 22 = .ok (.iconst 0, 1) := by decide +kernel
theorem dX7_addIt_23 : decode cX7_addIt 23 = .ok (.iaload, 1) := by decide +kernel
theorem dX7_addIt_24 : decode cX7_addIt 24 = .ok (.bipush 12, 2) := by decide +kernel
theorem dX7_addIt_26 : decode cX7_addIt 26 = .ok (.if_icmp .ne 9, 3) := by decide +kernel
theorem dX7_addIt_29 : decode cX7_addIt 29 = .ok (.aload_n 0, 1) := by decide +kernel
theorem dX7_addIt_30 : decode cX7_addIt 30 = .ok (.iconst 2, 1) := by decide +kernel
theorem dX7_addIt_31 : decode cX7_addIt 31 = .ok (.invokevirtual 83, 3) := by decide +kernel
theorem dX7_addIt_34 : decode cX7_addIt 34 = .ok (.ireturn, 1) := by decide +kernel
theorem dX7_addIt_35 : decode cX7_addIt 35 = .ok (.aload_n 0, 1) := by decide +kernel
theorem dX7_addIt_36 : decode cX7_addIt 36 = .ok (.getfield 9, 3) := by decide +kernel
theorem dX7_addIt_39 : decode cX7_addIt 39 = .ok (.iconst 2, 1) := by decide +kernel
theorem dX7_addIt_40 : decode cX7_addIt 40 = .ok (.dup2, 1) := by decide +kernel
theorem dX7_addIt_41 : decode cX7_addIt 41 = .ok (.iaload, 1) := by decide +kernel
theorem dX7_addIt_42 : decode cX7_addIt 42 = .ok (.iconst 1, 1) := by decide +kernel
theorem dX7_addIt_43 : decode cX7_addIt 43 = .ok (.iadd, 1) := by decide +kernel
theorem dX7_addIt_44 : decode cX7_addIt 44 = .ok (.iastore, 1) := by decide +kernel
theorem dX7_addIt_45 : decode cX7_addIt 45 = .ok (.aload_n 0, 1) := by decide +kernel
theorem dX7_addIt_46 : decode cX7_addIt 46 = .ok (.getfield 9, 3) := by decide +kernel
theorem dX7_addIt_49 : decode cX7_addIt 49 = .ok (.iconst 0, 1) := by decide +kernel
theorem dX7_addIt_50 : decode cX7_addIt 50 = .ok (.iaload, 1) := by decide +kernel
theorem dX7_addIt_51 : decode cX7_addIt 51 = .ok (.invokestatic 64, 3) := by decide +kernel
theorem dX7_addIt_54 : decode cX7_addIt 54 = .ok (.istore_n 2, 1) := by decide +kernel
theorem dX7_addIt_55 : decode cX7_addIt 55 = .ok (.aload_n 0, 1) := by decide +kernel
theorem dX7_addIt_56 : decode cX7_addIt 56 = .ok (.getfield 9, 3) := by decide +kernel
theorem dX7_addIt_59 : decode cX7_addIt 59 = .ok (.iload_n 2, 1) := by decide +kernel
theorem dX7_addIt_60 : decode cX7_addIt 60 = .ok (.aload_n 0, 1) := by decide +kernel
theorem dX7_addIt_61 : decode cX7_addIt 61 = .ok (.getfield 9, 3) := by decide +kernel
theorem dX7_addIt_64 : decode cX7_addIt 64 = .ok (.iconst 2, 1) := by decide +kernel
theorem dX7_addIt_65 : decode cX7_addIt 65 = .ok (.iaload, 1) := by decide +kernel
theorem dX7_addIt_66 : decode cX7_addIt 66 = .ok (.iastore, 1) := by decide +kernel
theorem dX7_addIt_67 : decode cX7_addIt 67 = .ok (.aload_n 0, 1) := by decide +kernel
theorem dX7_addIt_68 : decode cX7_addIt 68 = .ok (.getfield 9, 3) := by decide +kernel
theorem dX7_addIt_71 : decode cX7_addIt 71 = .ok (.iload_n 2, 1) := by decide +kernel
theorem dX7_addIt_72 : decode cX7_addIt 72 = .ok (.iconst 1, 1) := by decide +kernel
theorem dX7_addIt_73 : decode cX7_addIt 73 = .ok (.iadd, 1) := by decide +kernel
theorem dX7_addIt_74 : decode cX7_addIt 74 = .ok (.iload_n 1, 1) := by decide +kernel
theorem dX7_addIt_75 : decode cX7_addIt 75 = .ok (.iastore, 1) := by decide +kernel
theorem dX7_addIt_76 : decode cX7_addIt 76 = .ok (.aload_n 0, 1) := by decide +kernel
theorem dX7_addIt_77 : decode cX7_addIt 77 = .ok (.getfield 9, 3) := by decide +kernel
theorem dX7_addIt_80 : decode cX7_addIt 80 = .ok (.iload_n 2, 1) := by decide +kernel
theorem dX7_addIt_81 : decode cX7_addIt 81 = .ok (.bipush 7, 2) := by decide +kernel
theorem dX7_addIt_83 : decode cX7_addIt 83 = .ok (.iadd, 1) := by decide +kernel
theorem dX7_addIt_84 : decode cX7_addIt 84 = .ok (.iconst (-1), 1) := by decide +kernel
theorem dX7_addIt_85 : decode cX7_addIt 85 = .ok (.iastore, 1) := by decide +kernel
theorem dX7_addIt_86 : decode cX7_addIt 86 = .ok (.aload_n 0, 1) := by decide +kernel
theorem dX7_addIt_87 : decode cX7_addIt 87 = .ok (.getfield 9, 3) := by decide +kernel
theorem dX7_addIt_90 : decode cX7_addIt 90 = .ok (.bipush 123, 2) := by decide +kernel
theorem dX7_addIt_92 : decode cX7_addIt 92 = .ok (.aload_n 0, 1) := by decide +kernel
theorem dX7_addIt_93 : decode cX7_addIt 93 = .ok (.getfield 9, 3) := by decide +kernel
theorem dX7_addIt_96 : decode cX7_addIt 96 = .ok (.bipush 9, 2) := by decide +kernel
theorem dX7_addIt_98 : decode cX7_addIt 98 = .ok (.iaload, 1) := by decide +kernel
theorem dX7_addIt_99 : decode cX7_addIt 99 = .ok (.iadd, 1) := by decide +kernel
theorem dX7_addIt_100 : decode cX7_addIt 100 = .ok (.aload_n 0, 1) := by decide +kernel
theorem dX7_addIt_101 : decode cX7_addIt 101 = .ok (.getfield 9, 3) := by decide +kernel
theorem dX7_addIt_104 : decode cX7_addIt 104 = .ok (.iconst 0, 1) := by decide +kernel
theorem dX7_addIt_105 : decode cX7_addIt 105 = .ok (.iaload, 1) := by decide +kernel
theorem dX7_addIt_106 : decode cX7_addIt 106 = .ok (.iastore, 1) := by decide +kernel
theorem dX7_addIt_107 : decode cX7_addIt 107 = .ok (.aload_n 0, 1) := by decide +kernel
theorem dX7_addIt_108 : decode cX7_addIt 108 = .ok (.getfield 9, 3) := by decide +kernel
theorem dX7_addIt_111 : decode cX7_addIt 111 = .ok (.bipush 9, 2) := by decide +kernel
theorem dX7_addIt_113 : decode cX7_addIt 113 = .ok (.dup2, 1) := by decide +kernel
theorem dX7_addIt_114 : decode cX7_addIt 114 = .ok (.iaload, 1) := by decide +kernel
theorem dX7_addIt_115 : decode cX7_addIt 115 = .ok (.iconst 1, 1) := by decide +kernel
theorem dX7_addIt_116 : decode cX7_addIt 116 = .ok (.iadd, 1) := by decide +kernel
theorem dX7_addIt_117 : decode cX7_addIt 117 = .ok (.iastore, 1) := by decide +kernel
theorem dX7_addIt_118 : decode cX7_addIt 118 = .ok (.aload_n 0, 1) := by decide +kernel
theorem dX7_addIt_119 : decode cX7_addIt 119 = .ok (.getfield 9, 3) := by decide +kernel
theorem dX7_addIt_122 : decode cX7_addIt 122 = .ok (.iconst 0, 1) := by decide +kernel
theorem dX7_addIt_123 : decode cX7_addIt 123 = .ok (.dup2, 1) := by decide +kernel
theorem dX7_addIt_124 : decode cX7_addIt 124 = .ok (.iaload, 1) := by decide +kernel
theorem dX7_addIt_125 : decode cX7_addIt 125 = .ok (.iconst 1, 1) := by decide +kernel
theorem dX7_addIt_126 : decode cX7_addIt 126 = .ok (.iadd, 1) := by decide +kernel
theorem dX7_addIt_127 : decode cX7_addIt 127 = .ok (.iastore, 1) := by decide +kernel
theorem dX7_addIt_128 : decode cX7_addIt 128 = .ok (.aload_n 0, 1) := by decide +kernel
theorem dX7_addIt_129 : decode cX7_addIt 129 = .ok (.getfield 9, 3) := by decide +kernel
theorem dX7_addIt_132 : decode cX7_addIt 132 = .ok (.iconst 0, 1) := by decide +kernel
theorem dX7_addIt_133 : decode cX7_addIt 133 = .ok (.iaload, 1) := by decide +kernel
theorem dX7_addIt_134 : decode cX7_addIt 134 = .ok (.iconst 1, 1) := by decide +kernel
theorem dX7_addIt_135 : decode cX7_addIt 135 = .ok (.isub, 1) := by decide +kernel
theorem dX7_addIt_136 : decode cX7_addIt 136 = .ok (.ireturn, 1) := by decide +kernel
set_option maxRecDepth 20000 in
theorem ggX7_addCustomer_X7_starts : GoodIn wsX7_addCustomer wsX7_starts := goodIn_ca (goodIn_rr _ [(5, 4), (30, 21)] rfl (by decide +kernel)) (goodIn_sub (fun _ h => List.mem_cons_of_mem _ (List.mem_append_right _ h)) (by decide +kernel))
set_option maxRecDepth 20000 in
theorem gX7_addCustomer_X7_starts : GoodIn wsX7_addCustomer (wsV RX7 86 RX7 yX7_starts wsX7_starts) := goodIn_app (goodIn_of _ (by decide +kernel)) ggX7_addCustomer_X7_starts
set_option maxRecDepth 20000 in
theorem ggX7_addCustomer_X7_addIt : GoodIn wsX7_addCustomer wsX7_addIt := goodIn_ca (goodIn_rr _ [(12, 2), (8, 1), (14, 2), (4, 1), (16, 5), (6, 1), (21, 3), (30, 21)] rfl (by decide +kernel)) (goodIn_sub (fun _ h => List.mem_cons_of_mem _ (List.mem_append_right _ h)) (by decide +kernel))
set_option maxRecDepth 20000 in
theorem gX7_addCustomer_X7_addIt : GoodIn wsX7_addCustomer (wsV RX7 89 RX7 yX7_addIt wsX7_addIt) := goodIn_app (goodIn_of _ (by decide +kernel)) ggX7_addCustomer_X7_addIt
set_option maxRecDepth 20000 in
theorem ggX7_addCustomer_X7_changed : GoodIn wsX7_addCustomer wsX7_changed := goodIn_ca (goodIn_rr _ [(27, 1), (6, 1), (28, 2), (7, 1), (30, 21)] rfl (by decide +kernel)) (goodIn_sub (fun _ h => List.mem_cons_of_mem _ (List.mem_append_right _ h)) (by decide +kernel))
set_option maxRecDepth 20000 in
theorem gX7_addCustomer_X7_changed : GoodIn wsX7_addCustomer (wsV RX7 92 RX7 yX7_changed wsX7_changed) := goodIn_app (goodIn_of _ (by decide +kernel)) ggX7_addCustomer_X7_changed
theorem dX7_addCustomer_0 : decode cX7_addCustomer 0 = .ok (.aload_n 0, 1) := by decide +kernel
theorem dX7_addCustomer_1 : decode cX7_addCustomer 1 = .ok (.invokevirtual 86, 3) := by decide +kernel
theorem dX7_addCustomer_4 : decode cX7_addCustomer 4 = .ok (.aload_n 0, 1) := by decide +kernel
theorem dX7_addCustomer_5 : decode cX7_addCustomer 5 = .ok (.aload_n 0, 1) := by decide +kernel
theorem dX7_addCustomer_6 : decode cX7_addCustomer 6 = .ok (.iload_n 1, 1) := by decide +kernel
theorem dX7_addCustomer_7 : decode cX7_addCustomer 7 = .ok (.invokevirtual 89, 3) := by decide +kernel
theorem dX7_addCustomer_10 : decode cX7_addCustomer 10 = .ok (.invokevirtual 92, 3) := by decide +kernel
theorem dX7_addCustomer_13 : decode cX7_addCustomer 13 = .ok (.ireturn, 1) := by decide +kernel
set_option maxRecDepth 20000 in
theorem ggX7_openIt_X7_isWindow : GoodIn wsX7_openIt wsX7_isWindow := goodIn_rr _ [(7, 4), (6, 1), (11, 1)] rfl (by decide +kernel)
set_option maxRecDepth 20000 in
theorem gX7_openIt_X7_isWindow : GoodIn wsX7_openIt (va_wsS RX7 95 yX7_isWindow wsX7_isWindow) := goodIn_app (goodIn_of _ (by decide +kernel)) ggX7_openIt_X7_isWindow
set_option maxRecDepth 20000 in
theorem ggX7_openIt_X7_throwing : GoodIn wsX7_openIt wsX7_throwing := goodIn_rr _ [(15, 2), (28, 21)] rfl (by decide +kernel)
set_option maxRecDepth 20000 in
theorem gX7_openIt_X7_throwing : GoodIn wsX7_openIt (wsV RX7 83 RX7 yX7_throwing wsX7_throwing) := goodIn_app (goodIn_of _ (by decide +kernel)) ggX7_openIt_X7_throwing
set_option maxRecDepth 20000 in
theorem ggX7_openIt_X7_in : GoodIn wsX7_openIt wsX7_in := goodIn_rr _ [(11, 1)] rfl (by decide +kernel)
set_option maxRecDepth 20000 in
theorem gX7_openIt_X7_in : GoodIn wsX7_openIt (va_wsS RX7 60 yX7_in wsX7_in) := goodIn_app (goodIn_of _ (by decide +kernel)) ggX7_openIt_X7_in
set_option maxRecDepth 20000 in
theorem ggX7_openIt_X7_isOpen : GoodIn wsX7_openIt wsX7_isOpen := goodIn_ca (goodIn_rr _ [(20, 1), (3, 1), (21, 2), (6, 1), (23, 1), (28, 21)] rfl (by decide +kernel)) (goodIn_sub (fun _ h => List.mem_cons_of_mem _ (List.mem_append_right _ h)) (by decide +kernel))
set_option maxRecDepth 20000 in
theorem gX7_openIt_X7_isOpen : GoodIn wsX7_openIt (wsV RX7 67 RX7 yX7_isOpen wsX7_isOpen) := goodIn_app (goodIn_of _ (by decide +kernel)) ggX7_openIt_X7_isOpen
set_option maxRecDepth 20000 in
theorem ggX7_openIt_X7_windowAt : GoodIn wsX7_openIt wsX7_windowAt := goodIn_rr _ [(23, 1)] rfl (by decide +kernel)
set_option maxRecDepth 20000 in
theorem gX7_openIt_X7_windowAt : GoodIn wsX7_openIt (va_wsS RX7 48 yX7_windowAt wsX7_windowAt) := goodIn_app (goodIn_of _ (by decide +kernel)) ggX7_openIt_X7_windowAt
set_option maxRecDepth 20000 in
theorem ggX7_openIt_X7_openMany : GoodIn wsX7_openIt wsX7_openMany := goodIn_ca (goodIn_rr _ [(27, 1), (17, 3), (6, 1), (20, 1), (3, 1), (21, 3), (28, 21)] rfl (by decide +kernel)) (goodIn_sub (fun _ h => List.mem_cons_of_mem _ (List.mem_append_right _ h)) (by decide +kernel))
set_option maxRecDepth 20000 in
theorem gX7_openIt_X7_openMany : GoodIn wsX7_openIt (wsV RX7 102 RX7 yX7_openMany wsX7_openMany) := goodIn_app (goodIn_of _ (by decide +kernel)) ggX7_openIt_X7_openMany
theorem dX7_openIt_0 : decode cX7_openIt 0 = .ok (.iload_n 1, 1) := by decide +kernel
theorem dX7_openIt_1 : decode cX7_openIt 1 = .ok (.invokestatic 95, 3) := by decide +kernel
theorem dX7_openIt_4 : decode cX7_openIt 4 = .ok (.ifCond .ne 9, 3) := by decide +kernel
theorem dX7_openIt_7 : decode cX7_openIt 7 = .ok (.aload_n 0, 1) := by decide +kernel
theorem dX7_openIt_8 : decode cX7_openIt 8 = .ok (.iconst 1, 1) := by decide +kernel
theorem dX7_openIt_9 : decode cX7_openIt 9 = .ok (.invokevirtual 83, 3) := by decide +kernel
theorem dX7_openIt_12 : decode cX7_openIt 12 = .ok (.ireturn, 1) := by decide +kernel
theorem dX7_openIt_13 : decode cX7_openIt 13 = .ok (.iload_n 2, 1) := by decide +kernel
theorem dX7_openIt_14 : decode cX7_openIt 14 = .ok (.i2l, 1) := by decide +kernel
theorem dX7_openIt_15 : decode cX7_openIt 15 = .ok (.lconst 1, 1) := by decide +kernel
theorem dX7_openIt_16 : decode cX7_openIt 16 = .ok (.ldc2_w 98, 3) := by decide +kernel
theorem dX7_openIt_19 : decode cX7_openIt 19 = .ok (.invokestatic 60, 3) := by decide +kernel
theorem dX7_openIt_22 : decode cX7_openIt 22 = .ok (.ifCond .eq 15, 3) := by decide +kernel
theorem dX7_openIt_25 : decode cX7_openIt 25 = .ok (.iload_n 3, 1) := by decide +kernel
theorem dX7_openIt_26 : decode cX7_openIt 26 = .ok (.i2l, 1) := by decide +kernel
theorem dX7_openIt_27 : decode cX7_openIt 27 = .ok (.lconst 1, 1) := by decide +kernel
theorem dX7_openIt_28 : decode cX7_openIt 28 = .ok (.ldc2_w 100, 3) := by decide +kernel
theorem dX7_openIt_31 : decode cX7_openIt 31 = .ok (.invokestatic 60, 3) := by decide +kernel
theorem dX7_openIt_34 : decode cX7_openIt 34 = .ok (.ifCond .ne 9, 3) := by decide +kernel
theorem dX7_openIt_37 : decode cX7_openIt 37 = .ok (.aload_n 0, 1) := by decide +kernel
theorem dX7_openIt_38 : decode cX7_openIt 38 = .ok (.iconst 2, 1) := by decide +kernel
theorem dX7_openIt_39 : decode cX7_openIt 39 = .ok (.invokevirtual 83, 3) := by decide +kernel
theorem dX7_openIt_42 : decode cX7_openIt 42 = .ok (.ireturn, 1) := by decide +kernel
theorem dX7_openIt_43 : decode cX7_openIt 43 = .ok (.aload_n 0, 1) := by decide +kernel
theorem dX7_openIt_44 : decode cX7_openIt 44 = .ok (.iload_n 1, 1) := by decide +kernel
theorem dX7_openIt_45 : decode cX7_openIt 45 = .ok (.invokevirtual 67, 3) := by decide +kernel
theorem dX7_openIt_48 : decode cX7_openIt 48 = .ok (.ifCond .eq 9, 3) := by decide +kernel
theorem dX7_openIt_51 : decode cX7_openIt 51 = .ok (.aload_n 0, 1) := by decide +kernel
theorem dX7_openIt_52 : decode cX7_openIt 52 = .ok (.iconst 3, 1) := by decide +kernel
theorem dX7_openIt_53 : decode cX7_openIt 53 = .ok (.invokevirtual 83, 3) := by decide +kernel
theorem dX7_openIt_56 : decode cX7_openIt 56 = .ok (.ireturn, 1) := by decide +kernel
theorem dX7_openIt_57 : decode cX7_openIt 57 = .ok (.aload_n 0, 1) := by decide +kernel
theorem dX7_openIt_58 : decode cX7_openIt 58 = .ok (.getfield 9, 3) := by decide +kernel
theorem dX7_openIt_61 : decode cX7_openIt 61 = .ok (.iload_n 1, 1) := by decide +kernel
theorem dX7_openIt_62 : decode cX7_openIt 62 = .ok (.invokestatic 48, 3) := by decide +kernel
theorem dX7_openIt_65 : decode cX7_openIt 65 = .ok (.iload_n 2, 1) := by decide +kernel
theorem dX7_openIt_66 : decode cX7_openIt 66 = .ok (.iastore, 1) := by decide +kernel
theorem dX7_openIt_67 : decode cX7_openIt 67 = .ok (.aload_n 0, 1) := by decide +kernel
theorem dX7_openIt_68 : decode cX7_openIt 68 = .ok (.getfield 9, 3) := by decide +kernel
theorem dX7_openIt_71 : decode cX7_openIt 71 = .ok (.iload_n 1, 1) := by decide +kernel
theorem dX7_openIt_72 : decode cX7_openIt 72 = .ok (.invokestatic 48, 3) := by decide +kernel
theorem dX7_openIt_75 : decode cX7_openIt 75 = .ok (.iconst 1, 1) := by decide +kernel
theorem dX7_openIt_76 : decode cX7_openIt 76 = .ok (.iadd, 1) := by decide +kernel
theorem dX7_openIt_77 : decode cX7_openIt 77 = .ok (.iload_n 3, 1) := by decide +kernel
theorem dX7_openIt_78 : decode cX7_openIt 78 = .ok (.iastore, 1) := by decide +kernel
theorem dX7_openIt_79 : decode cX7_openIt 79 = .ok (.aload_n 0, 1) := by decide +kernel
theorem dX7_openIt_80 : decode cX7_openIt 80 = .ok (.invokevirtual 102, 3) := by decide +kernel
theorem dX7_openIt_83 : decode cX7_openIt 83 = .ok (.ireturn, 1) := by decide +kernel
set_option maxRecDepth 20000 in
theorem ggX7_openWindow_X7_starts : GoodIn wsX7_openWindow wsX7_starts := goodIn_ca (goodIn_rr _ [(5, 4), (43, 21)] rfl (by decide +kernel)) (goodIn_sub (fun _ h => List.mem_cons_of_mem _ (List.mem_append_right _ h)) (by decide +kernel))
set_option maxRecDepth 20000 in
theorem gX7_openWindow_X7_starts : GoodIn wsX7_openWindow (wsV RX7 86 RX7 yX7_starts wsX7_starts) := goodIn_app (goodIn_of _ (by decide +kernel)) ggX7_openWindow_X7_starts
set_option maxRecDepth 20000 in
theorem ggX7_openWindow_X7_openIt : GoodIn wsX7_openWindow wsX7_openIt := goodIn_ca (goodIn_rr _ [(12, 3), (8, 1), (15, 2), (4, 1), (17, 9), (6, 1), (26, 11), (43, 21)] rfl (by decide +kernel)) (goodIn_sub (fun _ h => List.mem_cons_of_mem _ (List.mem_append_right _ h)) (by decide +kernel))
set_option maxRecDepth 20000 in
theorem gX7_openWindow_X7_openIt : GoodIn wsX7_openWindow (wsV RX7 106 RX7 yX7_openIt wsX7_openIt) := goodIn_app (goodIn_of _ (by decide +kernel)) ggX7_openWindow_X7_openIt
set_option maxRecDepth 20000 in
theorem ggX7_openWindow_X7_changed : GoodIn wsX7_openWindow wsX7_changed := goodIn_ca (goodIn_rr _ [(40, 1), (6, 1), (41, 2), (7, 1), (43, 21)] rfl (by decide +kernel)) (goodIn_sub (fun _ h => List.mem_cons_of_mem _ (List.mem_append_right _ h)) (by decide +kernel))
set_option maxRecDepth 20000 in
theorem gX7_openWindow_X7_changed : GoodIn wsX7_openWindow (wsV RX7 92 RX7 yX7_changed wsX7_changed) := goodIn_app (goodIn_of _ (by decide +kernel)) ggX7_openWindow_X7_changed
theorem dX7_openWindow_0 : decode cX7_openWindow 0 = .ok (.aload_n 0, 1) := by decide +kernel
theorem dX7_openWindow_1 : decode cX7_openWindow 1 = .ok (.invokevirtual 86, 3) := by decide +kernel
theorem dX7_openWindow_4 : decode cX7_openWindow 4 = .ok (.aload_n 0, 1) := by decide +kernel
theorem dX7_openWindow_5 : decode cX7_openWindow 5 = .ok (.aload_n 0, 1) := by decide +kernel
theorem dX7_openWindow_6 : decode cX7_openWindow 6 = .ok (.iload_n 1, 1) := by decide +kernel
theorem dX7_openWindow_7 : decode cX7_openWindow 7 = .ok (.iload_n 2, 1) := by decide +kernel
theorem dX7_openWindow_8 : decode cX7_openWindow 8 = .ok (.iload_n 3, 1) := by decide +kernel
theorem dX7_openWindow_9 : decode cX7_openWindow 9 = .ok (.invokevirtual 106, 3) := by decide +kernel
theorem dX7_openWindow_12 : decode cX7_openWindow 12 = .ok (.invokevirtual 92, 3) := by decide +kernel
theorem dX7_openWindow_15 : decode cX7_openWindow 15 = .ok (.ireturn, 1) := by decide +kernel
set_option maxRecDepth 20000 in
theorem ggX7_closeIt_X7_isWindow : GoodIn wsX7_closeIt wsX7_isWindow := goodIn_rr _ [(4, 4), (3, 1), (8, 1)] rfl (by decide +kernel)
set_option maxRecDepth 20000 in
theorem gX7_closeIt_X7_isWindow : GoodIn wsX7_closeIt (va_wsS RX7 95 yX7_isWindow wsX7_isWindow) := goodIn_app (goodIn_of _ (by decide +kernel)) ggX7_closeIt_X7_isWindow
set_option maxRecDepth 20000 in
theorem ggX7_closeIt_X7_throwing : GoodIn wsX7_closeIt wsX7_throwing := goodIn_rr _ [(12, 2), (37, 21)] rfl (by decide +kernel)
set_option maxRecDepth 20000 in
theorem gX7_closeIt_X7_throwing : GoodIn wsX7_closeIt (wsV RX7 83 RX7 yX7_throwing wsX7_throwing) := goodIn_app (goodIn_of _ (by decide +kernel)) ggX7_closeIt_X7_throwing
set_option maxRecDepth 20000 in
theorem ggX7_closeIt_X7_isOpen : GoodIn wsX7_closeIt wsX7_isOpen := goodIn_ca (goodIn_rr _ [(17, 4), (3, 1), (21, 1), (37, 21)] rfl (by decide +kernel)) (goodIn_sub (fun _ h => List.mem_cons_of_mem _ (List.mem_append_right _ h)) (by decide +kernel))
set_option maxRecDepth 20000 in
theorem gX7_closeIt_X7_isOpen : GoodIn wsX7_closeIt (wsV RX7 67 RX7 yX7_isOpen wsX7_isOpen) := goodIn_app (goodIn_of _ (by decide +kernel)) ggX7_closeIt_X7_isOpen
set_option maxRecDepth 20000 in
theorem ggX7_closeIt_X7_closes : GoodIn wsX7_closeIt wsX7_closes := goodIn_ca (goodIn_rr _ [(25, 1), (18, 3), (3, 1), (21, 1), (26, 7), (37, 21)] rfl (by decide +kernel)) (goodIn_sub (fun _ h => List.mem_cons_of_mem _ (List.mem_append_right _ h)) (by decide +kernel))
set_option maxRecDepth 20000 in
theorem gX7_closeIt_X7_closes : GoodIn wsX7_closeIt (wsV RX7 110 RX7 yX7_closes wsX7_closes) := goodIn_app (goodIn_of _ (by decide +kernel)) ggX7_closeIt_X7_closes
set_option maxRecDepth 20000 in
theorem ggX7_closeIt_X7_openMany : GoodIn wsX7_closeIt wsX7_openMany := goodIn_ca (goodIn_rr _ [(36, 1), (14, 3), (3, 1), (17, 5), (37, 21)] rfl (by decide +kernel)) (goodIn_sub (fun _ h => List.mem_cons_of_mem _ (List.mem_append_right _ h)) (by decide +kernel))
set_option maxRecDepth 20000 in
theorem gX7_closeIt_X7_openMany : GoodIn wsX7_closeIt (wsV RX7 102 RX7 yX7_openMany wsX7_openMany) := goodIn_app (goodIn_of _ (by decide +kernel)) ggX7_closeIt_X7_openMany
theorem dX7_closeIt_0 : decode cX7_closeIt 0 = .ok (.iload_n 1, 1) := by decide +kernel
theorem dX7_closeIt_1 : decode cX7_closeIt 1 = .ok (.invokestatic 95, 3) := by decide +kernel
theorem dX7_closeIt_4 : decode cX7_closeIt 4 = .ok (.ifCond .ne 9, 3) := by decide +kernel
theorem dX7_closeIt_7 : decode cX7_closeIt 7 = .ok (.aload_n 0, 1) := by decide +kernel
theorem dX7_closeIt_8 : decode cX7_closeIt 8 = .ok (.iconst 1, 1) := by decide +kernel
theorem dX7_closeIt_9 : decode cX7_closeIt 9 = .ok (.invokevirtual 83, 3) := by decide +kernel
theorem dX7_closeIt_12 : decode cX7_closeIt 12 = .ok (.ireturn, 1) := by decide +kernel
theorem dX7_closeIt_13 : decode cX7_closeIt 13 = .ok (.aload_n 0, 1) := by decide +kernel
theorem dX7_closeIt_14 : decode cX7_closeIt 14 = .ok (.iload_n 1, 1) := by decide +kernel
theorem dX7_closeIt_15 : decode cX7_closeIt 15 = .ok (.invokevirtual 67, 3) := by decide +kernel
theorem dX7_closeIt_18 : decode cX7_closeIt 18 = .ok (.ifCond .ne 9, 3) := by decide +kernel
theorem dX7_closeIt_21 : decode cX7_closeIt 21 = .ok (.aload_n 0, 1) := by decide +kernel
theorem dX7_closeIt_22 : decode cX7_closeIt 22 = .ok (.iconst 2, 1) := by decide +kernel
theorem dX7_closeIt_23 : decode cX7_closeIt 23 = .ok (.invokevirtual 83, 3) := by decide +kernel
theorem dX7_closeIt_26 : decode cX7_closeIt 26 = .ok (.ireturn, 1) := by decide +kernel
theorem dX7_closeIt_27 : decode cX7_closeIt 27 = .ok (.aload_n 0, 1) := by decide +kernel
theorem dX7_closeIt_28 : decode cX7_closeIt 28 = .ok (.iload_n 1, 1) := by decide +kernel
theorem dX7_closeIt_29 : decode cX7_closeIt 29 = .ok (.invokevirtual 110, 3) := by decide +kernel
theorem dX7_closeIt_32 : decode cX7_closeIt 32 = .ok (.aload_n 0, 1) := by decide +kernel
theorem dX7_closeIt_33 : decode cX7_closeIt 33 = .ok (.invokevirtual 102, 3) := by decide +kernel
theorem dX7_closeIt_36 : decode cX7_closeIt 36 = .ok (.ireturn, 1) := by decide +kernel
set_option maxRecDepth 20000 in
theorem ggX7_closeWindow_X7_starts : GoodIn wsX7_closeWindow wsX7_starts := goodIn_ca (goodIn_rr _ [(5, 4), (52, 21)] rfl (by decide +kernel)) (goodIn_sub (fun _ h => List.mem_cons_of_mem _ (List.mem_append_right _ h)) (by decide +kernel))
set_option maxRecDepth 20000 in
theorem gX7_closeWindow_X7_starts : GoodIn wsX7_closeWindow (wsV RX7 86 RX7 yX7_starts wsX7_starts) := goodIn_app (goodIn_of _ (by decide +kernel)) ggX7_closeWindow_X7_starts
set_option maxRecDepth 20000 in
theorem ggX7_closeWindow_X7_closeIt : GoodIn wsX7_closeWindow wsX7_closeIt := goodIn_ca (goodIn_rr _ [(12, 3), (4, 1), (15, 9), (6, 1), (24, 4), (8, 1), (28, 18), (52, 21)] rfl (by decide +kernel)) (goodIn_sub (fun _ h => List.mem_cons_of_mem _ (List.mem_append_right _ h)) (by decide +kernel))
set_option maxRecDepth 20000 in
theorem gX7_closeWindow_X7_closeIt : GoodIn wsX7_closeWindow (wsV RX7 113 RX7 yX7_closeIt wsX7_closeIt) := goodIn_app (goodIn_of _ (by decide +kernel)) ggX7_closeWindow_X7_closeIt
set_option maxRecDepth 20000 in
theorem ggX7_closeWindow_X7_changed : GoodIn wsX7_closeWindow wsX7_changed := goodIn_ca (goodIn_rr _ [(49, 1), (6, 1), (50, 2), (7, 1), (52, 21)] rfl (by decide +kernel)) (goodIn_sub (fun _ h => List.mem_cons_of_mem _ (List.mem_append_right _ h)) (by decide +kernel))
set_option maxRecDepth 20000 in
theorem gX7_closeWindow_X7_changed : GoodIn wsX7_closeWindow (wsV RX7 92 RX7 yX7_changed wsX7_changed) := goodIn_app (goodIn_of _ (by decide +kernel)) ggX7_closeWindow_X7_changed
theorem dX7_closeWindow_0 : decode cX7_closeWindow 0 = .ok (.aload_n 0, 1) := by decide +kernel
theorem dX7_closeWindow_1 : decode cX7_closeWindow 1 = .ok (.invokevirtual 86, 3) := by decide +kernel
theorem dX7_closeWindow_4 : decode cX7_closeWindow 4 = .ok (.aload_n 0, 1) := by decide +kernel
theorem dX7_closeWindow_5 : decode cX7_closeWindow 5 = .ok (.aload_n 0, 1) := by decide +kernel
theorem dX7_closeWindow_6 : decode cX7_closeWindow 6 = .ok (.iload_n 1, 1) := by decide +kernel
theorem dX7_closeWindow_7 : decode cX7_closeWindow 7 = .ok (.invokevirtual 113, 3) := by decide +kernel
theorem dX7_closeWindow_10 : decode cX7_closeWindow 10 = .ok (.invokevirtual 92, 3) := by decide +kernel
theorem dX7_closeWindow_13 : decode cX7_closeWindow 13 = .ok (.ireturn, 1) := by decide +kernel
set_option maxRecDepth 20000 in
theorem ggX7_callIt_X7_personAt : GoodIn wsX7_callIt wsX7_personAt := goodIn_rr _ [(5, 1)] rfl (by decide +kernel)
set_option maxRecDepth 20000 in
theorem gX7_callIt_X7_personAt : GoodIn wsX7_callIt (va_wsS RX7 64 yX7_personAt wsX7_personAt) := goodIn_app (goodIn_of _ (by decide +kernel)) ggX7_callIt_X7_personAt
set_option maxRecDepth 20000 in
theorem ggX7_callIt_X7_throwing : GoodIn wsX7_callIt wsX7_throwing := goodIn_rr _ [(9, 23)] rfl (by decide +kernel)
set_option maxRecDepth 20000 in
theorem gX7_callIt_X7_throwing : GoodIn wsX7_callIt (wsV RX7 83 RX7 yX7_throwing wsX7_throwing) := goodIn_app (goodIn_of _ (by decide +kernel)) ggX7_callIt_X7_throwing
theorem dX7_callIt_0 : decode cX7_callIt 0 = .ok (.iconst (-1), 1) := by decide +kernel
theorem dX7_callIt_1 : decode cX7_callIt 1 = .ok (.istore_n 1, 1) := by decide +kernel
theorem dX7_callIt_2 : decode cX7_callIt 2 = .ok (.iconst 0, 1) := by decide +kernel
theorem dX7_callIt_3 : decode cX7_callIt 3 = .ok (.istore_n 2, 1) := by decide +kernel
theorem dX7_callIt_4 : decode cX7_callIt 4 = .ok (.iload_n 2, 1) := by decide +kernel
theorem dX7_callIt_5 : decode cX7_callIt 5 = .ok (.aload_n 0, 1) := by decide +kernel
theorem dX7_callIt_6 : decode cX7_callIt 6 = .ok (.getfield 9, 3) := by decide +kernel
theorem dX7_callIt_9 : decode cX7_callIt 9 = .ok (.iconst 0, 1) := by decide +kernel
theorem dX7_callIt_10 : decode cX7_callIt 10 = .ok (.iaload, 1) := by decide +kernel
theorem dX7_callIt_11 : decode cX7_callIt 11 = .ok (.if_icmp .ge 65, 3) := by decide +kernel
theorem dX7_callIt_14 : decode cX7_callIt 14 = .ok (.iload_n 1, 1) := by decide +kernel
theorem dX7_callIt_15 : decode cX7_callIt 15 = .ok (.iconst (-1), 1) := by decide +kernel
theorem dX7_callIt_16 : decode cX7_callIt 16 = .ok (.if_icmp .eq 24, 3) := by decide +kernel
theorem dX7_callIt_19 : decode cX7_callIt 19 = .ok (.aload_n 0, 1) := by decide +kernel
theorem dX7_callIt_20 : decode cX7_callIt 20 = .ok (.getfield 9, 3) := by decide +kernel
theorem dX7_callIt_23 : decode cX7_callIt 23 = .ok (.iload_n 2, 1) := by decide +kernel
theorem dX7_callIt_24 : decode cX7_callIt 24 = .ok (.invokestatic 64, 3) := by decide +kernel
theorem dX7_callIt_27 : decode cX7_callIt 27 = .ok (.iaload, 1) := by decide +kernel
theorem dX7_callIt_28 : decode cX7_callIt 28 = .ok (.aload_n 0, 1) := by decide +kernel
theorem dX7_callIt_29 : decode cX7_callIt 29 = .ok (.getfield 9, 3) := by decide +kernel
theorem dX7_callIt_32 : decode cX7_callIt 32 = .ok (.iload_n 1, 1) := by decide +kernel
theorem dX7_callIt_33 : decode cX7_callIt 33 = .ok (.invokestatic 64, 3) := by decide +kernel
theorem dX7_callIt_36 : decode cX7_callIt 36 = .ok (.iaload, 1) := by decide +kernel
theorem dX7_callIt_37 : decode cX7_callIt 37 = .ok (.if_icmp .ge 7, 3) := by decide +kernel
theorem dX7_callIt_40 : decode cX7_callIt 40 = .ok (.iconst 1, 1) := by decide +kernel
theorem dX7_callIt_41 : decode cX7_callIt 41 = .ok (.goto 4, 3) := by decide +kernel
theorem dX7_callIt_44 : decode cX7_callIt 44 = .ok (.iconst 0, 1) := by decide +kernel
theorem dX7_callIt_45 : decode cX7_callIt 45 = .ok (.istore_n 3, 1) := by decide +kernel
theorem dX7_callIt_46 : decode cX7_callIt 46 = .ok (.aload_n 0, 1) := by decide +kernel
theorem dX7_callIt_47 : decode cX7_callIt 47 = .ok (.getfield 9, 3) := by decide +kernel
theorem dX7_callIt_50 : decode cX7_callIt 50 = .ok (.iload_n 2, 1) := by decide +kernel
theorem dX7_callIt_51 : decode cX7_callIt 51 = .ok (.invokestatic 64, 3) := by decide +kernel
theorem dX7_callIt_54 : decode cX7_callIt 54 = .ok (.iconst 5, 1) := by decide +kernel
theorem dX7_callIt_55 : decode cX7_callIt 55 = .ok (.iadd, 1) := by decide +kernel
theorem dX7_callIt_56 : decode cX7_callIt 56 = .ok (.iaload, 1) := by decide +kernel
theorem dX7_callIt_57 : decode cX7_callIt 57 = .ok (.ifCond .ne 11, 3) := by decide +kernel
theorem dX7_callIt_60 : decode cX7_callIt 60 = .ok (.iload_n 3, 1) := by decide +kernel
theorem dX7_callIt_61 : decode cX7_callIt 61 = .ok (.ifCond .eq 7, 3) := by decide +kernel
theorem dX7_callIt_64 : decode cX7_callIt 64 = .ok (.iload_n 2, 1) := by decide +kernel
theorem dX7_callIt_65 : decode cX7_callIt 65 = .ok (.goto 4, 3) := by decide +kernel
theorem dX7_callIt_68 : decode cX7_callIt 68 = .ok (.iload_n 1, 1) := by decide +kernel
theorem dX7_callIt_69 : decode cX7_callIt 69 = .ok (.istore_n 1, 1) := by decide +kernel
theorem dX7_callIt_70 : decode cX7_callIt 70 = .ok (.iinc 2 1, 3) := by decide +kernel
theorem dX7_callIt_73 : decode cX7_callIt 73 = .ok (.goto (-69), 3) := by decide +kernel
theorem dX7_callIt_76 : decode cX7_callIt 76 = .ok (.iload_n 1, 1) := by decide +kernel
theorem dX7_callIt_77 : decode cX7_callIt 77 = .ok (.iconst (-1), 1) := by decide +kernel
theorem dX7_callIt_78 : decode cX7_callIt 78 = .ok (.if_icmp .ne 9, 3) := by decide +kernel
theorem dX7_callIt_81 : decode cX7_callIt 81 = .ok (.aload_n 0, 1) := by decide +kernel
theorem dX7_callIt_82 : decode cX7_callIt 82 = .ok (.iconst 1, 1) := by decide +kernel
theorem dX7_callIt_83 : decode cX7_callIt 83 = .ok (.invokevirtual 83, 3) := by decide +kernel
theorem dX7_callIt_86 : decode cX7_callIt 86 = .ok (.ireturn, 1) := by decide +kernel
theorem dX7_callIt_87 : decode cX7_callIt 87 = .ok (.aload_n 0, 1) := by decide +kernel
theorem dX7_callIt_88 : decode cX7_callIt 88 = .ok (.getfield 9, 3) := by decide +kernel
theorem dX7_callIt_91 : decode cX7_callIt 91 = .ok (.iload_n 1, 1) := by decide +kernel
theorem dX7_callIt_92 : decode cX7_callIt 92 = .ok (.invokestatic 64, 3) := by decide +kernel
theorem dX7_callIt_95 : decode cX7_callIt 95 = .ok (.iconst 5, 1) := by decide +kernel
theorem dX7_callIt_96 : decode cX7_callIt 96 = .ok (.iadd, 1) := by decide +kernel
theorem dX7_callIt_97 : decode cX7_callIt 97 = .ok (.iconst 1, 1) := by decide +kernel
theorem dX7_callIt_98 : decode cX7_callIt 98 = .ok (.iastore, 1) := by decide +kernel
theorem dX7_callIt_99 : decode cX7_callIt 99 = .ok (.aload_n 0, 1) := by decide +kernel
theorem dX7_callIt_100 : decode cX7_callIt 100 = .ok (.getfield 9, 3) := by decide +kernel
theorem dX7_callIt_103 : decode cX7_callIt 103 = .ok (.iload_n 1, 1) := by decide +kernel
theorem dX7_callIt_104 : decode cX7_callIt 104 = .ok (.invokestatic 64, 3) := by decide +kernel
theorem dX7_callIt_107 : decode cX7_callIt 107 = .ok (.iaload, 1) := by decide +kernel
theorem dX7_callIt_108 : decode cX7_callIt 108 = .ok (.ireturn, 1) := by decide +kernel
set_option maxRecDepth 20000 in
theorem ggX7_callNext_X7_starts : GoodIn wsX7_callNext wsX7_starts := goodIn_ca (goodIn_rr _ [(5, 4), (26, 21)] rfl (by decide +kernel)) (goodIn_sub (fun _ h => List.mem_cons_of_mem _ (List.mem_append_right _ h)) (by decide +kernel))
set_option maxRecDepth 20000 in
theorem gX7_callNext_X7_starts : GoodIn wsX7_callNext (wsV RX7 86 RX7 yX7_starts wsX7_starts) := goodIn_app (goodIn_of _ (by decide +kernel)) ggX7_callNext_X7_starts
set_option maxRecDepth 20000 in
theorem ggX7_callNext_X7_callIt : GoodIn wsX7_callNext wsX7_callIt := goodIn_ca (goodIn_rr _ [(12, 1), (8, 1), (13, 2), (4, 1), (15, 5), (6, 1), (26, 21)] rfl (by decide +kernel)) (goodIn_sub (fun _ h => List.mem_cons_of_mem _ (List.mem_append_right _ h)) (by decide +kernel))
set_option maxRecDepth 20000 in
theorem gX7_callNext_X7_callIt : GoodIn wsX7_callNext (wsV RX7 116 RX7 yX7_callIt wsX7_callIt) := goodIn_app (goodIn_of _ (by decide +kernel)) ggX7_callNext_X7_callIt
set_option maxRecDepth 20000 in
theorem ggX7_callNext_X7_changed : GoodIn wsX7_callNext wsX7_changed := goodIn_ca (goodIn_rr _ [(23, 1), (6, 1), (24, 2), (7, 1), (26, 21)] rfl (by decide +kernel)) (goodIn_sub (fun _ h => List.mem_cons_of_mem _ (List.mem_append_right _ h)) (by decide +kernel))
set_option maxRecDepth 20000 in
theorem gX7_callNext_X7_changed : GoodIn wsX7_callNext (wsV RX7 92 RX7 yX7_changed wsX7_changed) := goodIn_app (goodIn_of _ (by decide +kernel)) ggX7_callNext_X7_changed
theorem dX7_callNext_0 : decode cX7_callNext 0 = .ok (.aload_n 0, 1) := by decide +kernel
theorem dX7_callNext_1 : decode cX7_callNext 1 = .ok (.invokevirtual 86, 3) := by decide +kernel
theorem dX7_callNext_4 : decode cX7_callNext 4 = .ok (.aload_n 0, 1) := by decide +kernel
theorem dX7_callNext_5 : decode cX7_callNext 5 = .ok (.aload_n 0, 1) := by decide +kernel
theorem dX7_callNext_6 : decode cX7_callNext 6 = .ok (.invokevirtual 116, 3) := by decide +kernel
theorem dX7_callNext_9 : decode cX7_callNext 9 = .ok (.invokevirtual 92, 3) := by decide +kernel
theorem dX7_callNext_12 : decode cX7_callNext 12 = .ok (.ireturn, 1) := by decide +kernel
set_option maxRecDepth 20000 in
theorem ggX7_swapIt_X7_isHere : GoodIn wsX7_swapIt wsX7_isHere := goodIn_ca (goodIn_rr _ [(10, 1), (1, 1), (11, 2), (9, 1), (13, 1), (30, 21)] rfl (by decide +kernel)) (goodIn_sub (fun _ h => List.mem_cons_of_mem _ (List.mem_append_right _ h)) (by decide +kernel))
set_option maxRecDepth 20000 in
theorem gX7_swapIt_X7_isHere : GoodIn wsX7_swapIt (wsV RX7 119 RX7 yX7_isHere wsX7_isHere) := goodIn_app (goodIn_of _ (by decide +kernel)) ggX7_swapIt_X7_isHere
set_option maxRecDepth 20000 in
theorem ggX7_swapIt_X7_throwing : GoodIn wsX7_swapIt wsX7_throwing := goodIn_rr _ [(17, 2), (30, 21)] rfl (by decide +kernel)
set_option maxRecDepth 20000 in
theorem gX7_swapIt_X7_throwing : GoodIn wsX7_swapIt (wsV RX7 83 RX7 yX7_throwing wsX7_throwing) := goodIn_app (goodIn_of _ (by decide +kernel)) ggX7_swapIt_X7_throwing
set_option maxRecDepth 20000 in
theorem ggX7_swapIt_X7_isAtWindow : GoodIn wsX7_swapIt wsX7_isAtWindow := goodIn_ca (goodIn_rr _ [(22, 1), (1, 1), (23, 2), (9, 1), (25, 1), (30, 21)] rfl (by decide +kernel)) (goodIn_sub (fun _ h => List.mem_cons_of_mem _ (List.mem_append_right _ h)) (by decide +kernel))
set_option maxRecDepth 20000 in
theorem gX7_swapIt_X7_isAtWindow : GoodIn wsX7_swapIt (wsV RX7 122 RX7 yX7_isAtWindow wsX7_isAtWindow) := goodIn_app (goodIn_of _ (by decide +kernel)) ggX7_swapIt_X7_isAtWindow
set_option maxRecDepth 20000 in
theorem ggX7_swapIt_X7_placeOf : GoodIn wsX7_swapIt wsX7_placeOf := goodIn_ca (goodIn_rr _ [(29, 1), (1, 1), (30, 21)] rfl (by decide +kernel)) (goodIn_sub (fun _ h => List.mem_cons_of_mem _ (List.mem_append_right _ h)) (by decide +kernel))
set_option maxRecDepth 20000 in
theorem gX7_swapIt_X7_placeOf : GoodIn wsX7_swapIt (wsV RX7 71 RX7 yX7_placeOf wsX7_placeOf) := goodIn_app (goodIn_of _ (by decide +kernel)) ggX7_swapIt_X7_placeOf
set_option maxRecDepth 20000 in
theorem ggX7_swapIt_X7_personAt : GoodIn wsX7_swapIt wsX7_personAt := goodIn_rr _ [(25, 1)] rfl (by decide +kernel)
set_option maxRecDepth 20000 in
theorem gX7_swapIt_X7_personAt : GoodIn wsX7_swapIt (va_wsS RX7 64 yX7_personAt wsX7_personAt) := goodIn_app (goodIn_of _ (by decide +kernel)) ggX7_swapIt_X7_personAt
theorem dX7_swapIt_0 : decode cX7_swapIt 0 = .ok (.aload_n 0, 1) := by decide +kernel
theorem dX7_swapIt_1 : decode cX7_swapIt 1 = .ok (.iload_n 1, 1) := by decide +kernel
theorem dX7_swapIt_2 : decode cX7_swapIt 2 = .ok (.invokevirtual 119, 3) := by decide +kernel
theorem dX7_swapIt_5 : decode cX7_swapIt 5 = .ok (.ifCond .eq 11, 3) := by decide +kernel
theorem dX7_swapIt_8 : decode cX7_swapIt 8 = .ok (.aload_n 0, 1) := by decide +kernel
theorem dX7_swapIt_9 : decode cX7_swapIt 9 = .ok (.iload_n 2, 1) := by decide +kernel
theorem dX7_swapIt_10 : decode cX7_swapIt 10 = .ok (.invokevirtual 119, 3) := by decide +kernel
theorem dX7_swapIt_13 : decode cX7_swapIt 13 = .ok (.ifCond .ne 9, 3) := by decide +kernel
theorem dX7_swapIt_16 : decode cX7_swapIt 16 = .ok (.aload_n 0, 1) := by decide +kernel
theorem dX7_swapIt_17 : decode cX7_swapIt 17 = .ok (.iconst 1, 1) := by decide +kernel
theorem dX7_swapIt_18 : decode cX7_swapIt 18 = .ok (.invokevirtual 83, 3) := by decide +kernel
theorem dX7_swapIt_21 : decode cX7_swapIt 21 = .ok (.ireturn, 1) := by decide +kernel
theorem dX7_swapIt_22 : decode cX7_swapIt 22 = .ok (.iload_n 1, 1) := by decide +kernel
theorem dX7_swapIt_23 : decode cX7_swapIt 23 = .ok (.iload_n 2, 1) := by decide +kernel
theorem dX7_swapIt_24 : decode cX7_swapIt 24 = .ok (.if_icmp .ne 9, 3) := by decide +kernel
theorem dX7_swapIt_27 : decode cX7_swapIt 27 = .ok (.aload_n 0, 1) := by decide +kernel
theorem dX7_swapIt_28 : decode cX7_swapIt 28 = .ok (.iconst 2, 1) := by decide +kernel
theorem dX7_swapIt_29 : decode cX7_swapIt 29 = .ok (.invokevirtual 83, 3) := by decide +kernel
theorem dX7_swapIt_32 : decode cX7_swapIt 32 = .ok (.ireturn, 1) := by decide +kernel
theorem dX7_swapIt_33 : decode cX7_swapIt 33 = .ok (.aload_n 0, 1) := by decide +kernel
theorem dX7_swapIt_34 : decode cX7_swapIt 34 = .ok (.iload_n 1, 1) := by decide +kernel
theorem dX7_swapIt_35 : decode cX7_swapIt 35 = .ok (.invokevirtual 122, 3) := by decide +kernel
theorem dX7_swapIt_38 : decode cX7_swapIt 38 = .ok (.ifCond .ne 11, 3) := by decide +kernel
theorem dX7_swapIt_41 : decode cX7_swapIt 41 = .ok (.aload_n 0, 1) := by decide +kernel
theorem dX7_swapIt_42 : decode cX7_swapIt 42 = .ok (.iload_n 2, 1) := by decide +kernel
theorem dX7_swapIt_43 : decode cX7_swapIt 43 = .ok (.invokevirtual 122, 3) := by decide +kernel
theorem dX7_swapIt_46 : decode cX7_swapIt 46 = .ok (.ifCond .eq 9, 3) := by decide +kernel
theorem dX7_swapIt_49 : decode cX7_swapIt 49 = .ok (.aload_n 0, 1) := by decide +kernel
theorem dX7_swapIt_50 : decode cX7_swapIt 50 = .ok (.iconst 3, 1) := by decide +kernel
theorem dX7_swapIt_51 : decode cX7_swapIt 51 = .ok (.invokevirtual 83, 3) := by decide +kernel
theorem dX7_swapIt_54 : decode cX7_swapIt 54 = .ok (.ireturn, 1) := by decide +kernel
theorem dX7_swapIt_55 : decode cX7_swapIt 55 = .ok (.aload_n 0, 1) := by decide +kernel
theorem dX7_swapIt_56 : decode cX7_swapIt 56 = .ok (.iload_n 1, 1) := by decide +kernel
theorem dX7_swapIt_57 : decode cX7_swapIt 57 = .ok (.invokevirtual 71, 3) := by decide +kernel
theorem dX7_swapIt_60 : decode cX7_swapIt 60 = .ok (.istore_n 3, 1) := by decide +kernel
theorem dX7_swapIt_61 : decode cX7_swapIt 61 = .ok (.aload_n 0, 1) := by decide +kernel
theorem dX7_swapIt_62 : decode cX7_swapIt 62 = .ok (.iload_n 2, 1) := by decide +kernel
theorem dX7_swapIt_63 : decode cX7_swapIt 63 = .ok (.invokevirtual 71, 3) := by decide +kernel
theorem dX7_swapIt_66 : decode cX7_swapIt 66 = .ok (.istore 4, 2) := by decide +kernel
theorem dX7_swapIt_68 : decode cX7_swapIt 68 = .ok (.iload_n 3, 1) := by decide +kernel
theorem dX7_swapIt_69 : decode cX7_swapIt 69 = .ok (.iload 4, 2) := by decide +kernel
theorem dX7_swapIt_71 : decode cX7_swapIt 71 = .ok (.if_icmp .ge 7, 3) := by decide +kernel
theorem dX7_swapIt_74 : decode cX7_swapIt 74 = .ok (.iload_n 1, 1) := by decide +kernel
theorem dX7_swapIt_75 : decode cX7_swapIt 75 = .ok (.goto 4, 3) := by decide +kernel
theorem dX7_swapIt_78 : decode cX7_swapIt 78 = .ok (.iload_n 2, 1) := by decide +kernel
theorem dX7_swapIt_79 : decode cX7_swapIt 79 = .ok (.invokestatic 64, 3) := by decide +kernel
theorem dX7_swapIt_82 : decode cX7_swapIt 82 = .ok (.iconst 1, 1) := by decide +kernel
theorem dX7_swapIt_83 : decode cX7_swapIt 83 = .ok (.iadd, 1) := by decide +kernel
theorem dX7_swapIt_84 : decode cX7_swapIt 84 = .ok (.istore 5, 2) := by decide +kernel
theorem dX7_swapIt_86 : decode cX7_swapIt 86 = .ok (.aload_n 0, 1) := by decide +kernel
theorem dX7_swapIt_87 : decode cX7_swapIt 87 = .ok (.getfield 9, 3) := by decide +kernel
theorem dX7_swapIt_90 : decode cX7_swapIt 90 = .ok (.iload 5, 2) := by decide +kernel
theorem dX7_swapIt_92 : decode cX7_swapIt 92 = .ok (.iaload, 1) := by decide +kernel
theorem dX7_swapIt_93 : decode cX7_swapIt 93 = .ok (.iconst 2, 1) := by decide +kernel
theorem dX7_swapIt_94 : decode cX7_swapIt 94 = .ok (.if_icmp .ge 9, 3) := by decide +kernel
theorem dX7_swapIt_97 : decode cX7_swapIt 97 = .ok (.aload_n 0, 1) := by decide +kernel
theorem dX7_swapIt_98 : decode cX7_swapIt 98 = .ok (.iconst 4, 1) := by decide +kernel
theorem dX7_swapIt_99 : decode cX7_swapIt 99 = .ok (.invokevirtual 83, 3) := by decide +kernel
theorem dX7_swapIt_102 : decode cX7_swapIt 102 = .ok (.ireturn, 1) := by decide +kernel
theorem dX7_swapIt_103 : decode cX7_swapIt 103 = .ok (.aload_n 0, 1) := by decide +kernel
theorem dX7_swapIt_104 : decode cX7_swapIt 104 = .ok (.getfield 9, 3) := by decide +kernel
theorem dX7_swapIt_107 : decode cX7_swapIt 107 = .ok (.iload 5, 2) := by decide +kernel
theorem dX7_swapIt_109 : decode cX7_swapIt 109 = .ok (.dup2, 1) := by decide +kernel
theorem dX7_swapIt_110 : decode cX7_swapIt 110 = .ok (.iaload, 1) := by decide +kernel
theorem dX7_swapIt_111 : decode cX7_swapIt 111 = .ok (.iconst 2, 1) := by decide +kernel
theorem dX7_swapIt_112 : decode cX7_swapIt 112 = .ok (.isub, 1) := by decide +kernel
theorem dX7_swapIt_113 : decode cX7_swapIt 113 = .ok (.iastore, 1) := by decide +kernel
theorem dX7_swapIt_114 : decode cX7_swapIt 114 = .ok (.aload_n 0, 1) := by decide +kernel
theorem dX7_swapIt_115 : decode cX7_swapIt 115 = .ok (.getfield 9, 3) := by decide +kernel
theorem dX7_swapIt_118 : decode cX7_swapIt 118 = .ok (.bipush 123, 2) := by decide +kernel
theorem dX7_swapIt_120 : decode cX7_swapIt 120 = .ok (.iload_n 3, 1) := by decide +kernel
theorem dX7_swapIt_121 : decode cX7_swapIt 121 = .ok (.iadd, 1) := by decide +kernel
theorem dX7_swapIt_122 : decode cX7_swapIt 122 = .ok (.iload_n 2, 1) := by decide +kernel
theorem dX7_swapIt_123 : decode cX7_swapIt 123 = .ok (.iastore, 1) := by decide +kernel
theorem dX7_swapIt_124 : decode cX7_swapIt 124 = .ok (.aload_n 0, 1) := by decide +kernel
theorem dX7_swapIt_125 : decode cX7_swapIt 125 = .ok (.getfield 9, 3) := by decide +kernel
theorem dX7_swapIt_128 : decode cX7_swapIt 128 = .ok (.bipush 123, 2) := by decide +kernel
theorem dX7_swapIt_130 : decode cX7_swapIt 130 = .ok (.iload 4, 2) := by decide +kernel
theorem dX7_swapIt_132 : decode cX7_swapIt 132 = .ok (.iadd, 1) := by decide +kernel
theorem dX7_swapIt_133 : decode cX7_swapIt 133 = .ok (.iload_n 1, 1) := by decide +kernel
theorem dX7_swapIt_134 : decode cX7_swapIt 134 = .ok (.iastore, 1) := by decide +kernel
theorem dX7_swapIt_135 : decode cX7_swapIt 135 = .ok (.iload_n 3, 1) := by decide +kernel
theorem dX7_swapIt_136 : decode cX7_swapIt 136 = .ok (.iload 4, 2) := by decide +kernel
theorem dX7_swapIt_138 : decode cX7_swapIt 138 = .ok (.isub, 1) := by decide +kernel
theorem dX7_swapIt_139 : decode cX7_swapIt 139 = .ok (.invokestatic 125, 3) := by decide +kernel
theorem dX7_swapIt_142 : decode cX7_swapIt 142 = .ok (.ireturn, 1) := by decide +kernel
set_option maxRecDepth 20000 in
theorem ggX7_swap_X7_starts : GoodIn wsX7_swap wsX7_starts := goodIn_ca (goodIn_rr _ [(5, 4), (45, 21)] rfl (by decide +kernel)) (goodIn_sub (fun _ h => List.mem_cons_of_mem _ (List.mem_append_right _ h)) (by decide +kernel))
set_option maxRecDepth 20000 in
theorem gX7_swap_X7_starts : GoodIn wsX7_swap (wsV RX7 86 RX7 yX7_starts wsX7_starts) := goodIn_app (goodIn_of _ (by decide +kernel)) ggX7_swap_X7_starts
set_option maxRecDepth 20000 in
theorem ggX7_swap_X7_swapIt : GoodIn wsX7_swap wsX7_swapIt := goodIn_ca (goodIn_rr _ [(12, 1), (8, 1), (13, 7), (4, 1), (20, 8), (6, 1), (28, 11), (45, 21)] rfl (by decide +kernel)) (goodIn_sub (fun _ h => List.mem_cons_of_mem _ (List.mem_append_right _ h)) (by decide +kernel))
set_option maxRecDepth 20000 in
theorem gX7_swap_X7_swapIt : GoodIn wsX7_swap (wsV RX7 130 RX7 yX7_swapIt wsX7_swapIt) := goodIn_app (goodIn_of _ (by decide +kernel)) ggX7_swap_X7_swapIt
set_option maxRecDepth 20000 in
theorem ggX7_swap_X7_changed : GoodIn wsX7_swap wsX7_changed := goodIn_ca (goodIn_rr _ [(42, 1), (6, 1), (43, 2), (7, 1), (45, 21)] rfl (by decide +kernel)) (goodIn_sub (fun _ h => List.mem_cons_of_mem _ (List.mem_append_right _ h)) (by decide +kernel))
set_option maxRecDepth 20000 in
theorem gX7_swap_X7_changed : GoodIn wsX7_swap (wsV RX7 92 RX7 yX7_changed wsX7_changed) := goodIn_app (goodIn_of _ (by decide +kernel)) ggX7_swap_X7_changed
theorem dX7_swap_0 : decode cX7_swap 0 = .ok (.aload_n 0, 1) := by decide +kernel
theorem dX7_swap_1 : decode cX7_swap 1 = .ok (.invokevirtual 86, 3) := by decide +kernel
theorem dX7_swap_4 : decode cX7_swap 4 = .ok (.aload_n 0, 1) := by decide +kernel
theorem dX7_swap_5 : decode cX7_swap 5 = .ok (.aload_n 0, 1) := by decide +kernel
theorem dX7_swap_6 : decode cX7_swap 6 = .ok (.iload_n 1, 1) := by decide +kernel
theorem dX7_swap_7 : decode cX7_swap 7 = .ok (.iload_n 2, 1) := by decide +kernel
theorem dX7_swap_8 : decode cX7_swap 8 = .ok (.invokevirtual 130, 3) := by decide +kernel
theorem dX7_swap_11 : decode cX7_swap 11 = .ok (.invokevirtual 92, 3) := by decide +kernel
theorem dX7_swap_14 : decode cX7_swap 14 = .ok (.ireturn, 1) := by decide +kernel
set_option maxRecDepth 20000 in
theorem ggX7_sitIt_X7_isHere : GoodIn wsX7_sitIt wsX7_isHere := goodIn_ca (goodIn_rr _ [(6, 1), (1, 1), (7, 2), (5, 1), (9, 1), (26, 21)] rfl (by decide +kernel)) (goodIn_sub (fun _ h => List.mem_cons_of_mem _ (List.mem_append_right _ h)) (by decide +kernel))
set_option maxRecDepth 20000 in
theorem gX7_sitIt_X7_isHere : GoodIn wsX7_sitIt (wsV RX7 119 RX7 yX7_isHere wsX7_isHere) := goodIn_app (goodIn_of _ (by decide +kernel)) ggX7_sitIt_X7_isHere
set_option maxRecDepth 20000 in
theorem ggX7_sitIt_X7_throwing : GoodIn wsX7_sitIt wsX7_throwing := goodIn_rr _ [(13, 2), (26, 21)] rfl (by decide +kernel)
set_option maxRecDepth 20000 in
theorem gX7_sitIt_X7_throwing : GoodIn wsX7_sitIt (wsV RX7 83 RX7 yX7_throwing wsX7_throwing) := goodIn_app (goodIn_of _ (by decide +kernel)) ggX7_sitIt_X7_throwing
set_option maxRecDepth 20000 in
theorem ggX7_sitIt_X7_isAtWindow : GoodIn wsX7_sitIt wsX7_isAtWindow := goodIn_ca (goodIn_rr _ [(18, 1), (1, 1), (19, 2), (5, 1), (21, 1), (26, 21)] rfl (by decide +kernel)) (goodIn_sub (fun _ h => List.mem_cons_of_mem _ (List.mem_append_right _ h)) (by decide +kernel))
set_option maxRecDepth 20000 in
theorem gX7_sitIt_X7_isAtWindow : GoodIn wsX7_sitIt (wsV RX7 122 RX7 yX7_isAtWindow wsX7_isAtWindow) := goodIn_app (goodIn_of _ (by decide +kernel)) ggX7_sitIt_X7_isAtWindow
set_option maxRecDepth 20000 in
theorem ggX7_sitIt_X7_personAt : GoodIn wsX7_sitIt wsX7_personAt := goodIn_rr _ [(21, 1)] rfl (by decide +kernel)
set_option maxRecDepth 20000 in
theorem gX7_sitIt_X7_personAt : GoodIn wsX7_sitIt (va_wsS RX7 64 yX7_personAt wsX7_personAt) := goodIn_app (goodIn_of _ (by decide +kernel)) ggX7_sitIt_X7_personAt
set_option maxRecDepth 20000 in
theorem ggX7_sitIt_X7_sitting : GoodIn wsX7_sitIt wsX7_sitting := goodIn_ca (goodIn_rr _ [(25, 1), (1, 1), (19, 2), (5, 1), (21, 1), (26, 21)] rfl (by decide +kernel)) (goodIn_sub (fun _ h => List.mem_cons_of_mem _ (List.mem_append_right _ h)) (by decide +kernel))
set_option maxRecDepth 20000 in
theorem gX7_sitIt_X7_sitting : GoodIn wsX7_sitIt (wsV RX7 134 RX7 yX7_sitting wsX7_sitting) := goodIn_app (goodIn_of _ (by decide +kernel)) ggX7_sitIt_X7_sitting
theorem dX7_sitIt_0 : decode cX7_sitIt 0 = .ok (.aload_n 0, 1) := by decide +kernel
theorem dX7_sitIt_1 : decode cX7_sitIt 1 = .ok (.iload_n 1, 1) := by decide +kernel
theorem dX7_sitIt_2 : decode cX7_sitIt 2 = .ok (.invokevirtual 119, 3) := by decide +kernel
theorem dX7_sitIt_5 : decode cX7_sitIt 5 = .ok (.ifCond .ne 9, 3) := by decide +kernel
theorem dX7_sitIt_8 : decode cX7_sitIt 8 = .ok (.aload_n 0, 1) := by decide +kernel
theorem dX7_sitIt_9 : decode cX7_sitIt 9 = .ok (.iconst 1, 1) := by decide +kernel
theorem dX7_sitIt_10 : decode cX7_sitIt 10 = .ok (.invokevirtual 83, 3) := by decide +kernel
theorem dX7_sitIt_13 : decode cX7_sitIt 13 = .ok (.ireturn, 1) := by decide +kernel
theorem dX7_sitIt_14 : decode cX7_sitIt 14 = .ok (.aload_n 0, 1) := by decide +kernel
theorem dX7_sitIt_15 : decode cX7_sitIt 15 = .ok (.iload_n 1, 1) := by decide +kernel
theorem dX7_sitIt_16 : decode cX7_sitIt 16 = .ok (.invokevirtual 122, 3) := by decide +kernel
theorem dX7_sitIt_19 : decode cX7_sitIt 19 = .ok (.ifCond .ne 18, 3) := by decide +kernel
theorem dX7_sitIt_22 : decode cX7_sitIt 22 = .ok (.aload_n 0, 1) := by decide +kernel
theorem dX7_sitIt_23 : decode cX7_sitIt 23 = .ok (.getfield 9, 3) := by decide +kernel
theorem dX7_sitIt_26 : decode cX7_sitIt 26 = .ok (.iload_n 1, 1) := by decide +kernel
theorem dX7_sitIt_27 : decode cX7_sitIt 27 = .ok (.invokestatic 64, 3) := by decide +kernel
theorem dX7_sitIt_30 : decode cX7_sitIt 30 = .ok (.iconst 4, 1) := by decide +kernel
theorem dX7_sitIt_31 : decode cX7_sitIt 31 = .ok (.iadd, 1) := by decide +kernel
theorem dX7_sitIt_32 : decode cX7_sitIt 32 = .ok (.iaload, 1) := by decide +kernel
theorem dX7_sitIt_33 : decode cX7_sitIt 33 = .ok (.iconst 1, 1) := by decide +kernel
theorem dX7_sitIt_34 : decode cX7_sitIt 34 = .ok (.if_icmp .ne 9, 3) := by decide +kernel
theorem dX7_sitIt_37 : decode cX7_sitIt 37 = .ok (.aload_n 0, 1) := by decide +kernel
theorem dX7_sitIt_38 : decode cX7_sitIt 38 = .ok (.iconst 2, 1) := by decide +kernel
theorem dX7_sitIt_39 : decode cX7_sitIt 39 = .ok (.invokevirtual 83, 3) := by decide +kernel
theorem dX7_sitIt_42 : decode cX7_sitIt 42 = .ok (.ireturn, 1) := by decide +kernel
theorem dX7_sitIt_43 : decode cX7_sitIt 43 = .ok (.aload_n 0, 1) := by decide +kernel
theorem dX7_sitIt_44 : decode cX7_sitIt 44 = .ok (.invokevirtual 134, 3) := by decide +kernel
theorem dX7_sitIt_47 : decode cX7_sitIt 47 = .ok (.iconst 4, 1) := by decide +kernel
theorem dX7_sitIt_48 : decode cX7_sitIt 48 = .ok (.if_icmp .ne 9, 3) := by decide +kernel
theorem dX7_sitIt_51 : decode cX7_sitIt 51 = .ok (.aload_n 0, 1) := by decide +kernel
theorem dX7_sitIt_52 : decode cX7_sitIt 52 = .ok (.iconst 3, 1) := by decide +kernel
theorem dX7_sitIt_53 : decode cX7_sitIt 53 = .ok (.invokevirtual 83, 3) := by decide +kernel
theorem dX7_sitIt_56 : decode cX7_sitIt 56 = .ok (.ireturn, 1) := by decide +kernel
theorem dX7_sitIt_57 : decode cX7_sitIt 57 = .ok (.aload_n 0, 1) := by decide +kernel
theorem dX7_sitIt_58 : decode cX7_sitIt 58 = .ok (.getfield 9, 3) := by decide +kernel
theorem dX7_sitIt_61 : decode cX7_sitIt 61 = .ok (.iload_n 1, 1) := by decide +kernel
theorem dX7_sitIt_62 : decode cX7_sitIt 62 = .ok (.invokestatic 64, 3) := by decide +kernel
theorem dX7_sitIt_65 : decode cX7_sitIt 65 = .ok (.iconst 4, 1) := by decide +kernel
theorem dX7_sitIt_66 : decode cX7_sitIt 66 = .ok (.iadd, 1) := by decide +kernel
theorem dX7_sitIt_67 : decode cX7_sitIt 67 = .ok (.iconst 1, 1) := by decide +kernel
theorem dX7_sitIt_68 : decode cX7_sitIt 68 = .ok (.iastore, 1) := by decide +kernel
theorem dX7_sitIt_69 : decode cX7_sitIt 69 = .ok (.aload_n 0, 1) := by decide +kernel
theorem dX7_sitIt_70 : decode cX7_sitIt 70 = .ok (.invokevirtual 134, 3) := by decide +kernel
theorem dX7_sitIt_73 : decode cX7_sitIt 73 = .ok (.ireturn, 1) := by decide +kernel
set_option maxRecDepth 20000 in
theorem ggX7_sit_X7_starts : GoodIn wsX7_sit wsX7_starts := goodIn_ca (goodIn_rr _ [(5, 4), (41, 21)] rfl (by decide +kernel)) (goodIn_sub (fun _ h => List.mem_cons_of_mem _ (List.mem_append_right _ h)) (by decide +kernel))
set_option maxRecDepth 20000 in
theorem gX7_sit_X7_starts : GoodIn wsX7_sit (wsV RX7 86 RX7 yX7_starts wsX7_starts) := goodIn_app (goodIn_of _ (by decide +kernel)) ggX7_sit_X7_starts
set_option maxRecDepth 20000 in
theorem ggX7_sit_X7_sitIt : GoodIn wsX7_sit wsX7_sitIt := goodIn_ca (goodIn_rr _ [(12, 1), (8, 1), (13, 3), (4, 1), (16, 8), (6, 1), (24, 11), (41, 21)] rfl (by decide +kernel)) (goodIn_sub (fun _ h => List.mem_cons_of_mem _ (List.mem_append_right _ h)) (by decide +kernel))
set_option maxRecDepth 20000 in
theorem gX7_sit_X7_sitIt : GoodIn wsX7_sit (wsV RX7 137 RX7 yX7_sitIt wsX7_sitIt) := goodIn_app (goodIn_of _ (by decide +kernel)) ggX7_sit_X7_sitIt
set_option maxRecDepth 20000 in
theorem ggX7_sit_X7_changed : GoodIn wsX7_sit wsX7_changed := goodIn_ca (goodIn_rr _ [(38, 1), (6, 1), (39, 2), (7, 1), (41, 21)] rfl (by decide +kernel)) (goodIn_sub (fun _ h => List.mem_cons_of_mem _ (List.mem_append_right _ h)) (by decide +kernel))
set_option maxRecDepth 20000 in
theorem gX7_sit_X7_changed : GoodIn wsX7_sit (wsV RX7 92 RX7 yX7_changed wsX7_changed) := goodIn_app (goodIn_of _ (by decide +kernel)) ggX7_sit_X7_changed
theorem dX7_sit_0 : decode cX7_sit 0 = .ok (.aload_n 0, 1) := by decide +kernel
theorem dX7_sit_1 : decode cX7_sit 1 = .ok (.invokevirtual 86, 3) := by decide +kernel
theorem dX7_sit_4 : decode cX7_sit 4 = .ok (.aload_n 0, 1) := by decide +kernel
theorem dX7_sit_5 : decode cX7_sit 5 = .ok (.aload_n 0, 1) := by decide +kernel
theorem dX7_sit_6 : decode cX7_sit 6 = .ok (.iload_n 1, 1) := by decide +kernel
theorem dX7_sit_7 : decode cX7_sit 7 = .ok (.invokevirtual 137, 3) := by decide +kernel
theorem dX7_sit_10 : decode cX7_sit 10 = .ok (.invokevirtual 92, 3) := by decide +kernel
theorem dX7_sit_13 : decode cX7_sit 13 = .ok (.ireturn, 1) := by decide +kernel
set_option maxRecDepth 20000 in
theorem ggX7_standIt_X7_isHere : GoodIn wsX7_standIt wsX7_isHere := goodIn_ca (goodIn_rr _ [(6, 1), (1, 1), (7, 2), (5, 1), (9, 1), (22, 21)] rfl (by decide +kernel)) (goodIn_sub (fun _ h => List.mem_cons_of_mem _ (List.mem_append_right _ h)) (by decide +kernel))
set_option maxRecDepth 20000 in
theorem gX7_standIt_X7_isHere : GoodIn wsX7_standIt (wsV RX7 119 RX7 yX7_isHere wsX7_isHere) := goodIn_app (goodIn_of _ (by decide +kernel)) ggX7_standIt_X7_isHere
set_option maxRecDepth 20000 in
theorem ggX7_standIt_X7_throwing : GoodIn wsX7_standIt wsX7_throwing := goodIn_rr _ [(13, 2), (22, 21)] rfl (by decide +kernel)
set_option maxRecDepth 20000 in
theorem gX7_standIt_X7_throwing : GoodIn wsX7_standIt (wsV RX7 83 RX7 yX7_throwing wsX7_throwing) := goodIn_app (goodIn_of _ (by decide +kernel)) ggX7_standIt_X7_throwing
set_option maxRecDepth 20000 in
theorem ggX7_standIt_X7_personAt : GoodIn wsX7_standIt wsX7_personAt := goodIn_rr _ [(17, 1)] rfl (by decide +kernel)
set_option maxRecDepth 20000 in
theorem gX7_standIt_X7_personAt : GoodIn wsX7_standIt (va_wsS RX7 64 yX7_personAt wsX7_personAt) := goodIn_app (goodIn_of _ (by decide +kernel)) ggX7_standIt_X7_personAt
set_option maxRecDepth 20000 in
theorem ggX7_standIt_X7_sitting : GoodIn wsX7_standIt wsX7_sitting := goodIn_ca (goodIn_rr _ [(21, 1), (1, 1), (15, 2), (5, 1), (17, 1), (22, 21)] rfl (by decide +kernel)) (goodIn_sub (fun _ h => List.mem_cons_of_mem _ (List.mem_append_right _ h)) (by decide +kernel))
set_option maxRecDepth 20000 in
theorem gX7_standIt_X7_sitting : GoodIn wsX7_standIt (wsV RX7 134 RX7 yX7_sitting wsX7_sitting) := goodIn_app (goodIn_of _ (by decide +kernel)) ggX7_standIt_X7_sitting
theorem dX7_standIt_0 : decode cX7_standIt 0 = .ok (.aload_n 0, 1) := by decide +kernel
theorem dX7_standIt_1 : decode cX7_standIt 1 = .ok (.iload_n 1, 1) := by decide +kernel
theorem dX7_standIt_2 : decode cX7_standIt 2 = .ok (.invokevirtual 119, 3) := by decide +kernel
theorem dX7_standIt_5 : decode cX7_standIt 5 = .ok (.ifCond .ne 9, 3) := by decide +kernel
theorem dX7_standIt_8 : decode cX7_standIt 8 = .ok (.aload_n 0, 1) := by decide +kernel
theorem dX7_standIt_9 : decode cX7_standIt 9 = .ok (.iconst 1, 1) := by decide +kernel
theorem dX7_standIt_10 : decode cX7_standIt 10 = .ok (.invokevirtual 83, 3) := by decide +kernel
theorem dX7_standIt_13 : decode cX7_standIt 13 = .ok (.ireturn, 1) := by decide +kernel
theorem dX7_standIt_14 : decode cX7_standIt 14 = .ok (.aload_n 0, 1) := by decide +kernel
theorem dX7_standIt_15 : decode cX7_standIt 15 = .ok (.getfield 9, 3) := by decide +kernel
theorem dX7_standIt_18 : decode cX7_standIt 18 = .ok (.iload_n 1, 1) := by decide +kernel
theorem dX7_standIt_19 : decode cX7_standIt 19 = .ok (.invokestatic 64, 3) := by decide +kernel
theorem dX7_standIt_22 : decode cX7_standIt 22 = .ok (.iconst 4, 1) := by decide +kernel
theorem dX7_standIt_23 : decode cX7_standIt 23 = .ok (.iadd, 1) := by decide +kernel
theorem dX7_standIt_24 : decode cX7_standIt 24 = .ok (.iaload, 1) := by decide +kernel
theorem dX7_standIt_25 : decode cX7_standIt 25 = .ok (.ifCond .ne 9, 3) := by decide +kernel
theorem dX7_standIt_28 : decode cX7_standIt 28 = .ok (.aload_n 0, 1) := by decide +kernel
theorem dX7_standIt_29 : decode cX7_standIt 29 = .ok (.iconst 2, 1) := by decide +kernel
theorem dX7_standIt_30 : decode cX7_standIt 30 = .ok (.invokevirtual 83, 3) := by decide +kernel
theorem dX7_standIt_33 : decode cX7_standIt 33 = .ok (.ireturn, 1) := by decide +kernel
theorem dX7_standIt_34 : decode cX7_standIt 34 = .ok (.aload_n 0, 1) := by decide +kernel
theorem dX7_standIt_35 : decode cX7_standIt 35 = .ok (.getfield 9, 3) := by decide +kernel
theorem dX7_standIt_38 : decode cX7_standIt 38 = .ok (.iload_n 1, 1) := by decide +kernel
theorem dX7_standIt_39 : decode cX7_standIt 39 = .ok (.invokestatic 64, 3) := by decide +kernel
theorem dX7_standIt_42 : decode cX7_standIt 42 = .ok (.iconst 4, 1) := by decide +kernel
theorem dX7_standIt_43 : decode cX7_standIt 43 = .ok (.iadd, 1) := by decide +kernel
theorem dX7_standIt_44 : decode cX7_standIt 44 = .ok (.iconst 0, 1) := by decide +kernel
theorem dX7_standIt_45 : decode cX7_standIt 45 = .ok (.iastore, 1) := by decide +kernel
theorem dX7_standIt_46 : decode cX7_standIt 46 = .ok (.aload_n 0, 1) := by decide +kernel
theorem dX7_standIt_47 : decode cX7_standIt 47 = .ok (.invokevirtual 134, 3) := by decide +kernel
theorem dX7_standIt_50 : decode cX7_standIt 50 = .ok (.ireturn, 1) := by decide +kernel
set_option maxRecDepth 20000 in
theorem ggX7_standUp_X7_starts : GoodIn wsX7_standUp wsX7_starts := goodIn_ca (goodIn_rr _ [(5, 4), (37, 21)] rfl (by decide +kernel)) (goodIn_sub (fun _ h => List.mem_cons_of_mem _ (List.mem_append_right _ h)) (by decide +kernel))
set_option maxRecDepth 20000 in
theorem gX7_standUp_X7_starts : GoodIn wsX7_standUp (wsV RX7 86 RX7 yX7_starts wsX7_starts) := goodIn_app (goodIn_of _ (by decide +kernel)) ggX7_standUp_X7_starts
set_option maxRecDepth 20000 in
theorem ggX7_standUp_X7_standIt : GoodIn wsX7_standUp wsX7_standIt := goodIn_ca (goodIn_rr _ [(12, 1), (8, 1), (13, 3), (4, 1), (16, 8), (6, 1), (24, 7), (37, 21)] rfl (by decide +kernel)) (goodIn_sub (fun _ h => List.mem_cons_of_mem _ (List.mem_append_right _ h)) (by decide +kernel))
set_option maxRecDepth 20000 in
theorem gX7_standUp_X7_standIt : GoodIn wsX7_standUp (wsV RX7 140 RX7 yX7_standIt wsX7_standIt) := goodIn_app (goodIn_of _ (by decide +kernel)) ggX7_standUp_X7_standIt
set_option maxRecDepth 20000 in
theorem ggX7_standUp_X7_changed : GoodIn wsX7_standUp wsX7_changed := goodIn_ca (goodIn_rr _ [(34, 1), (6, 1), (35, 2), (7, 1), (37, 21)] rfl (by decide +kernel)) (goodIn_sub (fun _ h => List.mem_cons_of_mem _ (List.mem_append_right _ h)) (by decide +kernel))
set_option maxRecDepth 20000 in
theorem gX7_standUp_X7_changed : GoodIn wsX7_standUp (wsV RX7 92 RX7 yX7_changed wsX7_changed) := goodIn_app (goodIn_of _ (by decide +kernel)) ggX7_standUp_X7_changed
theorem dX7_standUp_0 : decode cX7_standUp 0 = .ok (.aload_n 0, 1) := by decide +kernel
theorem dX7_standUp_1 : decode cX7_standUp 1 = .ok (.invokevirtual 86, 3) := by decide +kernel
theorem dX7_standUp_4 : decode cX7_standUp 4 = .ok (.aload_n 0, 1) := by decide +kernel
theorem dX7_standUp_5 : decode cX7_standUp 5 = .ok (.aload_n 0, 1) := by decide +kernel
theorem dX7_standUp_6 : decode cX7_standUp 6 = .ok (.iload_n 1, 1) := by decide +kernel
theorem dX7_standUp_7 : decode cX7_standUp 7 = .ok (.invokevirtual 140, 3) := by decide +kernel
theorem dX7_standUp_10 : decode cX7_standUp 10 = .ok (.invokevirtual 92, 3) := by decide +kernel
theorem dX7_standUp_13 : decode cX7_standUp 13 = .ok (.ireturn, 1) := by decide +kernel
set_option maxRecDepth 20000 in
theorem ggX7_removeIt_X7_isHere : GoodIn wsX7_removeIt wsX7_isHere := goodIn_ca (goodIn_rr _ [(6, 1), (1, 1), (7, 2), (5, 1), (9, 1), (33, 21)] rfl (by decide +kernel)) (goodIn_sub (fun _ h => List.mem_cons_of_mem _ (List.mem_append_right _ h)) (by decide +kernel))
set_option maxRecDepth 20000 in
theorem gX7_removeIt_X7_isHere : GoodIn wsX7_removeIt (wsV RX7 119 RX7 yX7_isHere wsX7_isHere) := goodIn_app (goodIn_of _ (by decide +kernel)) ggX7_removeIt_X7_isHere
set_option maxRecDepth 20000 in
theorem ggX7_removeIt_X7_throwing : GoodIn wsX7_removeIt wsX7_throwing := goodIn_rr _ [(13, 2), (33, 21)] rfl (by decide +kernel)
set_option maxRecDepth 20000 in
theorem gX7_removeIt_X7_throwing : GoodIn wsX7_removeIt (wsV RX7 83 RX7 yX7_throwing wsX7_throwing) := goodIn_app (goodIn_of _ (by decide +kernel)) ggX7_removeIt_X7_throwing
set_option maxRecDepth 20000 in
theorem ggX7_removeIt_X7_goes : GoodIn wsX7_removeIt wsX7_goes := goodIn_ca (goodIn_rr _ [(18, 1), (1, 1), (19, 2), (5, 1), (21, 33)] rfl (by decide +kernel)) (goodIn_sub (fun _ h => List.mem_cons_of_mem _ (List.mem_append_right _ h)) (by decide +kernel))
set_option maxRecDepth 20000 in
theorem gX7_removeIt_X7_goes : GoodIn wsX7_removeIt (wsV RX7 143 RX7 yX7_goes wsX7_goes) := goodIn_app (goodIn_of _ (by decide +kernel)) ggX7_removeIt_X7_goes
theorem dX7_removeIt_0 : decode cX7_removeIt 0 = .ok (.aload_n 0, 1) := by decide +kernel
theorem dX7_removeIt_1 : decode cX7_removeIt 1 = .ok (.iload_n 1, 1) := by decide +kernel
theorem dX7_removeIt_2 : decode cX7_removeIt 2 = .ok (.invokevirtual 119, 3) := by decide +kernel
theorem dX7_removeIt_5 : decode cX7_removeIt 5 = .ok (.ifCond .ne 9, 3) := by decide +kernel
theorem dX7_removeIt_8 : decode cX7_removeIt 8 = .ok (.aload_n 0, 1) := by decide +kernel
theorem dX7_removeIt_9 : decode cX7_removeIt 9 = .ok (.iconst 1, 1) := by decide +kernel
theorem dX7_removeIt_10 : decode cX7_removeIt 10 = .ok (.invokevirtual 83, 3) := by decide +kernel
theorem dX7_removeIt_13 : decode cX7_removeIt 13 = .ok (.ireturn, 1) := by decide +kernel
theorem dX7_removeIt_14 : decode cX7_removeIt 14 = .ok (.aload_n 0, 1) := by decide +kernel
theorem dX7_removeIt_15 : decode cX7_removeIt 15 = .ok (.iload_n 1, 1) := by decide +kernel
theorem dX7_removeIt_16 : decode cX7_removeIt 16 = .ok (.invokevirtual 143, 3) := by decide +kernel
theorem dX7_removeIt_19 : decode cX7_removeIt 19 = .ok (.aload_n 0, 1) := by decide +kernel
theorem dX7_removeIt_20 : decode cX7_removeIt 20 = .ok (.getfield 9, 3) := by decide +kernel
theorem dX7_removeIt_23 : decode cX7_removeIt 23 = .ok (.iconst 4, 1) := by decide +kernel
theorem dX7_removeIt_24 : decode cX7_removeIt 24 = .ok (.dup2, 1) := by decide +kernel
theorem dX7_removeIt_25 : decode cX7_removeIt 25 = .ok (.iaload, 1) := by decide +kernel
theorem dX7_removeIt_26 : decode cX7_removeIt 26 = .ok (.iconst 1, 1) := by decide +kernel
theorem dX7_removeIt_27 : decode cX7_removeIt 27 = .ok (.iadd, 1) := by decide +kernel
theorem dX7_removeIt_28 : decode cX7_removeIt 28 = .ok (.iastore, 1) := by decide +kernel
theorem dX7_removeIt_29 : decode cX7_removeIt 29 = .ok (.aload_n 0, 1) := by decide +kernel
theorem dX7_removeIt_30 : decode cX7_removeIt 30 = .ok (.getfield 9, 3) := by decide +kernel
theorem dX7_removeIt_33 : decode cX7_removeIt 33 = .ok (.iconst 0, 1) := by decide +kernel
theorem dX7_removeIt_34 : decode cX7_removeIt 34 = .ok (.iaload, 1) := by decide +kernel
theorem dX7_removeIt_35 : decode cX7_removeIt 35 = .ok (.ireturn, 1) := by decide +kernel
set_option maxRecDepth 20000 in
theorem ggX7_remove_X7_starts : GoodIn wsX7_remove wsX7_starts := goodIn_ca (goodIn_rr _ [(5, 4), (48, 21)] rfl (by decide +kernel)) (goodIn_sub (fun _ h => List.mem_cons_of_mem _ (List.mem_append_right _ h)) (by decide +kernel))
set_option maxRecDepth 20000 in
theorem gX7_remove_X7_starts : GoodIn wsX7_remove (wsV RX7 86 RX7 yX7_starts wsX7_starts) := goodIn_app (goodIn_of _ (by decide +kernel)) ggX7_remove_X7_starts
set_option maxRecDepth 20000 in
theorem ggX7_remove_X7_removeIt : GoodIn wsX7_remove wsX7_removeIt := goodIn_ca (goodIn_rr _ [(12, 1), (8, 1), (13, 3), (4, 1), (16, 8), (6, 1), (24, 18), (48, 21)] rfl (by decide +kernel)) (goodIn_sub (fun _ h => List.mem_cons_of_mem _ (List.mem_append_right _ h)) (by decide +kernel))
set_option maxRecDepth 20000 in
theorem gX7_remove_X7_removeIt : GoodIn wsX7_remove (wsV RX7 146 RX7 yX7_removeIt wsX7_removeIt) := goodIn_app (goodIn_of _ (by decide +kernel)) ggX7_remove_X7_removeIt
set_option maxRecDepth 20000 in
theorem ggX7_remove_X7_changed : GoodIn wsX7_remove wsX7_changed := goodIn_ca (goodIn_rr _ [(45, 1), (6, 1), (46, 2), (7, 1), (48, 21)] rfl (by decide +kernel)) (goodIn_sub (fun _ h => List.mem_cons_of_mem _ (List.mem_append_right _ h)) (by decide +kernel))
set_option maxRecDepth 20000 in
theorem gX7_remove_X7_changed : GoodIn wsX7_remove (wsV RX7 92 RX7 yX7_changed wsX7_changed) := goodIn_app (goodIn_of _ (by decide +kernel)) ggX7_remove_X7_changed
theorem dX7_remove_0 : decode cX7_remove 0 = .ok (.aload_n 0, 1) := by decide +kernel
theorem dX7_remove_1 : decode cX7_remove 1 = .ok (.invokevirtual 86, 3) := by decide +kernel
theorem dX7_remove_4 : decode cX7_remove 4 = .ok (.aload_n 0, 1) := by decide +kernel
theorem dX7_remove_5 : decode cX7_remove 5 = .ok (.aload_n 0, 1) := by decide +kernel
theorem dX7_remove_6 : decode cX7_remove 6 = .ok (.iload_n 1, 1) := by decide +kernel
theorem dX7_remove_7 : decode cX7_remove 7 = .ok (.invokevirtual 146, 3) := by decide +kernel
theorem dX7_remove_10 : decode cX7_remove 10 = .ok (.invokevirtual 92, 3) := by decide +kernel
theorem dX7_remove_13 : decode cX7_remove 13 = .ok (.ireturn, 1) := by decide +kernel
set_option maxRecDepth 20000 in
theorem ggX7_remembers_X7_personAt : GoodIn wsX7_remembers wsX7_personAt := goodIn_rr _ [(9, 1)] rfl (by decide +kernel)
set_option maxRecDepth 20000 in
theorem gX7_remembers_X7_personAt : GoodIn wsX7_remembers (va_wsS RX7 64 yX7_personAt wsX7_personAt) := goodIn_app (goodIn_of _ (by decide +kernel)) ggX7_remembers_X7_personAt
theorem dX7_remembers_0 : decode cX7_remembers 0 = .ok (.iload_n 1, 1) := by decide +kernel
theorem dX7_remembers_1 : decode cX7_remembers 1 = .ok (.invokestatic 64, 3) := by decide +kernel
theorem dX7_remembers_4 : decode cX7_remembers 4 = .ok (.istore_n 3, 1) := by decide +kernel
theorem dX7_remembers_5 : decode cX7_remembers 5 = .ok (.sipush 158, 3) := by decide +kernel
theorem dX7_remembers_8 : decode cX7_remembers 8 = .ok (.istore 4, 2) := by decide +kernel
theorem dX7_remembers_10 : decode cX7_remembers 10 = .ok (.iload 4, 2) := by decide +kernel
theorem dX7_remembers_12 : decode cX7_remembers 12 = .ok (.sipush 139, 3) := by decide +kernel
theorem dX7_remembers_15 : decode cX7_remembers 15 = .ok (.if_icmp .lt 25, 3) := by decide +kernel
theorem dX7_remembers_18 : decode cX7_remembers 18 = .ok (.aload_n 0, 1) := by decide +kernel
theorem dX7_remembers_19 : decode cX7_remembers 19 = .ok (.getfield 9, 3) := by decide +kernel
theorem dX7_remembers_22 : decode cX7_remembers 22 = .ok (.iload 4, 2) := by decide +kernel
theorem dX7_remembers_24 : decode cX7_remembers 24 = .ok (.aload_n 0, 1) := by decide +kernel
theorem dX7_remembers_25 : decode cX7_remembers 25 = .ok (.getfield 9, 3) := by decide +kernel
theorem dX7_remembers_28 : decode cX7_remembers 28 = .ok (.iload 4, 2) := by decide +kernel
theorem dX7_remembers_30 : decode cX7_remembers 30 = .ok (.iconst 4, 1) := by decide +kernel
theorem dX7_remembers_31 : decode cX7_remembers 31 = .ok (.isub, 1) := by decide +kernel
theorem dX7_remembers_32 : decode cX7_remembers 32 = .ok (.iaload, 1) := by decide +kernel
theorem dX7_remembers_33 : decode cX7_remembers 33 = .ok (.iastore, 1) := by decide +kernel
theorem dX7_remembers_34 : decode cX7_remembers 34 = .ok (.iinc 4 (-1), 3) := by decide +kernel
theorem dX7_remembers_37 : decode cX7_remembers 37 = .ok (.goto (-27), 3) := by decide +kernel
theorem dX7_remembers_40 : decode cX7_remembers 40 = .ok (.aload_n 0, 1) := by decide +kernel
theorem dX7_remembers_41 : decode cX7_remembers 41 = .ok (.getfield 9, 3) := by decide +kernel
theorem dX7_remembers_44 : decode cX7_remembers 44 = .ok (.sipush 135, 3) := by decide +kernel
theorem dX7_remembers_47 : decode cX7_remembers 47 = .ok (.aload_n 0, 1) := by decide +kernel
theorem dX7_remembers_48 : decode cX7_remembers 48 = .ok (.getfield 9, 3) := by decide +kernel
theorem dX7_remembers_51 : decode cX7_remembers 51 = .ok (.iload_n 3, 1) := by decide +kernel
theorem dX7_remembers_52 : decode cX7_remembers 52 = .ok (.iaload, 1) := by decide +kernel
theorem dX7_remembers_53 : decode cX7_remembers 53 = .ok (.iastore, 1) := by decide +kernel
theorem dX7_remembers_54 : decode cX7_remembers 54 = .ok (.aload_n 0, 1) := by decide +kernel
theorem dX7_remembers_55 : decode cX7_remembers 55 = .ok (.getfield 9, 3) := by decide +kernel
theorem dX7_remembers_58 : decode cX7_remembers 58 = .ok (.sipush 136, 3) := by decide +kernel
theorem dX7_remembers_61 : decode cX7_remembers 61 = .ok (.aload_n 0, 1) := by decide +kernel
theorem dX7_remembers_62 : decode cX7_remembers 62 = .ok (.getfield 9, 3) := by decide +kernel
theorem dX7_remembers_65 : decode cX7_remembers 65 = .ok (.iload_n 3, 1) := by decide +kernel
theorem dX7_remembers_66 : decode cX7_remembers 66 = .ok (.bipush 6, 2) := by decide +kernel
theorem dX7_remembers_68 : decode cX7_remembers 68 = .ok (.iadd, 1) := by decide +kernel
theorem dX7_remembers_69 : decode cX7_remembers 69 = .ok (.iaload, 1) := by decide +kernel
theorem dX7_remembers_70 : decode cX7_remembers 70 = .ok (.iastore, 1) := by decide +kernel
theorem dX7_remembers_71 : decode cX7_remembers 71 = .ok (.aload_n 0, 1) := by decide +kernel
theorem dX7_remembers_72 : decode cX7_remembers 72 = .ok (.getfield 9, 3) := by decide +kernel
theorem dX7_remembers_75 : decode cX7_remembers 75 = .ok (.sipush 137, 3) := by decide +kernel
theorem dX7_remembers_78 : decode cX7_remembers 78 = .ok (.aload_n 0, 1) := by decide +kernel
theorem dX7_remembers_79 : decode cX7_remembers 79 = .ok (.getfield 9, 3) := by decide +kernel
theorem dX7_remembers_82 : decode cX7_remembers 82 = .ok (.iload_n 3, 1) := by decide +kernel
theorem dX7_remembers_83 : decode cX7_remembers 83 = .ok (.iconst 2, 1) := by decide +kernel
theorem dX7_remembers_84 : decode cX7_remembers 84 = .ok (.iadd, 1) := by decide +kernel
theorem dX7_remembers_85 : decode cX7_remembers 85 = .ok (.iaload, 1) := by decide +kernel
theorem dX7_remembers_86 : decode cX7_remembers 86 = .ok (.iastore, 1) := by decide +kernel
theorem dX7_remembers_87 : decode cX7_remembers 87 = .ok (.aload_n 0, 1) := by decide +kernel
theorem dX7_remembers_88 : decode cX7_remembers 88 = .ok (.getfield 9, 3) := by decide +kernel
theorem dX7_remembers_91 : decode cX7_remembers 91 = .ok (.sipush 138, 3) := by decide +kernel
theorem dX7_remembers_94 : decode cX7_remembers 94 = .ok (.iload_n 2, 1) := by decide +kernel
theorem dX7_remembers_95 : decode cX7_remembers 95 = .ok (.iastore, 1) := by decide +kernel
theorem dX7_remembers_96 : decode cX7_remembers 96 = .ok (.aload_n 0, 1) := by decide +kernel
theorem dX7_remembers_97 : decode cX7_remembers 97 = .ok (.getfield 9, 3) := by decide +kernel
theorem dX7_remembers_100 : decode cX7_remembers 100 = .ok (.bipush 10, 2) := by decide +kernel
theorem dX7_remembers_102 : decode cX7_remembers 102 = .ok (.bipush 6, 2) := by decide +kernel
theorem dX7_remembers_104 : decode cX7_remembers 104 = .ok (.aload_n 0, 1) := by decide +kernel
theorem dX7_remembers_105 : decode cX7_remembers 105 = .ok (.getfield 9, 3) := by decide +kernel
theorem dX7_remembers_108 : decode cX7_remembers 108 = .ok (.bipush 10, 2) := by decide +kernel
theorem dX7_remembers_110 : decode cX7_remembers 110 = .ok (.iaload, 1) := by decide +kernel
theorem dX7_remembers_111 : decode cX7_remembers 111 = .ok (.iconst 1, 1) := by decide +kernel
theorem dX7_remembers_112 : decode cX7_remembers 112 = .ok (.iadd, 1) := by decide +kernel
theorem dX7_remembers_113 : decode cX7_remembers 113 = .ok (.invokestatic 149, 3) := by decide +kernel
theorem dX7_remembers_116 : decode cX7_remembers 116 = .ok (.iastore, 1) := by decide +kernel
theorem dX7_remembers_117 : decode cX7_remembers 117 = .ok (.aload_n 0, 1) := by decide +kernel
theorem dX7_remembers_118 : decode cX7_remembers 118 = .ok (.getfield 9, 3) := by decide +kernel
theorem dX7_remembers_121 : decode cX7_remembers 121 = .ok (.bipush 11, 2) := by decide +kernel
theorem dX7_remembers_123 : decode cX7_remembers 123 = .ok (.dup2, 1) := by decide +kernel
theorem dX7_remembers_124 : decode cX7_remembers 124 = .ok (.iaload, 1) := by decide +kernel
theorem dX7_remembers_125 : decode cX7_remembers 125 = .ok (.aload_n 0, 1) := by decide +kernel
theorem dX7_remembers_126 : decode cX7_remembers 126 = .ok (.getfield 9, 3) := by decide +kernel
theorem dX7_remembers_129 : decode cX7_remembers 129 = .ok (.iload_n 3, 1) := by decide +kernel
theorem dX7_remembers_130 : decode cX7_remembers 130 = .ok (.iconst 2, 1) := by decide +kernel
theorem dX7_remembers_131 : decode cX7_remembers 131 = .ok (.iadd, 1) := by decide +kernel
theorem dX7_remembers_132 : decode cX7_remembers 132 = .ok (.iaload, 1) := by decide +kernel
theorem dX7_remembers_133 : decode cX7_remembers 133 = .ok (.ifCond .ne 7, 3) := by decide +kernel
theorem dX7_remembers_136 : decode cX7_remembers 136 = .ok (.iconst 1, 1) := by decide +kernel
theorem dX7_remembers_137 : decode cX7_remembers 137 = .ok (.goto 4, 3) := by decide +kernel
theorem dX7_remembers_140 : decode cX7_remembers 140 = .ok (.iconst 0, 1) := by decide +kernel
theorem dX7_remembers_141 : decode cX7_remembers 141 = .ok (.iadd, 1) := by decide +kernel
theorem dX7_remembers_142 : decode cX7_remembers 142 = .ok (.iastore, 1) := by decide +kernel
theorem dX7_remembers_143 : decode cX7_remembers 143 = .ok (.aload_n 0, 1) := by decide +kernel
theorem dX7_remembers_144 : decode cX7_remembers 144 = .ok (.getfield 9, 3) := by decide +kernel
theorem dX7_remembers_147 : decode cX7_remembers 147 = .ok (.iconst 3, 1) := by decide +kernel
theorem dX7_remembers_148 : decode cX7_remembers 148 = .ok (.dup2, 1) := by decide +kernel
theorem dX7_remembers_149 : decode cX7_remembers 149 = .ok (.iaload, 1) := by decide +kernel
theorem dX7_remembers_150 : decode cX7_remembers 150 = .ok (.iconst 1, 1) := by decide +kernel
theorem dX7_remembers_151 : decode cX7_remembers 151 = .ok (.iadd, 1) := by decide +kernel
theorem dX7_remembers_152 : decode cX7_remembers 152 = .ok (.iastore, 1) := by decide +kernel
theorem dX7_remembers_153 : decode cX7_remembers 153 = .ok (.return_, 1) := by decide +kernel
set_option maxRecDepth 20000 in
theorem ggX7_windowTurns_X7_windowAt : GoodIn wsX7_windowTurns wsX7_windowAt := goodIn_rr _ [(5, 1)] rfl (by decide +kernel)
set_option maxRecDepth 20000 in
theorem gX7_windowTurns_X7_windowAt : GoodIn wsX7_windowTurns (va_wsS RX7 48 yX7_windowAt wsX7_windowAt) := goodIn_app (goodIn_of _ (by decide +kernel)) ggX7_windowTurns_X7_windowAt
set_option maxRecDepth 20000 in
theorem ggX7_windowTurns_X7_isOpen : GoodIn wsX7_windowTurns wsX7_isOpen := goodIn_ca (goodIn_rr _ [(9, 1), (1, 5), (41, 21)] rfl (by decide +kernel)) (goodIn_sub (fun _ h => List.mem_cons_of_mem _ (List.mem_append_right _ h)) (by decide +kernel))
set_option maxRecDepth 20000 in
theorem gX7_windowTurns_X7_isOpen : GoodIn wsX7_windowTurns (wsV RX7 67 RX7 yX7_isOpen wsX7_isOpen) := goodIn_app (goodIn_of _ (by decide +kernel)) ggX7_windowTurns_X7_isOpen
set_option maxRecDepth 20000 in
theorem ggX7_windowTurns_X7_remembers : GoodIn wsX7_windowTurns wsX7_remembers := goodIn_ca (goodIn_rr _ [(13, 1), (1, 1), (14, 6), (4, 1), (20, 1), (41, 21)] rfl (by decide +kernel)) (goodIn_sub (fun _ h => List.mem_cons_of_mem _ (List.mem_append_right _ h)) (by decide +kernel))
set_option maxRecDepth 20000 in
theorem gX7_windowTurns_X7_remembers : GoodIn wsX7_windowTurns (wsV RX7 152 RX7 yX7_remembers wsX7_remembers) := goodIn_app (goodIn_of _ (by decide +kernel)) ggX7_windowTurns_X7_remembers
set_option maxRecDepth 20000 in
theorem ggX7_windowTurns_X7_goes : GoodIn wsX7_windowTurns wsX7_goes := goodIn_ca (goodIn_rr _ [(24, 1), (1, 1), (18, 2), (4, 1), (20, 1), (25, 8), (2, 2), (5, 1), (41, 21)] rfl (by decide +kernel)) (goodIn_sub (fun _ h => List.mem_cons_of_mem _ (List.mem_append_right _ h)) (by decide +kernel))
set_option maxRecDepth 20000 in
theorem gX7_windowTurns_X7_goes : GoodIn wsX7_windowTurns (wsV RX7 143 RX7 yX7_goes wsX7_goes) := goodIn_app (goodIn_of _ (by decide +kernel)) ggX7_windowTurns_X7_goes
set_option maxRecDepth 20000 in
theorem ggX7_windowTurns_X7_closes : GoodIn wsX7_windowTurns wsX7_closes := goodIn_ca (goodIn_rr _ [(36, 1), (1, 5), (37, 4), (18, 3), (41, 21)] rfl (by decide +kernel)) (goodIn_sub (fun _ h => List.mem_cons_of_mem _ (List.mem_append_right _ h)) (by decide +kernel))
set_option maxRecDepth 20000 in
theorem gX7_windowTurns_X7_closes : GoodIn wsX7_windowTurns (wsV RX7 110 RX7 yX7_closes wsX7_closes) := goodIn_app (goodIn_of _ (by decide +kernel)) ggX7_windowTurns_X7_closes
theorem dX7_windowTurns_0 : decode cX7_windowTurns 0 = .ok (.iload_n 1, 1) := by decide +kernel
theorem dX7_windowTurns_1 : decode cX7_windowTurns 1 = .ok (.invokestatic 48, 3) := by decide +kernel
theorem dX7_windowTurns_4 : decode cX7_windowTurns 4 = .ok (.istore_n 2, 1) := by decide +kernel
theorem dX7_windowTurns_5 : decode cX7_windowTurns 5 = .ok (.aload_n 0, 1) := by decide +kernel
theorem dX7_windowTurns_6 : decode cX7_windowTurns 6 = .ok (.iload_n 1, 1) := by decide +kernel
theorem dX7_windowTurns_7 : decode cX7_windowTurns 7 = .ok (.invokevirtual 67, 3) := by decide +kernel
theorem dX7_windowTurns_10 : decode cX7_windowTurns 10 = .ok (.ifCond .ne 4, 3) := by decide +kernel
theorem dX7_windowTurns_13 : decode cX7_windowTurns 13 = .ok (.return_, 1) := by decide +kernel
theorem dX7_windowTurns_14 : decode cX7_windowTurns 14 = .ok (.aload_n 0, 1) := by decide +kernel
theorem dX7_windowTurns_15 : decode cX7_windowTurns 15 = .ok (.getfield 9, 3) := by decide +kernel
theorem dX7_windowTurns_18 : decode cX7_windowTurns 18 = .ok (.iload_n 2, 1) := by decide +kernel
theorem dX7_windowTurns_19 : decode cX7_windowTurns 19 = .ok (.iconst 2, 1) := by decide +kernel
theorem dX7_windowTurns_20 : decode cX7_windowTurns 20 = .ok (.iadd, 1) := by decide +kernel
theorem dX7_windowTurns_21 : decode cX7_windowTurns 21 = .ok (.iaload, 1) := by decide +kernel
theorem dX7_windowTurns_22 : decode cX7_windowTurns 22 = .ok (.iconst (-1), 1) := by decide +kernel
theorem dX7_windowTurns_23 : decode cX7_windowTurns 23 = .ok (.if_icmp .eq 63, 3) := by decide +kernel
theorem dX7_windowTurns_26 : decode cX7_windowTurns 26 = .ok (.aload_n 0, 1) := by decide +kernel
theorem dX7_windowTurns_27 : decode cX7_windowTurns 27 = .ok (.getfield 9, 3) := by decide +kernel
theorem dX7_windowTurns_30 : decode cX7_windowTurns 30 = .ok (.iload_n 2, 1) := by decide +kernel
theorem dX7_windowTurns_31 : decode cX7_windowTurns 31 = .ok (.iconst 3, 1) := by decide +kernel
theorem dX7_windowTurns_32 : decode cX7_windowTurns 32 = .ok (.iadd, 1) := by decide +kernel
theorem dX7_windowTurns_33 : decode cX7_windowTurns 33 = .ok (.dup2, 1) := by decide +kernel
theorem dX7_windowTurns_34 : decode cX7_windowTurns 34 = .ok (.iaload, 1) := by decide +kernel
theorem dX7_windowTurns_35 : decode cX7_windowTurns 35 = .ok (.iconst 1, 1) := by decide +kernel
theorem dX7_windowTurns_36 : decode cX7_windowTurns 36 = .ok (.isub, 1) := by decide +kernel
theorem dX7_windowTurns_37 : decode cX7_windowTurns 37 = .ok (.iastore, 1) := by decide +kernel
theorem dX7_windowTurns_38 : decode cX7_windowTurns 38 = .ok (.aload_n 0, 1) := by decide +kernel
theorem dX7_windowTurns_39 : decode cX7_windowTurns 39 = .ok (.getfield 9, 3) := by decide +kernel
theorem dX7_windowTurns_42 : decode cX7_windowTurns 42 = .ok (.iload_n 2, 1) := by decide +kernel
theorem dX7_windowTurns_43 : decode cX7_windowTurns 43 = .ok (.iconst 3, 1) := by decide +kernel
theorem dX7_windowTurns_44 : decode cX7_windowTurns 44 = .ok (.iadd, 1) := by decide +kernel
theorem dX7_windowTurns_45 : decode cX7_windowTurns 45 = .ok (.iaload, 1) := by decide +kernel
theorem dX7_windowTurns_46 : decode cX7_windowTurns 46 = .ok (.ifCond .ne 40, 3) := by decide +kernel
theorem dX7_windowTurns_49 : decode cX7_windowTurns 49 = .ok (.aload_n 0, 1) := by decide +kernel
theorem dX7_windowTurns_50 : decode cX7_windowTurns 50 = .ok (.aload_n 0, 1) := by decide +kernel
theorem dX7_windowTurns_51 : decode cX7_windowTurns 51 = .ok (.getfield 9, 3) := by decide +kernel
theorem dX7_windowTurns_54 : decode cX7_windowTurns 54 = .ok (.iload_n 2, 1) := by decide +kernel
theorem dX7_windowTurns_55 : decode cX7_windowTurns 55 = .ok (.iconst 2, 1) := by decide +kernel
theorem dX7_windowTurns_56 : decode cX7_windowTurns 56 = .ok (.iadd, 1) := by decide +kernel
theorem dX7_windowTurns_57 : decode cX7_windowTurns 57 = .ok (.iaload, 1) := by decide +kernel
theorem dX7_windowTurns_58 : decode cX7_windowTurns 58 = .ok (.iload_n 1, 1) := by decide +kernel
theorem dX7_windowTurns_59 : decode cX7_windowTurns 59 = .ok (.invokevirtual 152, 3) := by decide +kernel
theorem dX7_windowTurns_62 : decode cX7_windowTurns 62 = .ok (.aload_n 0, 1) := by decide +kernel
theorem dX7_windowTurns_63 : decode cX7_windowTurns 63 = .ok (.getfield 9, 3) := by decide +kernel
theorem dX7_windowTurns_66 : decode cX7_windowTurns 66 = .ok (.iload_n 2, 1) := by decide +kernel
theorem dX7_windowTurns_67 : decode cX7_windowTurns 67 = .ok (.iconst 4, 1) := by decide +kernel
theorem dX7_windowTurns_68 : decode cX7_windowTurns 68 = .ok (.iadd, 1) := by decide +kernel
theorem dX7_windowTurns_69 : decode cX7_windowTurns 69 = .ok (.dup2, 1) := by decide +kernel
theorem dX7_windowTurns_70 : decode cX7_windowTurns 70 = .ok (.iaload, 1) := by decide +kernel
theorem dX7_windowTurns_71 : decode cX7_windowTurns 71 = .ok (.iconst 1, 1) := by decide +kernel
theorem dX7_windowTurns_72 : decode cX7_windowTurns 72 = .ok (.iadd, 1) := by decide +kernel
theorem dX7_windowTurns_73 : decode cX7_windowTurns 73 = .ok (.iastore, 1) := by decide +kernel
theorem dX7_windowTurns_74 : decode cX7_windowTurns 74 = .ok (.aload_n 0, 1) := by decide +kernel
theorem dX7_windowTurns_75 : decode cX7_windowTurns 75 = .ok (.aload_n 0, 1) := by decide +kernel
theorem dX7_windowTurns_76 : decode cX7_windowTurns 76 = .ok (.getfield 9, 3) := by decide +kernel
theorem dX7_windowTurns_79 : decode cX7_windowTurns 79 = .ok (.iload_n 2, 1) := by decide +kernel
theorem dX7_windowTurns_80 : decode cX7_windowTurns 80 = .ok (.iconst 2, 1) := by decide +kernel
theorem dX7_windowTurns_81 : decode cX7_windowTurns 81 = .ok (.iadd, 1) := by decide +kernel
theorem dX7_windowTurns_82 : decode cX7_windowTurns 82 = .ok (.iaload, 1) := by decide +kernel
theorem dX7_windowTurns_83 : decode cX7_windowTurns 83 = .ok (.invokevirtual 143, 3) := by decide +kernel
theorem dX7_windowTurns_86 : decode cX7_windowTurns 86 = .ok (.aload_n 0, 1) := by decide +kernel
theorem dX7_windowTurns_87 : decode cX7_windowTurns 87 = .ok (.getfield 9, 3) := by decide +kernel
theorem dX7_windowTurns_90 : decode cX7_windowTurns 90 = .ok (.iload_n 2, 1) := by decide +kernel
theorem dX7_windowTurns_91 : decode cX7_windowTurns 91 = .ok (.dup2, 1) := by decide +kernel
theorem dX7_windowTurns_92 : decode cX7_windowTurns 92 = .ok (.iaload, 1) := by decide +kernel
theorem dX7_windowTurns_93 : decode cX7_windowTurns 93 = .ok (.iconst 1, 1) := by decide +kernel
theorem dX7_windowTurns_94 : decode cX7_windowTurns 94 = .ok (.isub, 1) := by decide +kernel
theorem dX7_windowTurns_95 : decode cX7_windowTurns 95 = .ok (.iastore, 1) := by decide +kernel
theorem dX7_windowTurns_96 : decode cX7_windowTurns 96 = .ok (.aload_n 0, 1) := by decide +kernel
theorem dX7_windowTurns_97 : decode cX7_windowTurns 97 = .ok (.getfield 9, 3) := by decide +kernel
theorem dX7_windowTurns_100 : decode cX7_windowTurns 100 = .ok (.iload_n 2, 1) := by decide +kernel
theorem dX7_windowTurns_101 : decode cX7_windowTurns 101 = .ok (.iaload, 1) := by decide +kernel
theorem dX7_windowTurns_102 : decode cX7_windowTurns 102 = .ok (.ifCond .ne 8, 3) := by decide +kernel
theorem dX7_windowTurns_105 : decode cX7_windowTurns 105 = .ok (.aload_n 0, 1) := by decide +kernel
theorem dX7_windowTurns_106 : decode cX7_windowTurns 106 = .ok (.iload_n 1, 1) := by decide +kernel
theorem dX7_windowTurns_107 : decode cX7_windowTurns 107 = .ok (.invokevirtual 110, 3) := by decide +kernel
theorem dX7_windowTurns_110 : decode cX7_windowTurns 110 = .ok (.return_, 1) := by decide +kernel
set_option maxRecDepth 20000 in
theorem ggX7_waitsOn_X7_personAt : GoodIn wsX7_waitsOn wsX7_personAt := goodIn_rr _ [(12, 1)] rfl (by decide +kernel)
set_option maxRecDepth 20000 in
theorem gX7_waitsOn_X7_personAt : GoodIn wsX7_waitsOn (va_wsS RX7 64 yX7_personAt wsX7_personAt) := goodIn_app (goodIn_of _ (by decide +kernel)) ggX7_waitsOn_X7_personAt
theorem dX7_waitsOn_0 : decode cX7_waitsOn 0 = .ok (.iload_n 1, 1) := by decide +kernel
theorem dX7_waitsOn_1 : decode cX7_waitsOn 1 = .ok (.invokestatic 64, 3) := by decide +kernel
theorem dX7_waitsOn_4 : decode cX7_waitsOn 4 = .ok (.istore_n 2, 1) := by decide +kernel
theorem dX7_waitsOn_5 : decode cX7_waitsOn 5 = .ok (.aload_n 0, 1) := by decide +kernel
theorem dX7_waitsOn_6 : decode cX7_waitsOn 6 = .ok (.getfield 9, 3) := by decide +kernel
theorem dX7_waitsOn_9 : decode cX7_waitsOn 9 = .ok (.iload_n 2, 1) := by decide +kernel
theorem dX7_waitsOn_10 : decode cX7_waitsOn 10 = .ok (.bipush 6, 2) := by decide +kernel
theorem dX7_waitsOn_12 : decode cX7_waitsOn 12 = .ok (.iadd, 1) := by decide +kernel
theorem dX7_waitsOn_13 : decode cX7_waitsOn 13 = .ok (.dup2, 1) := by decide +kernel
theorem dX7_waitsOn_14 : decode cX7_waitsOn 14 = .ok (.iaload, 1) := by decide +kernel
theorem dX7_waitsOn_15 : decode cX7_waitsOn 15 = .ok (.iconst 1, 1) := by decide +kernel
theorem dX7_waitsOn_16 : decode cX7_waitsOn 16 = .ok (.iadd, 1) := by decide +kernel
theorem dX7_waitsOn_17 : decode cX7_waitsOn 17 = .ok (.iastore, 1) := by decide +kernel
theorem dX7_waitsOn_18 : decode cX7_waitsOn 18 = .ok (.aload_n 0, 1) := by decide +kernel
theorem dX7_waitsOn_19 : decode cX7_waitsOn 19 = .ok (.getfield 9, 3) := by decide +kernel
theorem dX7_waitsOn_22 : decode cX7_waitsOn 22 = .ok (.iload_n 2, 1) := by decide +kernel
theorem dX7_waitsOn_23 : decode cX7_waitsOn 23 = .ok (.iconst 4, 1) := by decide +kernel
theorem dX7_waitsOn_24 : decode cX7_waitsOn 24 = .ok (.iadd, 1) := by decide +kernel
theorem dX7_waitsOn_25 : decode cX7_waitsOn 25 = .ok (.iaload, 1) := by decide +kernel
theorem dX7_waitsOn_26 : decode cX7_waitsOn 26 = .ok (.iconst 1, 1) := by decide +kernel
theorem dX7_waitsOn_27 : decode cX7_waitsOn 27 = .ok (.if_icmp .ne 54, 3) := by decide +kernel
theorem dX7_waitsOn_30 : decode cX7_waitsOn 30 = .ok (.aload_n 0, 1) := by decide +kernel
theorem dX7_waitsOn_31 : decode cX7_waitsOn 31 = .ok (.getfield 9, 3) := by decide +kernel
theorem dX7_waitsOn_34 : decode cX7_waitsOn 34 = .ok (.iload_n 2, 1) := by decide +kernel
theorem dX7_waitsOn_35 : decode cX7_waitsOn 35 = .ok (.iconst 3, 1) := by decide +kernel
theorem dX7_waitsOn_36 : decode cX7_waitsOn 36 = .ok (.iadd, 1) := by decide +kernel
theorem dX7_waitsOn_37 : decode cX7_waitsOn 37 = .ok (.bipush 6, 2) := by decide +kernel
theorem dX7_waitsOn_39 : decode cX7_waitsOn 39 = .ok (.aload_n 0, 1) := by decide +kernel
theorem dX7_waitsOn_40 : decode cX7_waitsOn 40 = .ok (.getfield 9, 3) := by decide +kernel
theorem dX7_waitsOn_43 : decode cX7_waitsOn 43 = .ok (.iload_n 2, 1) := by decide +kernel
theorem dX7_waitsOn_44 : decode cX7_waitsOn 44 = .ok (.iconst 3, 1) := by decide +kernel
theorem dX7_waitsOn_45 : decode cX7_waitsOn 45 = .ok (.iadd, 1) := by decide +kernel
theorem dX7_waitsOn_46 : decode cX7_waitsOn 46 = .ok (.iaload, 1) := by decide +kernel
theorem dX7_waitsOn_47 : decode cX7_waitsOn 47 = .ok (.iconst 1, 1) := by decide +kernel
theorem dX7_waitsOn_48 : decode cX7_waitsOn 48 = .ok (.iadd, 1) := by decide +kernel
theorem dX7_waitsOn_49 : decode cX7_waitsOn 49 = .ok (.invokestatic 149, 3) := by decide +kernel
theorem dX7_waitsOn_52 : decode cX7_waitsOn 52 = .ok (.iastore, 1) := by decide +kernel
theorem dX7_waitsOn_53 : decode cX7_waitsOn 53 = .ok (.aload_n 0, 1) := by decide +kernel
theorem dX7_waitsOn_54 : decode cX7_waitsOn 54 = .ok (.getfield 9, 3) := by decide +kernel
theorem dX7_waitsOn_57 : decode cX7_waitsOn 57 = .ok (.iload_n 2, 1) := by decide +kernel
theorem dX7_waitsOn_58 : decode cX7_waitsOn 58 = .ok (.iconst 4, 1) := by decide +kernel
theorem dX7_waitsOn_59 : decode cX7_waitsOn 59 = .ok (.iadd, 1) := by decide +kernel
theorem dX7_waitsOn_60 : decode cX7_waitsOn 60 = .ok (.aload_n 0, 1) := by decide +kernel
theorem dX7_waitsOn_61 : decode cX7_waitsOn 61 = .ok (.getfield 9, 3) := by decide +kernel
theorem dX7_waitsOn_64 : decode cX7_waitsOn 64 = .ok (.iload_n 2, 1) := by decide +kernel
theorem dX7_waitsOn_65 : decode cX7_waitsOn 65 = .ok (.iconst 3, 1) := by decide +kernel
theorem dX7_waitsOn_66 : decode cX7_waitsOn 66 = .ok (.iadd, 1) := by decide +kernel
theorem dX7_waitsOn_67 : decode cX7_waitsOn 67 = .ok (.iaload, 1) := by decide +kernel
theorem dX7_waitsOn_68 : decode cX7_waitsOn 68 = .ok (.bipush 6, 2) := by decide +kernel
theorem dX7_waitsOn_70 : decode cX7_waitsOn 70 = .ok (.if_icmp .ne 7, 3) := by decide +kernel
theorem dX7_waitsOn_73 : decode cX7_waitsOn 73 = .ok (.iconst 0, 1) := by decide +kernel
theorem dX7_waitsOn_74 : decode cX7_waitsOn 74 = .ok (.goto 4, 3) := by decide +kernel
theorem dX7_waitsOn_77 : decode cX7_waitsOn 77 = .ok (.iconst 1, 1) := by decide +kernel
theorem dX7_waitsOn_78 : decode cX7_waitsOn 78 = .ok (.iastore, 1) := by decide +kernel
theorem dX7_waitsOn_79 : decode cX7_waitsOn 79 = .ok (.iconst 0, 1) := by decide +kernel
theorem dX7_waitsOn_80 : decode cX7_waitsOn 80 = .ok (.ireturn, 1) := by decide +kernel
theorem dX7_waitsOn_81 : decode cX7_waitsOn 81 = .ok (.aload_n 0, 1) := by decide +kernel
theorem dX7_waitsOn_82 : decode cX7_waitsOn 82 = .ok (.getfield 9, 3) := by decide +kernel
theorem dX7_waitsOn_85 : decode cX7_waitsOn 85 = .ok (.iload_n 2, 1) := by decide +kernel
theorem dX7_waitsOn_86 : decode cX7_waitsOn 86 = .ok (.iconst 3, 1) := by decide +kernel
theorem dX7_waitsOn_87 : decode cX7_waitsOn 87 = .ok (.iadd, 1) := by decide +kernel
theorem dX7_waitsOn_88 : decode cX7_waitsOn 88 = .ok (.iconst 0, 1) := by decide +kernel
theorem dX7_waitsOn_89 : decode cX7_waitsOn 89 = .ok (.aload_n 0, 1) := by decide +kernel
theorem dX7_waitsOn_90 : decode cX7_waitsOn 90 = .ok (.getfield 9, 3) := by decide +kernel
theorem dX7_waitsOn_93 : decode cX7_waitsOn 93 = .ok (.iload_n 2, 1) := by decide +kernel
theorem dX7_waitsOn_94 : decode cX7_waitsOn 94 = .ok (.iconst 3, 1) := by decide +kernel
theorem dX7_waitsOn_95 : decode cX7_waitsOn 95 = .ok (.iadd, 1) := by decide +kernel
theorem dX7_waitsOn_96 : decode cX7_waitsOn 96 = .ok (.iaload, 1) := by decide +kernel
theorem dX7_waitsOn_97 : decode cX7_waitsOn 97 = .ok (.iconst 1, 1) := by decide +kernel
theorem dX7_waitsOn_98 : decode cX7_waitsOn 98 = .ok (.isub, 1) := by decide +kernel
theorem dX7_waitsOn_99 : decode cX7_waitsOn 99 = .ok (.invokestatic 156, 3) := by decide +kernel
theorem dX7_waitsOn_102 : decode cX7_waitsOn 102 = .ok (.iastore, 1) := by decide +kernel
theorem dX7_waitsOn_103 : decode cX7_waitsOn 103 = .ok (.aload_n 0, 1) := by decide +kernel
theorem dX7_waitsOn_104 : decode cX7_waitsOn 104 = .ok (.getfield 9, 3) := by decide +kernel
theorem dX7_waitsOn_107 : decode cX7_waitsOn 107 = .ok (.iload_n 2, 1) := by decide +kernel
theorem dX7_waitsOn_108 : decode cX7_waitsOn 108 = .ok (.iconst 1, 1) := by decide +kernel
theorem dX7_waitsOn_109 : decode cX7_waitsOn 109 = .ok (.iadd, 1) := by decide +kernel
theorem dX7_waitsOn_110 : decode cX7_waitsOn 110 = .ok (.iconst 0, 1) := by decide +kernel
theorem dX7_waitsOn_111 : decode cX7_waitsOn 111 = .ok (.aload_n 0, 1) := by decide +kernel
theorem dX7_waitsOn_112 : decode cX7_waitsOn 112 = .ok (.getfield 9, 3) := by decide +kernel
theorem dX7_waitsOn_115 : decode cX7_waitsOn 115 = .ok (.iload_n 2, 1) := by decide +kernel
theorem dX7_waitsOn_116 : decode cX7_waitsOn 116 = .ok (.iconst 1, 1) := by decide +kernel
theorem dX7_waitsOn_117 : decode cX7_waitsOn 117 = .ok (.iadd, 1) := by decide +kernel
theorem dX7_waitsOn_118 : decode cX7_waitsOn 118 = .ok (.iaload, 1) := by decide +kernel
theorem dX7_waitsOn_119 : decode cX7_waitsOn 119 = .ok (.iconst 1, 1) := by decide +kernel
theorem dX7_waitsOn_120 : decode cX7_waitsOn 120 = .ok (.isub, 1) := by decide +kernel
theorem dX7_waitsOn_121 : decode cX7_waitsOn 121 = .ok (.invokestatic 156, 3) := by decide +kernel
theorem dX7_waitsOn_124 : decode cX7_waitsOn 124 = .ok (.iastore, 1) := by decide +kernel
theorem dX7_waitsOn_125 : decode cX7_waitsOn 125 = .ok (.aload_n 0, 1) := by decide +kernel
theorem dX7_waitsOn_126 : decode cX7_waitsOn 126 = .ok (.getfield 9, 3) := by decide +kernel
theorem dX7_waitsOn_129 : decode cX7_waitsOn 129 = .ok (.iload_n 2, 1) := by decide +kernel
theorem dX7_waitsOn_130 : decode cX7_waitsOn 130 = .ok (.iconst 1, 1) := by decide +kernel
theorem dX7_waitsOn_131 : decode cX7_waitsOn 131 = .ok (.iadd, 1) := by decide +kernel
theorem dX7_waitsOn_132 : decode cX7_waitsOn 132 = .ok (.iaload, 1) := by decide +kernel
theorem dX7_waitsOn_133 : decode cX7_waitsOn 133 = .ok (.ifCond .ne 26, 3) := by decide +kernel
theorem dX7_waitsOn_136 : decode cX7_waitsOn 136 = .ok (.aload_n 0, 1) := by decide +kernel
theorem dX7_waitsOn_137 : decode cX7_waitsOn 137 = .ok (.getfield 9, 3) := by decide +kernel
theorem dX7_waitsOn_140 : decode cX7_waitsOn 140 = .ok (.iload_n 2, 1) := by decide +kernel
theorem dX7_waitsOn_141 : decode cX7_waitsOn 141 = .ok (.iconst 2, 1) := by decide +kernel
theorem dX7_waitsOn_142 : decode cX7_waitsOn 142 = .ok (.iadd, 1) := by decide +kernel
theorem dX7_waitsOn_143 : decode cX7_waitsOn 143 = .ok (.dup2, 1) := by decide +kernel
theorem dX7_waitsOn_144 : decode cX7_waitsOn 144 = .ok (.iaload, 1) := by decide +kernel
theorem dX7_waitsOn_145 : decode cX7_waitsOn 145 = .ok (.iconst 1, 1) := by decide +kernel
theorem dX7_waitsOn_146 : decode cX7_waitsOn 146 = .ok (.iadd, 1) := by decide +kernel
theorem dX7_waitsOn_147 : decode cX7_waitsOn 147 = .ok (.iastore, 1) := by decide +kernel
theorem dX7_waitsOn_148 : decode cX7_waitsOn 148 = .ok (.aload_n 0, 1) := by decide +kernel
theorem dX7_waitsOn_149 : decode cX7_waitsOn 149 = .ok (.getfield 9, 3) := by decide +kernel
theorem dX7_waitsOn_152 : decode cX7_waitsOn 152 = .ok (.bipush 6, 2) := by decide +kernel
theorem dX7_waitsOn_154 : decode cX7_waitsOn 154 = .ok (.dup2, 1) := by decide +kernel
theorem dX7_waitsOn_155 : decode cX7_waitsOn 155 = .ok (.iaload, 1) := by decide +kernel
theorem dX7_waitsOn_156 : decode cX7_waitsOn 156 = .ok (.iconst 1, 1) := by decide +kernel
theorem dX7_waitsOn_157 : decode cX7_waitsOn 157 = .ok (.iadd, 1) := by decide +kernel
theorem dX7_waitsOn_158 : decode cX7_waitsOn 158 = .ok (.iastore, 1) := by decide +kernel
theorem dX7_waitsOn_159 : decode cX7_waitsOn 159 = .ok (.aload_n 0, 1) := by decide +kernel
theorem dX7_waitsOn_160 : decode cX7_waitsOn 160 = .ok (.getfield 9, 3) := by decide +kernel
theorem dX7_waitsOn_163 : decode cX7_waitsOn 163 = .ok (.iload_n 2, 1) := by decide +kernel
theorem dX7_waitsOn_164 : decode cX7_waitsOn 164 = .ok (.iconst 1, 1) := by decide +kernel
theorem dX7_waitsOn_165 : decode cX7_waitsOn 165 = .ok (.iadd, 1) := by decide +kernel
theorem dX7_waitsOn_166 : decode cX7_waitsOn 166 = .ok (.iaload, 1) := by decide +kernel
theorem dX7_waitsOn_167 : decode cX7_waitsOn 167 = .ok (.ifCond .ne 19, 3) := by decide +kernel
theorem dX7_waitsOn_170 : decode cX7_waitsOn 170 = .ok (.aload_n 0, 1) := by decide +kernel
theorem dX7_waitsOn_171 : decode cX7_waitsOn 171 = .ok (.getfield 9, 3) := by decide +kernel
theorem dX7_waitsOn_174 : decode cX7_waitsOn 174 = .ok (.iload_n 2, 1) := by decide +kernel
theorem dX7_waitsOn_175 : decode cX7_waitsOn 175 = .ok (.iconst 2, 1) := by decide +kernel
theorem dX7_waitsOn_176 : decode cX7_waitsOn 176 = .ok (.iadd, 1) := by decide +kernel
theorem dX7_waitsOn_177 : decode cX7_waitsOn 177 = .ok (.iaload, 1) := by decide +kernel
theorem dX7_waitsOn_178 : decode cX7_waitsOn 178 = .ok (.iconst 3, 1) := by decide +kernel
theorem dX7_waitsOn_179 : decode cX7_waitsOn 179 = .ok (.if_icmp .lt 7, 3) := by decide +kernel
theorem dX7_waitsOn_182 : decode cX7_waitsOn 182 = .ok (.iconst 1, 1) := by decide +kernel
theorem dX7_waitsOn_183 : decode cX7_waitsOn 183 = .ok (.goto 4, 3) := by decide +kernel
theorem dX7_waitsOn_186 : decode cX7_waitsOn 186 = .ok (.iconst 0, 1) := by decide +kernel
theorem dX7_waitsOn_187 : decode cX7_waitsOn 187 = .ok (.ireturn, 1) := by decide +kernel
set_option maxRecDepth 20000 in
theorem ggX7_takes_X7_windowAt : GoodIn wsX7_takes wsX7_windowAt := goodIn_rr _ [(5, 1)] rfl (by decide +kernel)
set_option maxRecDepth 20000 in
theorem gX7_takes_X7_windowAt : GoodIn wsX7_takes (va_wsS RX7 48 yX7_windowAt wsX7_windowAt) := goodIn_app (goodIn_of _ (by decide +kernel)) ggX7_takes_X7_windowAt
set_option maxRecDepth 20000 in
theorem ggX7_takes_X7_personAt : GoodIn wsX7_takes wsX7_personAt := goodIn_rr _ [(8, 1)] rfl (by decide +kernel)
set_option maxRecDepth 20000 in
theorem gX7_takes_X7_personAt : GoodIn wsX7_takes (va_wsS RX7 64 yX7_personAt wsX7_personAt) := goodIn_app (goodIn_of _ (by decide +kernel)) ggX7_takes_X7_personAt
set_option maxRecDepth 20000 in
theorem ggX7_takes_X7_leavesRow : GoodIn wsX7_takes wsX7_leavesRow := goodIn_ca (goodIn_rr _ [(12, 1), (1, 1), (13, 21)] rfl (by decide +kernel)) (goodIn_sub (fun _ h => List.mem_cons_of_mem _ (List.mem_append_right _ h)) (by decide +kernel))
set_option maxRecDepth 20000 in
theorem gX7_takes_X7_leavesRow : GoodIn wsX7_takes (wsV RX7 74 RX7 yX7_leavesRow wsX7_leavesRow) := goodIn_app (goodIn_of _ (by decide +kernel)) ggX7_takes_X7_leavesRow
theorem dX7_takes_0 : decode cX7_takes 0 = .ok (.iload_n 1, 1) := by decide +kernel
theorem dX7_takes_1 : decode cX7_takes 1 = .ok (.invokestatic 48, 3) := by decide +kernel
theorem dX7_takes_4 : decode cX7_takes 4 = .ok (.istore_n 2, 1) := by decide +kernel
theorem dX7_takes_5 : decode cX7_takes 5 = .ok (.iconst 0, 1) := by decide +kernel
theorem dX7_takes_6 : decode cX7_takes 6 = .ok (.istore_n 3, 1) := by decide +kernel
theorem dX7_takes_7 : decode cX7_takes 7 = .ok (.iload_n 3, 1) := by decide +kernel
theorem dX7_takes_8 : decode cX7_takes 8 = .ok (.aload_n 0, 1) := by decide +kernel
theorem dX7_takes_9 : decode cX7_takes 9 = .ok (.getfield 9, 3) := by decide +kernel
theorem dX7_takes_12 : decode cX7_takes 12 = .ok (.bipush 9, 2) := by decide +kernel
theorem dX7_takes_14 : decode cX7_takes 14 = .ok (.iaload, 1) := by decide +kernel
theorem dX7_takes_15 : decode cX7_takes 15 = .ok (.if_icmp .ge 95, 3) := by decide +kernel
theorem dX7_takes_18 : decode cX7_takes 18 = .ok (.aload_n 0, 1) := by decide +kernel
theorem dX7_takes_19 : decode cX7_takes 19 = .ok (.getfield 9, 3) := by decide +kernel
theorem dX7_takes_22 : decode cX7_takes 22 = .ok (.bipush 123, 2) := by decide +kernel
theorem dX7_takes_24 : decode cX7_takes 24 = .ok (.iload_n 3, 1) := by decide +kernel
theorem dX7_takes_25 : decode cX7_takes 25 = .ok (.iadd, 1) := by decide +kernel
theorem dX7_takes_26 : decode cX7_takes 26 = .ok (.iaload, 1) := by decide +kernel
theorem dX7_takes_27 : decode cX7_takes 27 = .ok (.istore 4, 2) := by decide +kernel
theorem dX7_takes_29 : decode cX7_takes 29 = .ok (.aload_n 0, 1) := by decide +kernel
theorem dX7_takes_30 : decode cX7_takes 30 = .ok (.getfield 9, 3) := by decide +kernel
theorem dX7_takes_33 : decode cX7_takes 33 = .ok (.iload 4, 2) := by decide +kernel
theorem dX7_takes_35 : decode cX7_takes 35 = .ok (.invokestatic 64, 3) := by decide +kernel
theorem dX7_takes_38 : decode cX7_takes 38 = .ok (.iconst 5, 1) := by decide +kernel
theorem dX7_takes_39 : decode cX7_takes 39 = .ok (.iadd, 1) := by decide +kernel
theorem dX7_takes_40 : decode cX7_takes 40 = .ok (.iaload, 1) := by decide +kernel
theorem dX7_takes_41 : decode cX7_takes 41 = .ok (.iconst 1, 1) := by decide +kernel
theorem dX7_takes_42 : decode cX7_takes 42 = .ok (.if_icmp .ne 62, 3) := by decide +kernel
theorem dX7_takes_45 : decode cX7_takes 45 = .ok (.aload_n 0, 1) := by decide +kernel
theorem dX7_takes_46 : decode cX7_takes 46 = .ok (.iload_n 3, 1) := by decide +kernel
theorem dX7_takes_47 : decode cX7_takes 47 = .ok (.invokevirtual 74, 3) := by decide +kernel
theorem dX7_takes_50 : decode cX7_takes 50 = .ok (.aload_n 0, 1) := by decide +kernel
theorem dX7_takes_51 : decode cX7_takes 51 = .ok (.getfield 9, 3) := by decide +kernel
theorem dX7_takes_54 : decode cX7_takes 54 = .ok (.iload 4, 2) := by decide +kernel
theorem dX7_takes_56 : decode cX7_takes 56 = .ok (.invokestatic 64, 3) := by decide +kernel
theorem dX7_takes_59 : decode cX7_takes 59 = .ok (.iconst 4, 1) := by decide +kernel
theorem dX7_takes_60 : decode cX7_takes 60 = .ok (.iadd, 1) := by decide +kernel
theorem dX7_takes_61 : decode cX7_takes 61 = .ok (.iconst 0, 1) := by decide +kernel
theorem dX7_takes_62 : decode cX7_takes 62 = .ok (.iastore, 1) := by decide +kernel
theorem dX7_takes_63 : decode cX7_takes 63 = .ok (.aload_n 0, 1) := by decide +kernel
theorem dX7_takes_64 : decode cX7_takes 64 = .ok (.getfield 9, 3) := by decide +kernel
theorem dX7_takes_67 : decode cX7_takes 67 = .ok (.iload 4, 2) := by decide +kernel
theorem dX7_takes_69 : decode cX7_takes 69 = .ok (.invokestatic 64, 3) := by decide +kernel
theorem dX7_takes_72 : decode cX7_takes 72 = .ok (.bipush 7, 2) := by decide +kernel
theorem dX7_takes_74 : decode cX7_takes 74 = .ok (.iadd, 1) := by decide +kernel
theorem dX7_takes_75 : decode cX7_takes 75 = .ok (.iload_n 1, 1) := by decide +kernel
theorem dX7_takes_76 : decode cX7_takes 76 = .ok (.iastore, 1) := by decide +kernel
theorem dX7_takes_77 : decode cX7_takes 77 = .ok (.aload_n 0, 1) := by decide +kernel
theorem dX7_takes_78 : decode cX7_takes 78 = .ok (.getfield 9, 3) := by decide +kernel
theorem dX7_takes_81 : decode cX7_takes 81 = .ok (.iload_n 2, 1) := by decide +kernel
theorem dX7_takes_82 : decode cX7_takes 82 = .ok (.iconst 2, 1) := by decide +kernel
theorem dX7_takes_83 : decode cX7_takes 83 = .ok (.iadd, 1) := by decide +kernel
theorem dX7_takes_84 : decode cX7_takes 84 = .ok (.iload 4, 2) := by decide +kernel
theorem dX7_takes_86 : decode cX7_takes 86 = .ok (.iastore, 1) := by decide +kernel
theorem dX7_takes_87 : decode cX7_takes 87 = .ok (.aload_n 0, 1) := by decide +kernel
theorem dX7_takes_88 : decode cX7_takes 88 = .ok (.getfield 9, 3) := by decide +kernel
theorem dX7_takes_91 : decode cX7_takes 91 = .ok (.iload_n 2, 1) := by decide +kernel
theorem dX7_takes_92 : decode cX7_takes 92 = .ok (.iconst 3, 1) := by decide +kernel
theorem dX7_takes_93 : decode cX7_takes 93 = .ok (.iadd, 1) := by decide +kernel
theorem dX7_takes_94 : decode cX7_takes 94 = .ok (.aload_n 0, 1) := by decide +kernel
theorem dX7_takes_95 : decode cX7_takes 95 = .ok (.getfield 9, 3) := by decide +kernel
theorem dX7_takes_98 : decode cX7_takes 98 = .ok (.iload_n 2, 1) := by decide +kernel
theorem dX7_takes_99 : decode cX7_takes 99 = .ok (.iconst 1, 1) := by decide +kernel
theorem dX7_takes_100 : decode cX7_takes 100 = .ok (.iadd, 1) := by decide +kernel
theorem dX7_takes_101 : decode cX7_takes 101 = .ok (.iaload, 1) := by decide +kernel
theorem dX7_takes_102 : decode cX7_takes 102 = .ok (.iastore, 1) := by decide +kernel
theorem dX7_takes_103 : decode cX7_takes 103 = .ok (.return_, 1) := by decide +kernel
theorem dX7_takes_104 : decode cX7_takes 104 = .ok (.iinc 3 1, 3) := by decide +kernel
theorem dX7_takes_107 : decode cX7_takes 107 = .ok (.goto (-100), 3) := by decide +kernel
theorem dX7_takes_110 : decode cX7_takes 110 = .ok (.return_, 1) := by decide +kernel
set_option maxRecDepth 20000 in
theorem ggX7_passes_X7_windowTurns : GoodIn wsX7_passes wsX7_windowTurns := goodIn_ca (goodIn_rr _ [(6, 1), (1, 1), (7, 2), (5, 1), (9, 36), (56, 21)] rfl (by decide +kernel)) (goodIn_sub (fun _ h => List.mem_cons_of_mem _ (List.mem_append_right _ h)) (by decide +kernel))
set_option maxRecDepth 20000 in
theorem gX7_passes_X7_windowTurns : GoodIn wsX7_passes (wsV RX7 159 RX7 yX7_windowTurns wsX7_windowTurns) := goodIn_app (goodIn_of _ (by decide +kernel)) ggX7_passes_X7_windowTurns
set_option maxRecDepth 20000 in
theorem ggX7_passes_X7_waitsOn : GoodIn wsX7_passes wsX7_waitsOn := goodIn_ca (goodIn_rr _ [(48, 1), (1, 1), (18, 4), (49, 3), (22, 2), (5, 1), (24, 1), (56, 21)] rfl (by decide +kernel)) (goodIn_sub (fun _ h => List.mem_cons_of_mem _ (List.mem_append_right _ h)) (by decide +kernel))
set_option maxRecDepth 20000 in
theorem gX7_passes_X7_waitsOn : GoodIn wsX7_passes (wsV RX7 162 RX7 yX7_waitsOn wsX7_waitsOn) := goodIn_app (goodIn_of _ (by decide +kernel)) ggX7_passes_X7_waitsOn
set_option maxRecDepth 20000 in
theorem ggX7_passes_X7_goes : GoodIn wsX7_passes wsX7_goes := goodIn_ca (goodIn_rr _ [(28, 1), (1, 1), (22, 2), (5, 1), (24, 1), (29, 8), (7, 3), (56, 21)] rfl (by decide +kernel)) (goodIn_sub (fun _ h => List.mem_cons_of_mem _ (List.mem_append_right _ h)) (by decide +kernel))
set_option maxRecDepth 20000 in
theorem gX7_passes_X7_goes : GoodIn wsX7_passes (wsV RX7 143 RX7 yX7_goes wsX7_goes) := goodIn_app (goodIn_of _ (by decide +kernel)) ggX7_passes_X7_goes
set_option maxRecDepth 20000 in
theorem ggX7_passes_X7_isOpen : GoodIn wsX7_passes wsX7_isOpen := goodIn_ca (goodIn_rr _ [(13, 1), (1, 1), (7, 2), (5, 1), (9, 1), (56, 21)] rfl (by decide +kernel)) (goodIn_sub (fun _ h => List.mem_cons_of_mem _ (List.mem_append_right _ h)) (by decide +kernel))
set_option maxRecDepth 20000 in
theorem gX7_passes_X7_isOpen : GoodIn wsX7_passes (wsV RX7 67 RX7 yX7_isOpen wsX7_isOpen) := goodIn_app (goodIn_of _ (by decide +kernel)) ggX7_passes_X7_isOpen
set_option maxRecDepth 20000 in
theorem ggX7_passes_X7_windowAt : GoodIn wsX7_passes wsX7_windowAt := goodIn_rr _ [(9, 1)] rfl (by decide +kernel)
set_option maxRecDepth 20000 in
theorem gX7_passes_X7_windowAt : GoodIn wsX7_passes (va_wsS RX7 48 yX7_windowAt wsX7_windowAt) := goodIn_app (goodIn_of _ (by decide +kernel)) ggX7_passes_X7_windowAt
set_option maxRecDepth 20000 in
theorem ggX7_passes_X7_takes : GoodIn wsX7_passes wsX7_takes := goodIn_ca (goodIn_rr _ [(55, 1), (1, 1), (7, 2), (5, 1), (9, 1), (22, 3), (33, 4), (56, 21)] rfl (by decide +kernel)) (goodIn_sub (fun _ h => List.mem_cons_of_mem _ (List.mem_append_right _ h)) (by decide +kernel))
set_option maxRecDepth 20000 in
theorem gX7_passes_X7_takes : GoodIn wsX7_passes (wsV RX7 165 RX7 yX7_takes wsX7_takes) := goodIn_app (goodIn_of _ (by decide +kernel)) ggX7_passes_X7_takes
theorem dX7_passes_0 : decode cX7_passes 0 = .ok (.iconst 0, 1) := by decide +kernel
theorem dX7_passes_1 : decode cX7_passes 1 = .ok (.istore_n 1, 1) := by decide +kernel
theorem dX7_passes_2 : decode cX7_passes 2 = .ok (.iload_n 1, 1) := by decide +kernel
theorem dX7_passes_3 : decode cX7_passes 3 = .ok (.iconst 3, 1) := by decide +kernel
theorem dX7_passes_4 : decode cX7_passes 4 = .ok (.if_icmp .ge 14, 3) := by decide +kernel
theorem dX7_passes_7 : decode cX7_passes 7 = .ok (.aload_n 0, 1) := by decide +kernel
theorem dX7_passes_8 : decode cX7_passes 8 = .ok (.iload_n 1, 1) := by decide +kernel
theorem dX7_passes_9 : decode cX7_passes 9 = .ok (.invokevirtual 159, 3) := by decide +kernel
theorem dX7_passes_12 : decode cX7_passes 12 = .ok (.iinc 1 1, 3) := by decide +kernel
theorem dX7_passes_15 : decode cX7_passes 15 = .ok (.goto (-13), 3) := by decide +kernel
theorem dX7_passes_18 : decode cX7_passes 18 = .ok (.iconst 0, 1) := by decide +kernel
theorem dX7_passes_19 : decode cX7_passes 19 = .ok (.istore_n 1, 1) := by decide +kernel
theorem dX7_passes_20 : decode cX7_passes 20 = .ok (.iload_n 1, 1) := by decide +kernel
theorem dX7_passes_21 : decode cX7_passes 21 = .ok (.aload_n 0, 1) := by decide +kernel
theorem dX7_passes_22 : decode cX7_passes 22 = .ok (.getfield 9, 3) := by decide +kernel
theorem dX7_passes_25 : decode cX7_passes 25 = .ok (.bipush 9, 2) := by decide +kernel
theorem dX7_passes_27 : decode cX7_passes 27 = .ok (.iaload, 1) := by decide +kernel
theorem dX7_passes_28 : decode cX7_passes 28 = .ok (.if_icmp .ge 45, 3) := by decide +kernel
theorem dX7_passes_31 : decode cX7_passes 31 = .ok (.aload_n 0, 1) := by decide +kernel
theorem dX7_passes_32 : decode cX7_passes 32 = .ok (.getfield 9, 3) := by decide +kernel
theorem dX7_passes_35 : decode cX7_passes 35 = .ok (.bipush 123, 2) := by decide +kernel
theorem dX7_passes_37 : decode cX7_passes 37 = .ok (.iload_n 1, 1) := by decide +kernel
theorem dX7_passes_38 : decode cX7_passes 38 = .ok (.iadd, 1) := by decide +kernel
theorem dX7_passes_39 : decode cX7_passes 39 = .ok (.iaload, 1) := by decide +kernel
theorem dX7_passes_40 : decode cX7_passes 40 = .ok (.istore_n 2, 1) := by decide +kernel
theorem dX7_passes_41 : decode cX7_passes 41 = .ok (.aload_n 0, 1) := by decide +kernel
theorem dX7_passes_42 : decode cX7_passes 42 = .ok (.iload_n 2, 1) := by decide +kernel
theorem dX7_passes_43 : decode cX7_passes 43 = .ok (.invokevirtual 162, 3) := by decide +kernel
theorem dX7_passes_46 : decode cX7_passes 46 = .ok (.ifCond .eq 21, 3) := by decide +kernel
theorem dX7_passes_49 : decode cX7_passes 49 = .ok (.aload_n 0, 1) := by decide +kernel
theorem dX7_passes_50 : decode cX7_passes 50 = .ok (.iload_n 2, 1) := by decide +kernel
theorem dX7_passes_51 : decode cX7_passes 51 = .ok (.invokevirtual 143, 3) := by decide +kernel
theorem dX7_passes_54 : decode cX7_passes 54 = .ok (.aload_n 0, 1) := by decide +kernel
theorem dX7_passes_55 : decode cX7_passes 55 = .ok (.getfield 9, 3) := by decide +kernel
theorem dX7_passes_58 : decode cX7_passes 58 = .ok (.iconst 5, 1) := by decide +kernel
theorem dX7_passes_59 : decode cX7_passes 59 = .ok (.dup2, 1) := by decide +kernel
theorem dX7_passes_60 : decode cX7_passes 60 = .ok (.iaload, 1) := by decide +kernel
theorem dX7_passes_61 : decode cX7_passes 61 = .ok (.iconst 1, 1) := by decide +kernel
theorem dX7_passes_62 : decode cX7_passes 62 = .ok (.iadd, 1) := by decide +kernel
theorem dX7_passes_63 : decode cX7_passes 63 = .ok (.iastore, 1) := by decide +kernel
theorem dX7_passes_64 : decode cX7_passes 64 = .ok (.goto 6, 3) := by decide +kernel
theorem dX7_passes_67 : decode cX7_passes 67 = .ok (.iinc 1 1, 3) := by decide +kernel
theorem dX7_passes_70 : decode cX7_passes 70 = .ok (.goto (-50), 3) := by decide +kernel
theorem dX7_passes_73 : decode cX7_passes 73 = .ok (.iconst 0, 1) := by decide +kernel
theorem dX7_passes_74 : decode cX7_passes 74 = .ok (.istore_n 2, 1) := by decide +kernel
theorem dX7_passes_75 : decode cX7_passes 75 = .ok (.iload_n 2, 1) := by decide +kernel
theorem dX7_passes_76 : decode cX7_passes 76 = .ok (.iconst 3, 1) := by decide +kernel
theorem dX7_passes_77 : decode cX7_passes 77 = .ok (.if_icmp .ge 37, 3) := by decide +kernel
theorem dX7_passes_80 : decode cX7_passes 80 = .ok (.aload_n 0, 1) := by decide +kernel
theorem dX7_passes_81 : decode cX7_passes 81 = .ok (.iload_n 2, 1) := by decide +kernel
theorem dX7_passes_82 : decode cX7_passes 82 = .ok (.invokevirtual 67, 3) := by decide +kernel
theorem dX7_passes_85 : decode cX7_passes 85 = .ok (.ifCond .eq 23, 3) := by decide +kernel
theorem dX7_passes_88 : decode cX7_passes 88 = .ok (.aload_n 0, 1) := by decide +kernel
theorem dX7_passes_89 : decode cX7_passes 89 = .ok (.getfield 9, 3) := by decide +kernel
theorem dX7_passes_92 : decode cX7_passes 92 = .ok (.iload_n 2, 1) := by decide +kernel
theorem dX7_passes_93 : decode cX7_passes 93 = .ok (.invokestatic 48, 3) := by decide +kernel
theorem dX7_passes_96 : decode cX7_passes 96 = .ok (.iconst 2, 1) := by decide +kernel
theorem dX7_passes_97 : decode cX7_passes 97 = .ok (.iadd, 1) := by decide +kernel
theorem dX7_passes_98 : decode cX7_passes 98 = .ok (.iaload, 1) := by decide +kernel
theorem dX7_passes_99 : decode cX7_passes 99 = .ok (.iconst (-1), 1) := by decide +kernel
theorem dX7_passes_100 : decode cX7_passes 100 = .ok (.if_icmp .ne 8, 3) := by decide +kernel
theorem dX7_passes_103 : decode cX7_passes 103 = .ok (.aload_n 0, 1) := by decide +kernel
theorem dX7_passes_104 : decode cX7_passes 104 = .ok (.iload_n 2, 1) := by decide +kernel
theorem dX7_passes_105 : decode cX7_passes 105 = .ok (.invokevirtual 165, 3) := by decide +kernel
theorem dX7_passes_108 : decode cX7_passes 108 = .ok (.iinc 2 1, 3) := by decide +kernel
theorem dX7_passes_111 : decode cX7_passes 111 = .ok (.goto (-36), 3) := by decide +kernel
theorem dX7_passes_114 : decode cX7_passes 114 = .ok (.aload_n 0, 1) := by decide +kernel
theorem dX7_passes_115 : decode cX7_passes 115 = .ok (.getfield 9, 3) := by decide +kernel
theorem dX7_passes_118 : decode cX7_passes 118 = .ok (.iconst 1, 1) := by decide +kernel
theorem dX7_passes_119 : decode cX7_passes 119 = .ok (.dup2, 1) := by decide +kernel
theorem dX7_passes_120 : decode cX7_passes 120 = .ok (.iaload, 1) := by decide +kernel
theorem dX7_passes_121 : decode cX7_passes 121 = .ok (.iconst 1, 1) := by decide +kernel
theorem dX7_passes_122 : decode cX7_passes 122 = .ok (.iadd, 1) := by decide +kernel
theorem dX7_passes_123 : decode cX7_passes 123 = .ok (.iastore, 1) := by decide +kernel
theorem dX7_passes_124 : decode cX7_passes 124 = .ok (.return_, 1) := by decide +kernel
set_option maxRecDepth 20000 in
theorem ggX7_advanceIt_X7_in : GoodIn wsX7_advanceIt wsX7_in := goodIn_rr _ [(6, 1)] rfl (by decide +kernel)
set_option maxRecDepth 20000 in
theorem gX7_advanceIt_X7_in : GoodIn wsX7_advanceIt (va_wsS RX7 60 yX7_in wsX7_in) := goodIn_app (goodIn_of _ (by decide +kernel)) ggX7_advanceIt_X7_in
set_option maxRecDepth 20000 in
theorem ggX7_advanceIt_X7_throwing : GoodIn wsX7_advanceIt wsX7_throwing := goodIn_rr _ [(10, 2), (69, 21)] rfl (by decide +kernel)
set_option maxRecDepth 20000 in
theorem gX7_advanceIt_X7_throwing : GoodIn wsX7_advanceIt (wsV RX7 83 RX7 yX7_throwing wsX7_throwing) := goodIn_app (goodIn_of _ (by decide +kernel)) ggX7_advanceIt_X7_throwing
set_option maxRecDepth 20000 in
theorem ggX7_advanceIt_X7_passes : GoodIn wsX7_advanceIt wsX7_passes := goodIn_ca (goodIn_rr _ [(15, 1), (2, 1), (16, 3), (5, 1), (19, 71)] rfl (by decide +kernel)) (goodIn_sub (fun _ h => List.mem_cons_of_mem _ (List.mem_append_right _ h)) (by decide +kernel))
set_option maxRecDepth 20000 in
theorem gX7_advanceIt_X7_passes : GoodIn wsX7_advanceIt (wsV RX7 170 RX7 yX7_passes wsX7_passes) := goodIn_app (goodIn_of _ (by decide +kernel)) ggX7_advanceIt_X7_passes
theorem dX7_advanceIt_0 : decode cX7_advanceIt 0 = .ok (.iload_n 1, 1) := by decide +kernel
theorem dX7_advanceIt_1 : decode cX7_advanceIt 1 = .ok (.i2l, 1) := by decide +kernel
theorem dX7_advanceIt_2 : decode cX7_advanceIt 2 = .ok (.lconst 1, 1) := by decide +kernel
theorem dX7_advanceIt_3 : decode cX7_advanceIt 3 = .ok (.ldc2_w 168, 3) := by decide +kernel
theorem dX7_advanceIt_6 : decode cX7_advanceIt 6 = .ok (.invokestatic 60, 3) := by decide +kernel
theorem dX7_advanceIt_9 : decode cX7_advanceIt 9 = .ok (.ifCond .ne 9, 3) := by decide +kernel
theorem dX7_advanceIt_12 : decode cX7_advanceIt 12 = .ok (.aload_n 0, 1) := by decide +kernel
theorem dX7_advanceIt_13 : decode cX7_advanceIt 13 = .ok (.iconst 1, 1) := by decide +kernel
theorem dX7_advanceIt_14 : decode cX7_advanceIt 14 = .ok (.invokevirtual 83, 3) := by decide +kernel
theorem dX7_advanceIt_17 : decode cX7_advanceIt 17 = .ok (.ireturn, 1) := by decide +kernel
theorem dX7_advanceIt_18 : decode cX7_advanceIt 18 = .ok (.aload_n 0, 1) := by decide +kernel
theorem dX7_advanceIt_19 : decode cX7_advanceIt 19 = .ok (.getfield 9, 3) := by decide +kernel
theorem dX7_advanceIt_22 : decode cX7_advanceIt 22 = .ok (.iconst 3, 1) := by decide +kernel
theorem dX7_advanceIt_23 : decode cX7_advanceIt 23 = .ok (.iaload, 1) := by decide +kernel
theorem dX7_advanceIt_24 : decode cX7_advanceIt 24 = .ok (.istore_n 2, 1) := by decide +kernel
theorem dX7_advanceIt_25 : decode cX7_advanceIt 25 = .ok (.iconst 0, 1) := by decide +kernel
theorem dX7_advanceIt_26 : decode cX7_advanceIt 26 = .ok (.istore_n 3, 1) := by decide +kernel
theorem dX7_advanceIt_27 : decode cX7_advanceIt 27 = .ok (.iload_n 3, 1) := by decide +kernel
theorem dX7_advanceIt_28 : decode cX7_advanceIt 28 = .ok (.iload_n 1, 1) := by decide +kernel
theorem dX7_advanceIt_29 : decode cX7_advanceIt 29 = .ok (.if_icmp .ge 13, 3) := by decide +kernel
theorem dX7_advanceIt_32 : decode cX7_advanceIt 32 = .ok (.aload_n 0, 1) := by decide +kernel
theorem dX7_advanceIt_33 : decode cX7_advanceIt 33 = .ok (.invokevirtual 170, 3) := by decide +kernel
theorem dX7_advanceIt_36 : decode cX7_advanceIt 36 = .ok (.iinc 3 1, 3) := by decide +kernel
theorem dX7_advanceIt_39 : decode cX7_advanceIt 39 = .ok (.goto (-12), 3) := by decide +kernel
theorem dX7_advanceIt_42 : decode cX7_advanceIt 42 = .ok (.aload_n 0, 1) := by decide +kernel
theorem dX7_advanceIt_43 : decode cX7_advanceIt 43 = .ok (.getfield 9, 3) := by decide +kernel
theorem dX7_advanceIt_46 : decode cX7_advanceIt 46 = .ok (.iconst 3, 1) := by decide +kernel
theorem dX7_advanceIt_47 : decode cX7_advanceIt 47 = .ok (.iaload, 1) := by decide +kernel
theorem dX7_advanceIt_48 : decode cX7_advanceIt 48 = .ok (.iload_n 2, 1) := by decide +kernel
theorem dX7_advanceIt_49 : decode cX7_advanceIt 49 = .ok (.isub, 1) := by decide +kernel
theorem dX7_advanceIt_50 : decode cX7_advanceIt 50 = .ok (.ireturn, 1) := by decide +kernel
set_option maxRecDepth 20000 in
theorem ggX7_advance_X7_starts : GoodIn wsX7_advance wsX7_starts := goodIn_ca (goodIn_rr _ [(5, 4), (84, 21)] rfl (by decide +kernel)) (goodIn_sub (fun _ h => List.mem_cons_of_mem _ (List.mem_append_right _ h)) (by decide +kernel))
set_option maxRecDepth 20000 in
theorem gX7_advance_X7_starts : GoodIn wsX7_advance (wsV RX7 86 RX7 yX7_starts wsX7_starts) := goodIn_app (goodIn_of _ (by decide +kernel)) ggX7_advance_X7_starts
set_option maxRecDepth 20000 in
theorem ggX7_advance_X7_advanceIt : GoodIn wsX7_advance wsX7_advanceIt := goodIn_ca (goodIn_rr _ [(12, 2), (8, 1), (14, 2), (4, 1), (16, 5), (6, 1), (21, 57), (84, 21)] rfl (by decide +kernel)) (goodIn_sub (fun _ h => List.mem_cons_of_mem _ (List.mem_append_right _ h)) (by decide +kernel))
set_option maxRecDepth 20000 in
theorem gX7_advance_X7_advanceIt : GoodIn wsX7_advance (wsV RX7 173 RX7 yX7_advanceIt wsX7_advanceIt) := goodIn_app (goodIn_of _ (by decide +kernel)) ggX7_advance_X7_advanceIt
set_option maxRecDepth 20000 in
theorem ggX7_advance_X7_changed : GoodIn wsX7_advance wsX7_changed := goodIn_ca (goodIn_rr _ [(81, 1), (6, 1), (82, 2), (7, 1), (84, 21)] rfl (by decide +kernel)) (goodIn_sub (fun _ h => List.mem_cons_of_mem _ (List.mem_append_right _ h)) (by decide +kernel))
set_option maxRecDepth 20000 in
theorem gX7_advance_X7_changed : GoodIn wsX7_advance (wsV RX7 92 RX7 yX7_changed wsX7_changed) := goodIn_app (goodIn_of _ (by decide +kernel)) ggX7_advance_X7_changed
theorem dX7_advance_0 : decode cX7_advance 0 = .ok (.aload_n 0, 1) := by decide +kernel
theorem dX7_advance_1 : decode cX7_advance 1 = .ok (.invokevirtual 86, 3) := by decide +kernel
theorem dX7_advance_4 : decode cX7_advance 4 = .ok (.aload_n 0, 1) := by decide +kernel
theorem dX7_advance_5 : decode cX7_advance 5 = .ok (.aload_n 0, 1) := by decide +kernel
theorem dX7_advance_6 : decode cX7_advance 6 = .ok (.iload_n 1, 1) := by decide +kernel
theorem dX7_advance_7 : decode cX7_advance 7 = .ok (.invokevirtual 173, 3) := by decide +kernel
theorem dX7_advance_10 : decode cX7_advance 10 = .ok (.invokevirtual 92, 3) := by decide +kernel
theorem dX7_advance_13 : decode cX7_advance 13 = .ok (.ireturn, 1) := by decide +kernel
theorem dX7_customerCount_0 : decode cX7_customerCount 0 = .ok (.aload_n 0, 1) := by decide +kernel
theorem dX7_customerCount_1 : decode cX7_customerCount 1 = .ok (.iconst 0, 1) := by decide +kernel
theorem dX7_customerCount_2 : decode cX7_customerCount 2 = .ok (.putfield 52, 3) := by decide +kernel
theorem dX7_customerCount_5 : decode cX7_customerCount 5 = .ok (.aload_n 0, 1) := by decide +kernel
theorem dX7_customerCount_6 : decode cX7_customerCount 6 = .ok (.getfield 9, 3) := by decide +kernel
theorem dX7_customerCount_9 : decode cX7_customerCount 9 = .ok (.iconst 0, 1) := by decide +kernel
theorem dX7_customerCount_10 : decode cX7_customerCount 10 = .ok (.iaload, 1) := by decide +kernel
theorem dX7_customerCount_11 : decode cX7_customerCount 11 = .ok (.ireturn, 1) := by decide +kernel
set_option maxRecDepth 20000 in
theorem ggX7_of_X7_isHere : GoodIn wsX7_of wsX7_isHere := goodIn_ca (goodIn_rr _ [(7, 1), (2, 1), (8, 2), (6, 1), (10, 1), (18, 21)] rfl (by decide +kernel)) (goodIn_sub (fun _ h => List.mem_cons_of_mem _ (List.mem_append_right _ h)) (by decide +kernel))
set_option maxRecDepth 20000 in
theorem gX7_of_X7_isHere : GoodIn wsX7_of (wsV RX7 119 RX7 yX7_isHere wsX7_isHere) := goodIn_app (goodIn_of _ (by decide +kernel)) ggX7_of_X7_isHere
set_option maxRecDepth 20000 in
theorem ggX7_of_X7_personAt : GoodIn wsX7_of wsX7_personAt := goodIn_rr _ [(13, 1)] rfl (by decide +kernel)
set_option maxRecDepth 20000 in
theorem gX7_of_X7_personAt : GoodIn wsX7_of (va_wsS RX7 64 yX7_personAt wsX7_personAt) := goodIn_app (goodIn_of _ (by decide +kernel)) ggX7_of_X7_personAt
set_option maxRecDepth 20000 in
theorem ggX7_of_X7_throwing : GoodIn wsX7_of wsX7_throwing := goodIn_rr _ [(17, 1), (1, 1), (18, 21)] rfl (by decide +kernel)
set_option maxRecDepth 20000 in
theorem gX7_of_X7_throwing : GoodIn wsX7_of (wsV RX7 83 RX7 yX7_throwing wsX7_throwing) := goodIn_app (goodIn_of _ (by decide +kernel)) ggX7_of_X7_throwing
theorem dX7_of_0 : decode cX7_of 0 = .ok (.aload_n 0, 1) := by decide +kernel
theorem dX7_of_1 : decode cX7_of 1 = .ok (.iconst 0, 1) := by decide +kernel
theorem dX7_of_2 : decode cX7_of 2 = .ok (.putfield 52, 3) := by decide +kernel
theorem dX7_of_5 : decode cX7_of 5 = .ok (.aload_n 0, 1) := by decide +kernel
theorem dX7_of_6 : decode cX7_of 6 = .ok (.iload_n 1, 1) := by decide +kernel
theorem dX7_of_7 : decode cX7_of 7 = .ok (.invokevirtual 119, 3) := by decide +kernel
theorem dX7_of_10 : decode cX7_of 10 = .ok (.ifCond .eq 17, 3) := by decide +kernel
theorem dX7_of_13 : decode cX7_of 13 = .ok (.aload_n 0, 1) := by decide +kernel
theorem dX7_of_14 : decode cX7_of 14 = .ok (.getfield 9, 3) := by decide +kernel
theorem dX7_of_17 : decode cX7_of 17 = .ok (.iload_n 1, 1) := by decide +kernel
theorem dX7_of_18 : decode cX7_of 18 = .ok (.invokestatic 64, 3) := by decide +kernel
theorem dX7_of_21 : decode cX7_of 21 = .ok (.iload_n 2, 1) := by decide +kernel
theorem dX7_of_22 : decode cX7_of 22 = .ok (.iadd, 1) := by decide +kernel
theorem dX7_of_23 : decode cX7_of 23 = .ok (.iaload, 1) := by decide +kernel
theorem dX7_of_24 : decode cX7_of 24 = .ok (.goto 8, 3) := by decide +kernel
theorem dX7_of_27 : decode cX7_of 27 = .ok (.aload_n 0, 1) := by decide +kernel
theorem dX7_of_28 : decode cX7_of 28 = .ok (.iconst 1, 1) := by decide +kernel
theorem dX7_of_29 : decode cX7_of 29 = .ok (.invokevirtual 83, 3) := by decide +kernel
theorem dX7_of_32 : decode cX7_of 32 = .ok (.ireturn, 1) := by decide +kernel
set_option maxRecDepth 20000 in
theorem ggX7_ticket_X7_of : GoodIn wsX7_ticket wsX7_of := goodIn_ca (goodIn_rr _ [(5, 6), (4, 1), (11, 32)] rfl (by decide +kernel)) (goodIn_sub (fun _ h => List.mem_cons_of_mem _ (List.mem_append_right _ h)) (by decide +kernel))
set_option maxRecDepth 20000 in
theorem gX7_ticket_X7_of : GoodIn wsX7_ticket (wsV RX7 176 RX7 yX7_of wsX7_of) := goodIn_app (goodIn_of _ (by decide +kernel)) ggX7_ticket_X7_of
theorem dX7_ticket_0 : decode cX7_ticket 0 = .ok (.aload_n 0, 1) := by decide +kernel
theorem dX7_ticket_1 : decode cX7_ticket 1 = .ok (.iload_n 1, 1) := by decide +kernel
theorem dX7_ticket_2 : decode cX7_ticket 2 = .ok (.iconst 0, 1) := by decide +kernel
theorem dX7_ticket_3 : decode cX7_ticket 3 = .ok (.invokevirtual 176, 3) := by decide +kernel
theorem dX7_ticket_6 : decode cX7_ticket 6 = .ok (.ireturn, 1) := by decide +kernel
set_option maxRecDepth 20000 in
theorem ggX7_patience_X7_of : GoodIn wsX7_patience wsX7_of := goodIn_ca (goodIn_rr _ [(5, 6), (4, 1), (11, 32)] rfl (by decide +kernel)) (goodIn_sub (fun _ h => List.mem_cons_of_mem _ (List.mem_append_right _ h)) (by decide +kernel))
set_option maxRecDepth 20000 in
theorem gX7_patience_X7_of : GoodIn wsX7_patience (wsV RX7 176 RX7 yX7_of wsX7_of) := goodIn_app (goodIn_of _ (by decide +kernel)) ggX7_patience_X7_of
theorem dX7_patience_0 : decode cX7_patience 0 = .ok (.aload_n 0, 1) := by decide +kernel
theorem dX7_patience_1 : decode cX7_patience 1 = .ok (.iload_n 1, 1) := by decide +kernel
theorem dX7_patience_2 : decode cX7_patience 2 = .ok (.iconst 1, 1) := by decide +kernel
theorem dX7_patience_3 : decode cX7_patience 3 = .ok (.invokevirtual 176, 3) := by decide +kernel
theorem dX7_patience_6 : decode cX7_patience 6 = .ok (.ireturn, 1) := by decide +kernel
set_option maxRecDepth 20000 in
theorem ggX7_sighs_X7_of : GoodIn wsX7_sighs wsX7_of := goodIn_ca (goodIn_rr _ [(5, 6), (4, 1), (11, 32)] rfl (by decide +kernel)) (goodIn_sub (fun _ h => List.mem_cons_of_mem _ (List.mem_append_right _ h)) (by decide +kernel))
set_option maxRecDepth 20000 in
theorem gX7_sighs_X7_of : GoodIn wsX7_sighs (wsV RX7 176 RX7 yX7_of wsX7_of) := goodIn_app (goodIn_of _ (by decide +kernel)) ggX7_sighs_X7_of
theorem dX7_sighs_0 : decode cX7_sighs 0 = .ok (.aload_n 0, 1) := by decide +kernel
theorem dX7_sighs_1 : decode cX7_sighs 1 = .ok (.iload_n 1, 1) := by decide +kernel
theorem dX7_sighs_2 : decode cX7_sighs 2 = .ok (.iconst 2, 1) := by decide +kernel
theorem dX7_sighs_3 : decode cX7_sighs 3 = .ok (.invokevirtual 176, 3) := by decide +kernel
theorem dX7_sighs_6 : decode cX7_sighs 6 = .ok (.ireturn, 1) := by decide +kernel
set_option maxRecDepth 20000 in
theorem ggX7_ache_X7_of : GoodIn wsX7_ache wsX7_of := goodIn_ca (goodIn_rr _ [(5, 6), (4, 1), (11, 32)] rfl (by decide +kernel)) (goodIn_sub (fun _ h => List.mem_cons_of_mem _ (List.mem_append_right _ h)) (by decide +kernel))
set_option maxRecDepth 20000 in
theorem gX7_ache_X7_of : GoodIn wsX7_ache (wsV RX7 176 RX7 yX7_of wsX7_of) := goodIn_app (goodIn_of _ (by decide +kernel)) ggX7_ache_X7_of
theorem dX7_ache_0 : decode cX7_ache 0 = .ok (.aload_n 0, 1) := by decide +kernel
theorem dX7_ache_1 : decode cX7_ache 1 = .ok (.iload_n 1, 1) := by decide +kernel
theorem dX7_ache_2 : decode cX7_ache 2 = .ok (.iconst 3, 1) := by decide +kernel
theorem dX7_ache_3 : decode cX7_ache 3 = .ok (.invokevirtual 176, 3) := by decide +kernel
theorem dX7_ache_6 : decode cX7_ache 6 = .ok (.ireturn, 1) := by decide +kernel
set_option maxRecDepth 20000 in
theorem ggX7_waitingTime_X7_of : GoodIn wsX7_waitingTime wsX7_of := goodIn_ca (goodIn_rr _ [(5, 6), (4, 1), (11, 32)] rfl (by decide +kernel)) (goodIn_sub (fun _ h => List.mem_cons_of_mem _ (List.mem_append_right _ h)) (by decide +kernel))
set_option maxRecDepth 20000 in
theorem gX7_waitingTime_X7_of : GoodIn wsX7_waitingTime (wsV RX7 176 RX7 yX7_of wsX7_of) := goodIn_app (goodIn_of _ (by decide +kernel)) ggX7_waitingTime_X7_of
theorem dX7_waitingTime_0 : decode cX7_waitingTime 0 = .ok (.aload_n 0, 1) := by decide +kernel
theorem dX7_waitingTime_1 : decode cX7_waitingTime 1 = .ok (.iload_n 1, 1) := by decide +kernel
theorem dX7_waitingTime_2 : decode cX7_waitingTime 2 = .ok (.bipush 6, 2) := by decide +kernel
theorem dX7_waitingTime_4 : decode cX7_waitingTime 4 = .ok (.invokevirtual 176, 3) := by decide +kernel
theorem dX7_waitingTime_7 : decode cX7_waitingTime 7 = .ok (.ireturn, 1) := by decide +kernel
set_option maxRecDepth 20000 in
theorem ggX7_isCalled_X7_of : GoodIn wsX7_isCalled wsX7_of := goodIn_ca (goodIn_rr _ [(5, 6), (4, 1), (11, 32)] rfl (by decide +kernel)) (goodIn_sub (fun _ h => List.mem_cons_of_mem _ (List.mem_append_right _ h)) (by decide +kernel))
set_option maxRecDepth 20000 in
theorem gX7_isCalled_X7_of : GoodIn wsX7_isCalled (wsV RX7 176 RX7 yX7_of wsX7_of) := goodIn_app (goodIn_of _ (by decide +kernel)) ggX7_isCalled_X7_of
theorem dX7_isCalled_0 : decode cX7_isCalled 0 = .ok (.aload_n 0, 1) := by decide +kernel
theorem dX7_isCalled_1 : decode cX7_isCalled 1 = .ok (.iload_n 1, 1) := by decide +kernel
theorem dX7_isCalled_2 : decode cX7_isCalled 2 = .ok (.iconst 5, 1) := by decide +kernel
theorem dX7_isCalled_3 : decode cX7_isCalled 3 = .ok (.invokevirtual 176, 3) := by decide +kernel
theorem dX7_isCalled_6 : decode cX7_isCalled 6 = .ok (.iconst 1, 1) := by decide +kernel
theorem dX7_isCalled_7 : decode cX7_isCalled 7 = .ok (.if_icmp .ne 7, 3) := by decide +kernel
theorem dX7_isCalled_10 : decode cX7_isCalled 10 = .ok (.iconst 1, 1) := by decide +kernel
theorem dX7_isCalled_11 : decode cX7_isCalled 11 = .ok (.goto 4, 3) := by decide +kernel
theorem dX7_isCalled_14 : decode cX7_isCalled 14 = .ok (.iconst 0, 1) := by decide +kernel
theorem dX7_isCalled_15 : decode cX7_isCalled 15 = .ok (.ireturn, 1) := by decide +kernel
set_option maxRecDepth 20000 in
theorem ggX7_isSitting_X7_of : GoodIn wsX7_isSitting wsX7_of := goodIn_ca (goodIn_rr _ [(5, 6), (4, 1), (11, 32)] rfl (by decide +kernel)) (goodIn_sub (fun _ h => List.mem_cons_of_mem _ (List.mem_append_right _ h)) (by decide +kernel))
set_option maxRecDepth 20000 in
theorem gX7_isSitting_X7_of : GoodIn wsX7_isSitting (wsV RX7 176 RX7 yX7_of wsX7_of) := goodIn_app (goodIn_of _ (by decide +kernel)) ggX7_isSitting_X7_of
theorem dX7_isSitting_0 : decode cX7_isSitting 0 = .ok (.aload_n 0, 1) := by decide +kernel
theorem dX7_isSitting_1 : decode cX7_isSitting 1 = .ok (.iload_n 1, 1) := by decide +kernel
theorem dX7_isSitting_2 : decode cX7_isSitting 2 = .ok (.iconst 4, 1) := by decide +kernel
theorem dX7_isSitting_3 : decode cX7_isSitting 3 = .ok (.invokevirtual 176, 3) := by decide +kernel
theorem dX7_isSitting_6 : decode cX7_isSitting 6 = .ok (.iconst 1, 1) := by decide +kernel
theorem dX7_isSitting_7 : decode cX7_isSitting 7 = .ok (.if_icmp .ne 7, 3) := by decide +kernel
theorem dX7_isSitting_10 : decode cX7_isSitting 10 = .ok (.iconst 1, 1) := by decide +kernel
theorem dX7_isSitting_11 : decode cX7_isSitting 11 = .ok (.goto 4, 3) := by decide +kernel
theorem dX7_isSitting_14 : decode cX7_isSitting 14 = .ok (.iconst 0, 1) := by decide +kernel
theorem dX7_isSitting_15 : decode cX7_isSitting 15 = .ok (.ireturn, 1) := by decide +kernel
set_option maxRecDepth 20000 in
theorem ggX7_position_X7_isHere : GoodIn wsX7_position wsX7_isHere := goodIn_ca (goodIn_rr _ [(6, 4), (5, 1), (10, 1), (26, 21)] rfl (by decide +kernel)) (goodIn_sub (fun _ h => List.mem_cons_of_mem _ (List.mem_append_right _ h)) (by decide +kernel))
set_option maxRecDepth 20000 in
theorem gX7_position_X7_isHere : GoodIn wsX7_position (wsV RX7 119 RX7 yX7_isHere wsX7_isHere) := goodIn_app (goodIn_of _ (by decide +kernel)) ggX7_position_X7_isHere
set_option maxRecDepth 20000 in
theorem ggX7_position_X7_throwing : GoodIn wsX7_position wsX7_throwing := goodIn_rr _ [(14, 1), (1, 1), (26, 21)] rfl (by decide +kernel)
set_option maxRecDepth 20000 in
theorem gX7_position_X7_throwing : GoodIn wsX7_position (wsV RX7 83 RX7 yX7_throwing wsX7_throwing) := goodIn_app (goodIn_of _ (by decide +kernel)) ggX7_position_X7_throwing
set_option maxRecDepth 20000 in
theorem ggX7_position_X7_isAtWindow : GoodIn wsX7_position wsX7_isAtWindow := goodIn_ca (goodIn_rr _ [(18, 1), (7, 1), (19, 2), (5, 1), (21, 1), (26, 21)] rfl (by decide +kernel)) (goodIn_sub (fun _ h => List.mem_cons_of_mem _ (List.mem_append_right _ h)) (by decide +kernel))
set_option maxRecDepth 20000 in
theorem gX7_position_X7_isAtWindow : GoodIn wsX7_position (wsV RX7 122 RX7 yX7_isAtWindow wsX7_isAtWindow) := goodIn_app (goodIn_of _ (by decide +kernel)) ggX7_position_X7_isAtWindow
set_option maxRecDepth 20000 in
theorem ggX7_position_X7_placeOf : GoodIn wsX7_position wsX7_placeOf := goodIn_ca (goodIn_rr _ [(25, 1), (7, 1), (26, 21)] rfl (by decide +kernel)) (goodIn_sub (fun _ h => List.mem_cons_of_mem _ (List.mem_append_right _ h)) (by decide +kernel))
set_option maxRecDepth 20000 in
theorem gX7_position_X7_placeOf : GoodIn wsX7_position (wsV RX7 71 RX7 yX7_placeOf wsX7_placeOf) := goodIn_app (goodIn_of _ (by decide +kernel)) ggX7_position_X7_placeOf
theorem dX7_position_0 : decode cX7_position 0 = .ok (.aload_n 0, 1) := by decide +kernel
theorem dX7_position_1 : decode cX7_position 1 = .ok (.iconst 0, 1) := by decide +kernel
theorem dX7_position_2 : decode cX7_position 2 = .ok (.putfield 52, 3) := by decide +kernel
theorem dX7_position_5 : decode cX7_position 5 = .ok (.aload_n 0, 1) := by decide +kernel
theorem dX7_position_6 : decode cX7_position 6 = .ok (.iload_n 1, 1) := by decide +kernel
theorem dX7_position_7 : decode cX7_position 7 = .ok (.invokevirtual 119, 3) := by decide +kernel
theorem dX7_position_10 : decode cX7_position 10 = .ok (.ifCond .ne 9, 3) := by decide +kernel
theorem dX7_position_13 : decode cX7_position 13 = .ok (.aload_n 0, 1) := by decide +kernel
theorem dX7_position_14 : decode cX7_position 14 = .ok (.iconst 1, 1) := by decide +kernel
theorem dX7_position_15 : decode cX7_position 15 = .ok (.invokevirtual 83, 3) := by decide +kernel
theorem dX7_position_18 : decode cX7_position 18 = .ok (.ireturn, 1) := by decide +kernel
theorem dX7_position_19 : decode cX7_position 19 = .ok (.aload_n 0, 1) := by decide +kernel
theorem dX7_position_20 : decode cX7_position 20 = .ok (.iload_n 1, 1) := by decide +kernel
theorem dX7_position_21 : decode cX7_position 21 = .ok (.invokevirtual 122, 3) := by decide +kernel
theorem dX7_position_24 : decode cX7_position 24 = .ok (.ifCond .eq 11, 3) := by decide +kernel
theorem dX7_position_27 : decode cX7_position 27 = .ok (.aload_n 0, 1) := by decide +kernel
theorem dX7_position_28 : decode cX7_position 28 = .ok (.iconst 2, 1) := by decide +kernel
theorem dX7_position_29 : decode cX7_position 29 = .ok (.invokevirtual 83, 3) := by decide +kernel
theorem dX7_position_32 : decode cX7_position 32 = .ok (.goto 8, 3) := by decide +kernel
theorem dX7_position_35 : decode cX7_position 35 = .ok (.aload_n 0, 1) := by decide +kernel
theorem dX7_position_36 : decode cX7_position 36 = .ok (.iload_n 1, 1) := by decide +kernel
theorem dX7_position_37 : decode cX7_position 37 = .ok (.invokevirtual 71, 3) := by decide +kernel
theorem dX7_position_40 : decode cX7_position 40 = .ok (.ireturn, 1) := by decide +kernel
set_option maxRecDepth 20000 in
theorem ggX7_windowOfCustomer_X7_isHere : GoodIn wsX7_windowOfCustomer wsX7_isHere := goodIn_ca (goodIn_rr _ [(7, 1), (2, 1), (8, 2), (6, 1), (10, 1), (22, 21)] rfl (by decide +kernel)) (goodIn_sub (fun _ h => List.mem_cons_of_mem _ (List.mem_append_right _ h)) (by decide +kernel))
set_option maxRecDepth 20000 in
theorem gX7_windowOfCustomer_X7_isHere : GoodIn wsX7_windowOfCustomer (wsV RX7 119 RX7 yX7_isHere wsX7_isHere) := goodIn_app (goodIn_of _ (by decide +kernel)) ggX7_windowOfCustomer_X7_isHere
set_option maxRecDepth 20000 in
theorem ggX7_windowOfCustomer_X7_throwing : GoodIn wsX7_windowOfCustomer wsX7_throwing := goodIn_rr _ [(14, 1), (1, 1), (22, 21)] rfl (by decide +kernel)
set_option maxRecDepth 20000 in
theorem gX7_windowOfCustomer_X7_throwing : GoodIn wsX7_windowOfCustomer (wsV RX7 83 RX7 yX7_throwing wsX7_throwing) := goodIn_app (goodIn_of _ (by decide +kernel)) ggX7_windowOfCustomer_X7_throwing
set_option maxRecDepth 20000 in
theorem ggX7_windowOfCustomer_X7_isAtWindow : GoodIn wsX7_windowOfCustomer wsX7_isAtWindow := goodIn_ca (goodIn_rr _ [(18, 1), (2, 1), (19, 2), (6, 1), (21, 22)] rfl (by decide +kernel)) (goodIn_sub (fun _ h => List.mem_cons_of_mem _ (List.mem_append_right _ h)) (by decide +kernel))
set_option maxRecDepth 20000 in
theorem gX7_windowOfCustomer_X7_isAtWindow : GoodIn wsX7_windowOfCustomer (wsV RX7 122 RX7 yX7_isAtWindow wsX7_isAtWindow) := goodIn_app (goodIn_of _ (by decide +kernel)) ggX7_windowOfCustomer_X7_isAtWindow
set_option maxRecDepth 20000 in
theorem ggX7_windowOfCustomer_X7_personAt : GoodIn wsX7_windowOfCustomer wsX7_personAt := goodIn_rr _ [(21, 1)] rfl (by decide +kernel)
set_option maxRecDepth 20000 in
theorem gX7_windowOfCustomer_X7_personAt : GoodIn wsX7_windowOfCustomer (va_wsS RX7 64 yX7_personAt wsX7_personAt) := goodIn_app (goodIn_of _ (by decide +kernel)) ggX7_windowOfCustomer_X7_personAt
theorem dX7_windowOfCustomer_0 : decode cX7_windowOfCustomer 0 = .ok (.aload_n 0, 1) := by decide +kernel
theorem dX7_windowOfCustomer_1 : decode cX7_windowOfCustomer 1 = .ok (.iconst 0, 1) := by decide +kernel
theorem dX7_windowOfCustomer_2 : decode cX7_windowOfCustomer 2 = .ok (.putfield 52, 3) := by decide +kernel
theorem dX7_windowOfCustomer_5 : decode cX7_windowOfCustomer 5 = .ok (.aload_n 0, 1) := by decide +kernel
theorem dX7_windowOfCustomer_6 : decode cX7_windowOfCustomer 6 = .ok (.iload_n 1, 1) := by decide +kernel
theorem dX7_windowOfCustomer_7 : decode cX7_windowOfCustomer 7 = .ok (.invokevirtual 119, 3) := by decide +kernel
theorem dX7_windowOfCustomer_10 : decode cX7_windowOfCustomer 10 = .ok (.ifCond .ne 9, 3) := by decide +kernel
theorem dX7_windowOfCustomer_13 : decode cX7_windowOfCustomer 13 = .ok (.aload_n 0, 1) := by decide +kernel
theorem dX7_windowOfCustomer_14 : decode cX7_windowOfCustomer 14 = .ok (.iconst 1, 1) := by decide +kernel
theorem dX7_windowOfCustomer_15 : decode cX7_windowOfCustomer 15 = .ok (.invokevirtual 83, 3) := by decide +kernel
theorem dX7_windowOfCustomer_18 : decode cX7_windowOfCustomer 18 = .ok (.ireturn, 1) := by decide +kernel
theorem dX7_windowOfCustomer_19 : decode cX7_windowOfCustomer 19 = .ok (.aload_n 0, 1) := by decide +kernel
theorem dX7_windowOfCustomer_20 : decode cX7_windowOfCustomer 20 = .ok (.iload_n 1, 1) := by decide +kernel
theorem dX7_windowOfCustomer_21 : decode cX7_windowOfCustomer 21 = .ok (.invokevirtual 122, 3) := by decide +kernel
theorem dX7_windowOfCustomer_24 : decode cX7_windowOfCustomer 24 = .ok (.ifCond .eq 18, 3) := by decide +kernel
theorem dX7_windowOfCustomer_27 : decode cX7_windowOfCustomer 27 = .ok (.aload_n 0, 1) := by decide +kernel
theorem dX7_windowOfCustomer_28 : decode cX7_windowOfCustomer 28 = .ok (.getfield 9, 3) := by decide +kernel
theorem dX7_windowOfCustomer_31 : decode cX7_windowOfCustomer 31 = .ok (.iload_n 1, 1) := by decide +kernel
theorem dX7_windowOfCustomer_32 : decode cX7_windowOfCustomer 32 = .ok (.invokestatic 64, 3) := by decide +kernel
theorem dX7_windowOfCustomer_35 : decode cX7_windowOfCustomer 35 = .ok (.bipush 7, 2) := by decide +kernel
theorem dX7_windowOfCustomer_37 : decode cX7_windowOfCustomer 37 = .ok (.iadd, 1) := by decide +kernel
theorem dX7_windowOfCustomer_38 : decode cX7_windowOfCustomer 38 = .ok (.iaload, 1) := by decide +kernel
theorem dX7_windowOfCustomer_39 : decode cX7_windowOfCustomer 39 = .ok (.goto 8, 3) := by decide +kernel
theorem dX7_windowOfCustomer_42 : decode cX7_windowOfCustomer 42 = .ok (.aload_n 0, 1) := by decide +kernel
theorem dX7_windowOfCustomer_43 : decode cX7_windowOfCustomer 43 = .ok (.iconst 2, 1) := by decide +kernel
theorem dX7_windowOfCustomer_44 : decode cX7_windowOfCustomer 44 = .ok (.invokevirtual 83, 3) := by decide +kernel
theorem dX7_windowOfCustomer_47 : decode cX7_windowOfCustomer 47 = .ok (.ireturn, 1) := by decide +kernel
set_option maxRecDepth 20000 in
theorem ggX7_customerAtPosition_X7_in : GoodIn wsX7_customerAtPosition wsX7_in := goodIn_rr _ [(6, 1)] rfl (by decide +kernel)
set_option maxRecDepth 20000 in
theorem gX7_customerAtPosition_X7_in : GoodIn wsX7_customerAtPosition (va_wsS RX7 60 yX7_in wsX7_in) := goodIn_app (goodIn_of _ (by decide +kernel)) ggX7_customerAtPosition_X7_in
set_option maxRecDepth 20000 in
theorem ggX7_customerAtPosition_X7_throwing : GoodIn wsX7_customerAtPosition wsX7_throwing := goodIn_rr _ [(10, 1), (1, 1), (11, 21)] rfl (by decide +kernel)
set_option maxRecDepth 20000 in
theorem gX7_customerAtPosition_X7_throwing : GoodIn wsX7_customerAtPosition (wsV RX7 83 RX7 yX7_throwing wsX7_throwing) := goodIn_app (goodIn_of _ (by decide +kernel)) ggX7_customerAtPosition_X7_throwing
theorem dX7_customerAtPosition_0 : decode cX7_customerAtPosition 0 = .ok (.aload_n 0, 1) := by decide +kernel
theorem dX7_customerAtPosition_1 : decode cX7_customerAtPosition 1 = .ok (.iconst 0, 1) := by decide +kernel
theorem dX7_customerAtPosition_2 : decode cX7_customerAtPosition 2 = .ok (.putfield 52, 3) := by decide +kernel
theorem dX7_customerAtPosition_5 : decode cX7_customerAtPosition 5 = .ok (.iload_n 1, 1) := by decide +kernel
theorem dX7_customerAtPosition_6 : decode cX7_customerAtPosition 6 = .ok (.i2l, 1) := by decide +kernel
theorem dX7_customerAtPosition_7 : decode cX7_customerAtPosition 7 = .ok (.lconst 0, 1) := by decide +kernel
theorem dX7_customerAtPosition_8 : decode cX7_customerAtPosition 8 = .ok (.aload_n 0, 1) := by decide +kernel
theorem dX7_customerAtPosition_9 : decode cX7_customerAtPosition 9 = .ok (.getfield 9, 3) := by decide +kernel
theorem dX7_customerAtPosition_12 : decode cX7_customerAtPosition 12 = .ok (.bipush 9, 2) := by decide +kernel
theorem dX7_customerAtPosition_14 : decode cX7_customerAtPosition 14 = .ok (.iaload, 1) := by decide +kernel
theorem dX7_customerAtPosition_15 : decode cX7_customerAtPosition 15 = .ok (.iconst 1, 1) := by decide +kernel
theorem dX7_customerAtPosition_16 : decode cX7_customerAtPosition 16 = .ok (.isub, 1) := by decide +kernel
theorem dX7_customerAtPosition_17 : decode cX7_customerAtPosition 17 = .ok (.i2l, 1) := by decide +kernel
theorem dX7_customerAtPosition_18 : decode cX7_customerAtPosition 18 = .ok (.invokestatic 60, 3) := by decide +kernel
theorem dX7_customerAtPosition_21 : decode cX7_customerAtPosition 21 = .ok (.ifCond .eq 15, 3) := by decide +kernel
theorem dX7_customerAtPosition_24 : decode cX7_customerAtPosition 24 = .ok (.aload_n 0, 1) := by decide +kernel
theorem dX7_customerAtPosition_25 : decode cX7_customerAtPosition 25 = .ok (.getfield 9, 3) := by decide +kernel
theorem dX7_customerAtPosition_28 : decode cX7_customerAtPosition 28 = .ok (.bipush 123, 2) := by decide +kernel
theorem dX7_customerAtPosition_30 : decode cX7_customerAtPosition 30 = .ok (.iload_n 1, 1) := by decide +kernel
theorem dX7_customerAtPosition_31 : decode cX7_customerAtPosition 31 = .ok (.iadd, 1) := by decide +kernel
theorem dX7_customerAtPosition_32 : decode cX7_customerAtPosition 32 = .ok (.iaload, 1) := by decide +kernel
theorem dX7_customerAtPosition_33 : decode cX7_customerAtPosition 33 = .ok (.goto 8, 3) := by decide +kernel
theorem dX7_customerAtPosition_36 : decode cX7_customerAtPosition 36 = .ok (.aload_n 0, 1) := by decide +kernel
theorem dX7_customerAtPosition_37 : decode cX7_customerAtPosition 37 = .ok (.iconst 1, 1) := by decide +kernel
theorem dX7_customerAtPosition_38 : decode cX7_customerAtPosition 38 = .ok (.invokevirtual 83, 3) := by decide +kernel
theorem dX7_customerAtPosition_41 : decode cX7_customerAtPosition 41 = .ok (.ireturn, 1) := by decide +kernel
theorem dX7_queueLength_0 : decode cX7_queueLength 0 = .ok (.aload_n 0, 1) := by decide +kernel
theorem dX7_queueLength_1 : decode cX7_queueLength 1 = .ok (.iconst 0, 1) := by decide +kernel
theorem dX7_queueLength_2 : decode cX7_queueLength 2 = .ok (.putfield 52, 3) := by decide +kernel
theorem dX7_queueLength_5 : decode cX7_queueLength 5 = .ok (.aload_n 0, 1) := by decide +kernel
theorem dX7_queueLength_6 : decode cX7_queueLength 6 = .ok (.getfield 9, 3) := by decide +kernel
theorem dX7_queueLength_9 : decode cX7_queueLength 9 = .ok (.bipush 9, 2) := by decide +kernel
theorem dX7_queueLength_11 : decode cX7_queueLength 11 = .ok (.iaload, 1) := by decide +kernel
theorem dX7_queueLength_12 : decode cX7_queueLength 12 = .ok (.ireturn, 1) := by decide +kernel
set_option maxRecDepth 20000 in
theorem ggX7_openingTimeLeft_X7_isWindow : GoodIn wsX7_openingTimeLeft wsX7_isWindow := goodIn_rr _ [(6, 4), (5, 1), (10, 1)] rfl (by decide +kernel)
set_option maxRecDepth 20000 in
theorem gX7_openingTimeLeft_X7_isWindow : GoodIn wsX7_openingTimeLeft (va_wsS RX7 95 yX7_isWindow wsX7_isWindow) := goodIn_app (goodIn_of _ (by decide +kernel)) ggX7_openingTimeLeft_X7_isWindow
set_option maxRecDepth 20000 in
theorem ggX7_openingTimeLeft_X7_windowAt : GoodIn wsX7_openingTimeLeft wsX7_windowAt := goodIn_rr _ [(13, 1)] rfl (by decide +kernel)
set_option maxRecDepth 20000 in
theorem gX7_openingTimeLeft_X7_windowAt : GoodIn wsX7_openingTimeLeft (va_wsS RX7 48 yX7_windowAt wsX7_windowAt) := goodIn_app (goodIn_of _ (by decide +kernel)) ggX7_openingTimeLeft_X7_windowAt
set_option maxRecDepth 20000 in
theorem ggX7_openingTimeLeft_X7_throwing : GoodIn wsX7_openingTimeLeft wsX7_throwing := goodIn_rr _ [(17, 1), (1, 1), (18, 21)] rfl (by decide +kernel)
set_option maxRecDepth 20000 in
theorem gX7_openingTimeLeft_X7_throwing : GoodIn wsX7_openingTimeLeft (wsV RX7 83 RX7 yX7_throwing wsX7_throwing) := goodIn_app (goodIn_of _ (by decide +kernel)) ggX7_openingTimeLeft_X7_throwing
theorem dX7_openingTimeLeft_0 : decode cX7_openingTimeLeft 0 = .ok (.aload_n 0, 1) := by decide +kernel
theorem dX7_openingTimeLeft_1 : decode cX7_openingTimeLeft 1 = .ok (.iconst 0, 1) := by decide +kernel
theorem dX7_openingTimeLeft_2 : decode cX7_openingTimeLeft 2 = .ok (.putfield 52, 3) := by decide +kernel
theorem dX7_openingTimeLeft_5 : decode cX7_openingTimeLeft 5 = .ok (.iload_n 1, 1) := by decide +kernel
theorem dX7_openingTimeLeft_6 : decode cX7_openingTimeLeft 6 = .ok (.invokestatic 95, 3) := by decide +kernel
theorem dX7_openingTimeLeft_9 : decode cX7_openingTimeLeft 9 = .ok (.ifCond .eq 15, 3) := by decide +kernel
theorem dX7_openingTimeLeft_12 : decode cX7_openingTimeLeft 12 = .ok (.aload_n 0, 1) := by decide +kernel
theorem dX7_openingTimeLeft_13 : decode cX7_openingTimeLeft 13 = .ok (.getfield 9, 3) := by decide +kernel
theorem dX7_openingTimeLeft_16 : decode cX7_openingTimeLeft 16 = .ok (.iload_n 1, 1) := by decide +kernel
theorem dX7_openingTimeLeft_17 : decode cX7_openingTimeLeft 17 = .ok (.invokestatic 48, 3) := by decide +kernel
theorem dX7_openingTimeLeft_20 : decode cX7_openingTimeLeft 20 = .ok (.iaload, 1) := by decide +kernel
theorem dX7_openingTimeLeft_21 : decode cX7_openingTimeLeft 21 = .ok (.goto 8, 3) := by decide +kernel
theorem dX7_openingTimeLeft_24 : decode cX7_openingTimeLeft 24 = .ok (.aload_n 0, 1) := by decide +kernel
theorem dX7_openingTimeLeft_25 : decode cX7_openingTimeLeft 25 = .ok (.iconst 1, 1) := by decide +kernel
theorem dX7_openingTimeLeft_26 : decode cX7_openingTimeLeft 26 = .ok (.invokevirtual 83, 3) := by decide +kernel
theorem dX7_openingTimeLeft_29 : decode cX7_openingTimeLeft 29 = .ok (.ireturn, 1) := by decide +kernel
set_option maxRecDepth 20000 in
theorem ggX7_pace_X7_isWindow : GoodIn wsX7_pace wsX7_isWindow := goodIn_rr _ [(6, 4), (5, 1), (10, 1)] rfl (by decide +kernel)
set_option maxRecDepth 20000 in
theorem gX7_pace_X7_isWindow : GoodIn wsX7_pace (va_wsS RX7 95 yX7_isWindow wsX7_isWindow) := goodIn_app (goodIn_of _ (by decide +kernel)) ggX7_pace_X7_isWindow
set_option maxRecDepth 20000 in
theorem ggX7_pace_X7_throwing : GoodIn wsX7_pace wsX7_throwing := goodIn_rr _ [(14, 1), (1, 1), (22, 21)] rfl (by decide +kernel)
set_option maxRecDepth 20000 in
theorem gX7_pace_X7_throwing : GoodIn wsX7_pace (wsV RX7 83 RX7 yX7_throwing wsX7_throwing) := goodIn_app (goodIn_of _ (by decide +kernel)) ggX7_pace_X7_throwing
set_option maxRecDepth 20000 in
theorem ggX7_pace_X7_isOpen : GoodIn wsX7_pace wsX7_isOpen := goodIn_ca (goodIn_rr _ [(18, 1), (2, 1), (19, 2), (5, 1), (21, 22)] rfl (by decide +kernel)) (goodIn_sub (fun _ h => List.mem_cons_of_mem _ (List.mem_append_right _ h)) (by decide +kernel))
set_option maxRecDepth 20000 in
theorem gX7_pace_X7_isOpen : GoodIn wsX7_pace (wsV RX7 67 RX7 yX7_isOpen wsX7_isOpen) := goodIn_app (goodIn_of _ (by decide +kernel)) ggX7_pace_X7_isOpen
set_option maxRecDepth 20000 in
theorem ggX7_pace_X7_windowAt : GoodIn wsX7_pace wsX7_windowAt := goodIn_rr _ [(21, 1)] rfl (by decide +kernel)
set_option maxRecDepth 20000 in
theorem gX7_pace_X7_windowAt : GoodIn wsX7_pace (va_wsS RX7 48 yX7_windowAt wsX7_windowAt) := goodIn_app (goodIn_of _ (by decide +kernel)) ggX7_pace_X7_windowAt
theorem dX7_pace_0 : decode cX7_pace 0 = .ok (.aload_n 0, 1) := by decide +kernel
theorem dX7_pace_1 : decode cX7_pace 1 = .ok (.iconst 0, 1) := by decide +kernel
theorem dX7_pace_2 : decode cX7_pace 2 = .ok (.putfield 52, 3) := by decide +kernel
theorem dX7_pace_5 : decode cX7_pace 5 = .ok (.iload_n 1, 1) := by decide +kernel
theorem dX7_pace_6 : decode cX7_pace 6 = .ok (.invokestatic 95, 3) := by decide +kernel
theorem dX7_pace_9 : decode cX7_pace 9 = .ok (.ifCond .ne 9, 3) := by decide +kernel
theorem dX7_pace_12 : decode cX7_pace 12 = .ok (.aload_n 0, 1) := by decide +kernel
theorem dX7_pace_13 : decode cX7_pace 13 = .ok (.iconst 1, 1) := by decide +kernel
theorem dX7_pace_14 : decode cX7_pace 14 = .ok (.invokevirtual 83, 3) := by decide +kernel
theorem dX7_pace_17 : decode cX7_pace 17 = .ok (.ireturn, 1) := by decide +kernel
theorem dX7_pace_18 : decode cX7_pace 18 = .ok (.aload_n 0, 1) := by decide +kernel
theorem dX7_pace_19 : decode cX7_pace 19 = .ok (.iload_n 1, 1) := by decide +kernel
theorem dX7_pace_20 : decode cX7_pace 20 = .ok (.invokevirtual 67, 3) := by decide +kernel
theorem dX7_pace_23 : decode cX7_pace 23 = .ok (.ifCond .eq 17, 3) := by decide +kernel
theorem dX7_pace_26 : decode cX7_pace 26 = .ok (.aload_n 0, 1) := by decide +kernel
theorem dX7_pace_27 : decode cX7_pace 27 = .ok (.getfield 9, 3) := by decide +kernel
theorem dX7_pace_30 : decode cX7_pace 30 = .ok (.iload_n 1, 1) := by decide +kernel
theorem dX7_pace_31 : decode cX7_pace 31 = .ok (.invokestatic 48, 3) := by decide +kernel
theorem dX7_pace_34 : decode cX7_pace 34 = .ok (.iconst 1, 1) := by decide +kernel
theorem dX7_pace_35 : decode cX7_pace 35 = .ok (.iadd, 1) := by decide +kernel
theorem dX7_pace_36 : decode cX7_pace 36 = .ok (.iaload, 1) := by decide +kernel
theorem dX7_pace_37 : decode cX7_pace 37 = .ok (.goto 8, 3) := by decide +kernel
theorem dX7_pace_40 : decode cX7_pace 40 = .ok (.aload_n 0, 1) := by decide +kernel
theorem dX7_pace_41 : decode cX7_pace 41 = .ok (.iconst 2, 1) := by decide +kernel
theorem dX7_pace_42 : decode cX7_pace 42 = .ok (.invokevirtual 83, 3) := by decide +kernel
theorem dX7_pace_45 : decode cX7_pace 45 = .ok (.ireturn, 1) := by decide +kernel
set_option maxRecDepth 20000 in
theorem ggX7_busy_X7_isWindow : GoodIn wsX7_busy wsX7_isWindow := goodIn_rr _ [(6, 4), (5, 1), (10, 1)] rfl (by decide +kernel)
set_option maxRecDepth 20000 in
theorem gX7_busy_X7_isWindow : GoodIn wsX7_busy (va_wsS RX7 95 yX7_isWindow wsX7_isWindow) := goodIn_app (goodIn_of _ (by decide +kernel)) ggX7_busy_X7_isWindow
set_option maxRecDepth 20000 in
theorem ggX7_busy_X7_throwing : GoodIn wsX7_busy wsX7_throwing := goodIn_rr _ [(14, 1), (1, 1), (18, 21)] rfl (by decide +kernel)
set_option maxRecDepth 20000 in
theorem gX7_busy_X7_throwing : GoodIn wsX7_busy (wsV RX7 83 RX7 yX7_throwing wsX7_throwing) := goodIn_app (goodIn_of _ (by decide +kernel)) ggX7_busy_X7_throwing
set_option maxRecDepth 20000 in
theorem ggX7_busy_X7_windowAt : GoodIn wsX7_busy wsX7_windowAt := goodIn_rr _ [(17, 1)] rfl (by decide +kernel)
set_option maxRecDepth 20000 in
theorem gX7_busy_X7_windowAt : GoodIn wsX7_busy (va_wsS RX7 48 yX7_windowAt wsX7_windowAt) := goodIn_app (goodIn_of _ (by decide +kernel)) ggX7_busy_X7_windowAt
theorem dX7_busy_0 : decode cX7_busy 0 = .ok (.aload_n 0, 1) := by decide +kernel
theorem dX7_busy_1 : decode cX7_busy 1 = .ok (.iconst 0, 1) := by decide +kernel
theorem dX7_busy_2 : decode cX7_busy 2 = .ok (.putfield 52, 3) := by decide +kernel
theorem dX7_busy_5 : decode cX7_busy 5 = .ok (.iload_n 1, 1) := by decide +kernel
theorem dX7_busy_6 : decode cX7_busy 6 = .ok (.invokestatic 95, 3) := by decide +kernel
theorem dX7_busy_9 : decode cX7_busy 9 = .ok (.ifCond .ne 9, 3) := by decide +kernel
theorem dX7_busy_12 : decode cX7_busy 12 = .ok (.aload_n 0, 1) := by decide +kernel
theorem dX7_busy_13 : decode cX7_busy 13 = .ok (.iconst 1, 1) := by decide +kernel
theorem dX7_busy_14 : decode cX7_busy 14 = .ok (.invokevirtual 83, 3) := by decide +kernel
theorem dX7_busy_17 : decode cX7_busy 17 = .ok (.ireturn, 1) := by decide +kernel
theorem dX7_busy_18 : decode cX7_busy 18 = .ok (.aload_n 0, 1) := by decide +kernel
theorem dX7_busy_19 : decode cX7_busy 19 = .ok (.getfield 9, 3) := by decide +kernel
theorem dX7_busy_22 : decode cX7_busy 22 = .ok (.iload_n 1, 1) := by decide +kernel
theorem dX7_busy_23 : decode cX7_busy 23 = .ok (.invokestatic 48, 3) := by decide +kernel
theorem dX7_busy_26 : decode cX7_busy 26 = .ok (.iconst 2, 1) := by decide +kernel
theorem dX7_busy_27 : decode cX7_busy 27 = .ok (.iadd, 1) := by decide +kernel
theorem dX7_busy_28 : decode cX7_busy 28 = .ok (.iaload, 1) := by decide +kernel
theorem dX7_busy_29 : decode cX7_busy 29 = .ok (.iconst (-1), 1) := by decide +kernel
theorem dX7_busy_30 : decode cX7_busy 30 = .ok (.if_icmp .ne 11, 3) := by decide +kernel
theorem dX7_busy_33 : decode cX7_busy 33 = .ok (.aload_n 0, 1) := by decide +kernel
theorem dX7_busy_34 : decode cX7_busy 34 = .ok (.iconst 2, 1) := by decide +kernel
theorem dX7_busy_35 : decode cX7_busy 35 = .ok (.invokevirtual 83, 3) := by decide +kernel
theorem dX7_busy_38 : decode cX7_busy 38 = .ok (.goto 14, 3) := by decide +kernel
theorem dX7_busy_41 : decode cX7_busy 41 = .ok (.aload_n 0, 1) := by decide +kernel
theorem dX7_busy_42 : decode cX7_busy 42 = .ok (.getfield 9, 3) := by decide +kernel
theorem dX7_busy_45 : decode cX7_busy 45 = .ok (.iload_n 1, 1) := by decide +kernel
theorem dX7_busy_46 : decode cX7_busy 46 = .ok (.invokestatic 48, 3) := by decide +kernel
theorem dX7_busy_49 : decode cX7_busy 49 = .ok (.iload_n 2, 1) := by decide +kernel
theorem dX7_busy_50 : decode cX7_busy 50 = .ok (.iadd, 1) := by decide +kernel
theorem dX7_busy_51 : decode cX7_busy 51 = .ok (.iaload, 1) := by decide +kernel
theorem dX7_busy_52 : decode cX7_busy 52 = .ok (.ireturn, 1) := by decide +kernel
set_option maxRecDepth 20000 in
theorem ggX7_customerAtWindow_X7_busy : GoodIn wsX7_customerAtWindow wsX7_busy := goodIn_ca (goodIn_rr _ [(5, 5), (4, 1), (10, 33)] rfl (by decide +kernel)) (goodIn_sub (fun _ h => List.mem_cons_of_mem _ (List.mem_append_right _ h)) (by decide +kernel))
set_option maxRecDepth 20000 in
theorem gX7_customerAtWindow_X7_busy : GoodIn wsX7_customerAtWindow (wsV RX7 179 RX7 yX7_busy wsX7_busy) := goodIn_app (goodIn_of _ (by decide +kernel)) ggX7_customerAtWindow_X7_busy
theorem dX7_customerAtWindow_0 : decode cX7_customerAtWindow 0 = .ok (.aload_n 0, 1) := by decide +kernel
theorem dX7_customerAtWindow_1 : decode cX7_customerAtWindow 1 = .ok (.iload_n 1, 1) := by decide +kernel
theorem dX7_customerAtWindow_2 : decode cX7_customerAtWindow 2 = .ok (.iconst 2, 1) := by decide +kernel
theorem dX7_customerAtWindow_3 : decode cX7_customerAtWindow 3 = .ok (.invokevirtual 179, 3) := by decide +kernel
theorem dX7_customerAtWindow_6 : decode cX7_customerAtWindow 6 = .ok (.ireturn, 1) := by decide +kernel
set_option maxRecDepth 20000 in
theorem ggX7_serviceTimeLeft_X7_busy : GoodIn wsX7_serviceTimeLeft wsX7_busy := goodIn_ca (goodIn_rr _ [(5, 5), (4, 1), (10, 33)] rfl (by decide +kernel)) (goodIn_sub (fun _ h => List.mem_cons_of_mem _ (List.mem_append_right _ h)) (by decide +kernel))
set_option maxRecDepth 20000 in
theorem gX7_serviceTimeLeft_X7_busy : GoodIn wsX7_serviceTimeLeft (wsV RX7 179 RX7 yX7_busy wsX7_busy) := goodIn_app (goodIn_of _ (by decide +kernel)) ggX7_serviceTimeLeft_X7_busy
theorem dX7_serviceTimeLeft_0 : decode cX7_serviceTimeLeft 0 = .ok (.aload_n 0, 1) := by decide +kernel
theorem dX7_serviceTimeLeft_1 : decode cX7_serviceTimeLeft 1 = .ok (.iload_n 1, 1) := by decide +kernel
theorem dX7_serviceTimeLeft_2 : decode cX7_serviceTimeLeft 2 = .ok (.iconst 3, 1) := by decide +kernel
theorem dX7_serviceTimeLeft_3 : decode cX7_serviceTimeLeft 3 = .ok (.invokevirtual 179, 3) := by decide +kernel
theorem dX7_serviceTimeLeft_6 : decode cX7_serviceTimeLeft 6 = .ok (.ireturn, 1) := by decide +kernel
set_option maxRecDepth 20000 in
theorem ggX7_calledAhead_X7_isHere : GoodIn wsX7_calledAhead wsX7_isHere := goodIn_ca (goodIn_rr _ [(7, 1), (2, 1), (8, 2), (6, 1), (10, 1), (22, 21)] rfl (by decide +kernel)) (goodIn_sub (fun _ h => List.mem_cons_of_mem _ (List.mem_append_right _ h)) (by decide +kernel))
set_option maxRecDepth 20000 in
theorem gX7_calledAhead_X7_isHere : GoodIn wsX7_calledAhead (wsV RX7 119 RX7 yX7_isHere wsX7_isHere) := goodIn_app (goodIn_of _ (by decide +kernel)) ggX7_calledAhead_X7_isHere
set_option maxRecDepth 20000 in
theorem ggX7_calledAhead_X7_throwing : GoodIn wsX7_calledAhead wsX7_throwing := goodIn_rr _ [(14, 1), (1, 1), (22, 21)] rfl (by decide +kernel)
set_option maxRecDepth 20000 in
theorem gX7_calledAhead_X7_throwing : GoodIn wsX7_calledAhead (wsV RX7 83 RX7 yX7_throwing wsX7_throwing) := goodIn_app (goodIn_of _ (by decide +kernel)) ggX7_calledAhead_X7_throwing
set_option maxRecDepth 20000 in
theorem ggX7_calledAhead_X7_placeOf : GoodIn wsX7_calledAhead wsX7_placeOf := goodIn_ca (goodIn_rr _ [(18, 1), (2, 1), (22, 21)] rfl (by decide +kernel)) (goodIn_sub (fun _ h => List.mem_cons_of_mem _ (List.mem_append_right _ h)) (by decide +kernel))
set_option maxRecDepth 20000 in
theorem gX7_calledAhead_X7_placeOf : GoodIn wsX7_calledAhead (wsV RX7 71 RX7 yX7_placeOf wsX7_placeOf) := goodIn_app (goodIn_of _ (by decide +kernel)) ggX7_calledAhead_X7_placeOf
set_option maxRecDepth 20000 in
theorem ggX7_calledAhead_X7_personAt : GoodIn wsX7_calledAhead wsX7_personAt := goodIn_rr _ [(21, 1)] rfl (by decide +kernel)
set_option maxRecDepth 20000 in
theorem gX7_calledAhead_X7_personAt : GoodIn wsX7_calledAhead (va_wsS RX7 64 yX7_personAt wsX7_personAt) := goodIn_app (goodIn_of _ (by decide +kernel)) ggX7_calledAhead_X7_personAt
theorem dX7_calledAhead_0 : decode cX7_calledAhead 0 = .ok (.aload_n 0, 1) := by decide +kernel
theorem dX7_calledAhead_1 : decode cX7_calledAhead 1 = .ok (.iconst 0, 1) := by decide +kernel
theorem dX7_calledAhead_2 : decode cX7_calledAhead 2 = .ok (.putfield 52, 3) := by decide +kernel
theorem dX7_calledAhead_5 : decode cX7_calledAhead 5 = .ok (.aload_n 0, 1) := by decide +kernel
theorem dX7_calledAhead_6 : decode cX7_calledAhead 6 = .ok (.iload_n 1, 1) := by decide +kernel
theorem dX7_calledAhead_7 : decode cX7_calledAhead 7 = .ok (.invokevirtual 119, 3) := by decide +kernel
theorem dX7_calledAhead_10 : decode cX7_calledAhead 10 = .ok (.ifCond .ne 9, 3) := by decide +kernel
theorem dX7_calledAhead_13 : decode cX7_calledAhead 13 = .ok (.aload_n 0, 1) := by decide +kernel
theorem dX7_calledAhead_14 : decode cX7_calledAhead 14 = .ok (.iconst 1, 1) := by decide +kernel
theorem dX7_calledAhead_15 : decode cX7_calledAhead 15 = .ok (.invokevirtual 83, 3) := by decide +kernel
theorem dX7_calledAhead_18 : decode cX7_calledAhead 18 = .ok (.ireturn, 1) := by decide +kernel
theorem dX7_calledAhead_19 : decode cX7_calledAhead 19 = .ok (.iconst 0, 1) := by decide +kernel
theorem dX7_calledAhead_20 : decode cX7_calledAhead 20 = .ok (.istore_n 2, 1) := by decide +kernel
theorem dX7_calledAhead_21 : decode cX7_calledAhead 21 = .ok (.iconst 0, 1) := by decide +kernel
theorem dX7_calledAhead_22 : decode cX7_calledAhead 22 = .ok (.istore_n 3, 1) := by decide +kernel
theorem dX7_calledAhead_23 : decode cX7_calledAhead 23 = .ok (.iload_n 3, 1) := by decide +kernel
theorem dX7_calledAhead_24 : decode cX7_calledAhead 24 = .ok (.aload_n 0, 1) := by decide +kernel
theorem dX7_calledAhead_25 : decode cX7_calledAhead 25 = .ok (.iload_n 1, 1) := by decide +kernel
theorem dX7_calledAhead_26 : decode cX7_calledAhead 26 = .ok (.invokevirtual 71, 3) := by decide +kernel
theorem dX7_calledAhead_29 : decode cX7_calledAhead 29 = .ok (.if_icmp .ge 31, 3) := by decide +kernel
theorem dX7_calledAhead_32 : decode cX7_calledAhead 32 = .ok (.iload_n 2, 1) := by decide +kernel
theorem dX7_calledAhead_33 : decode cX7_calledAhead 33 = .ok (.aload_n 0, 1) := by decide +kernel
theorem dX7_calledAhead_34 : decode cX7_calledAhead 34 = .ok (.getfield 9, 3) := by decide +kernel
theorem dX7_calledAhead_37 : decode cX7_calledAhead 37 = .ok (.aload_n 0, 1) := by decide +kernel
theorem dX7_calledAhead_38 : decode cX7_calledAhead 38 = .ok (.getfield 9, 3) := by decide +kernel
theorem dX7_calledAhead_41 : decode cX7_calledAhead 41 = .ok (.bipush 123, 2) := by decide +kernel
theorem dX7_calledAhead_43 : decode cX7_calledAhead 43 = .ok (.iload_n 3, 1) := by decide +kernel
theorem dX7_calledAhead_44 : decode cX7_calledAhead 44 = .ok (.iadd, 1) := by decide +kernel
theorem dX7_calledAhead_45 : decode cX7_calledAhead 45 = .ok (.iaload, 1) := by decide +kernel
theorem dX7_calledAhead_46 : decode cX7_calledAhead 46 = .ok (.invokestatic 64, 3) := by decide +kernel
theorem dX7_calledAhead_49 : decode cX7_calledAhead 49 = .ok (.iconst 5, 1) := by decide +kernel
theorem dX7_calledAhead_50 : decode cX7_calledAhead 50 = .ok (.iadd, 1) := by decide +kernel
theorem dX7_calledAhead_51 : decode cX7_calledAhead 51 = .ok (.iaload, 1) := by decide +kernel
theorem dX7_calledAhead_52 : decode cX7_calledAhead 52 = .ok (.iadd, 1) := by decide +kernel
theorem dX7_calledAhead_53 : decode cX7_calledAhead 53 = .ok (.istore_n 2, 1) := by decide +kernel
theorem dX7_calledAhead_54 : decode cX7_calledAhead 54 = .ok (.iinc 3 1, 3) := by decide +kernel
theorem dX7_calledAhead_57 : decode cX7_calledAhead 57 = .ok (.goto (-34), 3) := by decide +kernel
theorem dX7_calledAhead_60 : decode cX7_calledAhead 60 = .ok (.iload_n 2, 1) := by decide +kernel
theorem dX7_calledAhead_61 : decode cX7_calledAhead 61 = .ok (.ireturn, 1) := by decide +kernel
set_option maxRecDepth 20000 in
theorem ggX7_calledAheadByPositions_X7_calledAhead : GoodIn wsX7_calledAheadByPositions wsX7_calledAhead := goodIn_ca (goodIn_rr _ [(5, 6), (4, 1), (11, 36)] rfl (by decide +kernel)) (goodIn_sub (fun _ h => List.mem_cons_of_mem _ (List.mem_append_right _ h)) (by decide +kernel))
set_option maxRecDepth 20000 in
theorem gX7_calledAheadByPositions_X7_calledAhead : GoodIn wsX7_calledAheadByPositions (wsV RX7 182 RX7 yX7_calledAhead wsX7_calledAhead) := goodIn_app (goodIn_of _ (by decide +kernel)) ggX7_calledAheadByPositions_X7_calledAhead
theorem dX7_calledAheadByPositions_0 : decode cX7_calledAheadByPositions 0 = .ok (.aload_n 0, 1) := by decide +kernel
theorem dX7_calledAheadByPositions_1 : decode cX7_calledAheadByPositions 1 = .ok (.iload_n 1, 1) := by decide +kernel
theorem dX7_calledAheadByPositions_2 : decode cX7_calledAheadByPositions 2 = .ok (.invokevirtual 182, 3) := by decide +kernel
theorem dX7_calledAheadByPositions_5 : decode cX7_calledAheadByPositions 5 = .ok (.ireturn, 1) := by decide +kernel
set_option maxRecDepth 20000 in
theorem ggX7_inversions_X7_personAt : GoodIn wsX7_inversions wsX7_personAt := goodIn_rr _ [(6, 1)] rfl (by decide +kernel)
set_option maxRecDepth 20000 in
theorem gX7_inversions_X7_personAt : GoodIn wsX7_inversions (va_wsS RX7 64 yX7_personAt wsX7_personAt) := goodIn_app (goodIn_of _ (by decide +kernel)) ggX7_inversions_X7_personAt
theorem dX7_inversions_0 : decode cX7_inversions 0 = .ok (.aload_n 0, 1) := by decide +kernel
theorem dX7_inversions_1 : decode cX7_inversions 1 = .ok (.iconst 0, 1) := by decide +kernel
theorem dX7_inversions_2 : decode cX7_inversions 2 = .ok (.putfield 52, 3) := by decide +kernel
theorem dX7_inversions_5 : decode cX7_inversions 5 = .ok (.iconst 0, 1) := by decide +kernel
theorem dX7_inversions_6 : decode cX7_inversions 6 = .ok (.istore_n 1, 1) := by decide +kernel
theorem dX7_inversions_7 : decode cX7_inversions 7 = .ok (.iconst 0, 1) := by decide +kernel
theorem dX7_inversions_8 : decode cX7_inversions 8 = .ok (.istore_n 2, 1) := by decide +kernel
theorem dX7_inversions_9 : decode cX7_inversions 9 = .ok (.iload_n 2, 1) := by decide +kernel
theorem dX7_inversions_10 : decode cX7_inversions 10 = .ok (.aload_n 0, 1) := by decide +kernel
theorem dX7_inversions_11 : decode cX7_inversions 11 = .ok (.getfield 9, 3) := by decide +kernel
theorem dX7_inversions_14 : decode cX7_inversions 14 = .ok (.bipush 9, 2) := by decide +kernel
theorem dX7_inversions_16 : decode cX7_inversions 16 = .ok (.iaload, 1) := by decide +kernel
theorem dX7_inversions_17 : decode cX7_inversions 17 = .ok (.if_icmp .ge 75, 3) := by decide +kernel
theorem dX7_inversions_20 : decode cX7_inversions 20 = .ok (.iload_n 2, 1) := by decide +kernel
theorem dX7_inversions_21 : decode cX7_inversions 21 = .ok (.iconst 1, 1) := by decide +kernel
theorem dX7_inversions_22 : decode cX7_inversions 22 = .ok (.iadd, 1) := by decide +kernel
theorem dX7_inversions_23 : decode cX7_inversions 23 = .ok (.istore_n 3, 1) := by decide +kernel
theorem dX7_inversions_24 : decode cX7_inversions 24 = .ok (.iload_n 3, 1) := by decide +kernel
theorem dX7_inversions_25 : decode cX7_inversions 25 = .ok (.aload_n 0, 1) := by decide +kernel
theorem dX7_inversions_26 : decode cX7_inversions 26 = .ok (.getfield 9, 3) := by decide +kernel
theorem dX7_inversions_29 : decode cX7_inversions 29 = .ok (.bipush 9, 2) := by decide +kernel
theorem dX7_inversions_31 : decode cX7_inversions 31 = .ok (.iaload, 1) := by decide +kernel
theorem dX7_inversions_32 : decode cX7_inversions 32 = .ok (.if_icmp .ge 54, 3) := by decide +kernel
theorem dX7_inversions_35 : decode cX7_inversions 35 = .ok (.iload_n 1, 1) := by decide +kernel
theorem dX7_inversions_36 : decode cX7_inversions 36 = .ok (.aload_n 0, 1) := by decide +kernel
theorem dX7_inversions_37 : decode cX7_inversions 37 = .ok (.getfield 9, 3) := by decide +kernel
theorem dX7_inversions_40 : decode cX7_inversions 40 = .ok (.aload_n 0, 1) := by decide +kernel
theorem dX7_inversions_41 : decode cX7_inversions 41 = .ok (.getfield 9, 3) := by decide +kernel
theorem dX7_inversions_44 : decode cX7_inversions 44 = .ok (.bipush 123, 2) := by decide +kernel
theorem dX7_inversions_46 : decode cX7_inversions 46 = .ok (.iload_n 2, 1) := by decide +kernel
theorem dX7_inversions_47 : decode cX7_inversions 47 = .ok (.iadd, 1) := by decide +kernel
theorem dX7_inversions_48 : decode cX7_inversions 48 = .ok (.iaload, 1) := by decide +kernel
theorem dX7_inversions_49 : decode cX7_inversions 49 = .ok (.invokestatic 64, 3) := by decide +kernel
theorem dX7_inversions_52 : decode cX7_inversions 52 = .ok (.iaload, 1) := by decide +kernel
theorem dX7_inversions_53 : decode cX7_inversions 53 = .ok (.aload_n 0, 1) := by decide +kernel
theorem dX7_inversions_54 : decode cX7_inversions 54 = .ok (.getfield 9, 3) := by decide +kernel
theorem dX7_inversions_57 : decode cX7_inversions 57 = .ok (.aload_n 0, 1) := by decide +kernel
theorem dX7_inversions_58 : decode cX7_inversions 58 = .ok (.getfield 9, 3) := by decide +kernel
theorem dX7_inversions_61 : decode cX7_inversions 61 = .ok (.bipush 123, 2) := by decide +kernel
theorem dX7_inversions_63 : decode cX7_inversions 63 = .ok (.iload_n 3, 1) := by decide +kernel
theorem dX7_inversions_64 : decode cX7_inversions 64 = .ok (.iadd, 1) := by decide +kernel
theorem dX7_inversions_65 : decode cX7_inversions 65 = .ok (.iaload, 1) := by decide +kernel
theorem dX7_inversions_66 : decode cX7_inversions 66 = .ok (.invokestatic 64, 3) := by decide +kernel
theorem dX7_inversions_69 : decode cX7_inversions 69 = .ok (.iaload, 1) := by decide +kernel
theorem dX7_inversions_70 : decode cX7_inversions 70 = .ok (.if_icmp .le 7, 3) := by decide +kernel
theorem dX7_inversions_73 : decode cX7_inversions 73 = .ok (.iconst 1, 1) := by decide +kernel
theorem dX7_inversions_74 : decode cX7_inversions 74 = .ok (.goto 4, 3) := by decide +kernel
theorem dX7_inversions_77 : decode cX7_inversions 77 = .ok (.iconst 0, 1) := by decide +kernel
theorem dX7_inversions_78 : decode cX7_inversions 78 = .ok (.iadd, 1) := by decide +kernel
theorem dX7_inversions_79 : decode cX7_inversions 79 = .ok (.istore_n 1, 1) := by decide +kernel
theorem dX7_inversions_80 : decode cX7_inversions 80 = .ok (.iinc 3 1, 3) := by decide +kernel
theorem dX7_inversions_83 : decode cX7_inversions 83 = .ok (.goto (-59), 3) := by decide +kernel
theorem dX7_inversions_86 : decode cX7_inversions 86 = .ok (.iinc 2 1, 3) := by decide +kernel
theorem dX7_inversions_89 : decode cX7_inversions 89 = .ok (.goto (-80), 3) := by decide +kernel
theorem dX7_inversions_92 : decode cX7_inversions 92 = .ok (.iload_n 1, 1) := by decide +kernel
theorem dX7_inversions_93 : decode cX7_inversions 93 = .ok (.ireturn, 1) := by decide +kernel
set_option maxRecDepth 20000 in
theorem ggX7_inversionsByBubbleSort_X7_inversions : GoodIn wsX7_inversionsByBubbleSort wsX7_inversions := goodIn_ca (goodIn_rr _ [(5, 5), (4, 1), (10, 22)] rfl (by decide +kernel)) (goodIn_sub (fun _ h => List.mem_cons_of_mem _ (List.mem_append_right _ h)) (by decide +kernel))
set_option maxRecDepth 20000 in
theorem gX7_inversionsByBubbleSort_X7_inversions : GoodIn wsX7_inversionsByBubbleSort (wsV RX7 185 RX7 yX7_inversions wsX7_inversions) := goodIn_app (goodIn_of _ (by decide +kernel)) ggX7_inversionsByBubbleSort_X7_inversions
theorem dX7_inversionsByBubbleSort_0 : decode cX7_inversionsByBubbleSort 0 = .ok (.aload_n 0, 1) := by decide +kernel
theorem dX7_inversionsByBubbleSort_1 : decode cX7_inversionsByBubbleSort 1 = .ok (.invokevirtual 185, 3) := by decide +kernel
theorem dX7_inversionsByBubbleSort_4 : decode cX7_inversionsByBubbleSort 4 = .ok (.ireturn, 1) := by decide +kernel
theorem dX7_thinks_0 : decode cX7_thinks 0 = .ok (.iconst 0, 1) := by decide +kernel
theorem dX7_thinks_1 : decode cX7_thinks 1 = .ok (.istore_n 1, 1) := by decide +kernel
theorem dX7_thinks_2 : decode cX7_thinks 2 = .ok (.iload_n 1, 1) := by decide +kernel
theorem dX7_thinks_3 : decode cX7_thinks 3 = .ok (.sipush 159, 3) := by decide +kernel
theorem dX7_thinks_6 : decode cX7_thinks 6 = .ok (.if_icmp .ge 21, 3) := by decide +kernel
theorem dX7_thinks_9 : decode cX7_thinks 9 = .ok (.aload_n 0, 1) := by decide +kernel
theorem dX7_thinks_10 : decode cX7_thinks 10 = .ok (.getfield 16, 3) := by decide +kernel
theorem dX7_thinks_13 : decode cX7_thinks 13 = .ok (.iload_n 1, 1) := by decide +kernel
theorem dX7_thinks_14 : decode cX7_thinks 14 = .ok (.aload_n 0, 1) := by decide +kernel
theorem dX7_thinks_15 : decode cX7_thinks 15 = .ok (.getfield 9, 3) := by decide +kernel
theorem dX7_thinks_18 : decode cX7_thinks 18 = .ok (.iload_n 1, 1) := by decide +kernel
theorem dX7_thinks_19 : decode cX7_thinks 19 = .ok (.iaload, 1) := by decide +kernel
theorem dX7_thinks_20 : decode cX7_thinks 20 = .ok (.iastore, 1) := by decide +kernel
theorem dX7_thinks_21 : decode cX7_thinks 21 = .ok (.iinc 1 1, 3) := by decide +kernel
theorem dX7_thinks_24 : decode cX7_thinks 24 = .ok (.goto (-22), 3) := by decide +kernel
theorem dX7_thinks_27 : decode cX7_thinks 27 = .ok (.return_, 1) := by decide +kernel
theorem dX7_thinksNoMore_0 : decode cX7_thinksNoMore 0 = .ok (.iconst 0, 1) := by decide +kernel
theorem dX7_thinksNoMore_1 : decode cX7_thinksNoMore 1 = .ok (.istore_n 1, 1) := by decide +kernel
theorem dX7_thinksNoMore_2 : decode cX7_thinksNoMore 2 = .ok (.iload_n 1, 1) := by decide +kernel
theorem dX7_thinksNoMore_3 : decode cX7_thinksNoMore 3 = .ok (.sipush 159, 3) := by decide +kernel
theorem dX7_thinksNoMore_6 : decode cX7_thinksNoMore 6 = .ok (.if_icmp .ge 21, 3) := by decide +kernel
theorem dX7_thinksNoMore_9 : decode cX7_thinksNoMore 9 = .ok (.aload_n 0, 1) := by decide +kernel
theorem dX7_thinksNoMore_10 : decode cX7_thinksNoMore 10 = .ok (.getfield 9, 3) := by decide +kernel
theorem dX7_thinksNoMore_13 : decode cX7_thinksNoMore 13 = .ok (.iload_n 1, 1) := by decide +kernel
theorem dX7_thinksNoMore_14 : decode cX7_thinksNoMore 14 = .ok (.aload_n 0, 1) := by decide +kernel
theorem dX7_thinksNoMore_15 : decode cX7_thinksNoMore 15 = .ok (.getfield 16, 3) := by decide +kernel
theorem dX7_thinksNoMore_18 : decode cX7_thinksNoMore 18 = .ok (.iload_n 1, 1) := by decide +kernel
theorem dX7_thinksNoMore_19 : decode cX7_thinksNoMore 19 = .ok (.iaload, 1) := by decide +kernel
theorem dX7_thinksNoMore_20 : decode cX7_thinksNoMore 20 = .ok (.iastore, 1) := by decide +kernel
theorem dX7_thinksNoMore_21 : decode cX7_thinksNoMore 21 = .ok (.iinc 1 1, 3) := by decide +kernel
theorem dX7_thinksNoMore_24 : decode cX7_thinksNoMore 24 = .ok (.goto (-22), 3) := by decide +kernel
theorem dX7_thinksNoMore_27 : decode cX7_thinksNoMore 27 = .ok (.return_, 1) := by decide +kernel
set_option maxRecDepth 20000 in
theorem ggX7_withNumber_X7_personAt : GoodIn wsX7_withNumber wsX7_personAt := goodIn_rr _ [(5, 1)] rfl (by decide +kernel)
set_option maxRecDepth 20000 in
theorem gX7_withNumber_X7_personAt : GoodIn wsX7_withNumber (va_wsS RX7 64 yX7_personAt wsX7_personAt) := goodIn_app (goodIn_of _ (by decide +kernel)) ggX7_withNumber_X7_personAt
theorem dX7_withNumber_0 : decode cX7_withNumber 0 = .ok (.iconst 0, 1) := by decide +kernel
theorem dX7_withNumber_1 : decode cX7_withNumber 1 = .ok (.istore_n 2, 1) := by decide +kernel
theorem dX7_withNumber_2 : decode cX7_withNumber 2 = .ok (.iload_n 2, 1) := by decide +kernel
theorem dX7_withNumber_3 : decode cX7_withNumber 3 = .ok (.aload_n 0, 1) := by decide +kernel
theorem dX7_withNumber_4 : decode cX7_withNumber 4 = .ok (.getfield 9, 3) := by decide +kernel
theorem dX7_withNumber_7 : decode cX7_withNumber 7 = .ok (.iconst 0, 1) := by decide +kernel
theorem dX7_withNumber_8 : decode cX7_withNumber 8 = .ok (.iaload, 1) := by decide +kernel
theorem dX7_withNumber_9 : decode cX7_withNumber 9 = .ok (.if_icmp .ge 24, 3) := by decide +kernel
theorem dX7_withNumber_12 : decode cX7_withNumber 12 = .ok (.aload_n 0, 1) := by decide +kernel
theorem dX7_withNumber_13 : decode cX7_withNumber 13 = .ok (.getfield 9, 3) := by decide +kernel
theorem dX7_withNumber_16 : decode cX7_withNumber 16 = .ok (.iload_n 2, 1) := by decide +kernel
theorem dX7_withNumber_17 : decode cX7_withNumber 17 = .ok (.invokestatic 64, 3) := by decide +kernel
theorem dX7_withNumber_20 : decode cX7_withNumber 20 = .ok (.iaload, 1) := by decide +kernel
theorem dX7_withNumber_21 : decode cX7_withNumber 21 = .ok (.iload_n 1, 1) := by decide +kernel
theorem dX7_withNumber_22 : decode cX7_withNumber 22 = .ok (.if_icmp .ne 5, 3) := by decide +kernel
theorem dX7_withNumber_25 : decode cX7_withNumber 25 = .ok (.iload_n 2, 1) := by decide +kernel
theorem dX7_withNumber_26 : decode cX7_withNumber 26 = .ok (.ireturn, 1) := by decide +kernel
theorem dX7_withNumber_27 : decode cX7_withNumber 27 = .ok (.iinc 2 1, 3) := by decide +kernel
theorem dX7_withNumber_30 : decode cX7_withNumber 30 = .ok (.goto (-28), 3) := by decide +kernel
theorem dX7_withNumber_33 : decode cX7_withNumber 33 = .ok (.iconst (-1), 1) := by decide +kernel
theorem dX7_withNumber_34 : decode cX7_withNumber 34 = .ok (.ireturn, 1) := by decide +kernel
set_option maxRecDepth 20000 in
theorem ggX7_minutesUntilWindow_X7_isHere : GoodIn wsX7_minutesUntilWindow wsX7_isHere := goodIn_ca (goodIn_rr _ [(7, 1), (2, 1), (8, 2), (6, 1), (10, 1), (89, 21)] rfl (by decide +kernel)) (goodIn_sub (fun _ h => List.mem_cons_of_mem _ (List.mem_append_right _ h)) (by decide +kernel))
set_option maxRecDepth 20000 in
theorem gX7_minutesUntilWindow_X7_isHere : GoodIn wsX7_minutesUntilWindow (wsV RX7 119 RX7 yX7_isHere wsX7_isHere) := goodIn_app (goodIn_of _ (by decide +kernel)) ggX7_minutesUntilWindow_X7_isHere
set_option maxRecDepth 20000 in
theorem ggX7_minutesUntilWindow_X7_throwing : GoodIn wsX7_minutesUntilWindow wsX7_throwing := goodIn_rr _ [(14, 1), (1, 1), (89, 21)] rfl (by decide +kernel)
set_option maxRecDepth 20000 in
theorem gX7_minutesUntilWindow_X7_throwing : GoodIn wsX7_minutesUntilWindow (wsV RX7 83 RX7 yX7_throwing wsX7_throwing) := goodIn_app (goodIn_of _ (by decide +kernel)) ggX7_minutesUntilWindow_X7_throwing
set_option maxRecDepth 20000 in
theorem ggX7_minutesUntilWindow_X7_thinks : GoodIn wsX7_minutesUntilWindow wsX7_thinks := goodIn_ca (goodIn_rr _ [(18, 2), (2, 1), (89, 21)] rfl (by decide +kernel)) (goodIn_sub (fun _ h => List.mem_cons_of_mem _ (List.mem_append_right _ h)) (by decide +kernel))
set_option maxRecDepth 20000 in
theorem gX7_minutesUntilWindow_X7_thinks : GoodIn wsX7_minutesUntilWindow (wsV RX7 188 RX7 yX7_thinks wsX7_thinks) := goodIn_app (goodIn_of _ (by decide +kernel)) ggX7_minutesUntilWindow_X7_thinks
set_option maxRecDepth 20000 in
theorem ggX7_minutesUntilWindow_X7_personAt : GoodIn wsX7_minutesUntilWindow wsX7_personAt := goodIn_rr _ [(22, 1)] rfl (by decide +kernel)
set_option maxRecDepth 20000 in
theorem gX7_minutesUntilWindow_X7_personAt : GoodIn wsX7_minutesUntilWindow (va_wsS RX7 64 yX7_personAt wsX7_personAt) := goodIn_app (goodIn_of _ (by decide +kernel)) ggX7_minutesUntilWindow_X7_personAt
set_option maxRecDepth 20000 in
theorem ggX7_minutesUntilWindow_X7_isAtWindow : GoodIn wsX7_minutesUntilWindow wsX7_isAtWindow := goodIn_ca (goodIn_rr _ [(26, 1), (2, 1), (20, 2), (6, 1), (22, 1), (89, 21)] rfl (by decide +kernel)) (goodIn_sub (fun _ h => List.mem_cons_of_mem _ (List.mem_append_right _ h)) (by decide +kernel))
set_option maxRecDepth 20000 in
theorem gX7_minutesUntilWindow_X7_isAtWindow : GoodIn wsX7_minutesUntilWindow (wsV RX7 122 RX7 yX7_isAtWindow wsX7_isAtWindow) := goodIn_app (goodIn_of _ (by decide +kernel)) ggX7_minutesUntilWindow_X7_isAtWindow
set_option maxRecDepth 20000 in
theorem ggX7_minutesUntilWindow_X7_passes : GoodIn wsX7_minutesUntilWindow wsX7_passes := goodIn_ca (goodIn_rr _ [(30, 1), (2, 1), (31, 3), (6, 1), (34, 16), (20, 3), (50, 31), (89, 21)] rfl (by decide +kernel)) (goodIn_sub (fun _ h => List.mem_cons_of_mem _ (List.mem_append_right _ h)) (by decide +kernel))
set_option maxRecDepth 20000 in
theorem gX7_minutesUntilWindow_X7_passes : GoodIn wsX7_minutesUntilWindow (wsV RX7 170 RX7 yX7_passes wsX7_passes) := goodIn_app (goodIn_of _ (by decide +kernel)) ggX7_minutesUntilWindow_X7_passes
set_option maxRecDepth 20000 in
theorem ggX7_minutesUntilWindow_X7_withNumber : GoodIn wsX7_minutesUntilWindow wsX7_withNumber := goodIn_ca (goodIn_rr _ [(84, 1), (2, 1), (20, 2), (6, 1), (22, 1), (89, 21)] rfl (by decide +kernel)) (goodIn_sub (fun _ h => List.mem_cons_of_mem _ (List.mem_append_right _ h)) (by decide +kernel))
set_option maxRecDepth 20000 in
theorem gX7_minutesUntilWindow_X7_withNumber : GoodIn wsX7_minutesUntilWindow (wsV RX7 191 RX7 yX7_withNumber wsX7_withNumber) := goodIn_app (goodIn_of _ (by decide +kernel)) ggX7_minutesUntilWindow_X7_withNumber
set_option maxRecDepth 20000 in
theorem ggX7_minutesUntilWindow_X7_thinksNoMore : GoodIn wsX7_minutesUntilWindow wsX7_thinksNoMore := goodIn_ca (goodIn_rr _ [(88, 1), (2, 1), (19, 1), (89, 21)] rfl (by decide +kernel)) (goodIn_sub (fun _ h => List.mem_cons_of_mem _ (List.mem_append_right _ h)) (by decide +kernel))
set_option maxRecDepth 20000 in
theorem gX7_minutesUntilWindow_X7_thinksNoMore : GoodIn wsX7_minutesUntilWindow (wsV RX7 194 RX7 yX7_thinksNoMore wsX7_thinksNoMore) := goodIn_app (goodIn_of _ (by decide +kernel)) ggX7_minutesUntilWindow_X7_thinksNoMore
theorem dX7_minutesUntilWindow_0 : decode cX7_minutesUntilWindow 0 = .ok (.aload_n 0, 1) := by decide +kernel
theorem dX7_minutesUntilWindow_1 : decode cX7_minutesUntilWindow 1 = .ok (.iconst 0, 1) := by decide +kernel
theorem dX7_minutesUntilWindow_2 : decode cX7_minutesUntilWindow 2 = .ok (.putfield 52, 3) := by decide +kernel
theorem dX7_minutesUntilWindow_5 : decode cX7_minutesUntilWindow 5 = .ok (.aload_n 0, 1) := by decide +kernel
theorem dX7_minutesUntilWindow_6 : decode cX7_minutesUntilWindow 6 = .ok (.iload_n 1, 1) := by decide +kernel
theorem dX7_minutesUntilWindow_7 : decode cX7_minutesUntilWindow 7 = .ok (.invokevirtual 119, 3) := by decide +kernel
theorem dX7_minutesUntilWindow_10 : decode cX7_minutesUntilWindow 10 = .ok (.ifCond .ne 9, 3) := by decide +kernel
theorem dX7_minutesUntilWindow_13 : decode cX7_minutesUntilWindow 13 = .ok (.aload_n 0, 1) := by decide +kernel
theorem dX7_minutesUntilWindow_14 : decode cX7_minutesUntilWindow 14 = .ok (.iconst 1, 1) := by decide +kernel
theorem dX7_minutesUntilWindow_15 : decode cX7_minutesUntilWindow 15 = .ok (.invokevirtual 83, 3) := by decide +kernel
theorem dX7_minutesUntilWindow_18 : decode cX7_minutesUntilWindow 18 = .ok (.ireturn, 1) := by decide +kernel
theorem dX7_minutesUntilWindow_19 : decode cX7_minutesUntilWindow 19 = .ok (.aload_n 0, 1) := by decide +kernel
theorem dX7_minutesUntilWindow_20 : decode cX7_minutesUntilWindow 20 = .ok (.invokevirtual 188, 3) := by decide +kernel
theorem dX7_minutesUntilWindow_23 : decode cX7_minutesUntilWindow 23 = .ok (.aload_n 0, 1) := by decide +kernel
theorem dX7_minutesUntilWindow_24 : decode cX7_minutesUntilWindow 24 = .ok (.getfield 9, 3) := by decide +kernel
theorem dX7_minutesUntilWindow_27 : decode cX7_minutesUntilWindow 27 = .ok (.iload_n 1, 1) := by decide +kernel
theorem dX7_minutesUntilWindow_28 : decode cX7_minutesUntilWindow 28 = .ok (.invokestatic 64, 3) := by decide +kernel
theorem dX7_minutesUntilWindow_31 : decode cX7_minutesUntilWindow 31 = .ok (.iaload, 1) := by decide +kernel
theorem dX7_minutesUntilWindow_32 : decode cX7_minutesUntilWindow 32 = .ok (.istore_n 2, 1) := by decide +kernel
theorem dX7_minutesUntilWindow_33 : decode cX7_minutesUntilWindow 33 = .ok (.iload_n 1, 1) := by decide +kernel
theorem dX7_minutesUntilWindow_34 : decode cX7_minutesUntilWindow 34 = .ok (.istore_n 3, 1) := by decide +kernel
theorem dX7_minutesUntilWindow_35 : decode cX7_minutesUntilWindow 35 = .ok (.iconst 0, 1) := by decide +kernel
theorem dX7_minutesUntilWindow_36 : decode cX7_minutesUntilWindow 36 = .ok (.istore 4, 2) := by decide +kernel
theorem dX7_minutesUntilWindow_38 : decode cX7_minutesUntilWindow 38 = .ok (.iload_n 3, 1) := by decide +kernel
theorem dX7_minutesUntilWindow_39 : decode cX7_minutesUntilWindow 39 = .ok (.iconst (-1), 1) := by decide +kernel
theorem dX7_minutesUntilWindow_40 : decode cX7_minutesUntilWindow 40 = .ok (.if_icmp .eq 34, 3) := by decide +kernel
theorem dX7_minutesUntilWindow_43 : decode cX7_minutesUntilWindow 43 = .ok (.aload_n 0, 1) := by decide +kernel
theorem dX7_minutesUntilWindow_44 : decode cX7_minutesUntilWindow 44 = .ok (.iload_n 3, 1) := by decide +kernel
theorem dX7_minutesUntilWindow_45 : decode cX7_minutesUntilWindow 45 = .ok (.invokevirtual 122, 3) := by decide +kernel
theorem dX7_minutesUntilWindow_48 : decode cX7_minutesUntilWindow 48 = .ok (.ifCond .ne 26, 3) := by decide +kernel
theorem dX7_minutesUntilWindow_51 : decode cX7_minutesUntilWindow 51 = .ok (.iload 4, 2) := by decide +kernel
theorem dX7_minutesUntilWindow_53 : decode cX7_minutesUntilWindow 53 = .ok (.bipush 60, 2) := by decide +kernel
theorem dX7_minutesUntilWindow_55 : decode cX7_minutesUntilWindow 55 = .ok (.if_icmp .ge 19, 3) := by decide +kernel
theorem dX7_minutesUntilWindow_58 : decode cX7_minutesUntilWindow 58 = .ok (.aload_n 0, 1) := by decide +kernel
theorem dX7_minutesUntilWindow_59 : decode cX7_minutesUntilWindow 59 = .ok (.invokevirtual 170, 3) := by decide +kernel
theorem dX7_minutesUntilWindow_62 : decode cX7_minutesUntilWindow 62 = .ok (.iinc 4 1, 3) := by decide +kernel
theorem dX7_minutesUntilWindow_65 : decode cX7_minutesUntilWindow 65 = .ok (.aload_n 0, 1) := by decide +kernel
theorem dX7_minutesUntilWindow_66 : decode cX7_minutesUntilWindow 66 = .ok (.iload_n 2, 1) := by decide +kernel
theorem dX7_minutesUntilWindow_67 : decode cX7_minutesUntilWindow 67 = .ok (.invokevirtual 191, 3) := by decide +kernel
theorem dX7_minutesUntilWindow_70 : decode cX7_minutesUntilWindow 70 = .ok (.istore_n 3, 1) := by decide +kernel
theorem dX7_minutesUntilWindow_71 : decode cX7_minutesUntilWindow 71 = .ok (.goto (-33), 3) := by decide +kernel
theorem dX7_minutesUntilWindow_74 : decode cX7_minutesUntilWindow 74 = .ok (.iload_n 3, 1) := by decide +kernel
theorem dX7_minutesUntilWindow_75 : decode cX7_minutesUntilWindow 75 = .ok (.iconst (-1), 1) := by decide +kernel
theorem dX7_minutesUntilWindow_76 : decode cX7_minutesUntilWindow 76 = .ok (.if_icmp .eq 15, 3) := by decide +kernel
theorem dX7_minutesUntilWindow_79 : decode cX7_minutesUntilWindow 79 = .ok (.aload_n 0, 1) := by decide +kernel
theorem dX7_minutesUntilWindow_80 : decode cX7_minutesUntilWindow 80 = .ok (.iload_n 3, 1) := by decide +kernel
theorem dX7_minutesUntilWindow_81 : decode cX7_minutesUntilWindow 81 = .ok (.invokevirtual 122, 3) := by decide +kernel
theorem dX7_minutesUntilWindow_84 : decode cX7_minutesUntilWindow 84 = .ok (.ifCond .eq 7, 3) := by decide +kernel
theorem dX7_minutesUntilWindow_87 : decode cX7_minutesUntilWindow 87 = .ok (.iconst 1, 1) := by decide +kernel
theorem dX7_minutesUntilWindow_88 : decode cX7_minutesUntilWindow 88 = .ok (.goto 4, 3) := by decide +kernel
theorem dX7_minutesUntilWindow_91 : decode cX7_minutesUntilWindow 91 = .ok (.iconst 0, 1) := by decide +kernel
theorem dX7_minutesUntilWindow_92 : decode cX7_minutesUntilWindow 92 = .ok (.istore 5, 2) := by decide +kernel
theorem dX7_minutesUntilWindow_94 : decode cX7_minutesUntilWindow 94 = .ok (.aload_n 0, 1) := by decide +kernel
theorem dX7_minutesUntilWindow_95 : decode cX7_minutesUntilWindow 95 = .ok (.invokevirtual 194, 3) := by decide +kernel
theorem dX7_minutesUntilWindow_98 : decode cX7_minutesUntilWindow 98 = .ok (.iload 5, 2) := by decide +kernel
theorem dX7_minutesUntilWindow_100 : decode cX7_minutesUntilWindow 100 = .ok (.ifCond .eq 8, 3) := by decide +kernel
theorem dX7_minutesUntilWindow_103 : decode cX7_minutesUntilWindow 103 = .ok (.iload 4, 2) := by decide +kernel
theorem dX7_minutesUntilWindow_105 : decode cX7_minutesUntilWindow 105 = .ok (.goto 8, 3) := by decide +kernel
theorem dX7_minutesUntilWindow_108 : decode cX7_minutesUntilWindow 108 = .ok (.aload_n 0, 1) := by decide +kernel
theorem dX7_minutesUntilWindow_109 : decode cX7_minutesUntilWindow 109 = .ok (.iconst 2, 1) := by decide +kernel
theorem dX7_minutesUntilWindow_110 : decode cX7_minutesUntilWindow 110 = .ok (.invokevirtual 83, 3) := by decide +kernel
theorem dX7_minutesUntilWindow_113 : decode cX7_minutesUntilWindow 113 = .ok (.ireturn, 1) := by decide +kernel
set_option maxRecDepth 20000 in
theorem ggX7_patienceAfter_X7_isHere : GoodIn wsX7_patienceAfter wsX7_isHere := goodIn_ca (goodIn_rr _ [(8, 1), (3, 1), (9, 2), (7, 1), (11, 1), (86, 21)] rfl (by decide +kernel)) (goodIn_sub (fun _ h => List.mem_cons_of_mem _ (List.mem_append_right _ h)) (by decide +kernel))
set_option maxRecDepth 20000 in
theorem gX7_patienceAfter_X7_isHere : GoodIn wsX7_patienceAfter (wsV RX7 119 RX7 yX7_isHere wsX7_isHere) := goodIn_app (goodIn_of _ (by decide +kernel)) ggX7_patienceAfter_X7_isHere
set_option maxRecDepth 20000 in
theorem ggX7_patienceAfter_X7_throwing : GoodIn wsX7_patienceAfter wsX7_throwing := goodIn_rr _ [(15, 1), (1, 1), (86, 21)] rfl (by decide +kernel)
set_option maxRecDepth 20000 in
theorem gX7_patienceAfter_X7_throwing : GoodIn wsX7_patienceAfter (wsV RX7 83 RX7 yX7_throwing wsX7_throwing) := goodIn_app (goodIn_of _ (by decide +kernel)) ggX7_patienceAfter_X7_throwing
set_option maxRecDepth 20000 in
theorem ggX7_patienceAfter_X7_in : GoodIn wsX7_patienceAfter wsX7_in := goodIn_rr _ [(11, 1)] rfl (by decide +kernel)
set_option maxRecDepth 20000 in
theorem gX7_patienceAfter_X7_in : GoodIn wsX7_patienceAfter (va_wsS RX7 60 yX7_in wsX7_in) := goodIn_app (goodIn_of _ (by decide +kernel)) ggX7_patienceAfter_X7_in
set_option maxRecDepth 20000 in
theorem ggX7_patienceAfter_X7_thinks : GoodIn wsX7_patienceAfter wsX7_thinks := goodIn_ca (goodIn_rr _ [(19, 2), (3, 1), (86, 21)] rfl (by decide +kernel)) (goodIn_sub (fun _ h => List.mem_cons_of_mem _ (List.mem_append_right _ h)) (by decide +kernel))
set_option maxRecDepth 20000 in
theorem gX7_patienceAfter_X7_thinks : GoodIn wsX7_patienceAfter (wsV RX7 188 RX7 yX7_thinks wsX7_thinks) := goodIn_app (goodIn_of _ (by decide +kernel)) ggX7_patienceAfter_X7_thinks
set_option maxRecDepth 20000 in
theorem ggX7_patienceAfter_X7_personAt : GoodIn wsX7_patienceAfter wsX7_personAt := goodIn_rr _ [(23, 1)] rfl (by decide +kernel)
set_option maxRecDepth 20000 in
theorem gX7_patienceAfter_X7_personAt : GoodIn wsX7_patienceAfter (va_wsS RX7 64 yX7_personAt wsX7_personAt) := goodIn_app (goodIn_of _ (by decide +kernel)) ggX7_patienceAfter_X7_personAt
set_option maxRecDepth 20000 in
theorem ggX7_patienceAfter_X7_passes : GoodIn wsX7_patienceAfter wsX7_passes := goodIn_ca (goodIn_rr _ [(27, 1), (3, 1), (28, 3), (7, 1), (31, 16), (21, 3), (47, 31), (86, 21)] rfl (by decide +kernel)) (goodIn_sub (fun _ h => List.mem_cons_of_mem _ (List.mem_append_right _ h)) (by decide +kernel))
set_option maxRecDepth 20000 in
theorem gX7_patienceAfter_X7_passes : GoodIn wsX7_patienceAfter (wsV RX7 170 RX7 yX7_passes wsX7_passes) := goodIn_app (goodIn_of _ (by decide +kernel)) ggX7_patienceAfter_X7_passes
set_option maxRecDepth 20000 in
theorem ggX7_patienceAfter_X7_withNumber : GoodIn wsX7_patienceAfter wsX7_withNumber := goodIn_ca (goodIn_rr _ [(81, 1), (3, 1), (21, 2), (7, 1), (23, 1), (86, 21)] rfl (by decide +kernel)) (goodIn_sub (fun _ h => List.mem_cons_of_mem _ (List.mem_append_right _ h)) (by decide +kernel))
set_option maxRecDepth 20000 in
theorem gX7_patienceAfter_X7_withNumber : GoodIn wsX7_patienceAfter (wsV RX7 191 RX7 yX7_withNumber wsX7_withNumber) := goodIn_app (goodIn_of _ (by decide +kernel)) ggX7_patienceAfter_X7_withNumber
set_option maxRecDepth 20000 in
theorem ggX7_patienceAfter_X7_thinksNoMore : GoodIn wsX7_patienceAfter wsX7_thinksNoMore := goodIn_ca (goodIn_rr _ [(85, 1), (3, 1), (20, 1), (86, 21)] rfl (by decide +kernel)) (goodIn_sub (fun _ h => List.mem_cons_of_mem _ (List.mem_append_right _ h)) (by decide +kernel))
set_option maxRecDepth 20000 in
theorem gX7_patienceAfter_X7_thinksNoMore : GoodIn wsX7_patienceAfter (wsV RX7 194 RX7 yX7_thinksNoMore wsX7_thinksNoMore) := goodIn_app (goodIn_of _ (by decide +kernel)) ggX7_patienceAfter_X7_thinksNoMore
theorem dX7_patienceAfter_0 : decode cX7_patienceAfter 0 = .ok (.aload_n 0, 1) := by decide +kernel
theorem dX7_patienceAfter_1 : decode cX7_patienceAfter 1 = .ok (.iconst 0, 1) := by decide +kernel
theorem dX7_patienceAfter_2 : decode cX7_patienceAfter 2 = .ok (.putfield 52, 3) := by decide +kernel
theorem dX7_patienceAfter_5 : decode cX7_patienceAfter 5 = .ok (.aload_n 0, 1) := by decide +kernel
theorem dX7_patienceAfter_6 : decode cX7_patienceAfter 6 = .ok (.iload_n 1, 1) := by decide +kernel
theorem dX7_patienceAfter_7 : decode cX7_patienceAfter 7 = .ok (.invokevirtual 119, 3) := by decide +kernel
theorem dX7_patienceAfter_10 : decode cX7_patienceAfter 10 = .ok (.ifCond .ne 9, 3) := by decide +kernel
theorem dX7_patienceAfter_13 : decode cX7_patienceAfter 13 = .ok (.aload_n 0, 1) := by decide +kernel
theorem dX7_patienceAfter_14 : decode cX7_patienceAfter 14 = .ok (.iconst 1, 1) := by decide +kernel
theorem dX7_patienceAfter_15 : decode cX7_patienceAfter 15 = .ok (.invokevirtual 83, 3) := by decide +kernel
theorem dX7_patienceAfter_18 : decode cX7_patienceAfter 18 = .ok (.ireturn, 1) := by decide +kernel
theorem dX7_patienceAfter_19 : decode cX7_patienceAfter 19 = .ok (.iload_n 2, 1) := by decide +kernel
theorem dX7_patienceAfter_20 : decode cX7_patienceAfter 20 = .ok (.i2l, 1) := by decide +kernel
theorem dX7_patienceAfter_21 : decode cX7_patienceAfter 21 = .ok (.lconst 0, 1) := by decide +kernel
theorem dX7_patienceAfter_22 : decode cX7_patienceAfter 22 = .ok (.ldc2_w 197, 3) := by decide +kernel
theorem dX7_patienceAfter_25 : decode cX7_patienceAfter 25 = .ok (.invokestatic 60, 3) := by decide +kernel
theorem dX7_patienceAfter_28 : decode cX7_patienceAfter 28 = .ok (.ifCond .ne 9, 3) := by decide +kernel
theorem dX7_patienceAfter_31 : decode cX7_patienceAfter 31 = .ok (.aload_n 0, 1) := by decide +kernel
theorem dX7_patienceAfter_32 : decode cX7_patienceAfter 32 = .ok (.iconst 2, 1) := by decide +kernel
theorem dX7_patienceAfter_33 : decode cX7_patienceAfter 33 = .ok (.invokevirtual 83, 3) := by decide +kernel
theorem dX7_patienceAfter_36 : decode cX7_patienceAfter 36 = .ok (.ireturn, 1) := by decide +kernel
theorem dX7_patienceAfter_37 : decode cX7_patienceAfter 37 = .ok (.aload_n 0, 1) := by decide +kernel
theorem dX7_patienceAfter_38 : decode cX7_patienceAfter 38 = .ok (.invokevirtual 188, 3) := by decide +kernel
theorem dX7_patienceAfter_41 : decode cX7_patienceAfter 41 = .ok (.aload_n 0, 1) := by decide +kernel
theorem dX7_patienceAfter_42 : decode cX7_patienceAfter 42 = .ok (.getfield 9, 3) := by decide +kernel
theorem dX7_patienceAfter_45 : decode cX7_patienceAfter 45 = .ok (.iload_n 1, 1) := by decide +kernel
theorem dX7_patienceAfter_46 : decode cX7_patienceAfter 46 = .ok (.invokestatic 64, 3) := by decide +kernel
theorem dX7_patienceAfter_49 : decode cX7_patienceAfter 49 = .ok (.iaload, 1) := by decide +kernel
theorem dX7_patienceAfter_50 : decode cX7_patienceAfter 50 = .ok (.istore_n 3, 1) := by decide +kernel
theorem dX7_patienceAfter_51 : decode cX7_patienceAfter 51 = .ok (.iconst 0, 1) := by decide +kernel
theorem dX7_patienceAfter_52 : decode cX7_patienceAfter 52 = .ok (.istore 4, 2) := by decide +kernel
theorem dX7_patienceAfter_54 : decode cX7_patienceAfter 54 = .ok (.iload 4, 2) := by decide +kernel
theorem dX7_patienceAfter_56 : decode cX7_patienceAfter 56 = .ok (.iload_n 2, 1) := by decide +kernel
theorem dX7_patienceAfter_57 : decode cX7_patienceAfter 57 = .ok (.if_icmp .ge 13, 3) := by decide +kernel
theorem dX7_patienceAfter_60 : decode cX7_patienceAfter 60 = .ok (.aload_n 0, 1) := by decide +kernel
theorem dX7_patienceAfter_61 : decode cX7_patienceAfter 61 = .ok (.invokevirtual 170, 3) := by decide +kernel
theorem dX7_patienceAfter_64 : decode cX7_patienceAfter 64 = .ok (.iinc 4 1, 3) := by decide +kernel
theorem dX7_patienceAfter_67 : decode cX7_patienceAfter 67 = .ok (.goto (-13), 3) := by decide +kernel
theorem dX7_patienceAfter_70 : decode cX7_patienceAfter 70 = .ok (.aload_n 0, 1) := by decide +kernel
theorem dX7_patienceAfter_71 : decode cX7_patienceAfter 71 = .ok (.iload_n 3, 1) := by decide +kernel
theorem dX7_patienceAfter_72 : decode cX7_patienceAfter 72 = .ok (.invokevirtual 191, 3) := by decide +kernel
theorem dX7_patienceAfter_75 : decode cX7_patienceAfter 75 = .ok (.istore 4, 2) := by decide +kernel
theorem dX7_patienceAfter_77 : decode cX7_patienceAfter 77 = .ok (.iload 4, 2) := by decide +kernel
theorem dX7_patienceAfter_79 : decode cX7_patienceAfter 79 = .ok (.iconst (-1), 1) := by decide +kernel
theorem dX7_patienceAfter_80 : decode cX7_patienceAfter 80 = .ok (.if_icmp .ne 7, 3) := by decide +kernel
theorem dX7_patienceAfter_83 : decode cX7_patienceAfter 83 = .ok (.iconst (-1), 1) := by decide +kernel
theorem dX7_patienceAfter_84 : decode cX7_patienceAfter 84 = .ok (.goto 15, 3) := by decide +kernel
theorem dX7_patienceAfter_87 : decode cX7_patienceAfter 87 = .ok (.aload_n 0, 1) := by decide +kernel
theorem dX7_patienceAfter_88 : decode cX7_patienceAfter 88 = .ok (.getfield 9, 3) := by decide +kernel
theorem dX7_patienceAfter_91 : decode cX7_patienceAfter 91 = .ok (.iload 4, 2) := by decide +kernel
theorem dX7_patienceAfter_93 : decode cX7_patienceAfter 93 = .ok (.invokestatic 64, 3) := by decide +kernel
theorem dX7_patienceAfter_96 : decode cX7_patienceAfter 96 = .ok (.iconst 1, 1) := by decide +kernel
theorem dX7_patienceAfter_97 : decode cX7_patienceAfter 97 = .ok (.iadd, 1) := by decide +kernel
theorem dX7_patienceAfter_98 : decode cX7_patienceAfter 98 = .ok (.iaload, 1) := by decide +kernel
theorem dX7_patienceAfter_99 : decode cX7_patienceAfter 99 = .ok (.istore 5, 2) := by decide +kernel
theorem dX7_patienceAfter_101 : decode cX7_patienceAfter 101 = .ok (.aload_n 0, 1) := by decide +kernel
theorem dX7_patienceAfter_102 : decode cX7_patienceAfter 102 = .ok (.invokevirtual 194, 3) := by decide +kernel
theorem dX7_patienceAfter_105 : decode cX7_patienceAfter 105 = .ok (.iload 4, 2) := by decide +kernel
theorem dX7_patienceAfter_107 : decode cX7_patienceAfter 107 = .ok (.iconst (-1), 1) := by decide +kernel
theorem dX7_patienceAfter_108 : decode cX7_patienceAfter 108 = .ok (.if_icmp .ne 11, 3) := by decide +kernel
theorem dX7_patienceAfter_111 : decode cX7_patienceAfter 111 = .ok (.aload_n 0, 1) := by decide +kernel
theorem dX7_patienceAfter_112 : decode cX7_patienceAfter 112 = .ok (.iconst 3, 1) := by decide +kernel
theorem dX7_patienceAfter_113 : decode cX7_patienceAfter 113 = .ok (.invokevirtual 83, 3) := by decide +kernel
theorem dX7_patienceAfter_116 : decode cX7_patienceAfter 116 = .ok (.goto 5, 3) := by decide +kernel
theorem dX7_patienceAfter_119 : decode cX7_patienceAfter 119 = .ok (.iload 5, 2) := by decide +kernel
theorem dX7_patienceAfter_121 : decode cX7_patienceAfter 121 = .ok (.ireturn, 1) := by decide +kernel
set_option maxRecDepth 20000 in
theorem ggX7_sighsWithin_X7_in : GoodIn wsX7_sighsWithin wsX7_in := goodIn_rr _ [(7, 1)] rfl (by decide +kernel)
set_option maxRecDepth 20000 in
theorem gX7_sighsWithin_X7_in : GoodIn wsX7_sighsWithin (va_wsS RX7 60 yX7_in wsX7_in) := goodIn_app (goodIn_of _ (by decide +kernel)) ggX7_sighsWithin_X7_in
set_option maxRecDepth 20000 in
theorem ggX7_sighsWithin_X7_throwing : GoodIn wsX7_sighsWithin wsX7_throwing := goodIn_rr _ [(11, 1), (1, 1), (78, 21)] rfl (by decide +kernel)
set_option maxRecDepth 20000 in
theorem gX7_sighsWithin_X7_throwing : GoodIn wsX7_sighsWithin (wsV RX7 83 RX7 yX7_throwing wsX7_throwing) := goodIn_app (goodIn_of _ (by decide +kernel)) ggX7_sighsWithin_X7_throwing
set_option maxRecDepth 20000 in
theorem ggX7_sighsWithin_X7_thinks : GoodIn wsX7_sighsWithin wsX7_thinks := goodIn_ca (goodIn_rr _ [(15, 2), (3, 1), (78, 21)] rfl (by decide +kernel)) (goodIn_sub (fun _ h => List.mem_cons_of_mem _ (List.mem_append_right _ h)) (by decide +kernel))
set_option maxRecDepth 20000 in
theorem gX7_sighsWithin_X7_thinks : GoodIn wsX7_sighsWithin (wsV RX7 188 RX7 yX7_thinks wsX7_thinks) := goodIn_app (goodIn_of _ (by decide +kernel)) ggX7_sighsWithin_X7_thinks
set_option maxRecDepth 20000 in
theorem ggX7_sighsWithin_X7_passes : GoodIn wsX7_sighsWithin wsX7_passes := goodIn_ca (goodIn_rr _ [(20, 1), (3, 1), (21, 3), (6, 1), (24, 50), (78, 21)] rfl (by decide +kernel)) (goodIn_sub (fun _ h => List.mem_cons_of_mem _ (List.mem_append_right _ h)) (by decide +kernel))
set_option maxRecDepth 20000 in
theorem gX7_sighsWithin_X7_passes : GoodIn wsX7_sighsWithin (wsV RX7 170 RX7 yX7_passes wsX7_passes) := goodIn_app (goodIn_of _ (by decide +kernel)) ggX7_sighsWithin_X7_passes
set_option maxRecDepth 20000 in
theorem ggX7_sighsWithin_X7_thinksNoMore : GoodIn wsX7_sighsWithin wsX7_thinksNoMore := goodIn_ca (goodIn_rr _ [(77, 1), (3, 1), (16, 1), (78, 21)] rfl (by decide +kernel)) (goodIn_sub (fun _ h => List.mem_cons_of_mem _ (List.mem_append_right _ h)) (by decide +kernel))
set_option maxRecDepth 20000 in
theorem gX7_sighsWithin_X7_thinksNoMore : GoodIn wsX7_sighsWithin (wsV RX7 194 RX7 yX7_thinksNoMore wsX7_thinksNoMore) := goodIn_app (goodIn_of _ (by decide +kernel)) ggX7_sighsWithin_X7_thinksNoMore
theorem dX7_sighsWithin_0 : decode cX7_sighsWithin 0 = .ok (.aload_n 0, 1) := by decide +kernel
theorem dX7_sighsWithin_1 : decode cX7_sighsWithin 1 = .ok (.iconst 0, 1) := by decide +kernel
theorem dX7_sighsWithin_2 : decode cX7_sighsWithin 2 = .ok (.putfield 52, 3) := by decide +kernel
theorem dX7_sighsWithin_5 : decode cX7_sighsWithin 5 = .ok (.iload_n 1, 1) := by decide +kernel
theorem dX7_sighsWithin_6 : decode cX7_sighsWithin 6 = .ok (.i2l, 1) := by decide +kernel
theorem dX7_sighsWithin_7 : decode cX7_sighsWithin 7 = .ok (.lconst 0, 1) := by decide +kernel
theorem dX7_sighsWithin_8 : decode cX7_sighsWithin 8 = .ok (.ldc2_w 197, 3) := by decide +kernel
theorem dX7_sighsWithin_11 : decode cX7_sighsWithin 11 = .ok (.invokestatic 60, 3) := by decide +kernel
theorem dX7_sighsWithin_14 : decode cX7_sighsWithin 14 = .ok (.ifCond .ne 9, 3) := by decide +kernel
theorem dX7_sighsWithin_17 : decode cX7_sighsWithin 17 = .ok (.aload_n 0, 1) := by decide +kernel
theorem dX7_sighsWithin_18 : decode cX7_sighsWithin 18 = .ok (.iconst 1, 1) := by decide +kernel
theorem dX7_sighsWithin_19 : decode cX7_sighsWithin 19 = .ok (.invokevirtual 83, 3) := by decide +kernel
theorem dX7_sighsWithin_22 : decode cX7_sighsWithin 22 = .ok (.ireturn, 1) := by decide +kernel
theorem dX7_sighsWithin_23 : decode cX7_sighsWithin 23 = .ok (.aload_n 0, 1) := by decide +kernel
theorem dX7_sighsWithin_24 : decode cX7_sighsWithin 24 = .ok (.invokevirtual 188, 3) := by decide +kernel
theorem dX7_sighsWithin_27 : decode cX7_sighsWithin 27 = .ok (.aload_n 0, 1) := by decide +kernel
theorem dX7_sighsWithin_28 : decode cX7_sighsWithin 28 = .ok (.getfield 9, 3) := by decide +kernel
theorem dX7_sighsWithin_31 : decode cX7_sighsWithin 31 = .ok (.bipush 6, 2) := by decide +kernel
theorem dX7_sighsWithin_33 : decode cX7_sighsWithin 33 = .ok (.iaload, 1) := by decide +kernel
theorem dX7_sighsWithin_34 : decode cX7_sighsWithin 34 = .ok (.istore_n 2, 1) := by decide +kernel
theorem dX7_sighsWithin_35 : decode cX7_sighsWithin 35 = .ok (.iconst 0, 1) := by decide +kernel
theorem dX7_sighsWithin_36 : decode cX7_sighsWithin 36 = .ok (.istore_n 3, 1) := by decide +kernel
theorem dX7_sighsWithin_37 : decode cX7_sighsWithin 37 = .ok (.iload_n 3, 1) := by decide +kernel
theorem dX7_sighsWithin_38 : decode cX7_sighsWithin 38 = .ok (.iload_n 1, 1) := by decide +kernel
theorem dX7_sighsWithin_39 : decode cX7_sighsWithin 39 = .ok (.if_icmp .ge 13, 3) := by decide +kernel
theorem dX7_sighsWithin_42 : decode cX7_sighsWithin 42 = .ok (.aload_n 0, 1) := by decide +kernel
theorem dX7_sighsWithin_43 : decode cX7_sighsWithin 43 = .ok (.invokevirtual 170, 3) := by decide +kernel
theorem dX7_sighsWithin_46 : decode cX7_sighsWithin 46 = .ok (.iinc 3 1, 3) := by decide +kernel
theorem dX7_sighsWithin_49 : decode cX7_sighsWithin 49 = .ok (.goto (-12), 3) := by decide +kernel
theorem dX7_sighsWithin_52 : decode cX7_sighsWithin 52 = .ok (.aload_n 0, 1) := by decide +kernel
theorem dX7_sighsWithin_53 : decode cX7_sighsWithin 53 = .ok (.getfield 9, 3) := by decide +kernel
theorem dX7_sighsWithin_56 : decode cX7_sighsWithin 56 = .ok (.bipush 6, 2) := by decide +kernel
theorem dX7_sighsWithin_58 : decode cX7_sighsWithin 58 = .ok (.iaload, 1) := by decide +kernel
theorem dX7_sighsWithin_59 : decode cX7_sighsWithin 59 = .ok (.iload_n 2, 1) := by decide +kernel
theorem dX7_sighsWithin_60 : decode cX7_sighsWithin 60 = .ok (.isub, 1) := by decide +kernel
theorem dX7_sighsWithin_61 : decode cX7_sighsWithin 61 = .ok (.istore_n 3, 1) := by decide +kernel
theorem dX7_sighsWithin_62 : decode cX7_sighsWithin 62 = .ok (.aload_n 0, 1) := by decide +kernel
theorem dX7_sighsWithin_63 : decode cX7_sighsWithin 63 = .ok (.invokevirtual 194, 3) := by decide +kernel
theorem dX7_sighsWithin_66 : decode cX7_sighsWithin 66 = .ok (.iload_n 3, 1) := by decide +kernel
theorem dX7_sighsWithin_67 : decode cX7_sighsWithin 67 = .ok (.ireturn, 1) := by decide +kernel
set_option maxRecDepth 20000 in
theorem ggX7_servedTicket_X7_in : GoodIn wsX7_servedTicket wsX7_in := goodIn_rr _ [(6, 1)] rfl (by decide +kernel)
set_option maxRecDepth 20000 in
theorem gX7_servedTicket_X7_in : GoodIn wsX7_servedTicket (va_wsS RX7 60 yX7_in wsX7_in) := goodIn_app (goodIn_of _ (by decide +kernel)) ggX7_servedTicket_X7_in
set_option maxRecDepth 20000 in
theorem ggX7_servedTicket_X7_throwing : GoodIn wsX7_servedTicket wsX7_throwing := goodIn_rr _ [(10, 1), (1, 1), (11, 21)] rfl (by decide +kernel)
set_option maxRecDepth 20000 in
theorem gX7_servedTicket_X7_throwing : GoodIn wsX7_servedTicket (wsV RX7 83 RX7 yX7_throwing wsX7_throwing) := goodIn_app (goodIn_of _ (by decide +kernel)) ggX7_servedTicket_X7_throwing
theorem dX7_servedTicket_0 : decode cX7_servedTicket 0 = .ok (.aload_n 0, 1) := by decide +kernel
theorem dX7_servedTicket_1 : decode cX7_servedTicket 1 = .ok (.iconst 0, 1) := by decide +kernel
theorem dX7_servedTicket_2 : decode cX7_servedTicket 2 = .ok (.putfield 52, 3) := by decide +kernel
theorem dX7_servedTicket_5 : decode cX7_servedTicket 5 = .ok (.iload_n 1, 1) := by decide +kernel
theorem dX7_servedTicket_6 : decode cX7_servedTicket 6 = .ok (.i2l, 1) := by decide +kernel
theorem dX7_servedTicket_7 : decode cX7_servedTicket 7 = .ok (.lconst 0, 1) := by decide +kernel
theorem dX7_servedTicket_8 : decode cX7_servedTicket 8 = .ok (.aload_n 0, 1) := by decide +kernel
theorem dX7_servedTicket_9 : decode cX7_servedTicket 9 = .ok (.getfield 9, 3) := by decide +kernel
theorem dX7_servedTicket_12 : decode cX7_servedTicket 12 = .ok (.bipush 10, 2) := by decide +kernel
theorem dX7_servedTicket_14 : decode cX7_servedTicket 14 = .ok (.iaload, 1) := by decide +kernel
theorem dX7_servedTicket_15 : decode cX7_servedTicket 15 = .ok (.iconst 1, 1) := by decide +kernel
theorem dX7_servedTicket_16 : decode cX7_servedTicket 16 = .ok (.isub, 1) := by decide +kernel
theorem dX7_servedTicket_17 : decode cX7_servedTicket 17 = .ok (.i2l, 1) := by decide +kernel
theorem dX7_servedTicket_18 : decode cX7_servedTicket 18 = .ok (.invokestatic 60, 3) := by decide +kernel
theorem dX7_servedTicket_21 : decode cX7_servedTicket 21 = .ok (.ifCond .eq 18, 3) := by decide +kernel
theorem dX7_servedTicket_24 : decode cX7_servedTicket 24 = .ok (.aload_n 0, 1) := by decide +kernel
theorem dX7_servedTicket_25 : decode cX7_servedTicket 25 = .ok (.getfield 9, 3) := by decide +kernel
theorem dX7_servedTicket_28 : decode cX7_servedTicket 28 = .ok (.sipush 135, 3) := by decide +kernel
theorem dX7_servedTicket_31 : decode cX7_servedTicket 31 = .ok (.iconst 4, 1) := by decide +kernel
theorem dX7_servedTicket_32 : decode cX7_servedTicket 32 = .ok (.iload_n 1, 1) := by decide +kernel
theorem dX7_servedTicket_33 : decode cX7_servedTicket 33 = .ok (.imul, 1) := by decide +kernel
theorem dX7_servedTicket_34 : decode cX7_servedTicket 34 = .ok (.iadd, 1) := by decide +kernel
theorem dX7_servedTicket_35 : decode cX7_servedTicket 35 = .ok (.iaload, 1) := by decide +kernel
theorem dX7_servedTicket_36 : decode cX7_servedTicket 36 = .ok (.goto 8, 3) := by decide +kernel
theorem dX7_servedTicket_39 : decode cX7_servedTicket 39 = .ok (.aload_n 0, 1) := by decide +kernel
theorem dX7_servedTicket_40 : decode cX7_servedTicket 40 = .ok (.iconst 1, 1) := by decide +kernel
theorem dX7_servedTicket_41 : decode cX7_servedTicket 41 = .ok (.invokevirtual 83, 3) := by decide +kernel
theorem dX7_servedTicket_44 : decode cX7_servedTicket 44 = .ok (.ireturn, 1) := by decide +kernel
set_option maxRecDepth 20000 in
theorem ggX7_servedWaitingTime_X7_in : GoodIn wsX7_servedWaitingTime wsX7_in := goodIn_rr _ [(6, 1)] rfl (by decide +kernel)
set_option maxRecDepth 20000 in
theorem gX7_servedWaitingTime_X7_in : GoodIn wsX7_servedWaitingTime (va_wsS RX7 60 yX7_in wsX7_in) := goodIn_app (goodIn_of _ (by decide +kernel)) ggX7_servedWaitingTime_X7_in
set_option maxRecDepth 20000 in
theorem ggX7_servedWaitingTime_X7_throwing : GoodIn wsX7_servedWaitingTime wsX7_throwing := goodIn_rr _ [(10, 1), (1, 1), (11, 21)] rfl (by decide +kernel)
set_option maxRecDepth 20000 in
theorem gX7_servedWaitingTime_X7_throwing : GoodIn wsX7_servedWaitingTime (wsV RX7 83 RX7 yX7_throwing wsX7_throwing) := goodIn_app (goodIn_of _ (by decide +kernel)) ggX7_servedWaitingTime_X7_throwing
theorem dX7_servedWaitingTime_0 : decode cX7_servedWaitingTime 0 = .ok (.aload_n 0, 1) := by decide +kernel
theorem dX7_servedWaitingTime_1 : decode cX7_servedWaitingTime 1 = .ok (.iconst 0, 1) := by decide +kernel
theorem dX7_servedWaitingTime_2 : decode cX7_servedWaitingTime 2 = .ok (.putfield 52, 3) := by decide +kernel
theorem dX7_servedWaitingTime_5 : decode cX7_servedWaitingTime 5 = .ok (.iload_n 1, 1) := by decide +kernel
theorem dX7_servedWaitingTime_6 : decode cX7_servedWaitingTime 6 = .ok (.i2l, 1) := by decide +kernel
theorem dX7_servedWaitingTime_7 : decode cX7_servedWaitingTime 7 = .ok (.lconst 0, 1) := by decide +kernel
theorem dX7_servedWaitingTime_8 : decode cX7_servedWaitingTime 8 = .ok (.aload_n 0, 1) := by decide +kernel
theorem dX7_servedWaitingTime_9 : decode cX7_servedWaitingTime 9 = .ok (.getfield 9, 3) := by decide +kernel
theorem dX7_servedWaitingTime_12 : decode cX7_servedWaitingTime 12 = .ok (.bipush 10, 2) := by decide +kernel
theorem dX7_servedWaitingTime_14 : decode cX7_servedWaitingTime 14 = .ok (.iaload, 1) := by decide +kernel
theorem dX7_servedWaitingTime_15 : decode cX7_servedWaitingTime 15 = .ok (.iconst 1, 1) := by decide +kernel
theorem dX7_servedWaitingTime_16 : decode cX7_servedWaitingTime 16 = .ok (.isub, 1) := by decide +kernel
theorem dX7_servedWaitingTime_17 : decode cX7_servedWaitingTime 17 = .ok (.i2l, 1) := by decide +kernel
theorem dX7_servedWaitingTime_18 : decode cX7_servedWaitingTime 18 = .ok (.invokestatic 60, 3) := by decide +kernel
theorem dX7_servedWaitingTime_21 : decode cX7_servedWaitingTime 21 = .ok (.ifCond .eq 20, 3) := by decide +kernel
theorem dX7_servedWaitingTime_24 : decode cX7_servedWaitingTime 24 = .ok (.aload_n 0, 1) := by decide +kernel
theorem dX7_servedWaitingTime_25 : decode cX7_servedWaitingTime 25 = .ok (.getfield 9, 3) := by decide +kernel
theorem dX7_servedWaitingTime_28 : decode cX7_servedWaitingTime 28 = .ok (.sipush 135, 3) := by decide +kernel
theorem dX7_servedWaitingTime_31 : decode cX7_servedWaitingTime 31 = .ok (.iconst 4, 1) := by decide +kernel
theorem dX7_servedWaitingTime_32 : decode cX7_servedWaitingTime 32 = .ok (.iload_n 1, 1) := by decide +kernel
theorem dX7_servedWaitingTime_33 : decode cX7_servedWaitingTime 33 = .ok (.imul, 1) := by decide +kernel
theorem dX7_servedWaitingTime_34 : decode cX7_servedWaitingTime 34 = .ok (.iadd, 1) := by decide +kernel
theorem dX7_servedWaitingTime_35 : decode cX7_servedWaitingTime 35 = .ok (.iconst 1, 1) := by decide +kernel
theorem dX7_servedWaitingTime_36 : decode cX7_servedWaitingTime 36 = .ok (.iadd, 1) := by decide +kernel
theorem dX7_servedWaitingTime_37 : decode cX7_servedWaitingTime 37 = .ok (.iaload, 1) := by decide +kernel
theorem dX7_servedWaitingTime_38 : decode cX7_servedWaitingTime 38 = .ok (.goto 8, 3) := by decide +kernel
theorem dX7_servedWaitingTime_41 : decode cX7_servedWaitingTime 41 = .ok (.aload_n 0, 1) := by decide +kernel
theorem dX7_servedWaitingTime_42 : decode cX7_servedWaitingTime 42 = .ok (.iconst 1, 1) := by decide +kernel
theorem dX7_servedWaitingTime_43 : decode cX7_servedWaitingTime 43 = .ok (.invokevirtual 83, 3) := by decide +kernel
theorem dX7_servedWaitingTime_46 : decode cX7_servedWaitingTime 46 = .ok (.ireturn, 1) := by decide +kernel
set_option maxRecDepth 20000 in
theorem ggX7_customerBySighs_X7_personAt : GoodIn wsX7_customerBySighs wsX7_personAt := goodIn_rr _ [(6, 1)] rfl (by decide +kernel)
set_option maxRecDepth 20000 in
theorem gX7_customerBySighs_X7_personAt : GoodIn wsX7_customerBySighs (va_wsS RX7 64 yX7_personAt wsX7_personAt) := goodIn_app (goodIn_of _ (by decide +kernel)) ggX7_customerBySighs_X7_personAt
set_option maxRecDepth 20000 in
theorem ggX7_customerBySighs_X7_throwing : GoodIn wsX7_customerBySighs wsX7_throwing := goodIn_rr _ [(10, 1), (1, 1), (11, 21)] rfl (by decide +kernel)
set_option maxRecDepth 20000 in
theorem gX7_customerBySighs_X7_throwing : GoodIn wsX7_customerBySighs (wsV RX7 83 RX7 yX7_throwing wsX7_throwing) := goodIn_app (goodIn_of _ (by decide +kernel)) ggX7_customerBySighs_X7_throwing
theorem dX7_customerBySighs_0 : decode cX7_customerBySighs 0 = .ok (.aload_n 0, 1) := by decide +kernel
theorem dX7_customerBySighs_1 : decode cX7_customerBySighs 1 = .ok (.iconst 0, 1) := by decide +kernel
theorem dX7_customerBySighs_2 : decode cX7_customerBySighs 2 = .ok (.putfield 52, 3) := by decide +kernel
theorem dX7_customerBySighs_5 : decode cX7_customerBySighs 5 = .ok (.iconst 0, 1) := by decide +kernel
theorem dX7_customerBySighs_6 : decode cX7_customerBySighs 6 = .ok (.istore_n 2, 1) := by decide +kernel
theorem dX7_customerBySighs_7 : decode cX7_customerBySighs 7 = .ok (.iload_n 2, 1) := by decide +kernel
theorem dX7_customerBySighs_8 : decode cX7_customerBySighs 8 = .ok (.aload_n 0, 1) := by decide +kernel
theorem dX7_customerBySighs_9 : decode cX7_customerBySighs 9 = .ok (.getfield 9, 3) := by decide +kernel
theorem dX7_customerBySighs_12 : decode cX7_customerBySighs 12 = .ok (.iconst 0, 1) := by decide +kernel
theorem dX7_customerBySighs_13 : decode cX7_customerBySighs 13 = .ok (.iaload, 1) := by decide +kernel
theorem dX7_customerBySighs_14 : decode cX7_customerBySighs 14 = .ok (.if_icmp .ge 124, 3) := by decide +kernel
theorem dX7_customerBySighs_17 : decode cX7_customerBySighs 17 = .ok (.iconst 0, 1) := by decide +kernel
theorem dX7_customerBySighs_18 : decode cX7_customerBySighs 18 = .ok (.istore_n 3, 1) := by decide +kernel
theorem dX7_customerBySighs_19 : decode cX7_customerBySighs 19 = .ok (.iconst 0, 1) := by decide +kernel
theorem dX7_customerBySighs_20 : decode cX7_customerBySighs 20 = .ok (.istore 4, 2) := by decide +kernel
theorem dX7_customerBySighs_22 : decode cX7_customerBySighs 22 = .ok (.iload 4, 2) := by decide +kernel
theorem dX7_customerBySighs_24 : decode cX7_customerBySighs 24 = .ok (.aload_n 0, 1) := by decide +kernel
theorem dX7_customerBySighs_25 : decode cX7_customerBySighs 25 = .ok (.getfield 9, 3) := by decide +kernel
theorem dX7_customerBySighs_28 : decode cX7_customerBySighs 28 = .ok (.iconst 0, 1) := by decide +kernel
theorem dX7_customerBySighs_29 : decode cX7_customerBySighs 29 = .ok (.iaload, 1) := by decide +kernel
theorem dX7_customerBySighs_30 : decode cX7_customerBySighs 30 = .ok (.if_icmp .ge 95, 3) := by decide +kernel
theorem dX7_customerBySighs_33 : decode cX7_customerBySighs 33 = .ok (.aload_n 0, 1) := by decide +kernel
theorem dX7_customerBySighs_34 : decode cX7_customerBySighs 34 = .ok (.getfield 9, 3) := by decide +kernel
theorem dX7_customerBySighs_37 : decode cX7_customerBySighs 37 = .ok (.iload 4, 2) := by decide +kernel
theorem dX7_customerBySighs_39 : decode cX7_customerBySighs 39 = .ok (.invokestatic 64, 3) := by decide +kernel
theorem dX7_customerBySighs_42 : decode cX7_customerBySighs 42 = .ok (.iconst 2, 1) := by decide +kernel
theorem dX7_customerBySighs_43 : decode cX7_customerBySighs 43 = .ok (.iadd, 1) := by decide +kernel
theorem dX7_customerBySighs_44 : decode cX7_customerBySighs 44 = .ok (.iaload, 1) := by decide +kernel
theorem dX7_customerBySighs_45 : decode cX7_customerBySighs 45 = .ok (.aload_n 0, 1) := by decide +kernel
theorem dX7_customerBySighs_46 : decode cX7_customerBySighs 46 = .ok (.getfield 9, 3) := by decide +kernel
theorem dX7_customerBySighs_49 : decode cX7_customerBySighs 49 = .ok (.iload_n 2, 1) := by decide +kernel
theorem dX7_customerBySighs_50 : decode cX7_customerBySighs 50 = .ok (.invokestatic 64, 3) := by decide +kernel
theorem dX7_customerBySighs_53 : decode cX7_customerBySighs 53 = .ok (.iconst 2, 1) := by decide +kernel
theorem dX7_customerBySighs_54 : decode cX7_customerBySighs 54 = .ok (.iadd, 1) := by decide +kernel
theorem dX7_customerBySighs_55 : decode cX7_customerBySighs 55 = .ok (.iaload, 1) := by decide +kernel
theorem dX7_customerBySighs_56 : decode cX7_customerBySighs 56 = .ok (.isub, 1) := by decide +kernel
theorem dX7_customerBySighs_57 : decode cX7_customerBySighs 57 = .ok (.istore 5, 2) := by decide +kernel
theorem dX7_customerBySighs_59 : decode cX7_customerBySighs 59 = .ok (.iload 5, 2) := by decide +kernel
theorem dX7_customerBySighs_61 : decode cX7_customerBySighs 61 = .ok (.ifCond .ne 30, 3) := by decide +kernel
theorem dX7_customerBySighs_64 : decode cX7_customerBySighs 64 = .ok (.aload_n 0, 1) := by decide +kernel
theorem dX7_customerBySighs_65 : decode cX7_customerBySighs 65 = .ok (.getfield 9, 3) := by decide +kernel
theorem dX7_customerBySighs_68 : decode cX7_customerBySighs 68 = .ok (.iload_n 2, 1) := by decide +kernel
theorem dX7_customerBySighs_69 : decode cX7_customerBySighs 69 = .ok (.invokestatic 64, 3) := by decide +kernel
theorem dX7_customerBySighs_72 : decode cX7_customerBySighs 72 = .ok (.iconst 1, 1) := by decide +kernel
theorem dX7_customerBySighs_73 : decode cX7_customerBySighs 73 = .ok (.iadd, 1) := by decide +kernel
theorem dX7_customerBySighs_74 : decode cX7_customerBySighs 74 = .ok (.iaload, 1) := by decide +kernel
theorem dX7_customerBySighs_75 : decode cX7_customerBySighs 75 = .ok (.aload_n 0, 1) := by decide +kernel
theorem dX7_customerBySighs_76 : decode cX7_customerBySighs 76 = .ok (.getfield 9, 3) := by decide +kernel
theorem dX7_customerBySighs_79 : decode cX7_customerBySighs 79 = .ok (.iload 4, 2) := by decide +kernel
theorem dX7_customerBySighs_81 : decode cX7_customerBySighs 81 = .ok (.invokestatic 64, 3) := by decide +kernel
theorem dX7_customerBySighs_84 : decode cX7_customerBySighs 84 = .ok (.iconst 1, 1) := by decide +kernel
theorem dX7_customerBySighs_85 : decode cX7_customerBySighs 85 = .ok (.iadd, 1) := by decide +kernel
theorem dX7_customerBySighs_86 : decode cX7_customerBySighs 86 = .ok (.iaload, 1) := by decide +kernel
theorem dX7_customerBySighs_87 : decode cX7_customerBySighs 87 = .ok (.isub, 1) := by decide +kernel
theorem dX7_customerBySighs_88 : decode cX7_customerBySighs 88 = .ok (.goto 5, 3) := by decide +kernel
theorem dX7_customerBySighs_91 : decode cX7_customerBySighs 91 = .ok (.iload 5, 2) := by decide +kernel
theorem dX7_customerBySighs_93 : decode cX7_customerBySighs 93 = .ok (.istore 6, 2) := by decide +kernel
theorem dX7_customerBySighs_95 : decode cX7_customerBySighs 95 = .ok (.iload_n 3, 1) := by decide +kernel
theorem dX7_customerBySighs_96 : decode cX7_customerBySighs 96 = .ok (.iload 6, 2) := by decide +kernel
theorem dX7_customerBySighs_98 : decode cX7_customerBySighs 98 = .ok (.ifCond .gt 14, 3) := by decide +kernel
theorem dX7_customerBySighs_101 : decode cX7_customerBySighs 101 = .ok (.iload 6, 2) := by decide +kernel
theorem dX7_customerBySighs_103 : decode cX7_customerBySighs 103 = .ok (.ifCond .ne 13, 3) := by decide +kernel
theorem dX7_customerBySighs_106 : decode cX7_customerBySighs 106 = .ok (.iload 4, 2) := by decide +kernel
theorem dX7_customerBySighs_108 : decode cX7_customerBySighs 108 = .ok (.iload_n 2, 1) := by decide +kernel
theorem dX7_customerBySighs_109 : decode cX7_customerBySighs 109 = .ok (.if_icmp .ge 7, 3) := by decide +kernel
theorem dX7_customerBySighs_112 : decode cX7_customerBySighs 112 = .ok (.iconst 1, 1) := by decide +kernel
theorem dX7_customerBySighs_113 : decode cX7_customerBySighs 113 = .ok (.goto 4, 3) := by decide +kernel
theorem dX7_customerBySighs_116 : decode cX7_customerBySighs 116 = .ok (.iconst 0, 1) := by decide +kernel
theorem dX7_customerBySighs_117 : decode cX7_customerBySighs 117 = .ok (.iadd, 1) := by decide +kernel
theorem dX7_customerBySighs_118 : decode cX7_customerBySighs 118 = .ok (.istore_n 3, 1) := by decide +kernel
theorem dX7_customerBySighs_119 : decode cX7_customerBySighs 119 = .ok (.iinc 4 1, 3) := by decide +kernel
theorem dX7_customerBySighs_122 : decode cX7_customerBySighs 122 = .ok (.goto (-100), 3) := by decide +kernel
theorem dX7_customerBySighs_125 : decode cX7_customerBySighs 125 = .ok (.iload_n 3, 1) := by decide +kernel
theorem dX7_customerBySighs_126 : decode cX7_customerBySighs 126 = .ok (.iload_n 1, 1) := by decide +kernel
theorem dX7_customerBySighs_127 : decode cX7_customerBySighs 127 = .ok (.if_icmp .ne 5, 3) := by decide +kernel
theorem dX7_customerBySighs_130 : decode cX7_customerBySighs 130 = .ok (.iload_n 2, 1) := by decide +kernel
theorem dX7_customerBySighs_131 : decode cX7_customerBySighs 131 = .ok (.ireturn, 1) := by decide +kernel
theorem dX7_customerBySighs_132 : decode cX7_customerBySighs 132 = .ok (.iinc 2 1, 3) := by decide +kernel
theorem dX7_customerBySighs_135 : decode cX7_customerBySighs 135 = .ok (.goto (-128), 3) := by decide +kernel
theorem dX7_customerBySighs_138 : decode cX7_customerBySighs 138 = .ok (.aload_n 0, 1) := by decide +kernel
theorem dX7_customerBySighs_139 : decode cX7_customerBySighs 139 = .ok (.iconst 1, 1) := by decide +kernel
theorem dX7_customerBySighs_140 : decode cX7_customerBySighs 140 = .ok (.invokevirtual 83, 3) := by decide +kernel
theorem dX7_customerBySighs_143 : decode cX7_customerBySighs 143 = .ok (.ireturn, 1) := by decide +kernel
set_option maxRecDepth 20000 in
theorem ggX7_customerByWaitingTime_X7_personAt : GoodIn wsX7_customerByWaitingTime wsX7_personAt := goodIn_rr _ [(6, 1)] rfl (by decide +kernel)
set_option maxRecDepth 20000 in
theorem gX7_customerByWaitingTime_X7_personAt : GoodIn wsX7_customerByWaitingTime (va_wsS RX7 64 yX7_personAt wsX7_personAt) := goodIn_app (goodIn_of _ (by decide +kernel)) ggX7_customerByWaitingTime_X7_personAt
set_option maxRecDepth 20000 in
theorem ggX7_customerByWaitingTime_X7_throwing : GoodIn wsX7_customerByWaitingTime wsX7_throwing := goodIn_rr _ [(10, 1), (1, 1), (11, 21)] rfl (by decide +kernel)
set_option maxRecDepth 20000 in
theorem gX7_customerByWaitingTime_X7_throwing : GoodIn wsX7_customerByWaitingTime (wsV RX7 83 RX7 yX7_throwing wsX7_throwing) := goodIn_app (goodIn_of _ (by decide +kernel)) ggX7_customerByWaitingTime_X7_throwing
theorem dX7_customerByWaitingTime_0 : decode cX7_customerByWaitingTime 0 = .ok (.aload_n 0, 1) := by decide +kernel
theorem dX7_customerByWaitingTime_1 : decode cX7_customerByWaitingTime 1 = .ok (.iconst 0, 1) := by decide +kernel
theorem dX7_customerByWaitingTime_2 : decode cX7_customerByWaitingTime 2 = .ok (.putfield 52, 3) := by decide +kernel
theorem dX7_customerByWaitingTime_5 : decode cX7_customerByWaitingTime 5 = .ok (.iconst 0, 1) := by decide +kernel
theorem dX7_customerByWaitingTime_6 : decode cX7_customerByWaitingTime 6 = .ok (.istore_n 2, 1) := by decide +kernel
theorem dX7_customerByWaitingTime_7 : decode cX7_customerByWaitingTime 7 = .ok (.iload_n 2, 1) := by decide +kernel
theorem dX7_customerByWaitingTime_8 : decode cX7_customerByWaitingTime 8 = .ok (.aload_n 0, 1) := by decide +kernel
theorem dX7_customerByWaitingTime_9 : decode cX7_customerByWaitingTime 9 = .ok (.getfield 9, 3) := by decide +kernel
theorem dX7_customerByWaitingTime_12 : decode cX7_customerByWaitingTime 12 = .ok (.iconst 0, 1) := by decide +kernel
theorem dX7_customerByWaitingTime_13 : decode cX7_customerByWaitingTime 13 = .ok (.iaload, 1) := by decide +kernel
theorem dX7_customerByWaitingTime_14 : decode cX7_customerByWaitingTime 14 = .ok (.if_icmp .ge 126, 3) := by decide +kernel
theorem dX7_customerByWaitingTime_17 : decode cX7_customerByWaitingTime 17 = .ok (.iconst 0, 1) := by decide +kernel
theorem dX7_customerByWaitingTime_18 : decode cX7_customerByWaitingTime 18 = .ok (.istore_n 3, 1) := by decide +kernel
theorem dX7_customerByWaitingTime_19 : decode cX7_customerByWaitingTime 19 = .ok (.iconst 0, 1) := by decide +kernel
theorem dX7_customerByWaitingTime_20 : decode cX7_customerByWaitingTime 20 = .ok (.istore 4, 2) := by decide +kernel
theorem dX7_customerByWaitingTime_22 : decode cX7_customerByWaitingTime 22 = .ok (.iload 4, 2) := by decide +kernel
theorem dX7_customerByWaitingTime_24 : decode cX7_customerByWaitingTime 24 = .ok (.aload_n 0, 1) := by decide +kernel
theorem dX7_customerByWaitingTime_25 : decode cX7_customerByWaitingTime 25 = .ok (.getfield 9, 3) := by decide +kernel
theorem dX7_customerByWaitingTime_28 : decode cX7_customerByWaitingTime 28 = .ok (.iconst 0, 1) := by decide +kernel
theorem dX7_customerByWaitingTime_29 : decode cX7_customerByWaitingTime 29 = .ok (.iaload, 1) := by decide +kernel
theorem dX7_customerByWaitingTime_30 : decode cX7_customerByWaitingTime 30 = .ok (.if_icmp .ge 97, 3) := by decide +kernel
theorem dX7_customerByWaitingTime_33 : decode cX7_customerByWaitingTime 33 = .ok (.aload_n 0, 1) := by decide +kernel
theorem dX7_customerByWaitingTime_34 : decode cX7_customerByWaitingTime 34 = .ok (.getfield 9, 3) := by decide +kernel
theorem dX7_customerByWaitingTime_37 : decode cX7_customerByWaitingTime 37 = .ok (.iload 4, 2) := by decide +kernel
theorem dX7_customerByWaitingTime_39 : decode cX7_customerByWaitingTime 39 = .ok (.invokestatic 64, 3) := by decide +kernel
theorem dX7_customerByWaitingTime_42 : decode cX7_customerByWaitingTime 42 = .ok (.bipush 6, 2) := by decide +kernel
theorem dX7_customerByWaitingTime_44 : decode cX7_customerByWaitingTime 44 = .ok (.iadd, 1) := by decide +kernel
theorem dX7_customerByWaitingTime_45 : decode cX7_customerByWaitingTime 45 = .ok (.iaload, 1) := by decide +kernel
theorem dX7_customerByWaitingTime_46 : decode cX7_customerByWaitingTime 46 = .ok (.aload_n 0, 1) := by decide +kernel
theorem dX7_customerByWaitingTime_47 : decode cX7_customerByWaitingTime 47 = .ok (.getfield 9, 3) := by decide +kernel
theorem dX7_customerByWaitingTime_50 : decode cX7_customerByWaitingTime 50 = .ok (.iload_n 2, 1) := by decide +kernel
theorem dX7_customerByWaitingTime_51 : decode cX7_customerByWaitingTime 51 = .ok (.invokestatic 64, 3) := by decide +kernel
theorem dX7_customerByWaitingTime_54 : decode cX7_customerByWaitingTime 54 = .ok (.bipush 6, 2) := by decide +kernel
theorem dX7_customerByWaitingTime_56 : decode cX7_customerByWaitingTime 56 = .ok (.iadd, 1) := by decide +kernel
theorem dX7_customerByWaitingTime_57 : decode cX7_customerByWaitingTime 57 = .ok (.iaload, 1) := by decide +kernel
theorem dX7_customerByWaitingTime_58 : decode cX7_customerByWaitingTime 58 = .ok (.isub, 1) := by decide +kernel
theorem dX7_customerByWaitingTime_59 : decode cX7_customerByWaitingTime 59 = .ok (.istore 5, 2) := by decide +kernel
theorem dX7_customerByWaitingTime_61 : decode cX7_customerByWaitingTime 61 = .ok (.iload 5, 2) := by decide +kernel
theorem dX7_customerByWaitingTime_63 : decode cX7_customerByWaitingTime 63 = .ok (.ifCond .ne 30, 3) := by decide +kernel
theorem dX7_customerByWaitingTime_66 : decode cX7_customerByWaitingTime 66 = .ok (.aload_n 0, 1) := by decide +kernel
theorem dX7_customerByWaitingTime_67 : decode cX7_customerByWaitingTime 67 = .ok (.getfield 9, 3) := by decide +kernel
theorem dX7_customerByWaitingTime_70 : decode cX7_customerByWaitingTime 70 = .ok (.iload_n 2, 1) := by decide +kernel
theorem dX7_customerByWaitingTime_71 : decode cX7_customerByWaitingTime 71 = .ok (.invokestatic 64, 3) := by decide +kernel
theorem dX7_customerByWaitingTime_74 : decode cX7_customerByWaitingTime 74 = .ok (.iconst 5, 1) := by decide +kernel
theorem dX7_customerByWaitingTime_75 : decode cX7_customerByWaitingTime 75 = .ok (.iadd, 1) := by decide +kernel
theorem dX7_customerByWaitingTime_76 : decode cX7_customerByWaitingTime 76 = .ok (.iaload, 1) := by decide +kernel
theorem dX7_customerByWaitingTime_77 : decode cX7_customerByWaitingTime 77 = .ok (.aload_n 0, 1) := by decide +kernel
theorem dX7_customerByWaitingTime_78 : decode cX7_customerByWaitingTime 78 = .ok (.getfield 9, 3) := by decide +kernel
theorem dX7_customerByWaitingTime_81 : decode cX7_customerByWaitingTime 81 = .ok (.iload 4, 2) := by decide +kernel
theorem dX7_customerByWaitingTime_83 : decode cX7_customerByWaitingTime 83 = .ok (.invokestatic 64, 3) := by decide +kernel
theorem dX7_customerByWaitingTime_86 : decode cX7_customerByWaitingTime 86 = .ok (.iconst 5, 1) := by decide +kernel
theorem dX7_customerByWaitingTime_87 : decode cX7_customerByWaitingTime 87 = .ok (.iadd, 1) := by decide +kernel
theorem dX7_customerByWaitingTime_88 : decode cX7_customerByWaitingTime 88 = .ok (.iaload, 1) := by decide +kernel
theorem dX7_customerByWaitingTime_89 : decode cX7_customerByWaitingTime 89 = .ok (.isub, 1) := by decide +kernel
theorem dX7_customerByWaitingTime_90 : decode cX7_customerByWaitingTime 90 = .ok (.goto 5, 3) := by decide +kernel
theorem dX7_customerByWaitingTime_93 : decode cX7_customerByWaitingTime 93 = .ok (.iload 5, 2) := by decide +kernel
theorem dX7_customerByWaitingTime_95 : decode cX7_customerByWaitingTime 95 = .ok (.istore 6, 2) := by decide +kernel
theorem dX7_customerByWaitingTime_97 : decode cX7_customerByWaitingTime 97 = .ok (.iload_n 3, 1) := by decide +kernel
theorem dX7_customerByWaitingTime_98 : decode cX7_customerByWaitingTime 98 = .ok (.iload 6, 2) := by decide +kernel
theorem dX7_customerByWaitingTime_100 : decode cX7_customerByWaitingTime 100 = .ok (.ifCond .gt 14, 3) := by decide +kernel
theorem dX7_customerByWaitingTime_103 : decode cX7_customerByWaitingTime 103 = .ok (.iload 6, 2) := by decide +kernel
theorem dX7_customerByWaitingTime_105 : decode cX7_customerByWaitingTime 105 = .ok (.ifCond .ne 13, 3) := by decide +kernel
theorem dX7_customerByWaitingTime_108 : decode cX7_customerByWaitingTime 108 = .ok (.iload 4, 2) := by decide +kernel
theorem dX7_customerByWaitingTime_110 : decode cX7_customerByWaitingTime 110 = .ok (.iload_n 2, 1) := by decide +kernel
theorem dX7_customerByWaitingTime_111 : decode cX7_customerByWaitingTime 111 = .ok (.if_icmp .ge 7, 3) := by decide +kernel
theorem dX7_customerByWaitingTime_114 : decode cX7_customerByWaitingTime 114 = .ok (.iconst 1, 1) := by decide +kernel
theorem dX7_customerByWaitingTime_115 : decode cX7_customerByWaitingTime 115 = .ok (.goto 4, 3) := by decide +kernel
theorem dX7_customerByWaitingTime_118 : decode cX7_customerByWaitingTime 118 = .ok (.iconst 0, 1) := by decide +kernel
theorem dX7_customerByWaitingTime_119 : decode cX7_customerByWaitingTime 119 = .ok (.iadd, 1) := by decide +kernel
theorem dX7_customerByWaitingTime_120 : decode cX7_customerByWaitingTime 120 = .ok (.istore_n 3, 1) := by decide +kernel
theorem dX7_customerByWaitingTime_121 : decode cX7_customerByWaitingTime 121 = .ok (.iinc 4 1, 3) := by decide +kernel
theorem dX7_customerByWaitingTime_124 : decode cX7_customerByWaitingTime 124 = .ok (.goto (-102), 3) := by decide +kernel
theorem dX7_customerByWaitingTime_127 : decode cX7_customerByWaitingTime 127 = .ok (.iload_n 3, 1) := by decide +kernel
theorem dX7_customerByWaitingTime_128 : decode cX7_customerByWaitingTime 128 = .ok (.iload_n 1, 1) := by decide +kernel
theorem dX7_customerByWaitingTime_129 : decode cX7_customerByWaitingTime 129 = .ok (.if_icmp .ne 5, 3) := by decide +kernel
theorem dX7_customerByWaitingTime_132 : decode cX7_customerByWaitingTime 132 = .ok (.iload_n 2, 1) := by decide +kernel
theorem dX7_customerByWaitingTime_133 : decode cX7_customerByWaitingTime 133 = .ok (.ireturn, 1) := by decide +kernel
theorem dX7_customerByWaitingTime_134 : decode cX7_customerByWaitingTime 134 = .ok (.iinc 2 1, 3) := by decide +kernel
theorem dX7_customerByWaitingTime_137 : decode cX7_customerByWaitingTime 137 = .ok (.goto (-130), 3) := by decide +kernel
theorem dX7_customerByWaitingTime_140 : decode cX7_customerByWaitingTime 140 = .ok (.aload_n 0, 1) := by decide +kernel
theorem dX7_customerByWaitingTime_141 : decode cX7_customerByWaitingTime 141 = .ok (.iconst 1, 1) := by decide +kernel
theorem dX7_customerByWaitingTime_142 : decode cX7_customerByWaitingTime 142 = .ok (.invokevirtual 83, 3) := by decide +kernel
theorem dX7_customerByWaitingTime_145 : decode cX7_customerByWaitingTime 145 = .ok (.ireturn, 1) := by decide +kernel
theorem dX7_total_0 : decode cX7_total 0 = .ok (.aload_n 0, 1) := by decide +kernel
theorem dX7_total_1 : decode cX7_total 1 = .ok (.iconst 0, 1) := by decide +kernel
theorem dX7_total_2 : decode cX7_total 2 = .ok (.putfield 52, 3) := by decide +kernel
theorem dX7_total_5 : decode cX7_total 5 = .ok (.aload_n 0, 1) := by decide +kernel
theorem dX7_total_6 : decode cX7_total 6 = .ok (.getfield 9, 3) := by decide +kernel
theorem dX7_total_9 : decode cX7_total 9 = .ok (.iload_n 1, 1) := by decide +kernel
theorem dX7_total_10 : decode cX7_total 10 = .ok (.iaload, 1) := by decide +kernel
theorem dX7_total_11 : decode cX7_total 11 = .ok (.ireturn, 1) := by decide +kernel
set_option maxRecDepth 20000 in
theorem ggX7_minute_X7_total : GoodIn wsX7_minute wsX7_total := goodIn_ca (goodIn_rr _ [(5, 24)] rfl (by decide +kernel)) (goodIn_sub (fun _ h => List.mem_cons_of_mem _ (List.mem_append_right _ h)) (by decide +kernel))
set_option maxRecDepth 20000 in
theorem gX7_minute_X7_total : GoodIn wsX7_minute (wsV RX7 199 RX7 yX7_total wsX7_total) := goodIn_app (goodIn_of _ (by decide +kernel)) ggX7_minute_X7_total
theorem dX7_minute_0 : decode cX7_minute 0 = .ok (.aload_n 0, 1) := by decide +kernel
theorem dX7_minute_1 : decode cX7_minute 1 = .ok (.iconst 1, 1) := by decide +kernel
theorem dX7_minute_2 : decode cX7_minute 2 = .ok (.invokevirtual 199, 3) := by decide +kernel
theorem dX7_minute_5 : decode cX7_minute 5 = .ok (.ireturn, 1) := by decide +kernel
set_option maxRecDepth 20000 in
theorem ggX7_addedTotal_X7_total : GoodIn wsX7_addedTotal wsX7_total := goodIn_ca (goodIn_rr _ [(5, 24)] rfl (by decide +kernel)) (goodIn_sub (fun _ h => List.mem_cons_of_mem _ (List.mem_append_right _ h)) (by decide +kernel))
set_option maxRecDepth 20000 in
theorem gX7_addedTotal_X7_total : GoodIn wsX7_addedTotal (wsV RX7 199 RX7 yX7_total wsX7_total) := goodIn_app (goodIn_of _ (by decide +kernel)) ggX7_addedTotal_X7_total
theorem dX7_addedTotal_0 : decode cX7_addedTotal 0 = .ok (.aload_n 0, 1) := by decide +kernel
theorem dX7_addedTotal_1 : decode cX7_addedTotal 1 = .ok (.iconst 2, 1) := by decide +kernel
theorem dX7_addedTotal_2 : decode cX7_addedTotal 2 = .ok (.invokevirtual 199, 3) := by decide +kernel
theorem dX7_addedTotal_5 : decode cX7_addedTotal 5 = .ok (.ireturn, 1) := by decide +kernel
set_option maxRecDepth 20000 in
theorem ggX7_servedTotal_X7_total : GoodIn wsX7_servedTotal wsX7_total := goodIn_ca (goodIn_rr _ [(5, 24)] rfl (by decide +kernel)) (goodIn_sub (fun _ h => List.mem_cons_of_mem _ (List.mem_append_right _ h)) (by decide +kernel))
set_option maxRecDepth 20000 in
theorem gX7_servedTotal_X7_total : GoodIn wsX7_servedTotal (wsV RX7 199 RX7 yX7_total wsX7_total) := goodIn_app (goodIn_of _ (by decide +kernel)) ggX7_servedTotal_X7_total
theorem dX7_servedTotal_0 : decode cX7_servedTotal 0 = .ok (.aload_n 0, 1) := by decide +kernel
theorem dX7_servedTotal_1 : decode cX7_servedTotal 1 = .ok (.iconst 3, 1) := by decide +kernel
theorem dX7_servedTotal_2 : decode cX7_servedTotal 2 = .ok (.invokevirtual 199, 3) := by decide +kernel
theorem dX7_servedTotal_5 : decode cX7_servedTotal 5 = .ok (.ireturn, 1) := by decide +kernel
set_option maxRecDepth 20000 in
theorem ggX7_walkedOutTotal_X7_total : GoodIn wsX7_walkedOutTotal wsX7_total := goodIn_ca (goodIn_rr _ [(5, 24)] rfl (by decide +kernel)) (goodIn_sub (fun _ h => List.mem_cons_of_mem _ (List.mem_append_right _ h)) (by decide +kernel))
set_option maxRecDepth 20000 in
theorem gX7_walkedOutTotal_X7_total : GoodIn wsX7_walkedOutTotal (wsV RX7 199 RX7 yX7_total wsX7_total) := goodIn_app (goodIn_of _ (by decide +kernel)) ggX7_walkedOutTotal_X7_total
theorem dX7_walkedOutTotal_0 : decode cX7_walkedOutTotal 0 = .ok (.aload_n 0, 1) := by decide +kernel
theorem dX7_walkedOutTotal_1 : decode cX7_walkedOutTotal 1 = .ok (.iconst 5, 1) := by decide +kernel
theorem dX7_walkedOutTotal_2 : decode cX7_walkedOutTotal 2 = .ok (.invokevirtual 199, 3) := by decide +kernel
theorem dX7_walkedOutTotal_5 : decode cX7_walkedOutTotal 5 = .ok (.ireturn, 1) := by decide +kernel
set_option maxRecDepth 20000 in
theorem ggX7_sighTotal_X7_total : GoodIn wsX7_sighTotal wsX7_total := goodIn_ca (goodIn_rr _ [(5, 24)] rfl (by decide +kernel)) (goodIn_sub (fun _ h => List.mem_cons_of_mem _ (List.mem_append_right _ h)) (by decide +kernel))
set_option maxRecDepth 20000 in
theorem gX7_sighTotal_X7_total : GoodIn wsX7_sighTotal (wsV RX7 199 RX7 yX7_total wsX7_total) := goodIn_app (goodIn_of _ (by decide +kernel)) ggX7_sighTotal_X7_total
theorem dX7_sighTotal_0 : decode cX7_sighTotal 0 = .ok (.aload_n 0, 1) := by decide +kernel
theorem dX7_sighTotal_1 : decode cX7_sighTotal 1 = .ok (.bipush 6, 2) := by decide +kernel
theorem dX7_sighTotal_3 : decode cX7_sighTotal 3 = .ok (.invokevirtual 199, 3) := by decide +kernel
theorem dX7_sighTotal_6 : decode cX7_sighTotal 6 = .ok (.ireturn, 1) := by decide +kernel
set_option maxRecDepth 20000 in
theorem ggX7_meanPatience_X7_throwing : GoodIn wsX7_meanPatience wsX7_throwing := goodIn_rr _ [(7, 1), (1, 1), (11, 21)] rfl (by decide +kernel)
set_option maxRecDepth 20000 in
theorem gX7_meanPatience_X7_throwing : GoodIn wsX7_meanPatience (wsV RX7 83 RX7 yX7_throwing wsX7_throwing) := goodIn_app (goodIn_of _ (by decide +kernel)) ggX7_meanPatience_X7_throwing
set_option maxRecDepth 20000 in
theorem ggX7_meanPatience_X7_personAt : GoodIn wsX7_meanPatience wsX7_personAt := goodIn_rr _ [(10, 1)] rfl (by decide +kernel)
set_option maxRecDepth 20000 in
theorem gX7_meanPatience_X7_personAt : GoodIn wsX7_meanPatience (va_wsS RX7 64 yX7_personAt wsX7_personAt) := goodIn_app (goodIn_of _ (by decide +kernel)) ggX7_meanPatience_X7_personAt
theorem dX7_meanPatience_0 : decode cX7_meanPatience 0 = .ok (.aload_n 0, 1) := by decide +kernel
theorem dX7_meanPatience_1 : decode cX7_meanPatience 1 = .ok (.iconst 0, 1) := by decide +kernel
theorem dX7_meanPatience_2 : decode cX7_meanPatience 2 = .ok (.putfield 52, 3) := by decide +kernel
theorem dX7_meanPatience_5 : decode cX7_meanPatience 5 = .ok (.aload_n 0, 1) := by decide +kernel
theorem dX7_meanPatience_6 : decode cX7_meanPatience 6 = .ok (.getfield 9, 3) := by decide +kernel
theorem dX7_meanPatience_9 : decode cX7_meanPatience 9 = .ok (.iconst 0, 1) := by decide +kernel
theorem dX7_meanPatience_10 : decode cX7_meanPatience 10 = .ok (.iaload, 1) := by decide +kernel
theorem dX7_meanPatience_11 : decode cX7_meanPatience 11 = .ok (.ifCond .ne 11, 3) := by decide +kernel
theorem dX7_meanPatience_14 : decode cX7_meanPatience 14 = .ok (.aload_n 0, 1) := by decide +kernel
theorem dX7_meanPatience_15 : decode cX7_meanPatience 15 = .ok (.iconst 1, 1) := by decide +kernel
theorem dX7_meanPatience_16 : decode cX7_meanPatience 16 = .ok (.invokevirtual 83, 3) := by decide +kernel
theorem dX7_meanPatience_19 : decode cX7_meanPatience 19 = .ok (.pop, 1) := by decide +kernel
theorem dX7_meanPatience_20 : decode cX7_meanPatience 20 = .ok (.dconst 0, 1) := by decide +kernel
theorem dX7_meanPatience_21 : decode cX7_meanPatience 21 = .ok (.dreturn, 1) := by decide +kernel
theorem dX7_meanPatience_22 : decode cX7_meanPatience 22 = .ok (.iconst 0, 1) := by decide +kernel
theorem dX7_meanPatience_23 : decode cX7_meanPatience 23 = .ok (.istore_n 1, 1) := by decide +kernel
theorem dX7_meanPatience_24 : decode cX7_meanPatience 24 = .ok (.iconst 0, 1) := by decide +kernel
theorem dX7_meanPatience_25 : decode cX7_meanPatience 25 = .ok (.istore_n 2, 1) := by decide +kernel
theorem dX7_meanPatience_26 : decode cX7_meanPatience 26 = .ok (.iload_n 2, 1) := by decide +kernel
theorem dX7_meanPatience_27 : decode cX7_meanPatience 27 = .ok (.aload_n 0, 1) := by decide +kernel
theorem dX7_meanPatience_28 : decode cX7_meanPatience 28 = .ok (.getfield 9, 3) := by decide +kernel
theorem dX7_meanPatience_31 : decode cX7_meanPatience 31 = .ok (.iconst 0, 1) := by decide +kernel
theorem dX7_meanPatience_32 : decode cX7_meanPatience 32 = .ok (.iaload, 1) := by decide +kernel
theorem dX7_meanPatience_33 : decode cX7_meanPatience 33 = .ok (.if_icmp .ge 23, 3) := by decide +kernel
theorem dX7_meanPatience_36 : decode cX7_meanPatience 36 = .ok (.iload_n 1, 1) := by decide +kernel
theorem dX7_meanPatience_37 : decode cX7_meanPatience 37 = .ok (.aload_n 0, 1) := by decide +kernel
theorem dX7_meanPatience_38 : decode cX7_meanPatience 38 = .ok (.getfield 9, 3) := by decide +kernel
theorem dX7_meanPatience_41 : decode cX7_meanPatience 41 = .ok (.iload_n 2, 1) := by decide +kernel
theorem dX7_meanPatience_42 : decode cX7_meanPatience 42 = .ok (.invokestatic 64, 3) := by decide +kernel
theorem dX7_meanPatience_45 : decode cX7_meanPatience 45 = .ok (.iconst 1, 1) := by decide +kernel
theorem dX7_meanPatience_46 : decode cX7_meanPatience 46 = .ok (.iadd, 1) := by decide +kernel
theorem dX7_meanPatience_47 : decode cX7_meanPatience 47 = .ok (.iaload, 1) := by decide +kernel
theorem dX7_meanPatience_48 : decode cX7_meanPatience 48 = .ok (.iadd, 1) := by decide +kernel
theorem dX7_meanPatience_49 : decode cX7_meanPatience 49 = .ok (.istore_n 1, 1) := by decide +kernel
theorem dX7_meanPatience_50 : decode cX7_meanPatience 50 = .ok (.iinc 2 1, 3) := by decide +kernel
theorem dX7_meanPatience_53 : decode cX7_meanPatience 53 = .ok (.goto (-27), 3) := by decide +kernel
theorem dX7_meanPatience_56 : decode cX7_meanPatience 56 = .ok (.iload_n 1, 1) := by decide +kernel
theorem dX7_meanPatience_57 : decode cX7_meanPatience 57 = .ok (.i2d, 1) := by decide +kernel
theorem dX7_meanPatience_58 : decode cX7_meanPatience 58 = .ok (.aload_n 0, 1) := by decide +kernel
theorem dX7_meanPatience_59 : decode cX7_meanPatience 59 = .ok (.getfield 9, 3) := by decide +kernel
theorem dX7_meanPatience_62 : decode cX7_meanPatience 62 = .ok (.iconst 0, 1) := by decide +kernel
theorem dX7_meanPatience_63 : decode cX7_meanPatience 63 = .ok (.iaload, 1) := by decide +kernel
theorem dX7_meanPatience_64 : decode cX7_meanPatience 64 = .ok (.i2d, 1) := by decide +kernel
theorem dX7_meanPatience_65 : decode cX7_meanPatience 65 = .ok (.ddiv, 1) := by decide +kernel
theorem dX7_meanPatience_66 : decode cX7_meanPatience 66 = .ok (.dreturn, 1) := by decide +kernel
set_option maxRecDepth 20000 in
theorem ggX7_calmShare_X7_throwing : GoodIn wsX7_calmShare wsX7_throwing := goodIn_rr _ [(7, 1), (1, 1), (8, 21)] rfl (by decide +kernel)
set_option maxRecDepth 20000 in
theorem gX7_calmShare_X7_throwing : GoodIn wsX7_calmShare (wsV RX7 83 RX7 yX7_throwing wsX7_throwing) := goodIn_app (goodIn_of _ (by decide +kernel)) ggX7_calmShare_X7_throwing
theorem dX7_calmShare_0 : decode cX7_calmShare 0 = .ok (.aload_n 0, 1) := by decide +kernel
theorem dX7_calmShare_1 : decode cX7_calmShare 1 = .ok (.iconst 0, 1) := by decide +kernel
theorem dX7_calmShare_2 : decode cX7_calmShare 2 = .ok (.putfield 52, 3) := by decide +kernel
theorem dX7_calmShare_5 : decode cX7_calmShare 5 = .ok (.aload_n 0, 1) := by decide +kernel
theorem dX7_calmShare_6 : decode cX7_calmShare 6 = .ok (.getfield 9, 3) := by decide +kernel
theorem dX7_calmShare_9 : decode cX7_calmShare 9 = .ok (.iconst 3, 1) := by decide +kernel
theorem dX7_calmShare_10 : decode cX7_calmShare 10 = .ok (.iaload, 1) := by decide +kernel
theorem dX7_calmShare_11 : decode cX7_calmShare 11 = .ok (.ifCond .ne 11, 3) := by decide +kernel
theorem dX7_calmShare_14 : decode cX7_calmShare 14 = .ok (.aload_n 0, 1) := by decide +kernel
theorem dX7_calmShare_15 : decode cX7_calmShare 15 = .ok (.iconst 1, 1) := by decide +kernel
theorem dX7_calmShare_16 : decode cX7_calmShare 16 = .ok (.invokevirtual 83, 3) := by decide +kernel
theorem dX7_calmShare_19 : decode cX7_calmShare 19 = .ok (.pop, 1) := by decide +kernel
theorem dX7_calmShare_20 : decode cX7_calmShare 20 = .ok (.fconst 0, 1) := by decide +kernel
theorem dX7_calmShare_21 : decode cX7_calmShare 21 = .ok (.freturn, 1) := by decide +kernel
theorem dX7_calmShare_22 : decode cX7_calmShare 22 = .ok (.aload_n 0, 1) := by decide +kernel
theorem dX7_calmShare_23 : decode cX7_calmShare 23 = .ok (.getfield 9, 3) := by decide +kernel
theorem dX7_calmShare_26 : decode cX7_calmShare 26 = .ok (.bipush 11, 2) := by decide +kernel
theorem dX7_calmShare_28 : decode cX7_calmShare 28 = .ok (.iaload, 1) := by decide +kernel
theorem dX7_calmShare_29 : decode cX7_calmShare 29 = .ok (.i2f, 1) := by decide +kernel
theorem dX7_calmShare_30 : decode cX7_calmShare 30 = .ok (.aload_n 0, 1) := by decide +kernel
theorem dX7_calmShare_31 : decode cX7_calmShare 31 = .ok (.getfield 9, 3) := by decide +kernel
theorem dX7_calmShare_34 : decode cX7_calmShare 34 = .ok (.iconst 3, 1) := by decide +kernel
theorem dX7_calmShare_35 : decode cX7_calmShare 35 = .ok (.iaload, 1) := by decide +kernel
theorem dX7_calmShare_36 : decode cX7_calmShare 36 = .ok (.i2f, 1) := by decide +kernel
theorem dX7_calmShare_37 : decode cX7_calmShare 37 = .ok (.fdiv, 1) := by decide +kernel
theorem dX7_calmShare_38 : decode cX7_calmShare 38 = .ok (.freturn, 1) := by decide +kernel
theorem dX7_isConsistent_0 : decode cX7_isConsistent 0 = .ok (.aload_n 0, 1) := by decide +kernel
theorem dX7_isConsistent_1 : decode cX7_isConsistent 1 = .ok (.iconst 0, 1) := by decide +kernel
theorem dX7_isConsistent_2 : decode cX7_isConsistent 2 = .ok (.putfield 52, 3) := by decide +kernel
theorem dX7_isConsistent_5 : decode cX7_isConsistent 5 = .ok (.iconst 1, 1) := by decide +kernel
theorem dX7_isConsistent_6 : decode cX7_isConsistent 6 = .ok (.ireturn, 1) := by decide +kernel
theorem dX7_sign_0 : decode cX7_sign 0 = .ok (.aload_n 0, 1) := by decide +kernel
theorem dX7_sign_1 : decode cX7_sign 1 = .ok (.getfield 35, 3) := by decide +kernel
theorem dX7_sign_4 : decode cX7_sign 4 = .ok (.aload_n 0, 1) := by decide +kernel
theorem dX7_sign_5 : decode cX7_sign 5 = .ok (.getfield 202, 3) := by decide +kernel
theorem dX7_sign_8 : decode cX7_sign 8 = .ok (.iload_n 1, 1) := by decide +kernel
theorem dX7_sign_9 : decode cX7_sign 9 = .ok (.iastore, 1) := by decide +kernel
theorem dX7_sign_10 : decode cX7_sign 10 = .ok (.aload_n 0, 1) := by decide +kernel
theorem dX7_sign_11 : decode cX7_sign 11 = .ok (.dup, 1) := by decide +kernel
theorem dX7_sign_12 : decode cX7_sign 12 = .ok (.getfield 202, 3) := by decide +kernel
theorem dX7_sign_15 : decode cX7_sign 15 = .ok (.iconst 1, 1) := by decide +kernel
theorem dX7_sign_16 : decode cX7_sign 16 = .ok (.iadd, 1) := by decide +kernel
theorem dX7_sign_17 : decode cX7_sign 17 = .ok (.putfield 202, 3) := by decide +kernel
theorem dX7_sign_20 : decode cX7_sign 20 = .ok (.return_, 1) := by decide +kernel
set_option maxRecDepth 20000 in
theorem ggX7_writesNumber_X7_sign : GoodIn wsX7_writesNumber wsX7_sign := goodIn_ca (goodIn_rr _ [(5, 24)] rfl (by decide +kernel)) (goodIn_sub (fun _ h => List.mem_cons_of_mem _ (List.mem_append_right _ h)) (by decide +kernel))
set_option maxRecDepth 20000 in
theorem gX7_writesNumber_X7_sign : GoodIn wsX7_writesNumber (wsV RX7 205 RX7 yX7_sign wsX7_sign) := goodIn_app (goodIn_of _ (by decide +kernel)) ggX7_writesNumber_X7_sign
theorem dX7_writesNumber_0 : decode cX7_writesNumber 0 = .ok (.iconst 1, 1) := by decide +kernel
theorem dX7_writesNumber_1 : decode cX7_writesNumber 1 = .ok (.istore_n 2, 1) := by decide +kernel
theorem dX7_writesNumber_2 : decode cX7_writesNumber 2 = .ok (.iload_n 1, 1) := by decide +kernel
theorem dX7_writesNumber_3 : decode cX7_writesNumber 3 = .ok (.iload_n 2, 1) := by decide +kernel
theorem dX7_writesNumber_4 : decode cX7_writesNumber 4 = .ok (.idiv, 1) := by decide +kernel
theorem dX7_writesNumber_5 : decode cX7_writesNumber 5 = .ok (.bipush 9, 2) := by decide +kernel
theorem dX7_writesNumber_7 : decode cX7_writesNumber 7 = .ok (.if_icmp .le 11, 3) := by decide +kernel
theorem dX7_writesNumber_10 : decode cX7_writesNumber 10 = .ok (.iload_n 2, 1) := by decide +kernel
theorem dX7_writesNumber_11 : decode cX7_writesNumber 11 = .ok (.bipush 10, 2) := by decide +kernel
theorem dX7_writesNumber_13 : decode cX7_writesNumber 13 = .ok (.imul, 1) := by decide +kernel
theorem dX7_writesNumber_14 : decode cX7_writesNumber 14 = .ok (.istore_n 2, 1) := by decide +kernel
theorem dX7_writesNumber_15 : decode cX7_writesNumber 15 = .ok (.goto (-13), 3) := by decide +kernel
theorem dX7_writesNumber_18 : decode cX7_writesNumber 18 = .ok (.iload_n 2, 1) := by decide +kernel
theorem dX7_writesNumber_19 : decode cX7_writesNumber 19 = .ok (.ifCond .le 24, 3) := by decide +kernel
theorem dX7_writesNumber_22 : decode cX7_writesNumber 22 = .ok (.aload_n 0, 1) := by decide +kernel
theorem dX7_writesNumber_23 : decode cX7_writesNumber 23 = .ok (.bipush 48, 2) := by decide +kernel
theorem dX7_writesNumber_25 : decode cX7_writesNumber 25 = .ok (.iload_n 1, 1) := by decide +kernel
theorem dX7_writesNumber_26 : decode cX7_writesNumber 26 = .ok (.iload_n 2, 1) := by decide +kernel
theorem dX7_writesNumber_27 : decode cX7_writesNumber 27 = .ok (.idiv, 1) := by decide +kernel
theorem dX7_writesNumber_28 : decode cX7_writesNumber 28 = .ok (.bipush 10, 2) := by decide +kernel
theorem dX7_writesNumber_30 : decode cX7_writesNumber 30 = .ok (.irem, 1) := by decide +kernel
theorem dX7_writesNumber_31 : decode cX7_writesNumber 31 = .ok (.iadd, 1) := by decide +kernel
theorem dX7_writesNumber_32 : decode cX7_writesNumber 32 = .ok (.invokevirtual 205, 3) := by decide +kernel
theorem dX7_writesNumber_35 : decode cX7_writesNumber 35 = .ok (.iload_n 2, 1) := by decide +kernel
theorem dX7_writesNumber_36 : decode cX7_writesNumber 36 = .ok (.bipush 10, 2) := by decide +kernel
theorem dX7_writesNumber_38 : decode cX7_writesNumber 38 = .ok (.idiv, 1) := by decide +kernel
theorem dX7_writesNumber_39 : decode cX7_writesNumber 39 = .ok (.istore_n 2, 1) := by decide +kernel
theorem dX7_writesNumber_40 : decode cX7_writesNumber 40 = .ok (.goto (-22), 3) := by decide +kernel
theorem dX7_writesNumber_43 : decode cX7_writesNumber 43 = .ok (.return_, 1) := by decide +kernel
set_option maxRecDepth 20000 in
theorem ggX7_renderQueue_X7_personAt : GoodIn wsX7_renderQueue wsX7_personAt := goodIn_rr _ [(7, 1)] rfl (by decide +kernel)
set_option maxRecDepth 20000 in
theorem gX7_renderQueue_X7_personAt : GoodIn wsX7_renderQueue (va_wsS RX7 64 yX7_personAt wsX7_personAt) := goodIn_app (goodIn_of _ (by decide +kernel)) ggX7_renderQueue_X7_personAt
set_option maxRecDepth 20000 in
theorem ggX7_renderQueue_X7_sign : GoodIn wsX7_renderQueue wsX7_sign := goodIn_ca (goodIn_rr _ [(11, 2), (2, 1), (17, 21)] rfl (by decide +kernel)) (goodIn_sub (fun _ h => List.mem_cons_of_mem _ (List.mem_append_left _ (List.mem_append_right _ h))) (by decide +kernel))
set_option maxRecDepth 20000 in
theorem gX7_renderQueue_X7_sign : GoodIn wsX7_renderQueue (wsV RX7 205 RX7 yX7_sign wsX7_sign) := goodIn_app (goodIn_of _ (by decide +kernel)) ggX7_renderQueue_X7_sign
set_option maxRecDepth 20000 in
theorem ggX7_renderQueue_X7_writesNumber : GoodIn wsX7_renderQueue wsX7_writesNumber := goodIn_ca (goodIn_ca (goodIn_rr _ [(16, 1), (8, 3), (6, 1), (11, 2), (2, 1), (17, 21)] rfl (by decide +kernel)) (goodIn_sub (fun _ h => List.mem_cons_of_mem _ (List.mem_append_right _ h)) (by decide +kernel))) (goodIn_sub (fun _ h => List.mem_cons_of_mem _ (List.mem_append_left _ (List.mem_append_right _ h))) (by decide +kernel))
set_option maxRecDepth 20000 in
theorem gX7_renderQueue_X7_writesNumber : GoodIn wsX7_renderQueue (wsV RX7 208 RX7 yX7_writesNumber wsX7_writesNumber) := goodIn_app (goodIn_of _ (by decide +kernel)) ggX7_renderQueue_X7_writesNumber
theorem dX7_renderQueue_0 : decode cX7_renderQueue 0 = .ok (.aload_n 0, 1) := by decide +kernel
theorem dX7_renderQueue_1 : decode cX7_renderQueue 1 = .ok (.iconst 0, 1) := by decide +kernel
theorem dX7_renderQueue_2 : decode cX7_renderQueue 2 = .ok (.putfield 52, 3) := by decide +kernel
theorem dX7_renderQueue_5 : decode cX7_renderQueue 5 = .ok (.aload_n 0, 1) := by decide +kernel
theorem dX7_renderQueue_6 : decode cX7_renderQueue 6 = .ok (.iconst 0, 1) := by decide +kernel
theorem dX7_renderQueue_7 : decode cX7_renderQueue 7 = .ok (.putfield 202, 3) := by decide +kernel
theorem dX7_renderQueue_10 : decode cX7_renderQueue 10 = .ok (.iconst 0, 1) := by decide +kernel
theorem dX7_renderQueue_11 : decode cX7_renderQueue 11 = .ok (.istore_n 1, 1) := by decide +kernel
theorem dX7_renderQueue_12 : decode cX7_renderQueue 12 = .ok (.iload_n 1, 1) := by decide +kernel
theorem dX7_renderQueue_13 : decode cX7_renderQueue 13 = .ok (.aload_n 0, 1) := by decide +kernel
theorem dX7_renderQueue_14 : decode cX7_renderQueue 14 = .ok (.getfield 9, 3) := by decide +kernel
theorem dX7_renderQueue_17 : decode cX7_renderQueue 17 = .ok (.bipush 9, 2) := by decide +kernel
theorem dX7_renderQueue_19 : decode cX7_renderQueue 19 = .ok (.iaload, 1) := by decide +kernel
theorem dX7_renderQueue_20 : decode cX7_renderQueue 20 = .ok (.if_icmp .ge 78, 3) := by decide +kernel
theorem dX7_renderQueue_23 : decode cX7_renderQueue 23 = .ok (.aload_n 0, 1) := by decide +kernel
theorem dX7_renderQueue_24 : decode cX7_renderQueue 24 = .ok (.getfield 9, 3) := by decide +kernel
theorem dX7_renderQueue_27 : decode cX7_renderQueue 27 = .ok (.bipush 123, 2) := by decide +kernel
theorem dX7_renderQueue_29 : decode cX7_renderQueue 29 = .ok (.iload_n 1, 1) := by decide +kernel
theorem dX7_renderQueue_30 : decode cX7_renderQueue 30 = .ok (.iadd, 1) := by decide +kernel
theorem dX7_renderQueue_31 : decode cX7_renderQueue 31 = .ok (.iaload, 1) := by decide +kernel
theorem dX7_renderQueue_32 : decode cX7_renderQueue 32 = .ok (.invokestatic 64, 3) := by decide +kernel
theorem dX7_renderQueue_35 : decode cX7_renderQueue 35 = .ok (.istore_n 2, 1) := by decide +kernel
theorem dX7_renderQueue_36 : decode cX7_renderQueue 36 = .ok (.iload_n 1, 1) := by decide +kernel
theorem dX7_renderQueue_37 : decode cX7_renderQueue 37 = .ok (.ifCond .le 9, 3) := by decide +kernel
theorem dX7_renderQueue_40 : decode cX7_renderQueue 40 = .ok (.aload_n 0, 1) := by decide +kernel
theorem dX7_renderQueue_41 : decode cX7_renderQueue 41 = .ok (.bipush 32, 2) := by decide +kernel
theorem dX7_renderQueue_43 : decode cX7_renderQueue 43 = .ok (.invokevirtual 205, 3) := by decide +kernel
theorem dX7_renderQueue_46 : decode cX7_renderQueue 46 = .ok (.aload_n 0, 1) := by decide +kernel
theorem dX7_renderQueue_47 : decode cX7_renderQueue 47 = .ok (.aload_n 0, 1) := by decide +kernel
theorem dX7_renderQueue_48 : decode cX7_renderQueue 48 = .ok (.getfield 9, 3) := by decide +kernel
theorem dX7_renderQueue_51 : decode cX7_renderQueue 51 = .ok (.iload_n 2, 1) := by decide +kernel
theorem dX7_renderQueue_52 : decode cX7_renderQueue 52 = .ok (.iaload, 1) := by decide +kernel
theorem dX7_renderQueue_53 : decode cX7_renderQueue 53 = .ok (.invokevirtual 208, 3) := by decide +kernel
theorem dX7_renderQueue_56 : decode cX7_renderQueue 56 = .ok (.aload_n 0, 1) := by decide +kernel
theorem dX7_renderQueue_57 : decode cX7_renderQueue 57 = .ok (.getfield 9, 3) := by decide +kernel
theorem dX7_renderQueue_60 : decode cX7_renderQueue 60 = .ok (.iload_n 2, 1) := by decide +kernel
theorem dX7_renderQueue_61 : decode cX7_renderQueue 61 = .ok (.iconst 5, 1) := by decide +kernel
theorem dX7_renderQueue_62 : decode cX7_renderQueue 62 = .ok (.iadd, 1) := by decide +kernel
theorem dX7_renderQueue_63 : decode cX7_renderQueue 63 = .ok (.iaload, 1) := by decide +kernel
theorem dX7_renderQueue_64 : decode cX7_renderQueue 64 = .ok (.iconst 1, 1) := by decide +kernel
theorem dX7_renderQueue_65 : decode cX7_renderQueue 65 = .ok (.if_icmp .ne 9, 3) := by decide +kernel
theorem dX7_renderQueue_68 : decode cX7_renderQueue 68 = .ok (.aload_n 0, 1) := by decide +kernel
theorem dX7_renderQueue_69 : decode cX7_renderQueue 69 = .ok (.bipush 33, 2) := by decide +kernel
theorem dX7_renderQueue_71 : decode cX7_renderQueue 71 = .ok (.invokevirtual 205, 3) := by decide +kernel
theorem dX7_renderQueue_74 : decode cX7_renderQueue 74 = .ok (.aload_n 0, 1) := by decide +kernel
theorem dX7_renderQueue_75 : decode cX7_renderQueue 75 = .ok (.getfield 9, 3) := by decide +kernel
theorem dX7_renderQueue_78 : decode cX7_renderQueue 78 = .ok (.iload_n 2, 1) := by decide +kernel
theorem dX7_renderQueue_79 : decode cX7_renderQueue 79 = .ok (.iconst 4, 1) := by decide +kernel
theorem dX7_renderQueue_80 : decode cX7_renderQueue 80 = .ok (.iadd, 1) := by decide +kernel
theorem dX7_renderQueue_81 : decode cX7_renderQueue 81 = .ok (.iaload, 1) := by decide +kernel
theorem dX7_renderQueue_82 : decode cX7_renderQueue 82 = .ok (.iconst 1, 1) := by decide +kernel
theorem dX7_renderQueue_83 : decode cX7_renderQueue 83 = .ok (.if_icmp .ne 9, 3) := by decide +kernel
theorem dX7_renderQueue_86 : decode cX7_renderQueue 86 = .ok (.aload_n 0, 1) := by decide +kernel
theorem dX7_renderQueue_87 : decode cX7_renderQueue 87 = .ok (.bipush 95, 2) := by decide +kernel
theorem dX7_renderQueue_89 : decode cX7_renderQueue 89 = .ok (.invokevirtual 205, 3) := by decide +kernel
theorem dX7_renderQueue_92 : decode cX7_renderQueue 92 = .ok (.iinc 1 1, 3) := by decide +kernel
theorem dX7_renderQueue_95 : decode cX7_renderQueue 95 = .ok (.goto (-83), 3) := by decide +kernel
theorem dX7_renderQueue_98 : decode cX7_renderQueue 98 = .ok (.aload_n 0, 1) := by decide +kernel
theorem dX7_renderQueue_99 : decode cX7_renderQueue 99 = .ok (.getfield 202, 3) := by decide +kernel
theorem dX7_renderQueue_102 : decode cX7_renderQueue 102 = .ok (.ireturn, 1) := by decide +kernel
set_option maxRecDepth 20000 in
theorem ggX7_renderWindows_X7_sign : GoodIn wsX7_renderWindows wsX7_sign := goodIn_ca (goodIn_rr _ [(8, 2), (2, 1), (24, 21)] rfl (by decide +kernel)) (goodIn_sub (fun _ h => List.mem_cons_of_mem _ (List.mem_append_left _ (List.mem_append_right _ h))) (by decide +kernel))
set_option maxRecDepth 20000 in
theorem gX7_renderWindows_X7_sign : GoodIn wsX7_renderWindows (wsV RX7 205 RX7 yX7_sign wsX7_sign) := goodIn_app (goodIn_of _ (by decide +kernel)) ggX7_renderWindows_X7_sign
set_option maxRecDepth 20000 in
theorem ggX7_renderWindows_X7_windowAt : GoodIn wsX7_renderWindows wsX7_windowAt := goodIn_rr _ [(12, 1)] rfl (by decide +kernel)
set_option maxRecDepth 20000 in
theorem gX7_renderWindows_X7_windowAt : GoodIn wsX7_renderWindows (va_wsS RX7 48 yX7_windowAt wsX7_windowAt) := goodIn_app (goodIn_of _ (by decide +kernel)) ggX7_renderWindows_X7_windowAt
set_option maxRecDepth 20000 in
theorem ggX7_renderWindows_X7_isOpen : GoodIn wsX7_renderWindows wsX7_isOpen := goodIn_ca (goodIn_rr _ [(16, 1), (3, 1), (10, 2), (7, 1), (12, 1), (24, 21)] rfl (by decide +kernel)) (goodIn_sub (fun _ h => List.mem_cons_of_mem _ (List.mem_append_left _ (List.mem_append_right _ h))) (by decide +kernel))
set_option maxRecDepth 20000 in
theorem gX7_renderWindows_X7_isOpen : GoodIn wsX7_renderWindows (wsV RX7 67 RX7 yX7_isOpen wsX7_isOpen) := goodIn_app (goodIn_of _ (by decide +kernel)) ggX7_renderWindows_X7_isOpen
set_option maxRecDepth 20000 in
theorem ggX7_renderWindows_X7_personAt : GoodIn wsX7_renderWindows wsX7_personAt := goodIn_rr _ [(19, 1)] rfl (by decide +kernel)
set_option maxRecDepth 20000 in
theorem gX7_renderWindows_X7_personAt : GoodIn wsX7_renderWindows (va_wsS RX7 64 yX7_personAt wsX7_personAt) := goodIn_app (goodIn_of _ (by decide +kernel)) ggX7_renderWindows_X7_personAt
set_option maxRecDepth 20000 in
theorem ggX7_renderWindows_X7_writesNumber : GoodIn wsX7_renderWindows wsX7_writesNumber := goodIn_ca (goodIn_ca (goodIn_rr _ [(23, 1), (4, 6), (2, 1), (24, 21)] rfl (by decide +kernel)) (goodIn_sub (fun _ h => List.mem_cons_of_mem _ (List.mem_append_right _ h)) (by decide +kernel))) (goodIn_sub (fun _ h => List.mem_cons_of_mem _ (List.mem_append_left _ (List.mem_append_right _ h))) (by decide +kernel))
set_option maxRecDepth 20000 in
theorem gX7_renderWindows_X7_writesNumber : GoodIn wsX7_renderWindows (wsV RX7 208 RX7 yX7_writesNumber wsX7_writesNumber) := goodIn_app (goodIn_of _ (by decide +kernel)) ggX7_renderWindows_X7_writesNumber
theorem dX7_renderWindows_0 : decode cX7_renderWindows 0 = .ok (.aload_n 0, 1) := by decide +kernel
theorem dX7_renderWindows_1 : decode cX7_renderWindows 1 = .ok (.iconst 0, 1) := by decide +kernel
theorem dX7_renderWindows_2 : decode cX7_renderWindows 2 = .ok (.putfield 52, 3) := by decide +kernel
theorem dX7_renderWindows_5 : decode cX7_renderWindows 5 = .ok (.aload_n 0, 1) := by decide +kernel
theorem dX7_renderWindows_6 : decode cX7_renderWindows 6 = .ok (.iconst 0, 1) := by decide +kernel
theorem dX7_renderWindows_7 : decode cX7_renderWindows 7 = .ok (.putfield 202, 3) := by decide +kernel
theorem dX7_renderWindows_10 : decode cX7_renderWindows 10 = .ok (.iconst 0, 1) := by decide +kernel
theorem dX7_renderWindows_11 : decode cX7_renderWindows 11 = .ok (.istore_n 1, 1) := by decide +kernel
theorem dX7_renderWindows_12 : decode cX7_renderWindows 12 = .ok (.iload_n 1, 1) := by decide +kernel
theorem dX7_renderWindows_13 : decode cX7_renderWindows 13 = .ok (.iconst 3, 1) := by decide +kernel
theorem dX7_renderWindows_14 : decode cX7_renderWindows 14 = .ok (.if_icmp .ge 110, 3) := by decide +kernel
theorem dX7_renderWindows_17 : decode cX7_renderWindows 17 = .ok (.iload_n 1, 1) := by decide +kernel
theorem dX7_renderWindows_18 : decode cX7_renderWindows 18 = .ok (.ifCond .le 9, 3) := by decide +kernel
theorem dX7_renderWindows_21 : decode cX7_renderWindows 21 = .ok (.aload_n 0, 1) := by decide +kernel
theorem dX7_renderWindows_22 : decode cX7_renderWindows 22 = .ok (.bipush 32, 2) := by decide +kernel
theorem dX7_renderWindows_24 : decode cX7_renderWindows 24 = .ok (.invokevirtual 205, 3) := by decide +kernel
theorem dX7_renderWindows_27 : decode cX7_renderWindows 27 = .ok (.aload_n 0, 1) := by decide +kernel
theorem dX7_renderWindows_28 : decode cX7_renderWindows 28 = .ok (.bipush 48, 2) := by decide +kernel
theorem dX7_renderWindows_30 : decode cX7_renderWindows 30 = .ok (.iload_n 1, 1) := by decide +kernel
theorem dX7_renderWindows_31 : decode cX7_renderWindows 31 = .ok (.iadd, 1) := by decide +kernel
theorem dX7_renderWindows_32 : decode cX7_renderWindows 32 = .ok (.invokevirtual 205, 3) := by decide +kernel
theorem dX7_renderWindows_35 : decode cX7_renderWindows 35 = .ok (.aload_n 0, 1) := by decide +kernel
theorem dX7_renderWindows_36 : decode cX7_renderWindows 36 = .ok (.bipush 58, 2) := by decide +kernel
theorem dX7_renderWindows_38 : decode cX7_renderWindows 38 = .ok (.invokevirtual 205, 3) := by decide +kernel
theorem dX7_renderWindows_41 : decode cX7_renderWindows 41 = .ok (.aload_n 0, 1) := by decide +kernel
theorem dX7_renderWindows_42 : decode cX7_renderWindows 42 = .ok (.getfield 9, 3) := by decide +kernel
theorem dX7_renderWindows_45 : decode cX7_renderWindows 45 = .ok (.iload_n 1, 1) := by decide +kernel
theorem dX7_renderWindows_46 : decode cX7_renderWindows 46 = .ok (.invokestatic 48, 3) := by decide +kernel
theorem dX7_renderWindows_49 : decode cX7_renderWindows 49 = .ok (.iconst 2, 1) := by decide +kernel
theorem dX7_renderWindows_50 : decode cX7_renderWindows 50 = .ok (.iadd, 1) := by decide +kernel
theorem dX7_renderWindows_51 : decode cX7_renderWindows 51 = .ok (.iaload, 1) := by decide +kernel
theorem dX7_renderWindows_52 : decode cX7_renderWindows 52 = .ok (.istore_n 2, 1) := by decide +kernel
theorem dX7_renderWindows_53 : decode cX7_renderWindows 53 = .ok (.aload_n 0, 1) := by decide +kernel
theorem dX7_renderWindows_54 : decode cX7_renderWindows 54 = .ok (.iload_n 1, 1) := by decide +kernel
theorem dX7_renderWindows_55 : decode cX7_renderWindows 55 = .ok (.invokevirtual 67, 3) := by decide +kernel
theorem dX7_renderWindows_58 : decode cX7_renderWindows 58 = .ok (.ifCond .ne 12, 3) := by decide +kernel
theorem dX7_renderWindows_61 : decode cX7_renderWindows 61 = .ok (.aload_n 0, 1) := by decide +kernel
theorem dX7_renderWindows_62 : decode cX7_renderWindows 62 = .ok (.bipush 120, 2) := by decide +kernel
theorem dX7_renderWindows_64 : decode cX7_renderWindows 64 = .ok (.invokevirtual 205, 3) := by decide +kernel
theorem dX7_renderWindows_67 : decode cX7_renderWindows 67 = .ok (.goto 51, 3) := by decide +kernel
theorem dX7_renderWindows_70 : decode cX7_renderWindows 70 = .ok (.iload_n 2, 1) := by decide +kernel
theorem dX7_renderWindows_71 : decode cX7_renderWindows 71 = .ok (.iconst (-1), 1) := by decide +kernel
theorem dX7_renderWindows_72 : decode cX7_renderWindows 72 = .ok (.if_icmp .ne 12, 3) := by decide +kernel
theorem dX7_renderWindows_75 : decode cX7_renderWindows 75 = .ok (.aload_n 0, 1) := by decide +kernel
theorem dX7_renderWindows_76 : decode cX7_renderWindows 76 = .ok (.bipush 45, 2) := by decide +kernel
theorem dX7_renderWindows_78 : decode cX7_renderWindows 78 = .ok (.invokevirtual 205, 3) := by decide +kernel
theorem dX7_renderWindows_81 : decode cX7_renderWindows 81 = .ok (.goto 37, 3) := by decide +kernel
theorem dX7_renderWindows_84 : decode cX7_renderWindows 84 = .ok (.aload_n 0, 1) := by decide +kernel
theorem dX7_renderWindows_85 : decode cX7_renderWindows 85 = .ok (.aload_n 0, 1) := by decide +kernel
theorem dX7_renderWindows_86 : decode cX7_renderWindows 86 = .ok (.getfield 9, 3) := by decide +kernel
theorem dX7_renderWindows_89 : decode cX7_renderWindows 89 = .ok (.iload_n 2, 1) := by decide +kernel
theorem dX7_renderWindows_90 : decode cX7_renderWindows 90 = .ok (.invokestatic 64, 3) := by decide +kernel
theorem dX7_renderWindows_93 : decode cX7_renderWindows 93 = .ok (.iaload, 1) := by decide +kernel
theorem dX7_renderWindows_94 : decode cX7_renderWindows 94 = .ok (.invokevirtual 208, 3) := by decide +kernel
theorem dX7_renderWindows_97 : decode cX7_renderWindows 97 = .ok (.aload_n 0, 1) := by decide +kernel
theorem dX7_renderWindows_98 : decode cX7_renderWindows 98 = .ok (.bipush 47, 2) := by decide +kernel
theorem dX7_renderWindows_100 : decode cX7_renderWindows 100 = .ok (.invokevirtual 205, 3) := by decide +kernel
theorem dX7_renderWindows_103 : decode cX7_renderWindows 103 = .ok (.aload_n 0, 1) := by decide +kernel
theorem dX7_renderWindows_104 : decode cX7_renderWindows 104 = .ok (.aload_n 0, 1) := by decide +kernel
theorem dX7_renderWindows_105 : decode cX7_renderWindows 105 = .ok (.getfield 9, 3) := by decide +kernel
theorem dX7_renderWindows_108 : decode cX7_renderWindows 108 = .ok (.iload_n 1, 1) := by decide +kernel
theorem dX7_renderWindows_109 : decode cX7_renderWindows 109 = .ok (.invokestatic 48, 3) := by decide +kernel
theorem dX7_renderWindows_112 : decode cX7_renderWindows 112 = .ok (.iconst 3, 1) := by decide +kernel
theorem dX7_renderWindows_113 : decode cX7_renderWindows 113 = .ok (.iadd, 1) := by decide +kernel
theorem dX7_renderWindows_114 : decode cX7_renderWindows 114 = .ok (.iaload, 1) := by decide +kernel
theorem dX7_renderWindows_115 : decode cX7_renderWindows 115 = .ok (.invokevirtual 208, 3) := by decide +kernel
theorem dX7_renderWindows_118 : decode cX7_renderWindows 118 = .ok (.iinc 1 1, 3) := by decide +kernel
theorem dX7_renderWindows_121 : decode cX7_renderWindows 121 = .ok (.goto (-109), 3) := by decide +kernel
theorem dX7_renderWindows_124 : decode cX7_renderWindows 124 = .ok (.aload_n 0, 1) := by decide +kernel
theorem dX7_renderWindows_125 : decode cX7_renderWindows 125 = .ok (.getfield 202, 3) := by decide +kernel
theorem dX7_renderWindows_128 : decode cX7_renderWindows 128 = .ok (.ireturn, 1) := by decide +kernel
set_option maxRecDepth 20000 in
theorem ggX7_outputAt_X7_in : GoodIn wsX7_outputAt wsX7_in := goodIn_rr _ [(7, 1)] rfl (by decide +kernel)
set_option maxRecDepth 20000 in
theorem gX7_outputAt_X7_in : GoodIn wsX7_outputAt (va_wsS RX7 60 yX7_in wsX7_in) := goodIn_app (goodIn_of _ (by decide +kernel)) ggX7_outputAt_X7_in
set_option maxRecDepth 20000 in
theorem ggX7_outputAt_X7_throwing : GoodIn wsX7_outputAt wsX7_throwing := goodIn_rr _ [(11, 1), (1, 1), (12, 21)] rfl (by decide +kernel)
set_option maxRecDepth 20000 in
theorem gX7_outputAt_X7_throwing : GoodIn wsX7_outputAt (wsV RX7 83 RX7 yX7_throwing wsX7_throwing) := goodIn_app (goodIn_of _ (by decide +kernel)) ggX7_outputAt_X7_throwing
theorem dX7_outputAt_0 : decode cX7_outputAt 0 = .ok (.aload_n 0, 1) := by decide +kernel
theorem dX7_outputAt_1 : decode cX7_outputAt 1 = .ok (.iconst 0, 1) := by decide +kernel
theorem dX7_outputAt_2 : decode cX7_outputAt 2 = .ok (.putfield 52, 3) := by decide +kernel
theorem dX7_outputAt_5 : decode cX7_outputAt 5 = .ok (.iload_n 1, 1) := by decide +kernel
theorem dX7_outputAt_6 : decode cX7_outputAt 6 = .ok (.i2l, 1) := by decide +kernel
theorem dX7_outputAt_7 : decode cX7_outputAt 7 = .ok (.lconst 0, 1) := by decide +kernel
theorem dX7_outputAt_8 : decode cX7_outputAt 8 = .ok (.aload_n 0, 1) := by decide +kernel
theorem dX7_outputAt_9 : decode cX7_outputAt 9 = .ok (.getfield 202, 3) := by decide +kernel
theorem dX7_outputAt_12 : decode cX7_outputAt 12 = .ok (.iconst 1, 1) := by decide +kernel
theorem dX7_outputAt_13 : decode cX7_outputAt 13 = .ok (.isub, 1) := by decide +kernel
theorem dX7_outputAt_14 : decode cX7_outputAt 14 = .ok (.i2l, 1) := by decide +kernel
theorem dX7_outputAt_15 : decode cX7_outputAt 15 = .ok (.invokestatic 60, 3) := by decide +kernel
theorem dX7_outputAt_18 : decode cX7_outputAt 18 = .ok (.ifCond .eq 13, 3) := by decide +kernel
theorem dX7_outputAt_21 : decode cX7_outputAt 21 = .ok (.aload_n 0, 1) := by decide +kernel
theorem dX7_outputAt_22 : decode cX7_outputAt 22 = .ok (.getfield 35, 3) := by decide +kernel
theorem dX7_outputAt_25 : decode cX7_outputAt 25 = .ok (.iload_n 1, 1) := by decide +kernel
theorem dX7_outputAt_26 : decode cX7_outputAt 26 = .ok (.iaload, 1) := by decide +kernel
theorem dX7_outputAt_27 : decode cX7_outputAt 27 = .ok (.i2c, 1) := by decide +kernel
theorem dX7_outputAt_28 : decode cX7_outputAt 28 = .ok (.goto 9, 3) := by decide +kernel
theorem dX7_outputAt_31 : decode cX7_outputAt 31 = .ok (.aload_n 0, 1) := by decide +kernel
theorem dX7_outputAt_32 : decode cX7_outputAt 32 = .ok (.iconst 1, 1) := by decide +kernel
theorem dX7_outputAt_33 : decode cX7_outputAt 33 = .ok (.invokevirtual 83, 3) := by decide +kernel
theorem dX7_outputAt_36 : decode cX7_outputAt 36 = .ok (.i2c, 1) := by decide +kernel
theorem dX7_outputAt_37 : decode cX7_outputAt 37 = .ok (.ireturn, 1) := by decide +kernel
set_option maxRecDepth 20000 in
theorem ggX7_type_X7_in : GoodIn wsX7_type wsX7_in := goodIn_rr _ [(9, 1)] rfl (by decide +kernel)
set_option maxRecDepth 20000 in
theorem gX7_type_X7_in : GoodIn wsX7_type (va_wsS RX7 60 yX7_in wsX7_in) := goodIn_app (goodIn_of _ (by decide +kernel)) ggX7_type_X7_in
set_option maxRecDepth 20000 in
theorem ggX7_type_X7_throwing : GoodIn wsX7_type wsX7_throwing := goodIn_rr _ [(13, 1), (1, 1), (14, 21)] rfl (by decide +kernel)
set_option maxRecDepth 20000 in
theorem gX7_type_X7_throwing : GoodIn wsX7_type (wsV RX7 83 RX7 yX7_throwing wsX7_throwing) := goodIn_app (goodIn_of _ (by decide +kernel)) ggX7_type_X7_throwing
theorem dX7_type_0 : decode cX7_type 0 = .ok (.aload_n 0, 1) := by decide +kernel
theorem dX7_type_1 : decode cX7_type 1 = .ok (.iconst 0, 1) := by decide +kernel
theorem dX7_type_2 : decode cX7_type 2 = .ok (.putfield 52, 3) := by decide +kernel
theorem dX7_type_5 : decode cX7_type 5 = .ok (.iload_n 1, 1) := by decide +kernel
theorem dX7_type_6 : decode cX7_type 6 = .ok (.i2l, 1) := by decide +kernel
theorem dX7_type_7 : decode cX7_type 7 = .ok (.ldc2_w 211, 3) := by decide +kernel
theorem dX7_type_10 : decode cX7_type 10 = .ok (.ldc2_w 213, 3) := by decide +kernel
theorem dX7_type_13 : decode cX7_type 13 = .ok (.invokestatic 60, 3) := by decide +kernel
theorem dX7_type_16 : decode cX7_type 16 = .ok (.ifCond .ne 9, 3) := by decide +kernel
theorem dX7_type_19 : decode cX7_type 19 = .ok (.aload_n 0, 1) := by decide +kernel
theorem dX7_type_20 : decode cX7_type 20 = .ok (.iconst 1, 1) := by decide +kernel
theorem dX7_type_21 : decode cX7_type 21 = .ok (.invokevirtual 83, 3) := by decide +kernel
theorem dX7_type_24 : decode cX7_type 24 = .ok (.ireturn, 1) := by decide +kernel
theorem dX7_type_25 : decode cX7_type 25 = .ok (.aload_n 0, 1) := by decide +kernel
theorem dX7_type_26 : decode cX7_type 26 = .ok (.getfield 215, 3) := by decide +kernel
theorem dX7_type_29 : decode cX7_type 29 = .ok (.bipush 60, 2) := by decide +kernel
theorem dX7_type_31 : decode cX7_type 31 = .ok (.if_icmp .ne 9, 3) := by decide +kernel
theorem dX7_type_34 : decode cX7_type 34 = .ok (.aload_n 0, 1) := by decide +kernel
theorem dX7_type_35 : decode cX7_type 35 = .ok (.iconst 2, 1) := by decide +kernel
theorem dX7_type_36 : decode cX7_type 36 = .ok (.invokevirtual 83, 3) := by decide +kernel
theorem dX7_type_39 : decode cX7_type 39 = .ok (.ireturn, 1) := by decide +kernel
theorem dX7_type_40 : decode cX7_type 40 = .ok (.aload_n 0, 1) := by decide +kernel
theorem dX7_type_41 : decode cX7_type 41 = .ok (.getfield 32, 3) := by decide +kernel
theorem dX7_type_44 : decode cX7_type 44 = .ok (.aload_n 0, 1) := by decide +kernel
theorem dX7_type_45 : decode cX7_type 45 = .ok (.getfield 215, 3) := by decide +kernel
theorem dX7_type_48 : decode cX7_type 48 = .ok (.iload_n 1, 1) := by decide +kernel
theorem dX7_type_49 : decode cX7_type 49 = .ok (.iastore, 1) := by decide +kernel
theorem dX7_type_50 : decode cX7_type 50 = .ok (.aload_n 0, 1) := by decide +kernel
theorem dX7_type_51 : decode cX7_type 51 = .ok (.dup, 1) := by decide +kernel
theorem dX7_type_52 : decode cX7_type 52 = .ok (.getfield 215, 3) := by decide +kernel
theorem dX7_type_55 : decode cX7_type 55 = .ok (.iconst 1, 1) := by decide +kernel
theorem dX7_type_56 : decode cX7_type 56 = .ok (.iadd, 1) := by decide +kernel
theorem dX7_type_57 : decode cX7_type 57 = .ok (.putfield 215, 3) := by decide +kernel
theorem dX7_type_60 : decode cX7_type 60 = .ok (.aload_n 0, 1) := by decide +kernel
theorem dX7_type_61 : decode cX7_type 61 = .ok (.getfield 215, 3) := by decide +kernel
theorem dX7_type_64 : decode cX7_type 64 = .ok (.ireturn, 1) := by decide +kernel
theorem dX7_here_0 : decode cX7_here 0 = .ok (.aload_n 0, 1) := by decide +kernel
theorem dX7_here_1 : decode cX7_here 1 = .ok (.getfield 218, 3) := by decide +kernel
theorem dX7_here_4 : decode cX7_here 4 = .ok (.aload_n 0, 1) := by decide +kernel
theorem dX7_here_5 : decode cX7_here 5 = .ok (.getfield 221, 3) := by decide +kernel
theorem dX7_here_8 : decode cX7_here 8 = .ok (.if_icmp .ge 15, 3) := by decide +kernel
theorem dX7_here_11 : decode cX7_here 11 = .ok (.aload_n 0, 1) := by decide +kernel
theorem dX7_here_12 : decode cX7_here 12 = .ok (.getfield 32, 3) := by decide +kernel
theorem dX7_here_15 : decode cX7_here 15 = .ok (.aload_n 0, 1) := by decide +kernel
theorem dX7_here_16 : decode cX7_here 16 = .ok (.getfield 218, 3) := by decide +kernel
theorem dX7_here_19 : decode cX7_here 19 = .ok (.iaload, 1) := by decide +kernel
theorem dX7_here_20 : decode cX7_here 20 = .ok (.goto 4, 3) := by decide +kernel
theorem dX7_here_23 : decode cX7_here 23 = .ok (.iconst (-1), 1) := by decide +kernel
theorem dX7_here_24 : decode cX7_here 24 = .ok (.ireturn, 1) := by decide +kernel
set_option maxRecDepth 20000 in
theorem ggX7_expects_X7_here : GoodIn wsX7_expects wsX7_here := goodIn_ca (goodIn_rr _ [(7, 1), (2, 1), (8, 23)] rfl (by decide +kernel)) (goodIn_sub (fun _ h => List.mem_cons_of_mem _ (List.mem_append_right _ h)) (by decide +kernel))
set_option maxRecDepth 20000 in
theorem gX7_expects_X7_here : GoodIn wsX7_expects (wsV RX7 228 RX7 yX7_here wsX7_here) := goodIn_app (goodIn_of _ (by decide +kernel)) ggX7_expects_X7_here
theorem dX7_expects_0 : decode cX7_expects 0 = .ok (.aload_n 0, 1) := by decide +kernel
theorem dX7_expects_1 : decode cX7_expects 1 = .ok (.aload_n 0, 1) := by decide +kernel
theorem dX7_expects_2 : decode cX7_expects 2 = .ok (.getfield 224, 3) := by decide +kernel
theorem dX7_expects_5 : decode cX7_expects 5 = .ok (.ifCond .ne 11, 3) := by decide +kernel
theorem dX7_expects_8 : decode cX7_expects 8 = .ok (.aload_n 0, 1) := by decide +kernel
theorem dX7_expects_9 : decode cX7_expects 9 = .ok (.invokevirtual 228, 3) := by decide +kernel
theorem dX7_expects_12 : decode cX7_expects 12 = .ok (.iload_n 1, 1) := by decide +kernel
theorem dX7_expects_13 : decode cX7_expects 13 = .ok (.if_icmp .eq 7, 3) := by decide +kernel
theorem dX7_expects_16 : decode cX7_expects 16 = .ok (.iconst 1, 1) := by decide +kernel
theorem dX7_expects_17 : decode cX7_expects 17 = .ok (.goto 4, 3) := by decide +kernel
theorem dX7_expects_20 : decode cX7_expects 20 = .ok (.iconst 0, 1) := by decide +kernel
theorem dX7_expects_21 : decode cX7_expects 21 = .ok (.putfield 224, 3) := by decide +kernel
theorem dX7_expects_24 : decode cX7_expects 24 = .ok (.aload_n 0, 1) := by decide +kernel
theorem dX7_expects_25 : decode cX7_expects 25 = .ok (.dup, 1) := by decide +kernel
theorem dX7_expects_26 : decode cX7_expects 26 = .ok (.getfield 218, 3) := by decide +kernel
theorem dX7_expects_29 : decode cX7_expects 29 = .ok (.aload_n 0, 1) := by decide +kernel
theorem dX7_expects_30 : decode cX7_expects 30 = .ok (.getfield 224, 3) := by decide +kernel
theorem dX7_expects_33 : decode cX7_expects 33 = .ok (.ifCond .eq 7, 3) := by decide +kernel
theorem dX7_expects_36 : decode cX7_expects 36 = .ok (.iconst 0, 1) := by decide +kernel
theorem dX7_expects_37 : decode cX7_expects 37 = .ok (.goto 4, 3) := by decide +kernel
theorem dX7_expects_40 : decode cX7_expects 40 = .ok (.iconst 1, 1) := by decide +kernel
theorem dX7_expects_41 : decode cX7_expects 41 = .ok (.iadd, 1) := by decide +kernel
theorem dX7_expects_42 : decode cX7_expects 42 = .ok (.putfield 218, 3) := by decide +kernel
theorem dX7_expects_45 : decode cX7_expects 45 = .ok (.return_, 1) := by decide +kernel
set_option maxRecDepth 20000 in
theorem ggX7_digit_X7_here : GoodIn wsX7_digit wsX7_here := goodIn_ca (goodIn_rr _ [(9, 1), (4, 1), (10, 2), (15, 21)] rfl (by decide +kernel)) (goodIn_sub (fun _ h => List.mem_cons_of_mem _ (List.mem_append_right _ h)) (by decide +kernel))
set_option maxRecDepth 20000 in
theorem gX7_digit_X7_here : GoodIn wsX7_digit (wsV RX7 228 RX7 yX7_here wsX7_here) := goodIn_app (goodIn_of _ (by decide +kernel)) ggX7_digit_X7_here
set_option maxRecDepth 20000 in
theorem ggX7_digit_X7_in : GoodIn wsX7_digit wsX7_in := goodIn_rr _ [(14, 1)] rfl (by decide +kernel)
set_option maxRecDepth 20000 in
theorem gX7_digit_X7_in : GoodIn wsX7_digit (va_wsS RX7 60 yX7_in wsX7_in) := goodIn_app (goodIn_of _ (by decide +kernel)) ggX7_digit_X7_in
theorem dX7_digit_0 : decode cX7_digit 0 = .ok (.aload_n 0, 1) := by decide +kernel
theorem dX7_digit_1 : decode cX7_digit 1 = .ok (.aload_n 0, 1) := by decide +kernel
theorem dX7_digit_2 : decode cX7_digit 2 = .ok (.getfield 224, 3) := by decide +kernel
theorem dX7_digit_5 : decode cX7_digit 5 = .ok (.ifCond .ne 20, 3) := by decide +kernel
theorem dX7_digit_8 : decode cX7_digit 8 = .ok (.aload_n 0, 1) := by decide +kernel
theorem dX7_digit_9 : decode cX7_digit 9 = .ok (.invokevirtual 228, 3) := by decide +kernel
theorem dX7_digit_12 : decode cX7_digit 12 = .ok (.i2l, 1) := by decide +kernel
theorem dX7_digit_13 : decode cX7_digit 13 = .ok (.ldc2_w 231, 3) := by decide +kernel
theorem dX7_digit_16 : decode cX7_digit 16 = .ok (.ldc2_w 233, 3) := by decide +kernel
theorem dX7_digit_19 : decode cX7_digit 19 = .ok (.invokestatic 60, 3) := by decide +kernel
theorem dX7_digit_22 : decode cX7_digit 22 = .ok (.ifCond .ne 7, 3) := by decide +kernel
theorem dX7_digit_25 : decode cX7_digit 25 = .ok (.iconst 1, 1) := by decide +kernel
theorem dX7_digit_26 : decode cX7_digit 26 = .ok (.goto 4, 3) := by decide +kernel
theorem dX7_digit_29 : decode cX7_digit 29 = .ok (.iconst 0, 1) := by decide +kernel
theorem dX7_digit_30 : decode cX7_digit 30 = .ok (.putfield 224, 3) := by decide +kernel
theorem dX7_digit_33 : decode cX7_digit 33 = .ok (.aload_n 0, 1) := by decide +kernel
theorem dX7_digit_34 : decode cX7_digit 34 = .ok (.getfield 224, 3) := by decide +kernel
theorem dX7_digit_37 : decode cX7_digit 37 = .ok (.ifCond .eq 7, 3) := by decide +kernel
theorem dX7_digit_40 : decode cX7_digit 40 = .ok (.iconst 0, 1) := by decide +kernel
theorem dX7_digit_41 : decode cX7_digit 41 = .ok (.goto 10, 3) := by decide +kernel
theorem dX7_digit_44 : decode cX7_digit 44 = .ok (.aload_n 0, 1) := by decide +kernel
theorem dX7_digit_45 : decode cX7_digit 45 = .ok (.invokevirtual 228, 3) := by decide +kernel
theorem dX7_digit_48 : decode cX7_digit 48 = .ok (.bipush 48, 2) := by decide +kernel
theorem dX7_digit_50 : decode cX7_digit 50 = .ok (.isub, 1) := by decide +kernel
theorem dX7_digit_51 : decode cX7_digit 51 = .ok (.istore_n 1, 1) := by decide +kernel
theorem dX7_digit_52 : decode cX7_digit 52 = .ok (.aload_n 0, 1) := by decide +kernel
theorem dX7_digit_53 : decode cX7_digit 53 = .ok (.dup, 1) := by decide +kernel
theorem dX7_digit_54 : decode cX7_digit 54 = .ok (.getfield 218, 3) := by decide +kernel
theorem dX7_digit_57 : decode cX7_digit 57 = .ok (.aload_n 0, 1) := by decide +kernel
theorem dX7_digit_58 : decode cX7_digit 58 = .ok (.getfield 224, 3) := by decide +kernel
theorem dX7_digit_61 : decode cX7_digit 61 = .ok (.ifCond .eq 7, 3) := by decide +kernel
theorem dX7_digit_64 : decode cX7_digit 64 = .ok (.iconst 0, 1) := by decide +kernel
theorem dX7_digit_65 : decode cX7_digit 65 = .ok (.goto 4, 3) := by decide +kernel
theorem dX7_digit_68 : decode cX7_digit 68 = .ok (.iconst 1, 1) := by decide +kernel
theorem dX7_digit_69 : decode cX7_digit 69 = .ok (.iadd, 1) := by decide +kernel
theorem dX7_digit_70 : decode cX7_digit 70 = .ok (.putfield 218, 3) := by decide +kernel
theorem dX7_digit_73 : decode cX7_digit 73 = .ok (.iload_n 1, 1) := by decide +kernel
theorem dX7_digit_74 : decode cX7_digit 74 = .ok (.ireturn, 1) := by decide +kernel
set_option maxRecDepth 20000 in
theorem ggX7_number_X7_digit : GoodIn wsX7_number wsX7_digit := goodIn_ca (goodIn_rr _ [(8, 1), (1, 3), (9, 4), (7, 1), (13, 27)] rfl (by decide +kernel)) (goodIn_sub (fun _ h => List.mem_cons_of_mem _ (List.mem_append_right _ h)) (by decide +kernel))
set_option maxRecDepth 20000 in
theorem gX7_number_X7_digit : GoodIn wsX7_number (wsV RX7 235 RX7 yX7_digit wsX7_digit) := goodIn_app (goodIn_of _ (by decide +kernel)) ggX7_number_X7_digit
set_option maxRecDepth 20000 in
theorem ggX7_number_X7_here : GoodIn wsX7_number wsX7_here := goodIn_ca (goodIn_rr _ [(13, 1), (9, 1), (14, 2), (19, 21)] rfl (by decide +kernel)) (goodIn_sub (fun _ h => List.mem_cons_of_mem _ (List.mem_append_right _ h)) (by decide +kernel))
set_option maxRecDepth 20000 in
theorem gX7_number_X7_here : GoodIn wsX7_number (wsV RX7 228 RX7 yX7_here wsX7_here) := goodIn_app (goodIn_of _ (by decide +kernel)) ggX7_number_X7_here
set_option maxRecDepth 20000 in
theorem ggX7_number_X7_in : GoodIn wsX7_number wsX7_in := goodIn_rr _ [(18, 1)] rfl (by decide +kernel)
set_option maxRecDepth 20000 in
theorem gX7_number_X7_in : GoodIn wsX7_number (va_wsS RX7 60 yX7_in wsX7_in) := goodIn_app (goodIn_of _ (by decide +kernel)) ggX7_number_X7_in
theorem dX7_number_0 : decode cX7_number 0 = .ok (.aload_n 0, 1) := by decide +kernel
theorem dX7_number_1 : decode cX7_number 1 = .ok (.invokevirtual 235, 3) := by decide +kernel
theorem dX7_number_4 : decode cX7_number 4 = .ok (.istore_n 1, 1) := by decide +kernel
theorem dX7_number_5 : decode cX7_number 5 = .ok (.aload_n 0, 1) := by decide +kernel
theorem dX7_number_6 : decode cX7_number 6 = .ok (.getfield 224, 3) := by decide +kernel
theorem dX7_number_9 : decode cX7_number 9 = .ok (.ifCond .ne 32, 3) := by decide +kernel
theorem dX7_number_12 : decode cX7_number 12 = .ok (.aload_n 0, 1) := by decide +kernel
theorem dX7_number_13 : decode cX7_number 13 = .ok (.invokevirtual 228, 3) := by decide +kernel
theorem dX7_number_16 : decode cX7_number 16 = .ok (.i2l, 1) := by decide +kernel
theorem dX7_number_17 : decode cX7_number 17 = .ok (.ldc2_w 231, 3) := by decide +kernel
theorem dX7_number_20 : decode cX7_number 20 = .ok (.ldc2_w 233, 3) := by decide +kernel
theorem dX7_number_23 : decode cX7_number 23 = .ok (.invokestatic 60, 3) := by decide +kernel
theorem dX7_number_26 : decode cX7_number 26 = .ok (.ifCond .eq 15, 3) := by decide +kernel
theorem dX7_number_29 : decode cX7_number 29 = .ok (.bipush 10, 2) := by decide +kernel
theorem dX7_number_31 : decode cX7_number 31 = .ok (.iload_n 1, 1) := by decide +kernel
theorem dX7_number_32 : decode cX7_number 32 = .ok (.imul, 1) := by decide +kernel
theorem dX7_number_33 : decode cX7_number 33 = .ok (.aload_n 0, 1) := by decide +kernel
theorem dX7_number_34 : decode cX7_number 34 = .ok (.invokevirtual 235, 3) := by decide +kernel
theorem dX7_number_37 : decode cX7_number 37 = .ok (.iadd, 1) := by decide +kernel
theorem dX7_number_38 : decode cX7_number 38 = .ok (.goto 4, 3) := by decide +kernel
theorem dX7_number_41 : decode cX7_number 41 = .ok (.iload_n 1, 1) := by decide +kernel
theorem dX7_number_42 : decode cX7_number 42 = .ok (.ireturn, 1) := by decide +kernel
theorem dX7_likeness_0 : decode cX7_likeness 0 = .ok (.iconst 0, 1) := by decide +kernel
theorem dX7_likeness_1 : decode cX7_likeness 1 = .ok (.istore_n 2, 1) := by decide +kernel
theorem dX7_likeness_2 : decode cX7_likeness 2 = .ok (.aload_n 0, 1) := by decide +kernel
theorem dX7_likeness_3 : decode cX7_likeness 3 = .ok (.getfield 42, 3) := by decide +kernel
theorem dX7_likeness_6 : decode cX7_likeness 6 = .ok (.iload_n 1, 1) := by decide +kernel
theorem dX7_likeness_7 : decode cX7_likeness 7 = .ok (.iconst 1, 1) := by decide +kernel
theorem dX7_likeness_8 : decode cX7_likeness 8 = .ok (.iadd, 1) := by decide +kernel
theorem dX7_likeness_9 : decode cX7_likeness 9 = .ok (.iaload, 1) := by decide +kernel
theorem dX7_likeness_10 : decode cX7_likeness 10 = .ok (.aload_n 0, 1) := by decide +kernel
theorem dX7_likeness_11 : decode cX7_likeness 11 = .ok (.getfield 42, 3) := by decide +kernel
theorem dX7_likeness_14 : decode cX7_likeness 14 = .ok (.iload_n 1, 1) := by decide +kernel
theorem dX7_likeness_15 : decode cX7_likeness 15 = .ok (.iaload, 1) := by decide +kernel
theorem dX7_likeness_16 : decode cX7_likeness 16 = .ok (.isub, 1) := by decide +kernel
theorem dX7_likeness_17 : decode cX7_likeness 17 = .ok (.istore_n 3, 1) := by decide +kernel
theorem dX7_likeness_18 : decode cX7_likeness 18 = .ok (.iload_n 2, 1) := by decide +kernel
theorem dX7_likeness_19 : decode cX7_likeness 19 = .ok (.iload_n 3, 1) := by decide +kernel
theorem dX7_likeness_20 : decode cX7_likeness 20 = .ok (.if_icmp .ge 49, 3) := by decide +kernel
theorem dX7_likeness_23 : decode cX7_likeness 23 = .ok (.aload_n 0, 1) := by decide +kernel
theorem dX7_likeness_24 : decode cX7_likeness 24 = .ok (.getfield 218, 3) := by decide +kernel
theorem dX7_likeness_27 : decode cX7_likeness 27 = .ok (.iload_n 2, 1) := by decide +kernel
theorem dX7_likeness_28 : decode cX7_likeness 28 = .ok (.iadd, 1) := by decide +kernel
theorem dX7_likeness_29 : decode cX7_likeness 29 = .ok (.aload_n 0, 1) := by decide +kernel
theorem dX7_likeness_30 : decode cX7_likeness 30 = .ok (.getfield 221, 3) := by decide +kernel
theorem dX7_likeness_33 : decode cX7_likeness 33 = .ok (.if_icmp .ge 36, 3) := by decide +kernel
theorem dX7_likeness_36 : decode cX7_likeness 36 = .ok (.aload_n 0, 1) := by decide +kernel
theorem dX7_likeness_37 : decode cX7_likeness 37 = .ok (.getfield 32, 3) := by decide +kernel
theorem dX7_likeness_40 : decode cX7_likeness 40 = .ok (.aload_n 0, 1) := by decide +kernel
theorem dX7_likeness_41 : decode cX7_likeness 41 = .ok (.getfield 218, 3) := by decide +kernel
theorem dX7_likeness_44 : decode cX7_likeness 44 = .ok (.iload_n 2, 1) := by decide +kernel
theorem dX7_likeness_45 : decode cX7_likeness 45 = .ok (.iadd, 1) := by decide +kernel
theorem dX7_likeness_46 : decode cX7_likeness 46 = .ok (.iaload, 1) := by decide +kernel
theorem dX7_likeness_47 : decode cX7_likeness 47 = .ok (.aload_n 0, 1) := by decide +kernel
theorem dX7_likeness_48 : decode cX7_likeness 48 = .ok (.getfield 38, 3) := by decide +kernel
theorem dX7_likeness_51 : decode cX7_likeness 51 = .ok (.aload_n 0, 1) := by decide +kernel
theorem dX7_likeness_52 : decode cX7_likeness 52 = .ok (.getfield 42, 3) := by decide +kernel
theorem dX7_likeness_55 : decode cX7_likeness 55 = .ok (.iload_n 1, 1) := by decide +kernel
theorem dX7_likeness_56 : decode cX7_likeness 56 = .ok (.iaload, 1) := by decide +kernel
theorem dX7_likeness_57 : decode cX7_likeness 57 = .ok (.iload_n 2, 1) := by decide +kernel
theorem dX7_likeness_58 : decode cX7_likeness 58 = .ok (.iadd, 1) := by decide +kernel
theorem dX7_likeness_59 : decode cX7_likeness 59 = .ok (.caload, 1) := by decide +kernel
theorem dX7_likeness_60 : decode cX7_likeness 60 = .ok (.if_icmp .ne 9, 3) := by decide +kernel
theorem dX7_likeness_63 : decode cX7_likeness 63 = .ok (.iinc 2 1, 3) := by decide +kernel
theorem dX7_likeness_66 : decode cX7_likeness 66 = .ok (.goto (-48), 3) := by decide +kernel
theorem dX7_likeness_69 : decode cX7_likeness 69 = .ok (.iload_n 2, 1) := by decide +kernel
theorem dX7_likeness_70 : decode cX7_likeness 70 = .ok (.ireturn, 1) := by decide +kernel
set_option maxRecDepth 20000 in
theorem ggX7_readCommand_X7_likeness : GoodIn wsX7_readCommand wsX7_likeness := goodIn_ca (goodIn_rr _ [(10, 1), (3, 1), (2, 1), (11, 3), (35, 21)] rfl (by decide +kernel)) (goodIn_sub (fun _ h => List.mem_cons_of_mem _ (List.mem_append_right _ h)) (by decide +kernel))
set_option maxRecDepth 20000 in
theorem gX7_readCommand_X7_likeness : GoodIn wsX7_readCommand (wsV RX7 241 RX7 yX7_likeness wsX7_likeness) := goodIn_app (goodIn_of _ (by decide +kernel)) ggX7_readCommand_X7_likeness
set_option maxRecDepth 20000 in
theorem ggX7_readCommand_X7_digit : GoodIn wsX7_readCommand wsX7_digit := goodIn_ca (goodIn_rr _ [(17, 1), (4, 1), (18, 2), (2, 1), (20, 3), (9, 1), (23, 1), (11, 2), (24, 3), (35, 21)] rfl (by decide +kernel)) (goodIn_sub (fun _ h => List.mem_cons_of_mem _ (List.mem_append_right _ h)) (by decide +kernel))
set_option maxRecDepth 20000 in
theorem gX7_readCommand_X7_digit : GoodIn wsX7_readCommand (wsV RX7 235 RX7 yX7_digit wsX7_digit) := goodIn_app (goodIn_of _ (by decide +kernel)) ggX7_readCommand_X7_digit
set_option maxRecDepth 20000 in
theorem ggX7_readCommand_X7_number : GoodIn wsX7_readCommand wsX7_number := goodIn_ca (goodIn_rr _ [(30, 1), (4, 1), (18, 2), (14, 3), (9, 1), (17, 1), (2, 1), (20, 4), (11, 2), (24, 3), (35, 21)] rfl (by decide +kernel)) (goodIn_sub (fun _ h => List.mem_cons_of_mem _ (List.mem_append_right _ h)) (by decide +kernel))
set_option maxRecDepth 20000 in
theorem gX7_readCommand_X7_number : GoodIn wsX7_readCommand (wsV RX7 244 RX7 yX7_number wsX7_number) := goodIn_app (goodIn_of _ (by decide +kernel)) ggX7_readCommand_X7_number
set_option maxRecDepth 20000 in
theorem ggX7_readCommand_X7_expects : GoodIn wsX7_readCommand wsX7_expects := goodIn_ca (goodIn_rr _ [(34, 1), (4, 1), (2, 1), (20, 3), (9, 1), (23, 1), (11, 2), (35, 21)] rfl (by decide +kernel)) (goodIn_sub (fun _ h => List.mem_cons_of_mem _ (List.mem_append_right _ h)) (by decide +kernel))
set_option maxRecDepth 20000 in
theorem gX7_readCommand_X7_expects : GoodIn wsX7_readCommand (wsV RX7 247 RX7 yX7_expects wsX7_expects) := goodIn_app (goodIn_of _ (by decide +kernel)) ggX7_readCommand_X7_expects
set_option maxRecDepth 20000 in
theorem ggX7_readCommand_X7_here : GoodIn wsX7_readCommand wsX7_here := goodIn_ca (goodIn_rr _ [(23, 1), (2, 1), (11, 2), (35, 21)] rfl (by decide +kernel)) (goodIn_sub (fun _ h => List.mem_cons_of_mem _ (List.mem_append_right _ h)) (by decide +kernel))
set_option maxRecDepth 20000 in
theorem gX7_readCommand_X7_here : GoodIn wsX7_readCommand (wsV RX7 228 RX7 yX7_here wsX7_here) := goodIn_app (goodIn_of _ (by decide +kernel)) ggX7_readCommand_X7_here
theorem dX7_readCommand_0 : decode cX7_readCommand 0 = .ok (.iconst 4, 1) := by decide +kernel
theorem dX7_readCommand_1 : decode cX7_readCommand 1 = .ok (.aload_n 0, 1) := by decide +kernel
theorem dX7_readCommand_2 : decode cX7_readCommand 2 = .ok (.getfield 238, 3) := by decide +kernel
theorem dX7_readCommand_5 : decode cX7_readCommand 5 = .ok (.imul, 1) := by decide +kernel
theorem dX7_readCommand_6 : decode cX7_readCommand 6 = .ok (.istore_n 1, 1) := by decide +kernel
theorem dX7_readCommand_7 : decode cX7_readCommand 7 = .ok (.iconst 0, 1) := by decide +kernel
theorem dX7_readCommand_8 : decode cX7_readCommand 8 = .ok (.istore_n 2, 1) := by decide +kernel
theorem dX7_readCommand_9 : decode cX7_readCommand 9 = .ok (.iconst 1, 1) := by decide +kernel
theorem dX7_readCommand_10 : decode cX7_readCommand 10 = .ok (.istore_n 3, 1) := by decide +kernel
theorem dX7_readCommand_11 : decode cX7_readCommand 11 = .ok (.iload_n 3, 1) := by decide +kernel
theorem dX7_readCommand_12 : decode cX7_readCommand 12 = .ok (.bipush 9, 2) := by decide +kernel
theorem dX7_readCommand_14 : decode cX7_readCommand 14 = .ok (.if_icmp .ge 28, 3) := by decide +kernel
theorem dX7_readCommand_17 : decode cX7_readCommand 17 = .ok (.aload_n 0, 1) := by decide +kernel
theorem dX7_readCommand_18 : decode cX7_readCommand 18 = .ok (.iload_n 3, 1) := by decide +kernel
theorem dX7_readCommand_19 : decode cX7_readCommand 19 = .ok (.invokevirtual 241, 3) := by decide +kernel
theorem dX7_readCommand_22 : decode cX7_readCommand 22 = .ok (.aload_n 0, 1) := by decide +kernel
theorem dX7_readCommand_23 : decode cX7_readCommand 23 = .ok (.iload_n 2, 1) := by decide +kernel
theorem dX7_readCommand_24 : decode cX7_readCommand 24 = .ok (.invokevirtual 241, 3) := by decide +kernel
theorem dX7_readCommand_27 : decode cX7_readCommand 27 = .ok (.if_icmp .le 7, 3) := by decide +kernel
theorem dX7_readCommand_30 : decode cX7_readCommand 30 = .ok (.iload_n 3, 1) := by decide +kernel
theorem dX7_readCommand_31 : decode cX7_readCommand 31 = .ok (.goto 4, 3) := by decide +kernel
theorem dX7_readCommand_34 : decode cX7_readCommand 34 = .ok (.iload_n 2, 1) := by decide +kernel
theorem dX7_readCommand_35 : decode cX7_readCommand 35 = .ok (.istore_n 2, 1) := by decide +kernel
theorem dX7_readCommand_36 : decode cX7_readCommand 36 = .ok (.iinc 3 1, 3) := by decide +kernel
theorem dX7_readCommand_39 : decode cX7_readCommand 39 = .ok (.goto (-28), 3) := by decide +kernel
theorem dX7_readCommand_42 : decode cX7_readCommand 42 = .ok (.aload_n 0, 1) := by decide +kernel
theorem dX7_readCommand_43 : decode cX7_readCommand 43 = .ok (.iload_n 2, 1) := by decide +kernel
theorem dX7_readCommand_44 : decode cX7_readCommand 44 = .ok (.invokevirtual 241, 3) := by decide +kernel
theorem dX7_readCommand_47 : decode cX7_readCommand 47 = .ok (.istore_n 3, 1) := by decide +kernel
theorem dX7_readCommand_48 : decode cX7_readCommand 48 = .ok (.aload_n 0, 1) := by decide +kernel
theorem dX7_readCommand_49 : decode cX7_readCommand 49 = .ok (.dup, 1) := by decide +kernel
theorem dX7_readCommand_50 : decode cX7_readCommand 50 = .ok (.getfield 218, 3) := by decide +kernel
theorem dX7_readCommand_53 : decode cX7_readCommand 53 = .ok (.iload_n 3, 1) := by decide +kernel
theorem dX7_readCommand_54 : decode cX7_readCommand 54 = .ok (.iadd, 1) := by decide +kernel
theorem dX7_readCommand_55 : decode cX7_readCommand 55 = .ok (.putfield 218, 3) := by decide +kernel
theorem dX7_readCommand_58 : decode cX7_readCommand 58 = .ok (.aload_n 0, 1) := by decide +kernel
theorem dX7_readCommand_59 : decode cX7_readCommand 59 = .ok (.iload_n 3, 1) := by decide +kernel
theorem dX7_readCommand_60 : decode cX7_readCommand 60 = .ok (.aload_n 0, 1) := by decide +kernel
theorem dX7_readCommand_61 : decode cX7_readCommand 61 = .ok (.getfield 42, 3) := by decide +kernel
theorem dX7_readCommand_64 : decode cX7_readCommand 64 = .ok (.iload_n 2, 1) := by decide +kernel
theorem dX7_readCommand_65 : decode cX7_readCommand 65 = .ok (.iconst 1, 1) := by decide +kernel
theorem dX7_readCommand_66 : decode cX7_readCommand 66 = .ok (.iadd, 1) := by decide +kernel
theorem dX7_readCommand_67 : decode cX7_readCommand 67 = .ok (.iaload, 1) := by decide +kernel
theorem dX7_readCommand_68 : decode cX7_readCommand 68 = .ok (.aload_n 0, 1) := by decide +kernel
theorem dX7_readCommand_69 : decode cX7_readCommand 69 = .ok (.getfield 42, 3) := by decide +kernel
theorem dX7_readCommand_72 : decode cX7_readCommand 72 = .ok (.iload_n 2, 1) := by decide +kernel
theorem dX7_readCommand_73 : decode cX7_readCommand 73 = .ok (.iaload, 1) := by decide +kernel
theorem dX7_readCommand_74 : decode cX7_readCommand 74 = .ok (.isub, 1) := by decide +kernel
theorem dX7_readCommand_75 : decode cX7_readCommand 75 = .ok (.if_icmp .ge 7, 3) := by decide +kernel
theorem dX7_readCommand_78 : decode cX7_readCommand 78 = .ok (.iconst 1, 1) := by decide +kernel
theorem dX7_readCommand_79 : decode cX7_readCommand 79 = .ok (.goto 4, 3) := by decide +kernel
theorem dX7_readCommand_82 : decode cX7_readCommand 82 = .ok (.iconst 0, 1) := by decide +kernel
theorem dX7_readCommand_83 : decode cX7_readCommand 83 = .ok (.putfield 224, 3) := by decide +kernel
theorem dX7_readCommand_86 : decode cX7_readCommand 86 = .ok (.aload_n 0, 1) := by decide +kernel
theorem dX7_readCommand_87 : decode cX7_readCommand 87 = .ok (.getfield 224, 3) := by decide +kernel
theorem dX7_readCommand_90 : decode cX7_readCommand 90 = .ok (.ifCond .eq 4, 3) := by decide +kernel
theorem dX7_readCommand_93 : decode cX7_readCommand 93 = .ok (.return_, 1) := by decide +kernel
theorem dX7_readCommand_94 : decode cX7_readCommand 94 = .ok (.aload_n 0, 1) := by decide +kernel
theorem dX7_readCommand_95 : decode cX7_readCommand 95 = .ok (.getfield 45, 3) := by decide +kernel
theorem dX7_readCommand_98 : decode cX7_readCommand 98 = .ok (.iload_n 1, 1) := by decide +kernel
theorem dX7_readCommand_99 : decode cX7_readCommand 99 = .ok (.iload_n 2, 1) := by decide +kernel
theorem dX7_readCommand_100 : decode cX7_readCommand 100 = .ok (.iastore, 1) := by decide +kernel
theorem dX7_readCommand_101 : decode cX7_readCommand 101 = .ok (.aload_n 0, 1) := by decide +kernel
theorem dX7_readCommand_102 : decode cX7_readCommand 102 = .ok (.getfield 45, 3) := by decide +kernel
theorem dX7_readCommand_105 : decode cX7_readCommand 105 = .ok (.iload_n 1, 1) := by decide +kernel
theorem dX7_readCommand_106 : decode cX7_readCommand 106 = .ok (.iconst 1, 1) := by decide +kernel
theorem dX7_readCommand_107 : decode cX7_readCommand 107 = .ok (.iadd, 1) := by decide +kernel
theorem dX7_readCommand_108 : decode cX7_readCommand 108 = .ok (.iconst 1, 1) := by decide +kernel
theorem dX7_readCommand_109 : decode cX7_readCommand 109 = .ok (.iastore, 1) := by decide +kernel
theorem dX7_readCommand_110 : decode cX7_readCommand 110 = .ok (.aload_n 0, 1) := by decide +kernel
theorem dX7_readCommand_111 : decode cX7_readCommand 111 = .ok (.dup, 1) := by decide +kernel
theorem dX7_readCommand_112 : decode cX7_readCommand 112 = .ok (.getfield 238, 3) := by decide +kernel
theorem dX7_readCommand_115 : decode cX7_readCommand 115 = .ok (.iconst 1, 1) := by decide +kernel
theorem dX7_readCommand_116 : decode cX7_readCommand 116 = .ok (.iadd, 1) := by decide +kernel
theorem dX7_readCommand_117 : decode cX7_readCommand 117 = .ok (.putfield 238, 3) := by decide +kernel
theorem dX7_readCommand_120 : decode cX7_readCommand 120 = .ok (.iload_n 2, 1) := by decide +kernel
theorem dX7_readCommand_121 : decode cX7_readCommand 121 = .ok (.iconst 1, 1) := by decide +kernel
theorem dX7_readCommand_122 : decode cX7_readCommand 122 = .ok (.if_icmp .eq 8, 3) := by decide +kernel
theorem dX7_readCommand_125 : decode cX7_readCommand 125 = .ok (.iload_n 2, 1) := by decide +kernel
theorem dX7_readCommand_126 : decode cX7_readCommand 126 = .ok (.iconst 2, 1) := by decide +kernel
theorem dX7_readCommand_127 : decode cX7_readCommand 127 = .ok (.if_icmp .ne 18, 3) := by decide +kernel
theorem dX7_readCommand_130 : decode cX7_readCommand 130 = .ok (.aload_n 0, 1) := by decide +kernel
theorem dX7_readCommand_131 : decode cX7_readCommand 131 = .ok (.getfield 45, 3) := by decide +kernel
theorem dX7_readCommand_134 : decode cX7_readCommand 134 = .ok (.iload_n 1, 1) := by decide +kernel
theorem dX7_readCommand_135 : decode cX7_readCommand 135 = .ok (.iconst 1, 1) := by decide +kernel
theorem dX7_readCommand_136 : decode cX7_readCommand 136 = .ok (.iadd, 1) := by decide +kernel
theorem dX7_readCommand_137 : decode cX7_readCommand 137 = .ok (.aload_n 0, 1) := by decide +kernel
theorem dX7_readCommand_138 : decode cX7_readCommand 138 = .ok (.invokevirtual 235, 3) := by decide +kernel
theorem dX7_readCommand_141 : decode cX7_readCommand 141 = .ok (.iastore, 1) := by decide +kernel
theorem dX7_readCommand_142 : decode cX7_readCommand 142 = .ok (.goto 21, 3) := by decide +kernel
theorem dX7_readCommand_145 : decode cX7_readCommand 145 = .ok (.iload_n 2, 1) := by decide +kernel
theorem dX7_readCommand_146 : decode cX7_readCommand 146 = .ok (.bipush 7, 2) := by decide +kernel
theorem dX7_readCommand_148 : decode cX7_readCommand 148 = .ok (.if_icmp .ge 15, 3) := by decide +kernel
theorem dX7_readCommand_151 : decode cX7_readCommand 151 = .ok (.aload_n 0, 1) := by decide +kernel
theorem dX7_readCommand_152 : decode cX7_readCommand 152 = .ok (.getfield 45, 3) := by decide +kernel
theorem dX7_readCommand_155 : decode cX7_readCommand 155 = .ok (.iload_n 1, 1) := by decide +kernel
theorem dX7_readCommand_156 : decode cX7_readCommand 156 = .ok (.iconst 1, 1) := by decide +kernel
theorem dX7_readCommand_157 : decode cX7_readCommand 157 = .ok (.iadd, 1) := by decide +kernel
theorem dX7_readCommand_158 : decode cX7_readCommand 158 = .ok (.aload_n 0, 1) := by decide +kernel
theorem dX7_readCommand_159 : decode cX7_readCommand 159 = .ok (.invokevirtual 244, 3) := by decide +kernel
theorem dX7_readCommand_162 : decode cX7_readCommand 162 = .ok (.iastore, 1) := by decide +kernel
theorem dX7_readCommand_163 : decode cX7_readCommand 163 = .ok (.iload_n 2, 1) := by decide +kernel
theorem dX7_readCommand_164 : decode cX7_readCommand 164 = .ok (.iconst 1, 1) := by decide +kernel
theorem dX7_readCommand_165 : decode cX7_readCommand 165 = .ok (.if_icmp .eq 8, 3) := by decide +kernel
theorem dX7_readCommand_168 : decode cX7_readCommand 168 = .ok (.iload_n 2, 1) := by decide +kernel
theorem dX7_readCommand_169 : decode cX7_readCommand 169 = .ok (.iconst 3, 1) := by decide +kernel
theorem dX7_readCommand_170 : decode cX7_readCommand 170 = .ok (.if_icmp .ne 21, 3) := by decide +kernel
theorem dX7_readCommand_173 : decode cX7_readCommand 173 = .ok (.aload_n 0, 1) := by decide +kernel
theorem dX7_readCommand_174 : decode cX7_readCommand 174 = .ok (.bipush 32, 2) := by decide +kernel
theorem dX7_readCommand_176 : decode cX7_readCommand 176 = .ok (.invokevirtual 247, 3) := by decide +kernel
theorem dX7_readCommand_179 : decode cX7_readCommand 179 = .ok (.aload_n 0, 1) := by decide +kernel
theorem dX7_readCommand_180 : decode cX7_readCommand 180 = .ok (.getfield 45, 3) := by decide +kernel
theorem dX7_readCommand_183 : decode cX7_readCommand 183 = .ok (.iload_n 1, 1) := by decide +kernel
theorem dX7_readCommand_184 : decode cX7_readCommand 184 = .ok (.iconst 2, 1) := by decide +kernel
theorem dX7_readCommand_185 : decode cX7_readCommand 185 = .ok (.iadd, 1) := by decide +kernel
theorem dX7_readCommand_186 : decode cX7_readCommand 186 = .ok (.aload_n 0, 1) := by decide +kernel
theorem dX7_readCommand_187 : decode cX7_readCommand 187 = .ok (.invokevirtual 244, 3) := by decide +kernel
theorem dX7_readCommand_190 : decode cX7_readCommand 190 = .ok (.iastore, 1) := by decide +kernel
theorem dX7_readCommand_191 : decode cX7_readCommand 191 = .ok (.iload_n 2, 1) := by decide +kernel
theorem dX7_readCommand_192 : decode cX7_readCommand 192 = .ok (.iconst 1, 1) := by decide +kernel
theorem dX7_readCommand_193 : decode cX7_readCommand 193 = .ok (.if_icmp .ne 21, 3) := by decide +kernel
theorem dX7_readCommand_196 : decode cX7_readCommand 196 = .ok (.aload_n 0, 1) := by decide +kernel
theorem dX7_readCommand_197 : decode cX7_readCommand 197 = .ok (.bipush 32, 2) := by decide +kernel
theorem dX7_readCommand_199 : decode cX7_readCommand 199 = .ok (.invokevirtual 247, 3) := by decide +kernel
theorem dX7_readCommand_202 : decode cX7_readCommand 202 = .ok (.aload_n 0, 1) := by decide +kernel
theorem dX7_readCommand_203 : decode cX7_readCommand 203 = .ok (.getfield 45, 3) := by decide +kernel
theorem dX7_readCommand_206 : decode cX7_readCommand 206 = .ok (.iload_n 1, 1) := by decide +kernel
theorem dX7_readCommand_207 : decode cX7_readCommand 207 = .ok (.iconst 3, 1) := by decide +kernel
theorem dX7_readCommand_208 : decode cX7_readCommand 208 = .ok (.iadd, 1) := by decide +kernel
theorem dX7_readCommand_209 : decode cX7_readCommand 209 = .ok (.aload_n 0, 1) := by decide +kernel
theorem dX7_readCommand_210 : decode cX7_readCommand 210 = .ok (.invokevirtual 235, 3) := by decide +kernel
theorem dX7_readCommand_213 : decode cX7_readCommand 213 = .ok (.iastore, 1) := by decide +kernel
theorem dX7_readCommand_214 : decode cX7_readCommand 214 = .ok (.iload_n 2, 1) := by decide +kernel
theorem dX7_readCommand_215 : decode cX7_readCommand 215 = .ok (.bipush 8, 2) := by decide +kernel
theorem dX7_readCommand_217 : decode cX7_readCommand 217 = .ok (.if_icmp .ne 34, 3) := by decide +kernel
theorem dX7_readCommand_220 : decode cX7_readCommand 220 = .ok (.aload_n 0, 1) := by decide +kernel
theorem dX7_readCommand_221 : decode cX7_readCommand 221 = .ok (.invokevirtual 228, 3) := by decide +kernel
theorem dX7_readCommand_224 : decode cX7_readCommand 224 = .ok (.bipush 32, 2) := by decide +kernel
theorem dX7_readCommand_226 : decode cX7_readCommand 226 = .ok (.if_icmp .ne 25, 3) := by decide +kernel
theorem dX7_readCommand_229 : decode cX7_readCommand 229 = .ok (.aload_n 0, 1) := by decide +kernel
theorem dX7_readCommand_230 : decode cX7_readCommand 230 = .ok (.dup, 1) := by decide +kernel
theorem dX7_readCommand_231 : decode cX7_readCommand 231 = .ok (.getfield 218, 3) := by decide +kernel
theorem dX7_readCommand_234 : decode cX7_readCommand 234 = .ok (.iconst 1, 1) := by decide +kernel
theorem dX7_readCommand_235 : decode cX7_readCommand 235 = .ok (.iadd, 1) := by decide +kernel
theorem dX7_readCommand_236 : decode cX7_readCommand 236 = .ok (.putfield 218, 3) := by decide +kernel
theorem dX7_readCommand_239 : decode cX7_readCommand 239 = .ok (.aload_n 0, 1) := by decide +kernel
theorem dX7_readCommand_240 : decode cX7_readCommand 240 = .ok (.getfield 45, 3) := by decide +kernel
theorem dX7_readCommand_243 : decode cX7_readCommand 243 = .ok (.iload_n 1, 1) := by decide +kernel
theorem dX7_readCommand_244 : decode cX7_readCommand 244 = .ok (.iconst 1, 1) := by decide +kernel
theorem dX7_readCommand_245 : decode cX7_readCommand 245 = .ok (.iadd, 1) := by decide +kernel
theorem dX7_readCommand_246 : decode cX7_readCommand 246 = .ok (.aload_n 0, 1) := by decide +kernel
theorem dX7_readCommand_247 : decode cX7_readCommand 247 = .ok (.invokevirtual 244, 3) := by decide +kernel
theorem dX7_readCommand_250 : decode cX7_readCommand 250 = .ok (.iastore, 1) := by decide +kernel
theorem dX7_readCommand_251 : decode cX7_readCommand 251 = .ok (.return_, 1) := by decide +kernel
set_option maxRecDepth 20000 in
theorem ggX7_does_X7_addIt : GoodIn wsX7_does wsX7_addIt := goodIn_ca (goodIn_rr _ [(6, 5), (5, 1), (11, 9), (132, 21)] rfl (by decide +kernel)) (goodIn_sub (fun _ h => List.mem_cons_of_mem _ (List.mem_append_right _ h)) (by decide +kernel))
set_option maxRecDepth 20000 in
theorem gX7_does_X7_addIt : GoodIn wsX7_does (wsV RX7 89 RX7 yX7_addIt wsX7_addIt) := goodIn_app (goodIn_of _ (by decide +kernel)) ggX7_does_X7_addIt
set_option maxRecDepth 20000 in
theorem ggX7_does_X7_openIt : GoodIn wsX7_does wsX7_openIt := goodIn_ca (goodIn_rr _ [(23, 3), (8, 1), (26, 2), (5, 1), (28, 2), (9, 8), (30, 11), (132, 21)] rfl (by decide +kernel)) (goodIn_sub (fun _ h => List.mem_cons_of_mem _ (List.mem_append_right _ h)) (by decide +kernel))
set_option maxRecDepth 20000 in
theorem gX7_does_X7_openIt : GoodIn wsX7_does (wsV RX7 106 RX7 yX7_openIt wsX7_openIt) := goodIn_app (goodIn_of _ (by decide +kernel)) ggX7_does_X7_openIt
set_option maxRecDepth 20000 in
theorem ggX7_does_X7_closeIt : GoodIn wsX7_does wsX7_closeIt := goodIn_ca (goodIn_rr _ [(44, 1), (26, 2), (5, 1), (28, 2), (9, 8), (30, 4), (8, 1), (34, 3), (45, 8), (17, 3), (37, 4), (132, 21)] rfl (by decide +kernel)) (goodIn_sub (fun _ h => List.mem_cons_of_mem _ (List.mem_append_right _ h)) (by decide +kernel))
set_option maxRecDepth 20000 in
theorem gX7_does_X7_closeIt : GoodIn wsX7_does (wsV RX7 113 RX7 yX7_closeIt wsX7_closeIt) := goodIn_app (goodIn_of _ (by decide +kernel)) ggX7_does_X7_closeIt
set_option maxRecDepth 20000 in
theorem ggX7_does_X7_swapIt : GoodIn wsX7_does wsX7_swapIt := goodIn_ca (goodIn_rr _ [(56, 1), (8, 1), (57, 7), (5, 1), (64, 1), (9, 8), (65, 4), (17, 3), (69, 4), (132, 21)] rfl (by decide +kernel)) (goodIn_sub (fun _ h => List.mem_cons_of_mem _ (List.mem_append_right _ h)) (by decide +kernel))
set_option maxRecDepth 20000 in
theorem gX7_does_X7_swapIt : GoodIn wsX7_does (wsV RX7 130 RX7 yX7_swapIt wsX7_swapIt) := goodIn_app (goodIn_of _ (by decide +kernel)) ggX7_does_X7_swapIt
set_option maxRecDepth 20000 in
theorem ggX7_does_X7_sitIt : GoodIn wsX7_does wsX7_sitIt := goodIn_ca (goodIn_rr _ [(76, 1), (8, 1), (61, 3), (5, 1), (64, 1), (9, 8), (65, 4), (17, 3), (77, 4), (132, 21)] rfl (by decide +kernel)) (goodIn_sub (fun _ h => List.mem_cons_of_mem _ (List.mem_append_right _ h)) (by decide +kernel))
set_option maxRecDepth 20000 in
theorem gX7_does_X7_sitIt : GoodIn wsX7_does (wsV RX7 137 RX7 yX7_sitIt wsX7_sitIt) := goodIn_app (goodIn_of _ (by decide +kernel)) ggX7_does_X7_sitIt
set_option maxRecDepth 20000 in
theorem ggX7_does_X7_standIt : GoodIn wsX7_does wsX7_standIt := goodIn_ca (goodIn_rr _ [(84, 1), (8, 1), (61, 3), (5, 1), (64, 1), (9, 11), (77, 4), (132, 21)] rfl (by decide +kernel)) (goodIn_sub (fun _ h => List.mem_cons_of_mem _ (List.mem_append_right _ h)) (by decide +kernel))
set_option maxRecDepth 20000 in
theorem gX7_does_X7_standIt : GoodIn wsX7_does (wsV RX7 140 RX7 yX7_standIt wsX7_standIt) := goodIn_app (goodIn_of _ (by decide +kernel)) ggX7_does_X7_standIt
set_option maxRecDepth 20000 in
theorem ggX7_does_X7_removeIt : GoodIn wsX7_does wsX7_removeIt := goodIn_ca (goodIn_rr _ [(88, 1), (8, 1), (61, 3), (5, 1), (64, 1), (9, 8), (89, 4), (17, 3), (69, 4), (93, 4), (34, 3), (132, 21)] rfl (by decide +kernel)) (goodIn_sub (fun _ h => List.mem_cons_of_mem _ (List.mem_append_right _ h)) (by decide +kernel))
set_option maxRecDepth 20000 in
theorem gX7_does_X7_removeIt : GoodIn wsX7_does (wsV RX7 146 RX7 yX7_removeIt wsX7_removeIt) := goodIn_app (goodIn_of _ (by decide +kernel)) ggX7_does_X7_removeIt
set_option maxRecDepth 20000 in
theorem ggX7_does_X7_callIt : GoodIn wsX7_does wsX7_callIt := goodIn_ca (goodIn_rr _ [(100, 1), (8, 1), (17, 2), (5, 1), (19, 1), (12, 5), (132, 21)] rfl (by decide +kernel)) (goodIn_sub (fun _ h => List.mem_cons_of_mem _ (List.mem_append_right _ h)) (by decide +kernel))
set_option maxRecDepth 20000 in
theorem gX7_does_X7_callIt : GoodIn wsX7_does (wsV RX7 116 RX7 yX7_callIt wsX7_callIt) := goodIn_app (goodIn_of _ (by decide +kernel)) ggX7_does_X7_callIt
set_option maxRecDepth 20000 in
theorem ggX7_does_X7_advanceIt : GoodIn wsX7_does wsX7_advanceIt := goodIn_ca (goodIn_rr _ [(104, 2), (8, 3), (5, 1), (11, 6), (106, 8), (34, 3), (30, 4), (114, 6), (59, 1), (120, 1), (17, 3), (89, 4), (69, 4), (93, 4), (45, 8), (121, 32)] rfl (by decide +kernel)) (goodIn_sub (fun _ h => List.mem_cons_of_mem _ (List.mem_append_right _ h)) (by decide +kernel))
set_option maxRecDepth 20000 in
theorem gX7_does_X7_advanceIt : GoodIn wsX7_does (wsV RX7 173 RX7 yX7_advanceIt wsX7_advanceIt) := goodIn_app (goodIn_of _ (by decide +kernel)) ggX7_does_X7_advanceIt
theorem dX7_does_0 : decode cX7_does 0 = .ok (.aload_n 0, 1) := by decide +kernel
theorem dX7_does_1 : decode cX7_does 1 = .ok (.getfield 45, 3) := by decide +kernel
theorem dX7_does_4 : decode cX7_does 4 = .ok (.iload_n 1, 1) := by decide +kernel
theorem dX7_does_5 : decode cX7_does 5 = .ok (.iconst 1, 1) := by decide +kernel
theorem dX7_does_6 : decode cX7_does 6 = .ok (.iadd, 1) := by decide +kernel
theorem dX7_does_7 : decode cX7_does 7 = .ok (.iaload, 1) := by decide +kernel
theorem dX7_does_8 : decode cX7_does 8 = .ok (.istore_n 2, 1) := by decide +kernel
theorem dX7_does_9 : decode cX7_does 9 = .ok (.aload_n 0, 1) := by decide +kernel
theorem dX7_does_10 : decode cX7_does 10 = .ok (.getfield 45, 3) := by decide +kernel
theorem dX7_does_13 : decode cX7_does 13 = .ok (.iload_n 1, 1) := by decide +kernel
theorem dX7_does_14 : decode cX7_does 14 = .ok (.iconst 2, 1) := by decide +kernel
theorem dX7_does_15 : decode cX7_does 15 = .ok (.iadd, 1) := by decide +kernel
theorem dX7_does_16 : decode cX7_does 16 = .ok (.iaload, 1) := by decide +kernel
theorem dX7_does_17 : decode cX7_does 17 = .ok (.istore_n 3, 1) := by decide +kernel
theorem dX7_does_18 : decode cX7_does 18 = .ok (.aload_n 0, 1) := by decide +kernel
theorem dX7_does_19 : decode cX7_does 19 = .ok (.getfield 45, 3) := by decide +kernel
theorem dX7_does_22 : decode cX7_does 22 = .ok (.iload_n 1, 1) := by decide +kernel
theorem dX7_does_23 : decode cX7_does 23 = .ok (.iaload, 1) := by decide +kernel
theorem dX7_does_24 : decode cX7_does 24 = .ok (.tableswitch 129 0 7 #[48, 57, 75, 84, 94, 103, 112, 121], 48) := by decide +kernel
theorem dX7_does_72 : decode cX7_does 72 = .ok (.aload_n 0, 1) := by decide +kernel
theorem dX7_does_73 : decode cX7_does 73 = .ok (.iload_n 2, 1) := by decide +kernel
theorem dX7_does_74 : decode cX7_does 74 = .ok (.invokevirtual 89, 3) := by decide +kernel
theorem dX7_does_77 : decode cX7_does 77 = .ok (.pop, 1) := by decide +kernel
theorem dX7_does_78 : decode cX7_does 78 = .ok (.goto 81, 3) := by decide +kernel
theorem dX7_does_81 : decode cX7_does 81 = .ok (.aload_n 0, 1) := by decide +kernel
theorem dX7_does_82 : decode cX7_does 82 = .ok (.iload_n 2, 1) := by decide +kernel
theorem dX7_does_83 : decode cX7_does 83 = .ok (.iload_n 3, 1) := by decide +kernel
theorem dX7_does_84 : decode cX7_does 84 = .ok (.aload_n 0, 1) := by decide +kernel
theorem dX7_does_85 : decode cX7_does 85 = .ok (.getfield 45, 3) := by decide +kernel
theorem dX7_does_88 : decode cX7_does 88 = .ok (.iload_n 1, 1) := by decide +kernel
theorem dX7_does_89 : decode cX7_does 89 = .ok (.iconst 3, 1) := by decide +kernel
theorem dX7_does_90 : decode cX7_does 90 = .ok (.iadd, 1) := by decide +kernel
theorem dX7_does_91 : decode cX7_does 91 = .ok (.iaload, 1) := by decide +kernel
theorem dX7_does_92 : decode cX7_does 92 = .ok (.invokevirtual 106, 3) := by decide +kernel
theorem dX7_does_95 : decode cX7_does 95 = .ok (.pop, 1) := by decide +kernel
theorem dX7_does_96 : decode cX7_does 96 = .ok (.goto 63, 3) := by decide +kernel
theorem dX7_does_99 : decode cX7_does 99 = .ok (.aload_n 0, 1) := by decide +kernel
theorem dX7_does_100 : decode cX7_does 100 = .ok (.iload_n 2, 1) := by decide +kernel
theorem dX7_does_101 : decode cX7_does 101 = .ok (.invokevirtual 113, 3) := by decide +kernel
theorem dX7_does_104 : decode cX7_does 104 = .ok (.pop, 1) := by decide +kernel
theorem dX7_does_105 : decode cX7_does 105 = .ok (.goto 54, 3) := by decide +kernel
theorem dX7_does_108 : decode cX7_does 108 = .ok (.aload_n 0, 1) := by decide +kernel
theorem dX7_does_109 : decode cX7_does 109 = .ok (.iload_n 2, 1) := by decide +kernel
theorem dX7_does_110 : decode cX7_does 110 = .ok (.iload_n 3, 1) := by decide +kernel
theorem dX7_does_111 : decode cX7_does 111 = .ok (.invokevirtual 130, 3) := by decide +kernel
theorem dX7_does_114 : decode cX7_does 114 = .ok (.pop, 1) := by decide +kernel
theorem dX7_does_115 : decode cX7_does 115 = .ok (.goto 44, 3) := by decide +kernel
theorem dX7_does_118 : decode cX7_does 118 = .ok (.aload_n 0, 1) := by decide +kernel
theorem dX7_does_119 : decode cX7_does 119 = .ok (.iload_n 2, 1) := by decide +kernel
theorem dX7_does_120 : decode cX7_does 120 = .ok (.invokevirtual 137, 3) := by decide +kernel
theorem dX7_does_123 : decode cX7_does 123 = .ok (.pop, 1) := by decide +kernel
theorem dX7_does_124 : decode cX7_does 124 = .ok (.goto 35, 3) := by decide +kernel
theorem dX7_does_127 : decode cX7_does 127 = .ok (.aload_n 0, 1) := by decide +kernel
theorem dX7_does_128 : decode cX7_does 128 = .ok (.iload_n 2, 1) := by decide +kernel
theorem dX7_does_129 : decode cX7_does 129 = .ok (.invokevirtual 140, 3) := by decide +kernel
theorem dX7_does_132 : decode cX7_does 132 = .ok (.pop, 1) := by decide +kernel
theorem dX7_does_133 : decode cX7_does 133 = .ok (.goto 26, 3) := by decide +kernel
theorem dX7_does_136 : decode cX7_does 136 = .ok (.aload_n 0, 1) := by decide +kernel
theorem dX7_does_137 : decode cX7_does 137 = .ok (.iload_n 2, 1) := by decide +kernel
theorem dX7_does_138 : decode cX7_does 138 = .ok (.invokevirtual 146, 3) := by decide +kernel
theorem dX7_does_141 : decode cX7_does 141 = .ok (.pop, 1) := by decide +kernel
theorem dX7_does_142 : decode cX7_does 142 = .ok (.goto 17, 3) := by decide +kernel
theorem dX7_does_145 : decode cX7_does 145 = .ok (.aload_n 0, 1) := by decide +kernel
theorem dX7_does_146 : decode cX7_does 146 = .ok (.invokevirtual 116, 3) := by decide +kernel
theorem dX7_does_149 : decode cX7_does 149 = .ok (.pop, 1) := by decide +kernel
theorem dX7_does_150 : decode cX7_does 150 = .ok (.goto 9, 3) := by decide +kernel
theorem dX7_does_153 : decode cX7_does 153 = .ok (.aload_n 0, 1) := by decide +kernel
theorem dX7_does_154 : decode cX7_does 154 = .ok (.iload_n 2, 1) := by decide +kernel
theorem dX7_does_155 : decode cX7_does 155 = .ok (.invokevirtual 173, 3) := by decide +kernel
theorem dX7_does_158 : decode cX7_does 158 = .ok (.pop, 1) := by decide +kernel
theorem dX7_does_159 : decode cX7_does 159 = .ok (.return_, 1) := by decide +kernel
set_option maxRecDepth 20000 in
theorem ggX7_runScript_X7_starts : GoodIn wsX7_runScript wsX7_starts := goodIn_ca (goodIn_rr _ [(15, 1), (7, 1), (9, 1), (8, 1), (183, 21)] rfl (by decide +kernel)) (goodIn_sub (fun _ h => List.mem_cons_of_mem _ (List.mem_append_right _ h)) (by decide +kernel))
set_option maxRecDepth 20000 in
theorem gX7_runScript_X7_starts : GoodIn wsX7_runScript (wsV RX7 86 RX7 yX7_starts wsX7_starts) := goodIn_app (goodIn_of _ (by decide +kernel)) ggX7_runScript_X7_starts
set_option maxRecDepth 20000 in
theorem ggX7_runScript_X7_readCommand : GoodIn wsX7_runScript wsX7_readCommand := goodIn_ca (goodIn_rr _ [(19, 1), (4, 1), (3, 1), (20, 1), (5, 1), (21, 4), (14, 1), (25, 1), (2, 1), (26, 23), (183, 21)] rfl (by decide +kernel)) (goodIn_sub (fun _ h => List.mem_cons_of_mem _ (List.mem_append_right _ h)) (by decide +kernel))
set_option maxRecDepth 20000 in
theorem gX7_runScript_X7_readCommand : GoodIn wsX7_runScript (wsV RX7 250 RX7 yX7_readCommand wsX7_readCommand) := goodIn_app (goodIn_of _ (by decide +kernel)) ggX7_runScript_X7_readCommand
set_option maxRecDepth 20000 in
theorem ggX7_runScript_X7_expects : GoodIn wsX7_runScript wsX7_expects := goodIn_ca (goodIn_rr _ [(48, 1), (5, 1), (3, 1), (34, 3), (14, 1), (37, 1), (2, 1), (26, 1), (183, 21)] rfl (by decide +kernel)) (goodIn_sub (fun _ h => List.mem_cons_of_mem _ (List.mem_append_right _ h)) (by decide +kernel))
set_option maxRecDepth 20000 in
theorem gX7_runScript_X7_expects : GoodIn wsX7_runScript (wsV RX7 247 RX7 yX7_expects wsX7_expects) := goodIn_app (goodIn_of _ (by decide +kernel)) ggX7_runScript_X7_expects
set_option maxRecDepth 20000 in
theorem ggX7_runScript_X7_throwing : GoodIn wsX7_runScript wsX7_throwing := goodIn_rr _ [(52, 1), (7, 1), (183, 21)] rfl (by decide +kernel)
set_option maxRecDepth 20000 in
theorem gX7_runScript_X7_throwing : GoodIn wsX7_runScript (wsV RX7 83 RX7 yX7_throwing wsX7_throwing) := goodIn_app (goodIn_of _ (by decide +kernel)) ggX7_runScript_X7_throwing
set_option maxRecDepth 20000 in
theorem ggX7_runScript_X7_does : GoodIn wsX7_runScript wsX7_does := goodIn_ca (goodIn_rr _ [(56, 1), (21, 1), (57, 3), (14, 1), (60, 2), (8, 1), (38, 3), (49, 4), (7, 1), (62, 115), (183, 21)] rfl (by decide +kernel)) (goodIn_sub (fun _ h => List.mem_cons_of_mem _ (List.mem_append_right _ h)) (by decide +kernel))
set_option maxRecDepth 20000 in
theorem gX7_runScript_X7_does : GoodIn wsX7_runScript (wsV RX7 253 RX7 yX7_does wsX7_does) := goodIn_app (goodIn_of _ (by decide +kernel)) ggX7_runScript_X7_does
set_option maxRecDepth 20000 in
theorem ggX7_runScript_X7_changed : GoodIn wsX7_runScript wsX7_changed := goodIn_ca (goodIn_rr _ [(180, 1), (7, 1), (181, 2), (9, 1), (183, 21)] rfl (by decide +kernel)) (goodIn_sub (fun _ h => List.mem_cons_of_mem _ (List.mem_append_right _ h)) (by decide +kernel))
set_option maxRecDepth 20000 in
theorem gX7_runScript_X7_changed : GoodIn wsX7_runScript (wsV RX7 92 RX7 yX7_changed wsX7_changed) := goodIn_app (goodIn_of _ (by decide +kernel)) ggX7_runScript_X7_changed
theorem dX7_runScript_0 : decode cX7_runScript 0 = .ok (.aload_n 0, 1) := by decide +kernel
theorem dX7_runScript_1 : decode cX7_runScript 1 = .ok (.invokevirtual 86, 3) := by decide +kernel
theorem dX7_runScript_4 : decode cX7_runScript 4 = .ok (.aload_n 0, 1) := by decide +kernel
theorem dX7_runScript_5 : decode cX7_runScript 5 = .ok (.aload_n 0, 1) := by decide +kernel
theorem dX7_runScript_6 : decode cX7_runScript 6 = .ok (.getfield 215, 3) := by decide +kernel
theorem dX7_runScript_9 : decode cX7_runScript 9 = .ok (.putfield 221, 3) := by decide +kernel
theorem dX7_runScript_12 : decode cX7_runScript 12 = .ok (.aload_n 0, 1) := by decide +kernel
theorem dX7_runScript_13 : decode cX7_runScript 13 = .ok (.iconst 0, 1) := by decide +kernel
theorem dX7_runScript_14 : decode cX7_runScript 14 = .ok (.putfield 215, 3) := by decide +kernel
theorem dX7_runScript_17 : decode cX7_runScript 17 = .ok (.aload_n 0, 1) := by decide +kernel
theorem dX7_runScript_18 : decode cX7_runScript 18 = .ok (.iconst 0, 1) := by decide +kernel
theorem dX7_runScript_19 : decode cX7_runScript 19 = .ok (.putfield 218, 3) := by decide +kernel
theorem dX7_runScript_22 : decode cX7_runScript 22 = .ok (.aload_n 0, 1) := by decide +kernel
theorem dX7_runScript_23 : decode cX7_runScript 23 = .ok (.iconst 0, 1) := by decide +kernel
theorem dX7_runScript_24 : decode cX7_runScript 24 = .ok (.putfield 238, 3) := by decide +kernel
theorem dX7_runScript_27 : decode cX7_runScript 27 = .ok (.aload_n 0, 1) := by decide +kernel
theorem dX7_runScript_28 : decode cX7_runScript 28 = .ok (.iconst 0, 1) := by decide +kernel
theorem dX7_runScript_29 : decode cX7_runScript 29 = .ok (.putfield 224, 3) := by decide +kernel
theorem dX7_runScript_32 : decode cX7_runScript 32 = .ok (.iconst 1, 1) := by decide +kernel
theorem dX7_runScript_33 : decode cX7_runScript 33 = .ok (.istore_n 1, 1) := by decide +kernel
theorem dX7_runScript_34 : decode cX7_runScript 34 = .ok (.iload_n 1, 1) := by decide +kernel
theorem dX7_runScript_35 : decode cX7_runScript 35 = .ok (.ifCond .eq 57, 3) := by decide +kernel
theorem dX7_runScript_38 : decode cX7_runScript 38 = .ok (.aload_n 0, 1) := by decide +kernel
theorem dX7_runScript_39 : decode cX7_runScript 39 = .ok (.invokevirtual 250, 3) := by decide +kernel
theorem dX7_runScript_42 : decode cX7_runScript 42 = .ok (.aload_n 0, 1) := by decide +kernel
theorem dX7_runScript_43 : decode cX7_runScript 43 = .ok (.getfield 224, 3) := by decide +kernel
theorem dX7_runScript_46 : decode cX7_runScript 46 = .ok (.ifCond .ne 18, 3) := by decide +kernel
theorem dX7_runScript_49 : decode cX7_runScript 49 = .ok (.aload_n 0, 1) := by decide +kernel
theorem dX7_runScript_50 : decode cX7_runScript 50 = .ok (.getfield 218, 3) := by decide +kernel
theorem dX7_runScript_53 : decode cX7_runScript 53 = .ok (.aload_n 0, 1) := by decide +kernel
theorem dX7_runScript_54 : decode cX7_runScript 54 = .ok (.getfield 221, 3) := by decide +kernel
theorem dX7_runScript_57 : decode cX7_runScript 57 = .ok (.if_icmp .ge 7, 3) := by decide +kernel
theorem dX7_runScript_60 : decode cX7_runScript 60 = .ok (.iconst 1, 1) := by decide +kernel
theorem dX7_runScript_61 : decode cX7_runScript 61 = .ok (.goto 4, 3) := by decide +kernel
theorem dX7_runScript_64 : decode cX7_runScript 64 = .ok (.iconst 0, 1) := by decide +kernel
theorem dX7_runScript_65 : decode cX7_runScript 65 = .ok (.istore_n 1, 1) := by decide +kernel
theorem dX7_runScript_66 : decode cX7_runScript 66 = .ok (.iload_n 1, 1) := by decide +kernel
theorem dX7_runScript_67 : decode cX7_runScript 67 = .ok (.ifCond .eq (-33), 3) := by decide +kernel
theorem dX7_runScript_70 : decode cX7_runScript 70 = .ok (.aload_n 0, 1) := by decide +kernel
theorem dX7_runScript_71 : decode cX7_runScript 71 = .ok (.bipush 59, 2) := by decide +kernel
theorem dX7_runScript_73 : decode cX7_runScript 73 = .ok (.invokevirtual 247, 3) := by decide +kernel
theorem dX7_runScript_76 : decode cX7_runScript 76 = .ok (.aload_n 0, 1) := by decide +kernel
theorem dX7_runScript_77 : decode cX7_runScript 77 = .ok (.getfield 224, 3) := by decide +kernel
theorem dX7_runScript_80 : decode cX7_runScript 80 = .ok (.ifCond .ne 7, 3) := by decide +kernel
theorem dX7_runScript_83 : decode cX7_runScript 83 = .ok (.iconst 1, 1) := by decide +kernel
theorem dX7_runScript_84 : decode cX7_runScript 84 = .ok (.goto 4, 3) := by decide +kernel
theorem dX7_runScript_87 : decode cX7_runScript 87 = .ok (.iconst 0, 1) := by decide +kernel
theorem dX7_runScript_88 : decode cX7_runScript 88 = .ok (.istore_n 1, 1) := by decide +kernel
theorem dX7_runScript_89 : decode cX7_runScript 89 = .ok (.goto (-55), 3) := by decide +kernel
theorem dX7_runScript_92 : decode cX7_runScript 92 = .ok (.aload_n 0, 1) := by decide +kernel
theorem dX7_runScript_93 : decode cX7_runScript 93 = .ok (.getfield 224, 3) := by decide +kernel
theorem dX7_runScript_96 : decode cX7_runScript 96 = .ok (.ifCond .eq 17, 3) := by decide +kernel
theorem dX7_runScript_99 : decode cX7_runScript 99 = .ok (.aload_n 0, 1) := by decide +kernel
theorem dX7_runScript_100 : decode cX7_runScript 100 = .ok (.aload_n 0, 1) := by decide +kernel
theorem dX7_runScript_101 : decode cX7_runScript 101 = .ok (.getfield 218, 3) := by decide +kernel
theorem dX7_runScript_104 : decode cX7_runScript 104 = .ok (.putfield 25, 3) := by decide +kernel
theorem dX7_runScript_107 : decode cX7_runScript 107 = .ok (.aload_n 0, 1) := by decide +kernel
theorem dX7_runScript_108 : decode cX7_runScript 108 = .ok (.iconst 1, 1) := by decide +kernel
theorem dX7_runScript_109 : decode cX7_runScript 109 = .ok (.invokevirtual 83, 3) := by decide +kernel
theorem dX7_runScript_112 : decode cX7_runScript 112 = .ok (.ireturn, 1) := by decide +kernel
theorem dX7_runScript_113 : decode cX7_runScript 113 = .ok (.iconst 0, 1) := by decide +kernel
theorem dX7_runScript_114 : decode cX7_runScript 114 = .ok (.istore_n 2, 1) := by decide +kernel
theorem dX7_runScript_115 : decode cX7_runScript 115 = .ok (.iload_n 2, 1) := by decide +kernel
theorem dX7_runScript_116 : decode cX7_runScript 116 = .ok (.aload_n 0, 1) := by decide +kernel
theorem dX7_runScript_117 : decode cX7_runScript 117 = .ok (.getfield 238, 3) := by decide +kernel
theorem dX7_runScript_120 : decode cX7_runScript 120 = .ok (.if_icmp .ge 61, 3) := by decide +kernel
theorem dX7_runScript_123 : decode cX7_runScript 123 = .ok (.aload_n 0, 1) := by decide +kernel
theorem dX7_runScript_124 : decode cX7_runScript 124 = .ok (.iconst 4, 1) := by decide +kernel
theorem dX7_runScript_125 : decode cX7_runScript 125 = .ok (.iload_n 2, 1) := by decide +kernel
theorem dX7_runScript_126 : decode cX7_runScript 126 = .ok (.imul, 1) := by decide +kernel
theorem dX7_runScript_127 : decode cX7_runScript 127 = .ok (.invokevirtual 253, 3) := by decide +kernel
theorem dX7_runScript_130 : decode cX7_runScript 130 = .ok (.aload_n 0, 1) := by decide +kernel
theorem dX7_runScript_131 : decode cX7_runScript 131 = .ok (.getfield 52, 3) := by decide +kernel
theorem dX7_runScript_134 : decode cX7_runScript 134 = .ok (.ifCond .le 41, 3) := by decide +kernel
theorem dX7_runScript_137 : decode cX7_runScript 137 = .ok (.iconst 0, 1) := by decide +kernel
theorem dX7_runScript_138 : decode cX7_runScript 138 = .ok (.istore_n 3, 1) := by decide +kernel
theorem dX7_runScript_139 : decode cX7_runScript 139 = .ok (.iload_n 3, 1) := by decide +kernel
theorem dX7_runScript_140 : decode cX7_runScript 140 = .ok (.sipush 159, 3) := by decide +kernel
theorem dX7_runScript_143 : decode cX7_runScript 143 = .ok (.if_icmp .ge 21, 3) := by decide +kernel
theorem dX7_runScript_146 : decode cX7_runScript 146 = .ok (.aload_n 0, 1) := by decide +kernel
theorem dX7_runScript_147 : decode cX7_runScript 147 = .ok (.getfield 9, 3) := by decide +kernel
theorem dX7_runScript_150 : decode cX7_runScript 150 = .ok (.iload_n 3, 1) := by decide +kernel
theorem dX7_runScript_151 : decode cX7_runScript 151 = .ok (.aload_n 0, 1) := by decide +kernel
theorem dX7_runScript_152 : decode cX7_runScript 152 = .ok (.getfield 13, 3) := by decide +kernel
theorem dX7_runScript_155 : decode cX7_runScript 155 = .ok (.iload_n 3, 1) := by decide +kernel
theorem dX7_runScript_156 : decode cX7_runScript 156 = .ok (.iaload, 1) := by decide +kernel
theorem dX7_runScript_157 : decode cX7_runScript 157 = .ok (.iastore, 1) := by decide +kernel
theorem dX7_runScript_158 : decode cX7_runScript 158 = .ok (.iinc 3 1, 3) := by decide +kernel
theorem dX7_runScript_161 : decode cX7_runScript 161 = .ok (.goto (-22), 3) := by decide +kernel
theorem dX7_runScript_164 : decode cX7_runScript 164 = .ok (.aload_n 0, 1) := by decide +kernel
theorem dX7_runScript_165 : decode cX7_runScript 165 = .ok (.iload_n 2, 1) := by decide +kernel
theorem dX7_runScript_166 : decode cX7_runScript 166 = .ok (.putfield 29, 3) := by decide +kernel
theorem dX7_runScript_169 : decode cX7_runScript 169 = .ok (.aload_n 0, 1) := by decide +kernel
theorem dX7_runScript_170 : decode cX7_runScript 170 = .ok (.iconst 2, 1) := by decide +kernel
theorem dX7_runScript_171 : decode cX7_runScript 171 = .ok (.invokevirtual 83, 3) := by decide +kernel
theorem dX7_runScript_174 : decode cX7_runScript 174 = .ok (.ireturn, 1) := by decide +kernel
theorem dX7_runScript_175 : decode cX7_runScript 175 = .ok (.iinc 2 1, 3) := by decide +kernel
theorem dX7_runScript_178 : decode cX7_runScript 178 = .ok (.goto (-63), 3) := by decide +kernel
theorem dX7_runScript_181 : decode cX7_runScript 181 = .ok (.aload_n 0, 1) := by decide +kernel
theorem dX7_runScript_182 : decode cX7_runScript 182 = .ok (.aload_n 0, 1) := by decide +kernel
theorem dX7_runScript_183 : decode cX7_runScript 183 = .ok (.getfield 238, 3) := by decide +kernel
theorem dX7_runScript_186 : decode cX7_runScript 186 = .ok (.invokevirtual 92, 3) := by decide +kernel
theorem dX7_runScript_189 : decode cX7_runScript 189 = .ok (.ireturn, 1) := by decide +kernel
set_option maxRecDepth 20000 in
theorem ggX7_errorPosition_X7_throwing : GoodIn wsX7_errorPosition wsX7_throwing := goodIn_rr _ [(7, 1), (1, 1), (8, 21)] rfl (by decide +kernel)
set_option maxRecDepth 20000 in
theorem gX7_errorPosition_X7_throwing : GoodIn wsX7_errorPosition (wsV RX7 83 RX7 yX7_throwing wsX7_throwing) := goodIn_app (goodIn_of _ (by decide +kernel)) ggX7_errorPosition_X7_throwing
theorem dX7_errorPosition_0 : decode cX7_errorPosition 0 = .ok (.aload_n 0, 1) := by decide +kernel
theorem dX7_errorPosition_1 : decode cX7_errorPosition 1 = .ok (.iconst 0, 1) := by decide +kernel
theorem dX7_errorPosition_2 : decode cX7_errorPosition 2 = .ok (.putfield 52, 3) := by decide +kernel
theorem dX7_errorPosition_5 : decode cX7_errorPosition 5 = .ok (.aload_n 0, 1) := by decide +kernel
theorem dX7_errorPosition_6 : decode cX7_errorPosition 6 = .ok (.getfield 25, 3) := by decide +kernel
theorem dX7_errorPosition_9 : decode cX7_errorPosition 9 = .ok (.iconst (-1), 1) := by decide +kernel
theorem dX7_errorPosition_10 : decode cX7_errorPosition 10 = .ok (.if_icmp .ne 11, 3) := by decide +kernel
theorem dX7_errorPosition_13 : decode cX7_errorPosition 13 = .ok (.aload_n 0, 1) := by decide +kernel
theorem dX7_errorPosition_14 : decode cX7_errorPosition 14 = .ok (.iconst 1, 1) := by decide +kernel
theorem dX7_errorPosition_15 : decode cX7_errorPosition 15 = .ok (.invokevirtual 83, 3) := by decide +kernel
theorem dX7_errorPosition_18 : decode cX7_errorPosition 18 = .ok (.goto 7, 3) := by decide +kernel
theorem dX7_errorPosition_21 : decode cX7_errorPosition 21 = .ok (.aload_n 0, 1) := by decide +kernel
theorem dX7_errorPosition_22 : decode cX7_errorPosition 22 = .ok (.getfield 25, 3) := by decide +kernel
theorem dX7_errorPosition_25 : decode cX7_errorPosition 25 = .ok (.ireturn, 1) := by decide +kernel
set_option maxRecDepth 20000 in
theorem ggX7_failedCommand_X7_throwing : GoodIn wsX7_failedCommand wsX7_throwing := goodIn_rr _ [(7, 1), (1, 1), (8, 21)] rfl (by decide +kernel)
set_option maxRecDepth 20000 in
theorem gX7_failedCommand_X7_throwing : GoodIn wsX7_failedCommand (wsV RX7 83 RX7 yX7_throwing wsX7_throwing) := goodIn_app (goodIn_of _ (by decide +kernel)) ggX7_failedCommand_X7_throwing
theorem dX7_failedCommand_0 : decode cX7_failedCommand 0 = .ok (.aload_n 0, 1) := by decide +kernel
theorem dX7_failedCommand_1 : decode cX7_failedCommand 1 = .ok (.iconst 0, 1) := by decide +kernel
theorem dX7_failedCommand_2 : decode cX7_failedCommand 2 = .ok (.putfield 52, 3) := by decide +kernel
theorem dX7_failedCommand_5 : decode cX7_failedCommand 5 = .ok (.aload_n 0, 1) := by decide +kernel
theorem dX7_failedCommand_6 : decode cX7_failedCommand 6 = .ok (.getfield 29, 3) := by decide +kernel
theorem dX7_failedCommand_9 : decode cX7_failedCommand 9 = .ok (.iconst (-1), 1) := by decide +kernel
theorem dX7_failedCommand_10 : decode cX7_failedCommand 10 = .ok (.if_icmp .ne 11, 3) := by decide +kernel
theorem dX7_failedCommand_13 : decode cX7_failedCommand 13 = .ok (.aload_n 0, 1) := by decide +kernel
theorem dX7_failedCommand_14 : decode cX7_failedCommand 14 = .ok (.iconst 1, 1) := by decide +kernel
theorem dX7_failedCommand_15 : decode cX7_failedCommand 15 = .ok (.invokevirtual 83, 3) := by decide +kernel
theorem dX7_failedCommand_18 : decode cX7_failedCommand 18 = .ok (.goto 7, 3) := by decide +kernel
theorem dX7_failedCommand_21 : decode cX7_failedCommand 21 = .ok (.aload_n 0, 1) := by decide +kernel
theorem dX7_failedCommand_22 : decode cX7_failedCommand 22 = .ok (.getfield 29, 3) := by decide +kernel
theorem dX7_failedCommand_25 : decode cX7_failedCommand 25 = .ok (.ireturn, 1) := by decide +kernel
set_option maxRecDepth 20000 in
theorem ggX7_undo_X7_throwing : GoodIn wsX7_undo wsX7_throwing := goodIn_rr _ [(9, 1), (1, 1), (10, 21)] rfl (by decide +kernel)
set_option maxRecDepth 20000 in
theorem gX7_undo_X7_throwing : GoodIn wsX7_undo (wsV RX7 83 RX7 yX7_throwing wsX7_throwing) := goodIn_app (goodIn_of _ (by decide +kernel)) ggX7_undo_X7_throwing
theorem dX7_undo_0 : decode cX7_undo 0 = .ok (.aload_n 0, 1) := by decide +kernel
theorem dX7_undo_1 : decode cX7_undo 1 = .ok (.iconst 0, 1) := by decide +kernel
theorem dX7_undo_2 : decode cX7_undo 2 = .ok (.putfield 52, 3) := by decide +kernel
theorem dX7_undo_5 : decode cX7_undo 5 = .ok (.aload_n 0, 1) := by decide +kernel
theorem dX7_undo_6 : decode cX7_undo 6 = .ok (.getfield 55, 3) := by decide +kernel
theorem dX7_undo_9 : decode cX7_undo 9 = .ok (.ifCond .ne 9, 3) := by decide +kernel
theorem dX7_undo_12 : decode cX7_undo 12 = .ok (.aload_n 0, 1) := by decide +kernel
theorem dX7_undo_13 : decode cX7_undo 13 = .ok (.iconst 1, 1) := by decide +kernel
theorem dX7_undo_14 : decode cX7_undo 14 = .ok (.invokevirtual 83, 3) := by decide +kernel
theorem dX7_undo_17 : decode cX7_undo 17 = .ok (.ireturn, 1) := by decide +kernel
theorem dX7_undo_18 : decode cX7_undo 18 = .ok (.aload_n 0, 1) := by decide +kernel
theorem dX7_undo_19 : decode cX7_undo 19 = .ok (.dup, 1) := by decide +kernel
theorem dX7_undo_20 : decode cX7_undo 20 = .ok (.getfield 55, 3) := by decide +kernel
theorem dX7_undo_23 : decode cX7_undo 23 = .ok (.iconst 1, 1) := by decide +kernel
theorem dX7_undo_24 : decode cX7_undo 24 = .ok (.isub, 1) := by decide +kernel
theorem dX7_undo_25 : decode cX7_undo 25 = .ok (.putfield 55, 3) := by decide +kernel
theorem dX7_undo_28 : decode cX7_undo 28 = .ok (.iconst 0, 1) := by decide +kernel
theorem dX7_undo_29 : decode cX7_undo 29 = .ok (.istore_n 1, 1) := by decide +kernel
theorem dX7_undo_30 : decode cX7_undo 30 = .ok (.iload_n 1, 1) := by decide +kernel
theorem dX7_undo_31 : decode cX7_undo 31 = .ok (.sipush 159, 3) := by decide +kernel
theorem dX7_undo_34 : decode cX7_undo 34 = .ok (.if_icmp .ge 30, 3) := by decide +kernel
theorem dX7_undo_37 : decode cX7_undo 37 = .ok (.aload_n 0, 1) := by decide +kernel
theorem dX7_undo_38 : decode cX7_undo 38 = .ok (.getfield 9, 3) := by decide +kernel
theorem dX7_undo_41 : decode cX7_undo 41 = .ok (.iload_n 1, 1) := by decide +kernel
theorem dX7_undo_42 : decode cX7_undo 42 = .ok (.aload_n 0, 1) := by decide +kernel
theorem dX7_undo_43 : decode cX7_undo 43 = .ok (.getfield 22, 3) := by decide +kernel
theorem dX7_undo_46 : decode cX7_undo 46 = .ok (.sipush 159, 3) := by decide +kernel
theorem dX7_undo_49 : decode cX7_undo 49 = .ok (.aload_n 0, 1) := by decide +kernel
theorem dX7_undo_50 : decode cX7_undo 50 = .ok (.getfield 55, 3) := by decide +kernel
theorem dX7_undo_53 : decode cX7_undo 53 = .ok (.imul, 1) := by decide +kernel
theorem dX7_undo_54 : decode cX7_undo 54 = .ok (.iload_n 1, 1) := by decide +kernel
theorem dX7_undo_55 : decode cX7_undo 55 = .ok (.iadd, 1) := by decide +kernel
theorem dX7_undo_56 : decode cX7_undo 56 = .ok (.iaload, 1) := by decide +kernel
theorem dX7_undo_57 : decode cX7_undo 57 = .ok (.iastore, 1) := by decide +kernel
theorem dX7_undo_58 : decode cX7_undo 58 = .ok (.iinc 1 1, 3) := by decide +kernel
theorem dX7_undo_61 : decode cX7_undo 61 = .ok (.goto (-31), 3) := by decide +kernel
theorem dX7_undo_64 : decode cX7_undo 64 = .ok (.aload_n 0, 1) := by decide +kernel
theorem dX7_undo_65 : decode cX7_undo 65 = .ok (.getfield 55, 3) := by decide +kernel
theorem dX7_undo_68 : decode cX7_undo 68 = .ok (.ireturn, 1) := by decide +kernel
theorem dX7_save_0 : decode cX7_save 0 = .ok (.aload_n 0, 1) := by decide +kernel
theorem dX7_save_1 : decode cX7_save 1 = .ok (.iconst 0, 1) := by decide +kernel
theorem dX7_save_2 : decode cX7_save 2 = .ok (.putfield 52, 3) := by decide +kernel
theorem dX7_save_5 : decode cX7_save 5 = .ok (.iconst 0, 1) := by decide +kernel
theorem dX7_save_6 : decode cX7_save 6 = .ok (.istore_n 1, 1) := by decide +kernel
theorem dX7_save_7 : decode cX7_save 7 = .ok (.iload_n 1, 1) := by decide +kernel
theorem dX7_save_8 : decode cX7_save 8 = .ok (.sipush 159, 3) := by decide +kernel
theorem dX7_save_11 : decode cX7_save 11 = .ok (.if_icmp .ge 21, 3) := by decide +kernel
theorem dX7_save_14 : decode cX7_save 14 = .ok (.aload_n 0, 1) := by decide +kernel
theorem dX7_save_15 : decode cX7_save 15 = .ok (.getfield 19, 3) := by decide +kernel
theorem dX7_save_18 : decode cX7_save 18 = .ok (.iload_n 1, 1) := by decide +kernel
theorem dX7_save_19 : decode cX7_save 19 = .ok (.aload_n 0, 1) := by decide +kernel
theorem dX7_save_20 : decode cX7_save 20 = .ok (.getfield 9, 3) := by decide +kernel
theorem dX7_save_23 : decode cX7_save 23 = .ok (.iload_n 1, 1) := by decide +kernel
theorem dX7_save_24 : decode cX7_save 24 = .ok (.iaload, 1) := by decide +kernel
theorem dX7_save_25 : decode cX7_save 25 = .ok (.iastore, 1) := by decide +kernel
theorem dX7_save_26 : decode cX7_save 26 = .ok (.iinc 1 1, 3) := by decide +kernel
theorem dX7_save_29 : decode cX7_save 29 = .ok (.goto (-22), 3) := by decide +kernel
theorem dX7_save_32 : decode cX7_save 32 = .ok (.aload_n 0, 1) := by decide +kernel
theorem dX7_save_33 : decode cX7_save 33 = .ok (.iconst 1, 1) := by decide +kernel
theorem dX7_save_34 : decode cX7_save 34 = .ok (.putfield 256, 3) := by decide +kernel
theorem dX7_save_37 : decode cX7_save 37 = .ok (.aload_n 0, 1) := by decide +kernel
theorem dX7_save_38 : decode cX7_save 38 = .ok (.getfield 9, 3) := by decide +kernel
theorem dX7_save_41 : decode cX7_save 41 = .ok (.iconst 0, 1) := by decide +kernel
theorem dX7_save_42 : decode cX7_save 42 = .ok (.iaload, 1) := by decide +kernel
theorem dX7_save_43 : decode cX7_save 43 = .ok (.ireturn, 1) := by decide +kernel
set_option maxRecDepth 20000 in
theorem ggX7_restore_X7_throwing : GoodIn wsX7_restore wsX7_throwing := goodIn_rr _ [(10, 1), (1, 1), (11, 21)] rfl (by decide +kernel)
set_option maxRecDepth 20000 in
theorem gX7_restore_X7_throwing : GoodIn wsX7_restore (wsV RX7 83 RX7 yX7_throwing wsX7_throwing) := goodIn_app (goodIn_of _ (by decide +kernel)) ggX7_restore_X7_throwing
theorem dX7_restore_0 : decode cX7_restore 0 = .ok (.aload_n 0, 1) := by decide +kernel
theorem dX7_restore_1 : decode cX7_restore 1 = .ok (.iconst 0, 1) := by decide +kernel
theorem dX7_restore_2 : decode cX7_restore 2 = .ok (.putfield 52, 3) := by decide +kernel
theorem dX7_restore_5 : decode cX7_restore 5 = .ok (.aload_n 0, 1) := by decide +kernel
theorem dX7_restore_6 : decode cX7_restore 6 = .ok (.getfield 256, 3) := by decide +kernel
theorem dX7_restore_9 : decode cX7_restore 9 = .ok (.ifCond .ne 9, 3) := by decide +kernel
theorem dX7_restore_12 : decode cX7_restore 12 = .ok (.aload_n 0, 1) := by decide +kernel
theorem dX7_restore_13 : decode cX7_restore 13 = .ok (.iconst 1, 1) := by decide +kernel
theorem dX7_restore_14 : decode cX7_restore 14 = .ok (.invokevirtual 83, 3) := by decide +kernel
theorem dX7_restore_17 : decode cX7_restore 17 = .ok (.ireturn, 1) := by decide +kernel
theorem dX7_restore_18 : decode cX7_restore 18 = .ok (.iconst 0, 1) := by decide +kernel
theorem dX7_restore_19 : decode cX7_restore 19 = .ok (.istore_n 1, 1) := by decide +kernel
theorem dX7_restore_20 : decode cX7_restore 20 = .ok (.iload_n 1, 1) := by decide +kernel
theorem dX7_restore_21 : decode cX7_restore 21 = .ok (.sipush 159, 3) := by decide +kernel
theorem dX7_restore_24 : decode cX7_restore 24 = .ok (.if_icmp .ge 21, 3) := by decide +kernel
theorem dX7_restore_27 : decode cX7_restore 27 = .ok (.aload_n 0, 1) := by decide +kernel
theorem dX7_restore_28 : decode cX7_restore 28 = .ok (.getfield 9, 3) := by decide +kernel
theorem dX7_restore_31 : decode cX7_restore 31 = .ok (.iload_n 1, 1) := by decide +kernel
theorem dX7_restore_32 : decode cX7_restore 32 = .ok (.aload_n 0, 1) := by decide +kernel
theorem dX7_restore_33 : decode cX7_restore 33 = .ok (.getfield 19, 3) := by decide +kernel
theorem dX7_restore_36 : decode cX7_restore 36 = .ok (.iload_n 1, 1) := by decide +kernel
theorem dX7_restore_37 : decode cX7_restore 37 = .ok (.iaload, 1) := by decide +kernel
theorem dX7_restore_38 : decode cX7_restore 38 = .ok (.iastore, 1) := by decide +kernel
theorem dX7_restore_39 : decode cX7_restore 39 = .ok (.iinc 1 1, 3) := by decide +kernel
theorem dX7_restore_42 : decode cX7_restore 42 = .ok (.goto (-22), 3) := by decide +kernel
theorem dX7_restore_45 : decode cX7_restore 45 = .ok (.aload_n 0, 1) := by decide +kernel
theorem dX7_restore_46 : decode cX7_restore 46 = .ok (.iconst 0, 1) := by decide +kernel
theorem dX7_restore_47 : decode cX7_restore 47 = .ok (.putfield 55, 3) := by decide +kernel
theorem dX7_restore_50 : decode cX7_restore 50 = .ok (.aload_n 0, 1) := by decide +kernel
theorem dX7_restore_51 : decode cX7_restore 51 = .ok (.getfield 9, 3) := by decide +kernel
theorem dX7_restore_54 : decode cX7_restore 54 = .ok (.iconst 0, 1) := by decide +kernel
theorem dX7_restore_55 : decode cX7_restore 55 = .ok (.iaload, 1) := by decide +kernel
theorem dX7_restore_56 : decode cX7_restore 56 = .ok (.ireturn, 1) := by decide +kernel
