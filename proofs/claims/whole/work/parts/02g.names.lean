theorem dX7_findFrame_77 : decode cX7_findFrame 77 = .ok (.iaload, 1) := by decide +kernel
theorem dX7_findFrame_78 : decode cX7_findFrame 78 = .ok (.invokevirtual 90, 3) := by decide +kernel
theorem dX7_findFrame_81 : decode cX7_findFrame 81 = .ok (.aload_n 0, 1) := by decide +kernel
theorem dX7_findFrame_82 : decode cX7_findFrame 82 = .ok (.iload 8, 2) := by decide +kernel
theorem dX7_findFrame_84 : decode cX7_findFrame 84 = .ok (.aload_n 0, 1) := by decide +kernel
theorem dX7_findFrame_85 : decode cX7_findFrame 85 = .ok (.getfield 16, 3) := by decide +kernel
theorem dX7_findFrame_88 : decode cX7_findFrame 88 = .ok (.iload_n 2, 1) := by decide +kernel
theorem dX7_findFrame_89 : decode cX7_findFrame 89 = .ok (.iaload, 1) := by decide +kernel
theorem dX7_findFrame_90 : decode cX7_findFrame 90 = .ok (.invokevirtual 90, 3) := by decide +kernel
theorem dX7_findFrame_93 : decode cX7_findFrame 93 = .ok (.invokevirtual 86, 3) := by decide +kernel
theorem dX7_findFrame_96 : decode cX7_findFrame 96 = .ok (.aload_n 0, 1) := by decide +kernel
theorem dX7_findFrame_97 : decode cX7_findFrame 97 = .ok (.iload 9, 2) := by decide +kernel
theorem dX7_findFrame_99 : decode cX7_findFrame 99 = .ok (.aload_n 0, 1) := by decide +kernel
theorem dX7_findFrame_100 : decode cX7_findFrame 100 = .ok (.getfield 16, 3) := by decide +kernel
theorem dX7_findFrame_103 : decode cX7_findFrame 103 = .ok (.iload_n 3, 1) := by decide +kernel
theorem dX7_findFrame_104 : decode cX7_findFrame 104 = .ok (.iaload, 1) := by decide +kernel
theorem dX7_findFrame_105 : decode cX7_findFrame 105 = .ok (.invokevirtual 90, 3) := by decide +kernel
theorem dX7_findFrame_108 : decode cX7_findFrame 108 = .ok (.invokevirtual 86, 3) := by decide +kernel
theorem dX7_findFrame_111 : decode cX7_findFrame 111 = .ok (.aload_n 0, 1) := by decide +kernel
theorem dX7_findFrame_112 : decode cX7_findFrame 112 = .ok (.getfield 16, 3) := by decide +kernel
theorem dX7_findFrame_115 : decode cX7_findFrame 115 = .ok (.iload 4, 2) := by decide +kernel
theorem dX7_findFrame_117 : decode cX7_findFrame 117 = .ok (.iaload, 1) := by decide +kernel
theorem dX7_findFrame_118 : decode cX7_findFrame 118 = .ok (.if_icmp .ne 115, 3) := by decide +kernel
theorem dX7_findFrame_121 : decode cX7_findFrame 121 = .ok (.aload_n 0, 1) := by decide +kernel
theorem dX7_findFrame_122 : decode cX7_findFrame 122 = .ok (.aload_n 0, 1) := by decide +kernel
theorem dX7_findFrame_123 : decode cX7_findFrame 123 = .ok (.aload_n 0, 1) := by decide +kernel
theorem dX7_findFrame_124 : decode cX7_findFrame 124 = .ok (.iload 7, 2) := by decide +kernel
theorem dX7_findFrame_126 : decode cX7_findFrame 126 = .ok (.aload_n 0, 1) := by decide +kernel
theorem dX7_findFrame_127 : decode cX7_findFrame 127 = .ok (.getfield 19, 3) := by decide +kernel
theorem dX7_findFrame_130 : decode cX7_findFrame 130 = .ok (.iload_n 1, 1) := by decide +kernel
theorem dX7_findFrame_131 : decode cX7_findFrame 131 = .ok (.iaload, 1) := by decide +kernel
theorem dX7_findFrame_132 : decode cX7_findFrame 132 = .ok (.invokevirtual 90, 3) := by decide +kernel
theorem dX7_findFrame_135 : decode cX7_findFrame 135 = .ok (.aload_n 0, 1) := by decide +kernel
theorem dX7_findFrame_136 : decode cX7_findFrame 136 = .ok (.iload 8, 2) := by decide +kernel
theorem dX7_findFrame_138 : decode cX7_findFrame 138 = .ok (.aload_n 0, 1) := by decide +kernel
theorem dX7_findFrame_139 : decode cX7_findFrame 139 = .ok (.getfield 19, 3) := by decide +kernel
theorem dX7_findFrame_142 : decode cX7_findFrame 142 = .ok (.iload_n 2, 1) := by decide +kernel
theorem dX7_findFrame_143 : decode cX7_findFrame 143 = .ok (.iaload, 1) := by decide +kernel
theorem dX7_findFrame_144 : decode cX7_findFrame 144 = .ok (.invokevirtual 90, 3) := by decide +kernel
theorem dX7_findFrame_147 : decode cX7_findFrame 147 = .ok (.invokevirtual 86, 3) := by decide +kernel
theorem dX7_findFrame_150 : decode cX7_findFrame 150 = .ok (.aload_n 0, 1) := by decide +kernel
theorem dX7_findFrame_151 : decode cX7_findFrame 151 = .ok (.iload 9, 2) := by decide +kernel
theorem dX7_findFrame_153 : decode cX7_findFrame 153 = .ok (.aload_n 0, 1) := by decide +kernel
theorem dX7_findFrame_154 : decode cX7_findFrame 154 = .ok (.getfield 19, 3) := by decide +kernel
theorem dX7_findFrame_157 : decode cX7_findFrame 157 = .ok (.iload_n 3, 1) := by decide +kernel
theorem dX7_findFrame_158 : decode cX7_findFrame 158 = .ok (.iaload, 1) := by decide +kernel
theorem dX7_findFrame_159 : decode cX7_findFrame 159 = .ok (.invokevirtual 90, 3) := by decide +kernel
theorem dX7_findFrame_162 : decode cX7_findFrame 162 = .ok (.invokevirtual 86, 3) := by decide +kernel
theorem dX7_findFrame_165 : decode cX7_findFrame 165 = .ok (.aload_n 0, 1) := by decide +kernel
theorem dX7_findFrame_166 : decode cX7_findFrame 166 = .ok (.getfield 19, 3) := by decide +kernel
theorem dX7_findFrame_169 : decode cX7_findFrame 169 = .ok (.iload 4, 2) := by decide +kernel
theorem dX7_findFrame_171 : decode cX7_findFrame 171 = .ok (.iaload, 1) := by decide +kernel
theorem dX7_findFrame_172 : decode cX7_findFrame 172 = .ok (.if_icmp .ne 61, 3) := by decide +kernel
theorem dX7_findFrame_175 : decode cX7_findFrame 175 = .ok (.aload_n 0, 1) := by decide +kernel
theorem dX7_findFrame_176 : decode cX7_findFrame 176 = .ok (.aload_n 0, 1) := by decide +kernel
theorem dX7_findFrame_177 : decode cX7_findFrame 177 = .ok (.aload_n 0, 1) := by decide +kernel
theorem dX7_findFrame_178 : decode cX7_findFrame 178 = .ok (.iload 7, 2) := by decide +kernel
theorem dX7_findFrame_180 : decode cX7_findFrame 180 = .ok (.aload_n 0, 1) := by decide +kernel
theorem dX7_findFrame_181 : decode cX7_findFrame 181 = .ok (.getfield 22, 3) := by decide +kernel
theorem dX7_findFrame_184 : decode cX7_findFrame 184 = .ok (.iload_n 1, 1) := by decide +kernel
theorem dX7_findFrame_185 : decode cX7_findFrame 185 = .ok (.iaload, 1) := by decide +kernel
theorem dX7_findFrame_186 : decode cX7_findFrame 186 = .ok (.invokevirtual 90, 3) := by decide +kernel
theorem dX7_findFrame_189 : decode cX7_findFrame 189 = .ok (.aload_n 0, 1) := by decide +kernel
theorem dX7_findFrame_190 : decode cX7_findFrame 190 = .ok (.iload 8, 2) := by decide +kernel
theorem dX7_findFrame_192 : decode cX7_findFrame 192 = .ok (.aload_n 0, 1) := by decide +kernel
theorem dX7_findFrame_193 : decode cX7_findFrame 193 = .ok (.getfield 22, 3) := by decide +kernel
theorem dX7_findFrame_196 : decode cX7_findFrame 196 = .ok (.iload_n 2, 1) := by decide +kernel
theorem dX7_findFrame_197 : decode cX7_findFrame 197 = .ok (.iaload, 1) := by decide +kernel
theorem dX7_findFrame_198 : decode cX7_findFrame 198 = .ok (.invokevirtual 90, 3) := by decide +kernel
theorem dX7_findFrame_201 : decode cX7_findFrame 201 = .ok (.invokevirtual 86, 3) := by decide +kernel
theorem dX7_findFrame_204 : decode cX7_findFrame 204 = .ok (.aload_n 0, 1) := by decide +kernel
theorem dX7_findFrame_205 : decode cX7_findFrame 205 = .ok (.iload 9, 2) := by decide +kernel
theorem dX7_findFrame_207 : decode cX7_findFrame 207 = .ok (.aload_n 0, 1) := by decide +kernel
theorem dX7_findFrame_208 : decode cX7_findFrame 208 = .ok (.getfield 22, 3) := by decide +kernel
theorem dX7_findFrame_211 : decode cX7_findFrame 211 = .ok (.iload_n 3, 1) := by decide +kernel
theorem dX7_findFrame_212 : decode cX7_findFrame 212 = .ok (.iaload, 1) := by decide +kernel
theorem dX7_findFrame_213 : decode cX7_findFrame 213 = .ok (.invokevirtual 90, 3) := by decide +kernel
theorem dX7_findFrame_216 : decode cX7_findFrame 216 = .ok (.invokevirtual 86, 3) := by decide +kernel
theorem dX7_findFrame_219 : decode cX7_findFrame 219 = .ok (.aload_n 0, 1) := by decide +kernel
theorem dX7_findFrame_220 : decode cX7_findFrame 220 = .ok (.getfield 22, 3) := by decide +kernel
theorem dX7_findFrame_223 : decode cX7_findFrame 223 = .ok (.iload 4, 2) := by decide +kernel
theorem dX7_findFrame_225 : decode cX7_findFrame 225 = .ok (.iaload, 1) := by decide +kernel
theorem dX7_findFrame_226 : decode cX7_findFrame 226 = .ok (.if_icmp .ne 7, 3) := by decide +kernel
theorem dX7_findFrame_229 : decode cX7_findFrame 229 = .ok (.iconst 1, 1) := by decide +kernel
theorem dX7_findFrame_230 : decode cX7_findFrame 230 = .ok (.goto 4, 3) := by decide +kernel
theorem dX7_findFrame_233 : decode cX7_findFrame 233 = .ok (.iconst 0, 1) := by decide +kernel
theorem dX7_findFrame_234 : decode cX7_findFrame 234 = .ok (.istore 5, 2) := by decide +kernel
theorem dX7_findFrame_236 : decode cX7_findFrame 236 = .ok (.iload 5, 2) := by decide +kernel
theorem dX7_findFrame_238 : decode cX7_findFrame 238 = .ok (.ifCond .eq 136, 3) := by decide +kernel
theorem dX7_findFrame_241 : decode cX7_findFrame 241 = .ok (.iconst 0, 1) := by decide +kernel
theorem dX7_findFrame_242 : decode cX7_findFrame 242 = .ok (.istore 10, 2) := by decide +kernel
theorem dX7_findFrame_244 : decode cX7_findFrame 244 = .ok (.iload 10, 2) := by decide +kernel
theorem dX7_findFrame_246 : decode cX7_findFrame 246 = .ok (.iconst 3, 1) := by decide +kernel
theorem dX7_findFrame_247 : decode cX7_findFrame 247 = .ok (.if_icmp .ge 127, 3) := by decide +kernel
theorem dX7_findFrame_250 : decode cX7_findFrame 250 = .ok (.aload_n 0, 1) := by decide +kernel
theorem dX7_findFrame_251 : decode cX7_findFrame 251 = .ok (.getfield 50, 3) := by decide +kernel
theorem dX7_findFrame_254 : decode cX7_findFrame 254 = .ok (.iconst 3, 1) := by decide +kernel
theorem dX7_findFrame_255 : decode cX7_findFrame 255 = .ok (.iload 10, 2) := by decide +kernel
theorem dX7_findFrame_257 : decode cX7_findFrame 257 = .ok (.imul, 1) := by decide +kernel
theorem dX7_findFrame_258 : decode cX7_findFrame 258 = .ok (.aload_n 0, 1) := by decide +kernel
theorem dX7_findFrame_259 : decode cX7_findFrame 259 = .ok (.iload 7, 2) := by decide +kernel
theorem dX7_findFrame_261 : decode cX7_findFrame 261 = .ok (.aload_n 0, 1) := by decide +kernel
theorem dX7_findFrame_262 : decode cX7_findFrame 262 = .ok (.getfield 16, 3) := by decide +kernel
theorem dX7_findFrame_265 : decode cX7_findFrame 265 = .ok (.iload_n 1, 1) := by decide +kernel
theorem dX7_findFrame_266 : decode cX7_findFrame 266 = .ok (.iaload, 1) := by decide +kernel
theorem dX7_findFrame_267 : decode cX7_findFrame 267 = .ok (.aload_n 0, 1) := by decide +kernel
theorem dX7_findFrame_268 : decode cX7_findFrame 268 = .ok (.getfield 19, 3) := by decide +kernel
theorem dX7_findFrame_271 : decode cX7_findFrame 271 = .ok (.iload_n 1, 1) := by decide +kernel
theorem dX7_findFrame_272 : decode cX7_findFrame 272 = .ok (.iaload, 1) := by decide +kernel
theorem dX7_findFrame_273 : decode cX7_findFrame 273 = .ok (.aload_n 0, 1) := by decide +kernel
theorem dX7_findFrame_274 : decode cX7_findFrame 274 = .ok (.getfield 22, 3) := by decide +kernel
theorem dX7_findFrame_277 : decode cX7_findFrame 277 = .ok (.iload_n 1, 1) := by decide +kernel
theorem dX7_findFrame_278 : decode cX7_findFrame 278 = .ok (.iaload, 1) := by decide +kernel
theorem dX7_findFrame_279 : decode cX7_findFrame 279 = .ok (.iload 10, 2) := by decide +kernel
theorem dX7_findFrame_281 : decode cX7_findFrame 281 = .ok (.invokestatic 110, 3) := by decide +kernel
theorem dX7_findFrame_284 : decode cX7_findFrame 284 = .ok (.invokevirtual 90, 3) := by decide +kernel
theorem dX7_findFrame_287 : decode cX7_findFrame 287 = .ok (.iastore, 1) := by decide +kernel
theorem dX7_findFrame_288 : decode cX7_findFrame 288 = .ok (.aload_n 0, 1) := by decide +kernel
theorem dX7_findFrame_289 : decode cX7_findFrame 289 = .ok (.getfield 50, 3) := by decide +kernel
theorem dX7_findFrame_292 : decode cX7_findFrame 292 = .ok (.iconst 3, 1) := by decide +kernel
theorem dX7_findFrame_293 : decode cX7_findFrame 293 = .ok (.iload 10, 2) := by decide +kernel
theorem dX7_findFrame_295 : decode cX7_findFrame 295 = .ok (.imul, 1) := by decide +kernel
theorem dX7_findFrame_296 : decode cX7_findFrame 296 = .ok (.iconst 1, 1) := by decide +kernel
theorem dX7_findFrame_297 : decode cX7_findFrame 297 = .ok (.iadd, 1) := by decide +kernel
theorem dX7_findFrame_298 : decode cX7_findFrame 298 = .ok (.aload_n 0, 1) := by decide +kernel
theorem dX7_findFrame_299 : decode cX7_findFrame 299 = .ok (.iload 8, 2) := by decide +kernel
theorem dX7_findFrame_301 : decode cX7_findFrame 301 = .ok (.aload_n 0, 1) := by decide +kernel
theorem dX7_findFrame_302 : decode cX7_findFrame 302 = .ok (.getfield 16, 3) := by decide +kernel
theorem dX7_findFrame_305 : decode cX7_findFrame 305 = .ok (.iload_n 2, 1) := by decide +kernel
theorem dX7_findFrame_306 : decode cX7_findFrame 306 = .ok (.iaload, 1) := by decide +kernel
theorem dX7_findFrame_307 : decode cX7_findFrame 307 = .ok (.aload_n 0, 1) := by decide +kernel
theorem dX7_findFrame_308 : decode cX7_findFrame 308 = .ok (.getfield 19, 3) := by decide +kernel
theorem dX7_findFrame_311 : decode cX7_findFrame 311 = .ok (.iload_n 2, 1) := by decide +kernel
theorem dX7_findFrame_312 : decode cX7_findFrame 312 = .ok (.iaload, 1) := by decide +kernel
theorem dX7_findFrame_313 : decode cX7_findFrame 313 = .ok (.aload_n 0, 1) := by decide +kernel
theorem dX7_findFrame_314 : decode cX7_findFrame 314 = .ok (.getfield 22, 3) := by decide +kernel
theorem dX7_findFrame_317 : decode cX7_findFrame 317 = .ok (.iload_n 2, 1) := by decide +kernel
theorem dX7_findFrame_318 : decode cX7_findFrame 318 = .ok (.iaload, 1) := by decide +kernel
theorem dX7_findFrame_319 : decode cX7_findFrame 319 = .ok (.iload 10, 2) := by decide +kernel
theorem dX7_findFrame_321 : decode cX7_findFrame 321 = .ok (.invokestatic 110, 3) := by decide +kernel
theorem dX7_findFrame_324 : decode cX7_findFrame 324 = .ok (.invokevirtual 90, 3) := by decide +kernel
theorem dX7_findFrame_327 : decode cX7_findFrame 327 = .ok (.iastore, 1) := by decide +kernel
theorem dX7_findFrame_328 : decode cX7_findFrame 328 = .ok (.aload_n 0, 1) := by decide +kernel
theorem dX7_findFrame_329 : decode cX7_findFrame 329 = .ok (.getfield 50, 3) := by decide +kernel
theorem dX7_findFrame_332 : decode cX7_findFrame 332 = .ok (.iconst 3, 1) := by decide +kernel
theorem dX7_findFrame_333 : decode cX7_findFrame 333 = .ok (.iload 10, 2) := by decide +kernel
theorem dX7_findFrame_335 : decode cX7_findFrame 335 = .ok (.imul, 1) := by decide +kernel
theorem dX7_findFrame_336 : decode cX7_findFrame 336 = .ok (.iconst 2, 1) := by decide +kernel
theorem dX7_findFrame_337 : decode cX7_findFrame 337 = .ok (.iadd, 1) := by decide +kernel
theorem dX7_findFrame_338 : decode cX7_findFrame 338 = .ok (.aload_n 0, 1) := by decide +kernel
theorem dX7_findFrame_339 : decode cX7_findFrame 339 = .ok (.iload 9, 2) := by decide +kernel
theorem dX7_findFrame_341 : decode cX7_findFrame 341 = .ok (.aload_n 0, 1) := by decide +kernel
theorem dX7_findFrame_342 : decode cX7_findFrame 342 = .ok (.getfield 16, 3) := by decide +kernel
theorem dX7_findFrame_345 : decode cX7_findFrame 345 = .ok (.iload_n 3, 1) := by decide +kernel
theorem dX7_findFrame_346 : decode cX7_findFrame 346 = .ok (.iaload, 1) := by decide +kernel
theorem dX7_findFrame_347 : decode cX7_findFrame 347 = .ok (.aload_n 0, 1) := by decide +kernel
theorem dX7_findFrame_348 : decode cX7_findFrame 348 = .ok (.getfield 19, 3) := by decide +kernel
theorem dX7_findFrame_351 : decode cX7_findFrame 351 = .ok (.iload_n 3, 1) := by decide +kernel
theorem dX7_findFrame_352 : decode cX7_findFrame 352 = .ok (.iaload, 1) := by decide +kernel
theorem dX7_findFrame_353 : decode cX7_findFrame 353 = .ok (.aload_n 0, 1) := by decide +kernel
theorem dX7_findFrame_354 : decode cX7_findFrame 354 = .ok (.getfield 22, 3) := by decide +kernel
theorem dX7_findFrame_357 : decode cX7_findFrame 357 = .ok (.iload_n 3, 1) := by decide +kernel
theorem dX7_findFrame_358 : decode cX7_findFrame 358 = .ok (.iaload, 1) := by decide +kernel
theorem dX7_findFrame_359 : decode cX7_findFrame 359 = .ok (.iload 10, 2) := by decide +kernel
theorem dX7_findFrame_361 : decode cX7_findFrame 361 = .ok (.invokestatic 110, 3) := by decide +kernel
theorem dX7_findFrame_364 : decode cX7_findFrame 364 = .ok (.invokevirtual 90, 3) := by decide +kernel
theorem dX7_findFrame_367 : decode cX7_findFrame 367 = .ok (.iastore, 1) := by decide +kernel
theorem dX7_findFrame_368 : decode cX7_findFrame 368 = .ok (.iinc 10 1, 3) := by decide +kernel
theorem dX7_findFrame_371 : decode cX7_findFrame 371 = .ok (.goto (-127), 3) := by decide +kernel
theorem dX7_findFrame_374 : decode cX7_findFrame 374 = .ok (.iinc 6 1, 3) := by decide +kernel
theorem dX7_findFrame_377 : decode cX7_findFrame 377 = .ok (.goto (-371), 3) := by decide +kernel
theorem dX7_findFrame_380 : decode cX7_findFrame 380 = .ok (.return_, 1) := by decide +kernel
set_option maxRecDepth 20000 in
theorem ggX7_frame_X7_isPoint : GoodIn wsX7_frame wsX7_isPoint := goodIn_r _ [7, 8, 9, 10, 6, 11, 53, 54, 55, 56, 57, 58, 59, 60, 61, 62, 63, 64, 65, 66, 67, 68, 69, 70, 71, 72] (by decide +kernel) (by decide +kernel)
set_option maxRecDepth 20000 in
theorem gX7_frame_X7_isPoint : GoodIn wsX7_frame (wsV RX7 107 RX7 yX7_isPoint wsX7_isPoint) := goodIn_app (goodIn_of _ (by decide +kernel)) ggX7_frame_X7_isPoint
set_option maxRecDepth 20000 in
theorem ggX7_frame_X7_isFrame : GoodIn wsX7_frame wsX7_isFrame := goodIn_r _ [15, 16, 17, 18, 6, 19, 8, 20, 21, 22, 23, 24, 25, 26, 27, 28, 29, 30, 31, 32, 33, 34, 35, 36, 53, 54, 55, 56, 57, 58, 59, 60, 61, 62, 63, 64, 65, 66, 67, 68, 69, 70, 71, 72] (by decide +kernel) (by decide +kernel)
set_option maxRecDepth 20000 in
theorem gX7_frame_X7_isFrame : GoodIn wsX7_frame (wsV RX7 188 RX7 yX7_isFrame wsX7_isFrame) := goodIn_app (goodIn_of _ (by decide +kernel)) ggX7_frame_X7_isFrame
set_option maxRecDepth 20000 in
theorem ggX7_frame_X7_findFrame : GoodIn wsX7_frame wsX7_findFrame := goodIn_r _ [40, 41, 24, 25, 26, 2, 27, 28, 29, 6, 30, 31, 32, 33, 34, 35, 36, 42, 43, 44, 53, 54, 55, 56, 57, 58, 59, 60, 61, 62, 63, 64, 65, 66, 67, 68, 69, 70, 71, 72] (by decide +kernel) (by decide +kernel)
set_option maxRecDepth 20000 in
theorem gX7_frame_X7_findFrame : GoodIn wsX7_frame (wsV RX7 192 RX7 yX7_findFrame wsX7_findFrame) := goodIn_app (goodIn_of _ (by decide +kernel)) ggX7_frame_X7_findFrame
set_option maxRecDepth 20000 in
theorem ggX7_frame_X7_settle : GoodIn wsX7_frame wsX7_settle := goodIn_r _ [48, 1, 49, 50, 51, 6, 52, 27, 28, 29, 30, 31, 53, 54, 55, 56, 57, 58, 59, 60, 61, 62, 63, 64, 65, 66, 67, 68, 69, 70, 71, 72] (by decide +kernel) (by decide +kernel)
set_option maxRecDepth 20000 in
theorem gX7_frame_X7_settle : GoodIn wsX7_frame (wsV RX7 182 RX7 yX7_settle wsX7_settle) := goodIn_app (goodIn_of _ (by decide +kernel)) ggX7_frame_X7_settle
theorem dX7_frame_0 : decode cX7_frame 0 = .ok (.aload_n 0, 1) := by decide +kernel
theorem dX7_frame_1 : decode cX7_frame 1 = .ok (.iload_n 1, 1) := by decide +kernel
theorem dX7_frame_2 : decode cX7_frame 2 = .ok (.invokevirtual 107, 3) := by decide +kernel
theorem dX7_frame_5 : decode cX7_frame 5 = .ok (.ifCond .eq 28, 3) := by decide +kernel
theorem dX7_frame_8 : decode cX7_frame 8 = .ok (.aload_n 0, 1) := by decide +kernel
theorem dX7_frame_9 : decode cX7_frame 9 = .ok (.iload_n 2, 1) := by decide +kernel
theorem dX7_frame_10 : decode cX7_frame 10 = .ok (.invokevirtual 107, 3) := by decide +kernel
theorem dX7_frame_13 : decode cX7_frame 13 = .ok (.ifCond .eq 20, 3) := by decide +kernel
theorem dX7_frame_16 : decode cX7_frame 16 = .ok (.aload_n 0, 1) := by decide +kernel
theorem dX7_frame_17 : decode cX7_frame 17 = .ok (.iload_n 3, 1) := by decide +kernel
theorem dX7_frame_18 : decode cX7_frame 18 = .ok (.invokevirtual 107, 3) := by decide +kernel
theorem dX7_frame_21 : decode cX7_frame 21 = .ok (.ifCond .eq 12, 3) := by decide +kernel
theorem dX7_frame_24 : decode cX7_frame 24 = .ok (.aload_n 0, 1) := by decide +kernel
theorem dX7_frame_25 : decode cX7_frame 25 = .ok (.iload 4, 2) := by decide +kernel
theorem dX7_frame_27 : decode cX7_frame 27 = .ok (.invokevirtual 107, 3) := by decide +kernel
theorem dX7_frame_30 : decode cX7_frame 30 = .ok (.ifCond .ne 6, 3) := by decide +kernel
theorem dX7_frame_33 : decode cX7_frame 33 = .ok (.bipush (-2), 2) := by decide +kernel
theorem dX7_frame_35 : decode cX7_frame 35 = .ok (.ireturn, 1) := by decide +kernel
theorem dX7_frame_36 : decode cX7_frame 36 = .ok (.aload_n 0, 1) := by decide +kernel
theorem dX7_frame_37 : decode cX7_frame 37 = .ok (.iload_n 1, 1) := by decide +kernel
theorem dX7_frame_38 : decode cX7_frame 38 = .ok (.iload_n 2, 1) := by decide +kernel
theorem dX7_frame_39 : decode cX7_frame 39 = .ok (.iload_n 3, 1) := by decide +kernel
theorem dX7_frame_40 : decode cX7_frame 40 = .ok (.iload 4, 2) := by decide +kernel
theorem dX7_frame_42 : decode cX7_frame 42 = .ok (.invokevirtual 188, 3) := by decide +kernel
theorem dX7_frame_45 : decode cX7_frame 45 = .ok (.ifCond .ne 5, 3) := by decide +kernel
theorem dX7_frame_48 : decode cX7_frame 48 = .ok (.iconst (-1), 1) := by decide +kernel
theorem dX7_frame_49 : decode cX7_frame 49 = .ok (.ireturn, 1) := by decide +kernel
theorem dX7_frame_50 : decode cX7_frame 50 = .ok (.aload_n 0, 1) := by decide +kernel
theorem dX7_frame_51 : decode cX7_frame 51 = .ok (.iload_n 1, 1) := by decide +kernel
theorem dX7_frame_52 : decode cX7_frame 52 = .ok (.iload_n 2, 1) := by decide +kernel
theorem dX7_frame_53 : decode cX7_frame 53 = .ok (.iload_n 3, 1) := by decide +kernel
theorem dX7_frame_54 : decode cX7_frame 54 = .ok (.iload 4, 2) := by decide +kernel
theorem dX7_frame_56 : decode cX7_frame 56 = .ok (.invokevirtual 192, 3) := by decide +kernel
theorem dX7_frame_59 : decode cX7_frame 59 = .ok (.iconst 0, 1) := by decide +kernel
theorem dX7_frame_60 : decode cX7_frame 60 = .ok (.istore 5, 2) := by decide +kernel
theorem dX7_frame_62 : decode cX7_frame 62 = .ok (.iload 5, 2) := by decide +kernel
theorem dX7_frame_64 : decode cX7_frame 64 = .ok (.bipush 9, 2) := by decide +kernel
theorem dX7_frame_66 : decode cX7_frame 66 = .ok (.if_icmp .ge 23, 3) := by decide +kernel
theorem dX7_frame_69 : decode cX7_frame 69 = .ok (.aload_n 0, 1) := by decide +kernel
theorem dX7_frame_70 : decode cX7_frame 70 = .ok (.getfield 29, 3) := by decide +kernel
theorem dX7_frame_73 : decode cX7_frame 73 = .ok (.iload 5, 2) := by decide +kernel
theorem dX7_frame_75 : decode cX7_frame 75 = .ok (.aload_n 0, 1) := by decide +kernel
theorem dX7_frame_76 : decode cX7_frame 76 = .ok (.getfield 50, 3) := by decide +kernel
theorem dX7_frame_79 : decode cX7_frame 79 = .ok (.iload 5, 2) := by decide +kernel
theorem dX7_frame_81 : decode cX7_frame 81 = .ok (.iaload, 1) := by decide +kernel
theorem dX7_frame_82 : decode cX7_frame 82 = .ok (.iastore, 1) := by decide +kernel
theorem dX7_frame_83 : decode cX7_frame 83 = .ok (.iinc 5 1, 3) := by decide +kernel
theorem dX7_frame_86 : decode cX7_frame 86 = .ok (.goto (-24), 3) := by decide +kernel
theorem dX7_frame_89 : decode cX7_frame 89 = .ok (.aload_n 0, 1) := by decide +kernel
theorem dX7_frame_90 : decode cX7_frame 90 = .ok (.invokevirtual 182, 3) := by decide +kernel
theorem dX7_frame_93 : decode cX7_frame 93 = .ok (.iconst 1, 1) := by decide +kernel
theorem dX7_frame_94 : decode cX7_frame 94 = .ok (.ireturn, 1) := by decide +kernel
set_option maxRecDepth 20000 in
theorem ggX7_behind_X7_isPoint : GoodIn wsX7_behind wsX7_isPoint := goodIn_r _ [8, 9, 10, 11, 7, 12, 70, 71, 72, 73, 74, 75, 76, 77, 78, 79, 80, 81, 82, 83, 84, 85, 86, 87, 88, 89] (by decide +kernel) (by decide +kernel)
set_option maxRecDepth 20000 in
theorem gX7_behind_X7_isPoint : GoodIn wsX7_behind (wsV RX7 107 RX7 yX7_isPoint wsX7_isPoint) := goodIn_app (goodIn_of _ (by decide +kernel)) ggX7_behind_X7_isPoint
set_option maxRecDepth 20000 in
theorem ggX7_behind_X7_isFrame : GoodIn wsX7_behind wsX7_isFrame := goodIn_r _ [16, 17, 18, 19, 7, 20, 9, 21, 22, 23, 24, 25, 26, 27, 28, 29, 30, 31, 32, 33, 34, 35, 36, 37, 70, 71, 72, 73, 74, 75, 76, 77, 78, 79, 80, 81, 82, 83, 84, 85, 86, 87, 88, 89] (by decide +kernel) (by decide +kernel)
set_option maxRecDepth 20000 in
theorem gX7_behind_X7_isFrame : GoodIn wsX7_behind (wsV RX7 188 RX7 yX7_isFrame wsX7_isFrame) := goodIn_app (goodIn_of _ (by decide +kernel)) ggX7_behind_X7_isFrame
set_option maxRecDepth 20000 in
theorem ggX7_behind_X7_determinant : GoodIn wsX7_behind wsX7_determinant := goodIn_r _ [41, 3, 42, 43, 44, 7, 45, 28, 29, 30, 31, 32, 46, 47, 48, 49, 33, 34, 35, 36, 37, 70, 71, 72, 73, 74, 75, 76, 77, 78, 79, 80, 81, 82, 83, 84, 85, 86, 87, 88, 89] (by decide +kernel) (by decide +kernel)
set_option maxRecDepth 20000 in
theorem gX7_behind_X7_determinant : GoodIn wsX7_behind (wsV RX7 179 RX7 yX7_determinant wsX7_determinant) := goodIn_app (goodIn_of _ (by decide +kernel)) ggX7_behind_X7_determinant
set_option maxRecDepth 20000 in
theorem ggX7_behind_X7_findFrame : GoodIn wsX7_behind wsX7_findFrame := goodIn_r _ [53, 54, 25, 26, 27, 2, 28, 29, 30, 7, 31, 32, 33, 34, 35, 36, 37, 55, 56, 57, 70, 71, 72, 73, 74, 75, 76, 77, 78, 79, 80, 81, 82, 83, 84, 85, 86, 87, 88, 89] (by decide +kernel) (by decide +kernel)
set_option maxRecDepth 20000 in
theorem gX7_behind_X7_findFrame : GoodIn wsX7_behind (wsV RX7 192 RX7 yX7_findFrame wsX7_findFrame) := goodIn_app (goodIn_of _ (by decide +kernel)) ggX7_behind_X7_findFrame
set_option maxRecDepth 20000 in
theorem ggX7_behind_X7_rowOf : GoodIn wsX7_behind wsX7_rowOf := goodIn_r _ [61, 3, 28, 29, 30, 7, 31, 32, 33, 34, 35, 36, 37, 70, 71, 72, 73, 74, 75, 76, 77, 78, 79, 80, 81, 82, 83, 84, 85, 86, 87, 88, 89] (by decide +kernel) (by decide +kernel)
set_option maxRecDepth 20000 in
theorem gX7_behind_X7_rowOf : GoodIn wsX7_behind (wsV RX7 172 RX7 yX7_rowOf wsX7_rowOf) := goodIn_app (goodIn_of _ (by decide +kernel)) ggX7_behind_X7_rowOf
set_option maxRecDepth 20000 in
theorem ggX7_behind_X7_settle : GoodIn wsX7_behind wsX7_settle := goodIn_r _ [65, 3, 66, 67, 68, 7, 69, 28, 29, 30, 31, 32, 70, 71, 72, 73, 74, 75, 76, 77, 78, 79, 80, 81, 82, 83, 84, 85, 86, 87, 88, 89] (by decide +kernel) (by decide +kernel)
set_option maxRecDepth 20000 in
theorem gX7_behind_X7_settle : GoodIn wsX7_behind (wsV RX7 182 RX7 yX7_settle wsX7_settle) := goodIn_app (goodIn_of _ (by decide +kernel)) ggX7_behind_X7_settle
theorem dX7_behind_0 : decode cX7_behind 0 = .ok (.aload_n 0, 1) := by decide +kernel
theorem dX7_behind_1 : decode cX7_behind 1 = .ok (.iload_n 1, 1) := by decide +kernel
theorem dX7_behind_2 : decode cX7_behind 2 = .ok (.invokevirtual 107, 3) := by decide +kernel
theorem dX7_behind_5 : decode cX7_behind 5 = .ok (.ifCond .eq 28, 3) := by decide +kernel
theorem dX7_behind_8 : decode cX7_behind 8 = .ok (.aload_n 0, 1) := by decide +kernel
theorem dX7_behind_9 : decode cX7_behind 9 = .ok (.iload_n 2, 1) := by decide +kernel
theorem dX7_behind_10 : decode cX7_behind 10 = .ok (.invokevirtual 107, 3) := by decide +kernel
theorem dX7_behind_13 : decode cX7_behind 13 = .ok (.ifCond .eq 20, 3) := by decide +kernel
theorem dX7_behind_16 : decode cX7_behind 16 = .ok (.aload_n 0, 1) := by decide +kernel
theorem dX7_behind_17 : decode cX7_behind 17 = .ok (.iload_n 3, 1) := by decide +kernel
theorem dX7_behind_18 : decode cX7_behind 18 = .ok (.invokevirtual 107, 3) := by decide +kernel
theorem dX7_behind_21 : decode cX7_behind 21 = .ok (.ifCond .eq 12, 3) := by decide +kernel
theorem dX7_behind_24 : decode cX7_behind 24 = .ok (.aload_n 0, 1) := by decide +kernel
theorem dX7_behind_25 : decode cX7_behind 25 = .ok (.iload 4, 2) := by decide +kernel
theorem dX7_behind_27 : decode cX7_behind 27 = .ok (.invokevirtual 107, 3) := by decide +kernel
theorem dX7_behind_30 : decode cX7_behind 30 = .ok (.ifCond .ne 6, 3) := by decide +kernel
theorem dX7_behind_33 : decode cX7_behind 33 = .ok (.bipush (-2), 2) := by decide +kernel
theorem dX7_behind_35 : decode cX7_behind 35 = .ok (.ireturn, 1) := by decide +kernel
theorem dX7_behind_36 : decode cX7_behind 36 = .ok (.aload_n 0, 1) := by decide +kernel
theorem dX7_behind_37 : decode cX7_behind 37 = .ok (.iload_n 1, 1) := by decide +kernel
theorem dX7_behind_38 : decode cX7_behind 38 = .ok (.iload_n 2, 1) := by decide +kernel
theorem dX7_behind_39 : decode cX7_behind 39 = .ok (.iload_n 3, 1) := by decide +kernel
theorem dX7_behind_40 : decode cX7_behind 40 = .ok (.iload 4, 2) := by decide +kernel
theorem dX7_behind_42 : decode cX7_behind 42 = .ok (.invokevirtual 188, 3) := by decide +kernel
theorem dX7_behind_45 : decode cX7_behind 45 = .ok (.ifCond .ne 5, 3) := by decide +kernel
theorem dX7_behind_48 : decode cX7_behind 48 = .ok (.iconst (-1), 1) := by decide +kernel
theorem dX7_behind_49 : decode cX7_behind 49 = .ok (.ireturn, 1) := by decide +kernel
theorem dX7_behind_50 : decode cX7_behind 50 = .ok (.aload_n 0, 1) := by decide +kernel
theorem dX7_behind_51 : decode cX7_behind 51 = .ok (.invokevirtual 179, 3) := by decide +kernel
theorem dX7_behind_54 : decode cX7_behind 54 = .ok (.ifCond .ne 6, 3) := by decide +kernel
theorem dX7_behind_57 : decode cX7_behind 57 = .ok (.bipush (-3), 2) := by decide +kernel
theorem dX7_behind_59 : decode cX7_behind 59 = .ok (.ireturn, 1) := by decide +kernel
theorem dX7_behind_60 : decode cX7_behind 60 = .ok (.aload_n 0, 1) := by decide +kernel
theorem dX7_behind_61 : decode cX7_behind 61 = .ok (.iload_n 1, 1) := by decide +kernel
theorem dX7_behind_62 : decode cX7_behind 62 = .ok (.iload_n 2, 1) := by decide +kernel
theorem dX7_behind_63 : decode cX7_behind 63 = .ok (.iload_n 3, 1) := by decide +kernel
theorem dX7_behind_64 : decode cX7_behind 64 = .ok (.iload 4, 2) := by decide +kernel
theorem dX7_behind_66 : decode cX7_behind 66 = .ok (.invokevirtual 192, 3) := by decide +kernel
theorem dX7_behind_69 : decode cX7_behind 69 = .ok (.iconst 0, 1) := by decide +kernel
theorem dX7_behind_70 : decode cX7_behind 70 = .ok (.istore 5, 2) := by decide +kernel
theorem dX7_behind_72 : decode cX7_behind 72 = .ok (.iload 5, 2) := by decide +kernel
theorem dX7_behind_74 : decode cX7_behind 74 = .ok (.bipush 9, 2) := by decide +kernel
theorem dX7_behind_76 : decode cX7_behind 76 = .ok (.if_icmp .ge 58, 3) := by decide +kernel
theorem dX7_behind_79 : decode cX7_behind 79 = .ok (.aload_n 0, 1) := by decide +kernel
theorem dX7_behind_80 : decode cX7_behind 80 = .ok (.getfield 56, 3) := by decide +kernel
theorem dX7_behind_83 : decode cX7_behind 83 = .ok (.iload 5, 2) := by decide +kernel
theorem dX7_behind_85 : decode cX7_behind 85 = .ok (.aload_n 0, 1) := by decide +kernel
theorem dX7_behind_86 : decode cX7_behind 86 = .ok (.iload 5, 2) := by decide +kernel
theorem dX7_behind_88 : decode cX7_behind 88 = .ok (.iconst 3, 1) := by decide +kernel
theorem dX7_behind_89 : decode cX7_behind 89 = .ok (.idiv, 1) := by decide +kernel
theorem dX7_behind_90 : decode cX7_behind 90 = .ok (.iconst 3, 1) := by decide +kernel
theorem dX7_behind_91 : decode cX7_behind 91 = .ok (.imul, 1) := by decide +kernel
theorem dX7_behind_92 : decode cX7_behind 92 = .ok (.aload_n 0, 1) := by decide +kernel
theorem dX7_behind_93 : decode cX7_behind 93 = .ok (.getfield 50, 3) := by decide +kernel
theorem dX7_behind_96 : decode cX7_behind 96 = .ok (.iload 5, 2) := by decide +kernel
theorem dX7_behind_98 : decode cX7_behind 98 = .ok (.iconst 3, 1) := by decide +kernel
theorem dX7_behind_99 : decode cX7_behind 99 = .ok (.irem, 1) := by decide +kernel
theorem dX7_behind_100 : decode cX7_behind 100 = .ok (.iaload, 1) := by decide +kernel
theorem dX7_behind_101 : decode cX7_behind 101 = .ok (.aload_n 0, 1) := by decide +kernel
theorem dX7_behind_102 : decode cX7_behind 102 = .ok (.getfield 50, 3) := by decide +kernel
theorem dX7_behind_105 : decode cX7_behind 105 = .ok (.iconst 3, 1) := by decide +kernel
theorem dX7_behind_106 : decode cX7_behind 106 = .ok (.iload 5, 2) := by decide +kernel
theorem dX7_behind_108 : decode cX7_behind 108 = .ok (.iconst 3, 1) := by decide +kernel
theorem dX7_behind_109 : decode cX7_behind 109 = .ok (.irem, 1) := by decide +kernel
theorem dX7_behind_110 : decode cX7_behind 110 = .ok (.iadd, 1) := by decide +kernel
theorem dX7_behind_111 : decode cX7_behind 111 = .ok (.iaload, 1) := by decide +kernel
theorem dX7_behind_112 : decode cX7_behind 112 = .ok (.aload_n 0, 1) := by decide +kernel
theorem dX7_behind_113 : decode cX7_behind 113 = .ok (.getfield 50, 3) := by decide +kernel
theorem dX7_behind_116 : decode cX7_behind 116 = .ok (.bipush 6, 2) := by decide +kernel
theorem dX7_behind_118 : decode cX7_behind 118 = .ok (.iload 5, 2) := by decide +kernel
theorem dX7_behind_120 : decode cX7_behind 120 = .ok (.iconst 3, 1) := by decide +kernel
theorem dX7_behind_121 : decode cX7_behind 121 = .ok (.irem, 1) := by decide +kernel
theorem dX7_behind_122 : decode cX7_behind 122 = .ok (.iadd, 1) := by decide +kernel
theorem dX7_behind_123 : decode cX7_behind 123 = .ok (.iaload, 1) := by decide +kernel
theorem dX7_behind_124 : decode cX7_behind 124 = .ok (.invokevirtual 172, 3) := by decide +kernel
theorem dX7_behind_127 : decode cX7_behind 127 = .ok (.iastore, 1) := by decide +kernel
theorem dX7_behind_128 : decode cX7_behind 128 = .ok (.iinc 5 1, 3) := by decide +kernel
theorem dX7_behind_131 : decode cX7_behind 131 = .ok (.goto (-59), 3) := by decide +kernel
theorem dX7_behind_134 : decode cX7_behind 134 = .ok (.iconst 0, 1) := by decide +kernel
theorem dX7_behind_135 : decode cX7_behind 135 = .ok (.istore 5, 2) := by decide +kernel
theorem dX7_behind_137 : decode cX7_behind 137 = .ok (.iload 5, 2) := by decide +kernel
theorem dX7_behind_139 : decode cX7_behind 139 = .ok (.bipush 9, 2) := by decide +kernel
theorem dX7_behind_141 : decode cX7_behind 141 = .ok (.if_icmp .ge 23, 3) := by decide +kernel
theorem dX7_behind_144 : decode cX7_behind 144 = .ok (.aload_n 0, 1) := by decide +kernel
theorem dX7_behind_145 : decode cX7_behind 145 = .ok (.getfield 29, 3) := by decide +kernel
theorem dX7_behind_148 : decode cX7_behind 148 = .ok (.iload 5, 2) := by decide +kernel
theorem dX7_behind_150 : decode cX7_behind 150 = .ok (.aload_n 0, 1) := by decide +kernel
theorem dX7_behind_151 : decode cX7_behind 151 = .ok (.getfield 56, 3) := by decide +kernel
theorem dX7_behind_154 : decode cX7_behind 154 = .ok (.iload 5, 2) := by decide +kernel
theorem dX7_behind_156 : decode cX7_behind 156 = .ok (.iaload, 1) := by decide +kernel
theorem dX7_behind_157 : decode cX7_behind 157 = .ok (.iastore, 1) := by decide +kernel
theorem dX7_behind_158 : decode cX7_behind 158 = .ok (.iinc 5 1, 3) := by decide +kernel
theorem dX7_behind_161 : decode cX7_behind 161 = .ok (.goto (-24), 3) := by decide +kernel
theorem dX7_behind_164 : decode cX7_behind 164 = .ok (.aload_n 0, 1) := by decide +kernel
theorem dX7_behind_165 : decode cX7_behind 165 = .ok (.invokevirtual 182, 3) := by decide +kernel
theorem dX7_behind_168 : decode cX7_behind 168 = .ok (.iconst 1, 1) := by decide +kernel
theorem dX7_behind_169 : decode cX7_behind 169 = .ok (.ireturn, 1) := by decide +kernel
set_option maxRecDepth 20000 in
theorem ggX7_isSum_X7_times : GoodIn wsX7_isSum wsX7_times := goodIn_r _ [8, 9, 15, 16, 17, 18, 19, 20, 21, 22, 23, 24, 25, 26, 27, 28, 29, 30, 31, 32, 33, 34] (by decide +kernel) (by decide +kernel)
set_option maxRecDepth 20000 in
theorem gX7_isSum_X7_times : GoodIn wsX7_isSum (wsV RX7 90 RX7 yX7_times wsX7_times) := goodIn_app (goodIn_of _ (by decide +kernel)) ggX7_isSum_X7_times
set_option maxRecDepth 20000 in
theorem ggX7_isSum_X7_add : GoodIn wsX7_isSum wsX7_add := goodIn_r _ [13, 14, 15, 16, 17, 18, 19, 20, 21, 22, 23, 24, 25, 26, 27, 28, 29, 30, 31, 32, 33, 34] (by decide +kernel) (by decide +kernel)
set_option maxRecDepth 20000 in
theorem gX7_isSum_X7_add : GoodIn wsX7_isSum (wsV RX7 86 RX7 yX7_add wsX7_add) := goodIn_app (goodIn_of _ (by decide +kernel)) ggX7_isSum_X7_add
theorem dX7_isSum_0 : decode cX7_isSum 0 = .ok (.aload_n 0, 1) := by decide +kernel
theorem dX7_isSum_1 : decode cX7_isSum 1 = .ok (.aload_n 0, 1) := by decide +kernel
theorem dX7_isSum_2 : decode cX7_isSum 2 = .ok (.iload 4, 2) := by decide +kernel
theorem dX7_isSum_4 : decode cX7_isSum 4 = .ok (.aload_n 0, 1) := by decide +kernel
theorem dX7_isSum_5 : decode cX7_isSum 5 = .ok (.getfield 16, 3) := by decide +kernel
theorem dX7_isSum_8 : decode cX7_isSum 8 = .ok (.iload_n 2, 1) := by decide +kernel
theorem dX7_isSum_9 : decode cX7_isSum 9 = .ok (.iaload, 1) := by decide +kernel
theorem dX7_isSum_10 : decode cX7_isSum 10 = .ok (.invokevirtual 90, 3) := by decide +kernel
theorem dX7_isSum_13 : decode cX7_isSum 13 = .ok (.aload_n 0, 1) := by decide +kernel
theorem dX7_isSum_14 : decode cX7_isSum 14 = .ok (.iload 5, 2) := by decide +kernel
theorem dX7_isSum_16 : decode cX7_isSum 16 = .ok (.aload_n 0, 1) := by decide +kernel
theorem dX7_isSum_17 : decode cX7_isSum 17 = .ok (.getfield 16, 3) := by decide +kernel
theorem dX7_isSum_20 : decode cX7_isSum 20 = .ok (.iload_n 3, 1) := by decide +kernel
theorem dX7_isSum_21 : decode cX7_isSum 21 = .ok (.iaload, 1) := by decide +kernel
theorem dX7_isSum_22 : decode cX7_isSum 22 = .ok (.invokevirtual 90, 3) := by decide +kernel
theorem dX7_isSum_25 : decode cX7_isSum 25 = .ok (.invokevirtual 86, 3) := by decide +kernel
theorem dX7_isSum_28 : decode cX7_isSum 28 = .ok (.aload_n 0, 1) := by decide +kernel
theorem dX7_isSum_29 : decode cX7_isSum 29 = .ok (.getfield 16, 3) := by decide +kernel
theorem dX7_isSum_32 : decode cX7_isSum 32 = .ok (.iload_n 1, 1) := by decide +kernel
theorem dX7_isSum_33 : decode cX7_isSum 33 = .ok (.iaload, 1) := by decide +kernel
theorem dX7_isSum_34 : decode cX7_isSum 34 = .ok (.if_icmp .ne 81, 3) := by decide +kernel
theorem dX7_isSum_37 : decode cX7_isSum 37 = .ok (.aload_n 0, 1) := by decide +kernel
theorem dX7_isSum_38 : decode cX7_isSum 38 = .ok (.aload_n 0, 1) := by decide +kernel
theorem dX7_isSum_39 : decode cX7_isSum 39 = .ok (.iload 4, 2) := by decide +kernel
theorem dX7_isSum_41 : decode cX7_isSum 41 = .ok (.aload_n 0, 1) := by decide +kernel
theorem dX7_isSum_42 : decode cX7_isSum 42 = .ok (.getfield 19, 3) := by decide +kernel
theorem dX7_isSum_45 : decode cX7_isSum 45 = .ok (.iload_n 2, 1) := by decide +kernel
theorem dX7_isSum_46 : decode cX7_isSum 46 = .ok (.iaload, 1) := by decide +kernel
theorem dX7_isSum_47 : decode cX7_isSum 47 = .ok (.invokevirtual 90, 3) := by decide +kernel
theorem dX7_isSum_50 : decode cX7_isSum 50 = .ok (.aload_n 0, 1) := by decide +kernel
theorem dX7_isSum_51 : decode cX7_isSum 51 = .ok (.iload 5, 2) := by decide +kernel
theorem dX7_isSum_53 : decode cX7_isSum 53 = .ok (.aload_n 0, 1) := by decide +kernel
theorem dX7_isSum_54 : decode cX7_isSum 54 = .ok (.getfield 19, 3) := by decide +kernel
theorem dX7_isSum_57 : decode cX7_isSum 57 = .ok (.iload_n 3, 1) := by decide +kernel
theorem dX7_isSum_58 : decode cX7_isSum 58 = .ok (.iaload, 1) := by decide +kernel
theorem dX7_isSum_59 : decode cX7_isSum 59 = .ok (.invokevirtual 90, 3) := by decide +kernel
theorem dX7_isSum_62 : decode cX7_isSum 62 = .ok (.invokevirtual 86, 3) := by decide +kernel
theorem dX7_isSum_65 : decode cX7_isSum 65 = .ok (.aload_n 0, 1) := by decide +kernel
theorem dX7_isSum_66 : decode cX7_isSum 66 = .ok (.getfield 19, 3) := by decide +kernel
theorem dX7_isSum_69 : decode cX7_isSum 69 = .ok (.iload_n 1, 1) := by decide +kernel
theorem dX7_isSum_70 : decode cX7_isSum 70 = .ok (.iaload, 1) := by decide +kernel
theorem dX7_isSum_71 : decode cX7_isSum 71 = .ok (.if_icmp .ne 44, 3) := by decide +kernel
theorem dX7_isSum_74 : decode cX7_isSum 74 = .ok (.aload_n 0, 1) := by decide +kernel
theorem dX7_isSum_75 : decode cX7_isSum 75 = .ok (.aload_n 0, 1) := by decide +kernel
theorem dX7_isSum_76 : decode cX7_isSum 76 = .ok (.iload 4, 2) := by decide +kernel
theorem dX7_isSum_78 : decode cX7_isSum 78 = .ok (.aload_n 0, 1) := by decide +kernel
theorem dX7_isSum_79 : decode cX7_isSum 79 = .ok (.getfield 22, 3) := by decide +kernel
theorem dX7_isSum_82 : decode cX7_isSum 82 = .ok (.iload_n 2, 1) := by decide +kernel
theorem dX7_isSum_83 : decode cX7_isSum 83 = .ok (.iaload, 1) := by decide +kernel
theorem dX7_isSum_84 : decode cX7_isSum 84 = .ok (.invokevirtual 90, 3) := by decide +kernel
theorem dX7_isSum_87 : decode cX7_isSum 87 = .ok (.aload_n 0, 1) := by decide +kernel
theorem dX7_isSum_88 : decode cX7_isSum 88 = .ok (.iload 5, 2) := by decide +kernel
theorem dX7_isSum_90 : decode cX7_isSum 90 = .ok (.aload_n 0, 1) := by decide +kernel
theorem dX7_isSum_91 : decode cX7_isSum 91 = .ok (.getfield 22, 3) := by decide +kernel
theorem dX7_isSum_94 : decode cX7_isSum 94 = .ok (.iload_n 3, 1) := by decide +kernel
theorem dX7_isSum_95 : decode cX7_isSum 95 = .ok (.iaload, 1) := by decide +kernel
theorem dX7_isSum_96 : decode cX7_isSum 96 = .ok (.invokevirtual 90, 3) := by decide +kernel
theorem dX7_isSum_99 : decode cX7_isSum 99 = .ok (.invokevirtual 86, 3) := by decide +kernel
theorem dX7_isSum_102 : decode cX7_isSum 102 = .ok (.aload_n 0, 1) := by decide +kernel
theorem dX7_isSum_103 : decode cX7_isSum 103 = .ok (.getfield 22, 3) := by decide +kernel
theorem dX7_isSum_106 : decode cX7_isSum 106 = .ok (.iload_n 1, 1) := by decide +kernel
theorem dX7_isSum_107 : decode cX7_isSum 107 = .ok (.iaload, 1) := by decide +kernel
theorem dX7_isSum_108 : decode cX7_isSum 108 = .ok (.if_icmp .ne 7, 3) := by decide +kernel
theorem dX7_isSum_111 : decode cX7_isSum 111 = .ok (.iconst 1, 1) := by decide +kernel
theorem dX7_isSum_112 : decode cX7_isSum 112 = .ok (.goto 4, 3) := by decide +kernel
theorem dX7_isSum_115 : decode cX7_isSum 115 = .ok (.iconst 0, 1) := by decide +kernel
theorem dX7_isSum_116 : decode cX7_isSum 116 = .ok (.ireturn, 1) := by decide +kernel
set_option maxRecDepth 20000 in
theorem ggX7_sumNumber_X7_isSum : GoodIn wsX7_sumNumber wsX7_isSum := goodIn_r _ [6, 7, 8, 9, 10, 11, 12, 5, 13, 14, 15, 16, 17, 18, 19, 20, 21, 22, 23, 24, 25, 26, 27, 28, 29, 30, 31, 32, 33, 34, 35, 36, 37, 38, 39] (by decide +kernel) (by decide +kernel)
set_option maxRecDepth 20000 in
theorem gX7_sumNumber_X7_isSum : GoodIn wsX7_sumNumber (wsV RX7 196 RX7 yX7_isSum wsX7_isSum) := goodIn_app (goodIn_of _ (by decide +kernel)) ggX7_sumNumber_X7_isSum
theorem dX7_sumNumber_0 : decode cX7_sumNumber 0 = .ok (.iconst 0, 1) := by decide +kernel
theorem dX7_sumNumber_1 : decode cX7_sumNumber 1 = .ok (.istore 4, 2) := by decide +kernel
theorem dX7_sumNumber_3 : decode cX7_sumNumber 3 = .ok (.iconst 0, 1) := by decide +kernel
theorem dX7_sumNumber_4 : decode cX7_sumNumber 4 = .ok (.istore 5, 2) := by decide +kernel
theorem dX7_sumNumber_6 : decode cX7_sumNumber 6 = .ok (.iload 5, 2) := by decide +kernel
theorem dX7_sumNumber_8 : decode cX7_sumNumber 8 = .ok (.aload_n 0, 1) := by decide +kernel
theorem dX7_sumNumber_9 : decode cX7_sumNumber 9 = .ok (.getfield 74, 3) := by decide +kernel
theorem dX7_sumNumber_12 : decode cX7_sumNumber 12 = .ok (.aload_n 0, 1) := by decide +kernel
theorem dX7_sumNumber_13 : decode cX7_sumNumber 13 = .ok (.getfield 74, 3) := by decide +kernel
theorem dX7_sumNumber_16 : decode cX7_sumNumber 16 = .ok (.imul, 1) := by decide +kernel
theorem dX7_sumNumber_17 : decode cX7_sumNumber 17 = .ok (.if_icmp .ge 42, 3) := by decide +kernel
theorem dX7_sumNumber_20 : decode cX7_sumNumber 20 = .ok (.aload_n 0, 1) := by decide +kernel
theorem dX7_sumNumber_21 : decode cX7_sumNumber 21 = .ok (.iload_n 1, 1) := by decide +kernel
theorem dX7_sumNumber_22 : decode cX7_sumNumber 22 = .ok (.iload_n 2, 1) := by decide +kernel
theorem dX7_sumNumber_23 : decode cX7_sumNumber 23 = .ok (.iload_n 3, 1) := by decide +kernel
theorem dX7_sumNumber_24 : decode cX7_sumNumber 24 = .ok (.iload 5, 2) := by decide +kernel
theorem dX7_sumNumber_26 : decode cX7_sumNumber 26 = .ok (.aload_n 0, 1) := by decide +kernel
theorem dX7_sumNumber_27 : decode cX7_sumNumber 27 = .ok (.getfield 74, 3) := by decide +kernel
theorem dX7_sumNumber_30 : decode cX7_sumNumber 30 = .ok (.idiv, 1) := by decide +kernel
theorem dX7_sumNumber_31 : decode cX7_sumNumber 31 = .ok (.iload 5, 2) := by decide +kernel
theorem dX7_sumNumber_33 : decode cX7_sumNumber 33 = .ok (.aload_n 0, 1) := by decide +kernel
theorem dX7_sumNumber_34 : decode cX7_sumNumber 34 = .ok (.getfield 74, 3) := by decide +kernel
theorem dX7_sumNumber_37 : decode cX7_sumNumber 37 = .ok (.irem, 1) := by decide +kernel
theorem dX7_sumNumber_38 : decode cX7_sumNumber 38 = .ok (.invokevirtual 196, 3) := by decide +kernel
theorem dX7_sumNumber_41 : decode cX7_sumNumber 41 = .ok (.ifCond .eq 8, 3) := by decide +kernel
theorem dX7_sumNumber_44 : decode cX7_sumNumber 44 = .ok (.iload 5, 2) := by decide +kernel
theorem dX7_sumNumber_46 : decode cX7_sumNumber 46 = .ok (.goto 5, 3) := by decide +kernel
theorem dX7_sumNumber_49 : decode cX7_sumNumber 49 = .ok (.iload 4, 2) := by decide +kernel
theorem dX7_sumNumber_51 : decode cX7_sumNumber 51 = .ok (.istore 4, 2) := by decide +kernel
theorem dX7_sumNumber_53 : decode cX7_sumNumber 53 = .ok (.iinc 5 1, 3) := by decide +kernel
theorem dX7_sumNumber_56 : decode cX7_sumNumber 56 = .ok (.goto (-50), 3) := by decide +kernel
theorem dX7_sumNumber_59 : decode cX7_sumNumber 59 = .ok (.iload 4, 2) := by decide +kernel
theorem dX7_sumNumber_61 : decode cX7_sumNumber 61 = .ok (.ireturn, 1) := by decide +kernel
set_option maxRecDepth 20000 in
theorem ggX7_ratio_X7_isPoint : GoodIn wsX7_ratio wsX7_isPoint := goodIn_r _ [6, 7, 8, 9, 5, 10, 44, 45, 46, 47, 48, 49, 50, 51, 52, 53, 54, 55, 56, 57, 58, 59, 60, 61, 62, 63] (by decide +kernel) (by decide +kernel)
set_option maxRecDepth 20000 in
theorem gX7_ratio_X7_isPoint : GoodIn wsX7_ratio (wsV RX7 107 RX7 yX7_isPoint wsX7_isPoint) := goodIn_app (goodIn_of _ (by decide +kernel)) ggX7_ratio_X7_isPoint
set_option maxRecDepth 20000 in
theorem ggX7_ratio_X7_joinOf : GoodIn wsX7_ratio wsX7_joinOf := goodIn_r _ [14, 15, 16, 17, 5, 18, 19, 20, 21, 22, 23, 24, 25, 26, 27, 28, 29, 30, 31, 44, 45, 46, 47, 48, 49, 50, 51, 52, 53, 54, 55, 56, 57, 58, 59, 60, 61, 62, 63] (by decide +kernel) (by decide +kernel)
set_option maxRecDepth 20000 in
theorem gX7_ratio_X7_joinOf : GoodIn wsX7_ratio (wsV RX7 121 RX7 yX7_joinOf wsX7_joinOf) := goodIn_app (goodIn_of _ (by decide +kernel)) ggX7_ratio_X7_joinOf
set_option maxRecDepth 20000 in
theorem ggX7_ratio_X7_isOn : GoodIn wsX7_ratio wsX7_isOn := goodIn_r _ [18, 19, 20, 21, 22, 23, 24, 5, 25, 26, 27, 28, 29, 30, 31, 44, 45, 46, 47, 48, 49, 50, 51, 52, 53, 54, 55, 56, 57, 58, 59, 60, 61, 62, 63] (by decide +kernel) (by decide +kernel)
set_option maxRecDepth 20000 in
theorem gX7_ratio_X7_isOn : GoodIn wsX7_ratio (wsV RX7 117 RX7 yX7_isOn wsX7_isOn) := goodIn_app (goodIn_of _ (by decide +kernel)) ggX7_ratio_X7_isOn
set_option maxRecDepth 20000 in
theorem ggX7_ratio_X7_sumNumber : GoodIn wsX7_ratio wsX7_sumNumber := goodIn_r _ [35, 1, 36, 37, 38, 5, 39, 19, 20, 21, 22, 23, 24, 25, 26, 27, 28, 29, 30, 31, 44, 45, 46, 47, 48, 49, 50, 51, 52, 53, 54, 55, 56, 57, 58, 59, 60, 61, 62, 63] (by decide +kernel) (by decide +kernel)
set_option maxRecDepth 20000 in
theorem gX7_ratio_X7_sumNumber : GoodIn wsX7_ratio (wsV RX7 200 RX7 yX7_sumNumber wsX7_sumNumber) := goodIn_app (goodIn_of _ (by decide +kernel)) ggX7_ratio_X7_sumNumber
set_option maxRecDepth 20000 in
theorem ggX7_ratio_X7_times : GoodIn wsX7_ratio wsX7_times := goodIn_r _ [25, 26, 44, 45, 46, 47, 48, 49, 50, 51, 52, 53, 54, 55, 56, 57, 58, 59, 60, 61, 62, 63] (by decide +kernel) (by decide +kernel)
set_option maxRecDepth 20000 in
theorem gX7_ratio_X7_times : GoodIn wsX7_ratio (wsV RX7 90 RX7 yX7_times wsX7_times) := goodIn_app (goodIn_of _ (by decide +kernel)) ggX7_ratio_X7_times
set_option maxRecDepth 20000 in
theorem ggX7_ratio_X7_by : GoodIn wsX7_ratio wsX7_by := goodIn_r _ [43, 22, 23, 24, 5, 25, 26, 44, 45, 46, 47, 48, 49, 50, 51, 52, 53, 54, 55, 56, 57, 58, 59, 60, 61, 62, 63] (by decide +kernel) (by decide +kernel)
set_option maxRecDepth 20000 in
theorem gX7_ratio_X7_by : GoodIn wsX7_ratio (wsV RX7 104 RX7 yX7_by wsX7_by) := goodIn_app (goodIn_of _ (by decide +kernel)) ggX7_ratio_X7_by
theorem dX7_ratio_0 : decode cX7_ratio 0 = .ok (.aload_n 0, 1) := by decide +kernel
theorem dX7_ratio_1 : decode cX7_ratio 1 = .ok (.iload_n 1, 1) := by decide +kernel
theorem dX7_ratio_2 : decode cX7_ratio 2 = .ok (.invokevirtual 107, 3) := by decide +kernel
theorem dX7_ratio_5 : decode cX7_ratio 5 = .ok (.ifCond .eq 28, 3) := by decide +kernel
theorem dX7_ratio_8 : decode cX7_ratio 8 = .ok (.aload_n 0, 1) := by decide +kernel
theorem dX7_ratio_9 : decode cX7_ratio 9 = .ok (.iload_n 2, 1) := by decide +kernel
theorem dX7_ratio_10 : decode cX7_ratio 10 = .ok (.invokevirtual 107, 3) := by decide +kernel
theorem dX7_ratio_13 : decode cX7_ratio 13 = .ok (.ifCond .eq 20, 3) := by decide +kernel
theorem dX7_ratio_16 : decode cX7_ratio 16 = .ok (.aload_n 0, 1) := by decide +kernel
theorem dX7_ratio_17 : decode cX7_ratio 17 = .ok (.iload_n 3, 1) := by decide +kernel
theorem dX7_ratio_18 : decode cX7_ratio 18 = .ok (.invokevirtual 107, 3) := by decide +kernel
theorem dX7_ratio_21 : decode cX7_ratio 21 = .ok (.ifCond .eq 12, 3) := by decide +kernel
theorem dX7_ratio_24 : decode cX7_ratio 24 = .ok (.aload_n 0, 1) := by decide +kernel
theorem dX7_ratio_25 : decode cX7_ratio 25 = .ok (.iload 4, 2) := by decide +kernel
theorem dX7_ratio_27 : decode cX7_ratio 27 = .ok (.invokevirtual 107, 3) := by decide +kernel
theorem dX7_ratio_30 : decode cX7_ratio 30 = .ok (.ifCond .ne 6, 3) := by decide +kernel
theorem dX7_ratio_33 : decode cX7_ratio 33 = .ok (.bipush (-2), 2) := by decide +kernel
theorem dX7_ratio_35 : decode cX7_ratio 35 = .ok (.ireturn, 1) := by decide +kernel
theorem dX7_ratio_36 : decode cX7_ratio 36 = .ok (.iload_n 1, 1) := by decide +kernel
theorem dX7_ratio_37 : decode cX7_ratio 37 = .ok (.iload_n 2, 1) := by decide +kernel
theorem dX7_ratio_38 : decode cX7_ratio 38 = .ok (.if_icmp .eq 42, 3) := by decide +kernel
theorem dX7_ratio_41 : decode cX7_ratio 41 = .ok (.iload_n 1, 1) := by decide +kernel
theorem dX7_ratio_42 : decode cX7_ratio 42 = .ok (.iload_n 3, 1) := by decide +kernel
theorem dX7_ratio_43 : decode cX7_ratio 43 = .ok (.if_icmp .eq 37, 3) := by decide +kernel
theorem dX7_ratio_46 : decode cX7_ratio 46 = .ok (.iload_n 2, 1) := by decide +kernel
theorem dX7_ratio_47 : decode cX7_ratio 47 = .ok (.iload_n 3, 1) := by decide +kernel
theorem dX7_ratio_48 : decode cX7_ratio 48 = .ok (.if_icmp .eq 32, 3) := by decide +kernel
theorem dX7_ratio_51 : decode cX7_ratio 51 = .ok (.aload_n 0, 1) := by decide +kernel
theorem dX7_ratio_52 : decode cX7_ratio 52 = .ok (.iload_n 3, 1) := by decide +kernel
theorem dX7_ratio_53 : decode cX7_ratio 53 = .ok (.aload_n 0, 1) := by decide +kernel
theorem dX7_ratio_54 : decode cX7_ratio 54 = .ok (.iload_n 1, 1) := by decide +kernel
theorem dX7_ratio_55 : decode cX7_ratio 55 = .ok (.iload_n 2, 1) := by decide +kernel
theorem dX7_ratio_56 : decode cX7_ratio 56 = .ok (.invokevirtual 121, 3) := by decide +kernel
theorem dX7_ratio_59 : decode cX7_ratio 59 = .ok (.invokevirtual 117, 3) := by decide +kernel
theorem dX7_ratio_62 : decode cX7_ratio 62 = .ok (.ifCond .eq 18, 3) := by decide +kernel
theorem dX7_ratio_65 : decode cX7_ratio 65 = .ok (.aload_n 0, 1) := by decide +kernel
theorem dX7_ratio_66 : decode cX7_ratio 66 = .ok (.iload 4, 2) := by decide +kernel
theorem dX7_ratio_68 : decode cX7_ratio 68 = .ok (.aload_n 0, 1) := by decide +kernel
theorem dX7_ratio_69 : decode cX7_ratio 69 = .ok (.iload_n 1, 1) := by decide +kernel
theorem dX7_ratio_70 : decode cX7_ratio 70 = .ok (.iload_n 2, 1) := by decide +kernel
theorem dX7_ratio_71 : decode cX7_ratio 71 = .ok (.invokevirtual 121, 3) := by decide +kernel
theorem dX7_ratio_74 : decode cX7_ratio 74 = .ok (.invokevirtual 117, 3) := by decide +kernel
theorem dX7_ratio_77 : decode cX7_ratio 77 = .ok (.ifCond .ne 5, 3) := by decide +kernel
theorem dX7_ratio_80 : decode cX7_ratio 80 = .ok (.iconst (-1), 1) := by decide +kernel
theorem dX7_ratio_81 : decode cX7_ratio 81 = .ok (.ireturn, 1) := by decide +kernel
theorem dX7_ratio_82 : decode cX7_ratio 82 = .ok (.aload_n 0, 1) := by decide +kernel
theorem dX7_ratio_83 : decode cX7_ratio 83 = .ok (.iload_n 3, 1) := by decide +kernel
theorem dX7_ratio_84 : decode cX7_ratio 84 = .ok (.iload_n 1, 1) := by decide +kernel
theorem dX7_ratio_85 : decode cX7_ratio 85 = .ok (.iload_n 2, 1) := by decide +kernel
theorem dX7_ratio_86 : decode cX7_ratio 86 = .ok (.invokevirtual 200, 3) := by decide +kernel
theorem dX7_ratio_89 : decode cX7_ratio 89 = .ok (.aload_n 0, 1) := by decide +kernel
theorem dX7_ratio_90 : decode cX7_ratio 90 = .ok (.getfield 74, 3) := by decide +kernel
theorem dX7_ratio_93 : decode cX7_ratio 93 = .ok (.idiv, 1) := by decide +kernel
theorem dX7_ratio_94 : decode cX7_ratio 94 = .ok (.istore 5, 2) := by decide +kernel
theorem dX7_ratio_96 : decode cX7_ratio 96 = .ok (.aload_n 0, 1) := by decide +kernel
theorem dX7_ratio_97 : decode cX7_ratio 97 = .ok (.iload_n 3, 1) := by decide +kernel
theorem dX7_ratio_98 : decode cX7_ratio 98 = .ok (.iload_n 1, 1) := by decide +kernel
theorem dX7_ratio_99 : decode cX7_ratio 99 = .ok (.iload_n 2, 1) := by decide +kernel
theorem dX7_ratio_100 : decode cX7_ratio 100 = .ok (.invokevirtual 200, 3) := by decide +kernel
theorem dX7_ratio_103 : decode cX7_ratio 103 = .ok (.aload_n 0, 1) := by decide +kernel
theorem dX7_ratio_104 : decode cX7_ratio 104 = .ok (.getfield 74, 3) := by decide +kernel
theorem dX7_ratio_107 : decode cX7_ratio 107 = .ok (.irem, 1) := by decide +kernel
theorem dX7_ratio_108 : decode cX7_ratio 108 = .ok (.istore 6, 2) := by decide +kernel
theorem dX7_ratio_110 : decode cX7_ratio 110 = .ok (.aload_n 0, 1) := by decide +kernel
theorem dX7_ratio_111 : decode cX7_ratio 111 = .ok (.iload 4, 2) := by decide +kernel
theorem dX7_ratio_113 : decode cX7_ratio 113 = .ok (.iload_n 1, 1) := by decide +kernel
theorem dX7_ratio_114 : decode cX7_ratio 114 = .ok (.iload_n 2, 1) := by decide +kernel
theorem dX7_ratio_115 : decode cX7_ratio 115 = .ok (.invokevirtual 200, 3) := by decide +kernel
theorem dX7_ratio_118 : decode cX7_ratio 118 = .ok (.aload_n 0, 1) := by decide +kernel
theorem dX7_ratio_119 : decode cX7_ratio 119 = .ok (.getfield 74, 3) := by decide +kernel
theorem dX7_ratio_122 : decode cX7_ratio 122 = .ok (.idiv, 1) := by decide +kernel
theorem dX7_ratio_123 : decode cX7_ratio 123 = .ok (.istore 7, 2) := by decide +kernel
theorem dX7_ratio_125 : decode cX7_ratio 125 = .ok (.aload_n 0, 1) := by decide +kernel
theorem dX7_ratio_126 : decode cX7_ratio 126 = .ok (.iload 4, 2) := by decide +kernel
theorem dX7_ratio_128 : decode cX7_ratio 128 = .ok (.iload_n 1, 1) := by decide +kernel
theorem dX7_ratio_129 : decode cX7_ratio 129 = .ok (.iload_n 2, 1) := by decide +kernel
theorem dX7_ratio_130 : decode cX7_ratio 130 = .ok (.invokevirtual 200, 3) := by decide +kernel
theorem dX7_ratio_133 : decode cX7_ratio 133 = .ok (.aload_n 0, 1) := by decide +kernel
theorem dX7_ratio_134 : decode cX7_ratio 134 = .ok (.getfield 74, 3) := by decide +kernel
theorem dX7_ratio_137 : decode cX7_ratio 137 = .ok (.irem, 1) := by decide +kernel
theorem dX7_ratio_138 : decode cX7_ratio 138 = .ok (.istore 8, 2) := by decide +kernel
theorem dX7_ratio_140 : decode cX7_ratio 140 = .ok (.iload 8, 2) := by decide +kernel
theorem dX7_ratio_142 : decode cX7_ratio 142 = .ok (.ifCond .ne 10, 3) := by decide +kernel
theorem dX7_ratio_145 : decode cX7_ratio 145 = .ok (.aload_n 0, 1) := by decide +kernel
theorem dX7_ratio_146 : decode cX7_ratio 146 = .ok (.getfield 74, 3) := by decide +kernel
theorem dX7_ratio_149 : decode cX7_ratio 149 = .ok (.goto 23, 3) := by decide +kernel
theorem dX7_ratio_152 : decode cX7_ratio 152 = .ok (.aload_n 0, 1) := by decide +kernel
theorem dX7_ratio_153 : decode cX7_ratio 153 = .ok (.aload_n 0, 1) := by decide +kernel
theorem dX7_ratio_154 : decode cX7_ratio 154 = .ok (.iload 7, 2) := by decide +kernel
theorem dX7_ratio_156 : decode cX7_ratio 156 = .ok (.iload 6, 2) := by decide +kernel
theorem dX7_ratio_158 : decode cX7_ratio 158 = .ok (.invokevirtual 90, 3) := by decide +kernel
theorem dX7_ratio_161 : decode cX7_ratio 161 = .ok (.aload_n 0, 1) := by decide +kernel
theorem dX7_ratio_162 : decode cX7_ratio 162 = .ok (.iload 8, 2) := by decide +kernel
theorem dX7_ratio_164 : decode cX7_ratio 164 = .ok (.iload 5, 2) := by decide +kernel
theorem dX7_ratio_166 : decode cX7_ratio 166 = .ok (.invokevirtual 90, 3) := by decide +kernel
theorem dX7_ratio_169 : decode cX7_ratio 169 = .ok (.invokevirtual 104, 3) := by decide +kernel
theorem dX7_ratio_172 : decode cX7_ratio 172 = .ok (.ireturn, 1) := by decide +kernel
set_option maxRecDepth 20000 in
theorem ggX7_table_X7_isFrom : GoodIn wsX7_table wsX7_isFrom := goodIn_r _ [6] (by decide +kernel) (by decide +kernel)
set_option maxRecDepth 20000 in
theorem gX7_table_X7_isFrom : GoodIn wsX7_table (va_wsS RX7 93 yX7_isFrom wsX7_isFrom) := goodIn_app (goodIn_of _ (by decide +kernel)) ggX7_table_X7_isFrom
theorem dX7_table_0 : decode cX7_table 0 = .ok (.iload_n 1, 1) := by decide +kernel
theorem dX7_table_1 : decode cX7_table 1 = .ok (.iconst 1, 1) := by decide +kernel
theorem dX7_table_2 : decode cX7_table 2 = .ok (.bipush 13, 2) := by decide +kernel
theorem dX7_table_4 : decode cX7_table 4 = .ok (.invokestatic 93, 3) := by decide +kernel
theorem dX7_table_7 : decode cX7_table 7 = .ok (.ifCond .ne 6, 3) := by decide +kernel
theorem dX7_table_10 : decode cX7_table 10 = .ok (.bipush (-2), 2) := by decide +kernel
theorem dX7_table_12 : decode cX7_table 12 = .ok (.ireturn, 1) := by decide +kernel
theorem dX7_table_13 : decode cX7_table 13 = .ok (.aload_n 0, 1) := by decide +kernel
theorem dX7_table_14 : decode cX7_table 14 = .ok (.getfield 66, 3) := by decide +kernel
theorem dX7_table_17 : decode cX7_table 17 = .ok (.istore_n 2, 1) := by decide +kernel
theorem dX7_table_18 : decode cX7_table 18 = .ok (.aload_n 0, 1) := by decide +kernel
theorem dX7_table_19 : decode cX7_table 19 = .ok (.iload_n 1, 1) := by decide +kernel
theorem dX7_table_20 : decode cX7_table 20 = .ok (.putfield 66, 3) := by decide +kernel
theorem dX7_table_23 : decode cX7_table 23 = .ok (.iconst 0, 1) := by decide +kernel
theorem dX7_table_24 : decode cX7_table 24 = .ok (.istore_n 3, 1) := by decide +kernel
theorem dX7_table_25 : decode cX7_table 25 = .ok (.iload_n 3, 1) := by decide +kernel
theorem dX7_table_26 : decode cX7_table 26 = .ok (.sipush 169, 3) := by decide +kernel
theorem dX7_table_29 : decode cX7_table 29 = .ok (.if_icmp .ge 16, 3) := by decide +kernel
theorem dX7_table_32 : decode cX7_table 32 = .ok (.aload_n 0, 1) := by decide +kernel
theorem dX7_table_33 : decode cX7_table 33 = .ok (.getfield 59, 3) := by decide +kernel
theorem dX7_table_36 : decode cX7_table 36 = .ok (.iload_n 3, 1) := by decide +kernel
theorem dX7_table_37 : decode cX7_table 37 = .ok (.iconst 0, 1) := by decide +kernel
theorem dX7_table_38 : decode cX7_table 38 = .ok (.bastore, 1) := by decide +kernel
theorem dX7_table_39 : decode cX7_table 39 = .ok (.iinc 3 1, 3) := by decide +kernel
theorem dX7_table_42 : decode cX7_table 42 = .ok (.goto (-17), 3) := by decide +kernel
theorem dX7_table_45 : decode cX7_table 45 = .ok (.iload_n 2, 1) := by decide +kernel
theorem dX7_table_46 : decode cX7_table 46 = .ok (.ireturn, 1) := by decide +kernel
set_option maxRecDepth 20000 in
theorem ggX7_mark_X7_isFrom : GoodIn wsX7_mark wsX7_isFrom := goodIn_r _ [6] (by decide +kernel) (by decide +kernel)
set_option maxRecDepth 20000 in
theorem gX7_mark_X7_isFrom : GoodIn wsX7_mark (va_wsS RX7 93 yX7_isFrom wsX7_isFrom) := goodIn_app (goodIn_of _ (by decide +kernel)) ggX7_mark_X7_isFrom
theorem dX7_mark_0 : decode cX7_mark 0 = .ok (.iload_n 1, 1) := by decide +kernel
theorem dX7_mark_1 : decode cX7_mark 1 = .ok (.iconst 0, 1) := by decide +kernel
theorem dX7_mark_2 : decode cX7_mark 2 = .ok (.aload_n 0, 1) := by decide +kernel
theorem dX7_mark_3 : decode cX7_mark 3 = .ok (.getfield 66, 3) := by decide +kernel
theorem dX7_mark_6 : decode cX7_mark 6 = .ok (.iconst 1, 1) := by decide +kernel
theorem dX7_mark_7 : decode cX7_mark 7 = .ok (.isub, 1) := by decide +kernel
theorem dX7_mark_8 : decode cX7_mark 8 = .ok (.invokestatic 93, 3) := by decide +kernel
theorem dX7_mark_11 : decode cX7_mark 11 = .ok (.ifCond .eq 17, 3) := by decide +kernel
theorem dX7_mark_14 : decode cX7_mark 14 = .ok (.iload_n 2, 1) := by decide +kernel
theorem dX7_mark_15 : decode cX7_mark 15 = .ok (.iconst 0, 1) := by decide +kernel
theorem dX7_mark_16 : decode cX7_mark 16 = .ok (.aload_n 0, 1) := by decide +kernel
theorem dX7_mark_17 : decode cX7_mark 17 = .ok (.getfield 66, 3) := by decide +kernel
theorem dX7_mark_20 : decode cX7_mark 20 = .ok (.iconst 1, 1) := by decide +kernel
theorem dX7_mark_21 : decode cX7_mark 21 = .ok (.isub, 1) := by decide +kernel
theorem dX7_mark_22 : decode cX7_mark 22 = .ok (.invokestatic 93, 3) := by decide +kernel
theorem dX7_mark_25 : decode cX7_mark 25 = .ok (.ifCond .ne 6, 3) := by decide +kernel
theorem dX7_mark_28 : decode cX7_mark 28 = .ok (.bipush (-2), 2) := by decide +kernel
theorem dX7_mark_30 : decode cX7_mark 30 = .ok (.ireturn, 1) := by decide +kernel
theorem dX7_mark_31 : decode cX7_mark 31 = .ok (.aload_n 0, 1) := by decide +kernel
theorem dX7_mark_32 : decode cX7_mark 32 = .ok (.getfield 59, 3) := by decide +kernel
theorem dX7_mark_35 : decode cX7_mark 35 = .ok (.bipush 13, 2) := by decide +kernel
theorem dX7_mark_37 : decode cX7_mark 37 = .ok (.iload_n 1, 1) := by decide +kernel
theorem dX7_mark_38 : decode cX7_mark 38 = .ok (.imul, 1) := by decide +kernel
theorem dX7_mark_39 : decode cX7_mark 39 = .ok (.iload_n 2, 1) := by decide +kernel
theorem dX7_mark_40 : decode cX7_mark 40 = .ok (.iadd, 1) := by decide +kernel
theorem dX7_mark_41 : decode cX7_mark 41 = .ok (.baload, 1) := by decide +kernel
theorem dX7_mark_42 : decode cX7_mark 42 = .ok (.ifCond .eq 7, 3) := by decide +kernel
theorem dX7_mark_45 : decode cX7_mark 45 = .ok (.iconst 1, 1) := by decide +kernel
theorem dX7_mark_46 : decode cX7_mark 46 = .ok (.goto 4, 3) := by decide +kernel
theorem dX7_mark_49 : decode cX7_mark 49 = .ok (.iconst 0, 1) := by decide +kernel
theorem dX7_mark_50 : decode cX7_mark 50 = .ok (.istore 4, 2) := by decide +kernel
theorem dX7_mark_52 : decode cX7_mark 52 = .ok (.aload_n 0, 1) := by decide +kernel
theorem dX7_mark_53 : decode cX7_mark 53 = .ok (.getfield 59, 3) := by decide +kernel
theorem dX7_mark_56 : decode cX7_mark 56 = .ok (.bipush 13, 2) := by decide +kernel
theorem dX7_mark_58 : decode cX7_mark 58 = .ok (.iload_n 1, 1) := by decide +kernel
theorem dX7_mark_59 : decode cX7_mark 59 = .ok (.imul, 1) := by decide +kernel
theorem dX7_mark_60 : decode cX7_mark 60 = .ok (.iload_n 2, 1) := by decide +kernel
theorem dX7_mark_61 : decode cX7_mark 61 = .ok (.iadd, 1) := by decide +kernel
theorem dX7_mark_62 : decode cX7_mark 62 = .ok (.iload_n 3, 1) := by decide +kernel
theorem dX7_mark_63 : decode cX7_mark 63 = .ok (.bastore, 1) := by decide +kernel
theorem dX7_mark_64 : decode cX7_mark 64 = .ok (.iload 4, 2) := by decide +kernel
theorem dX7_mark_66 : decode cX7_mark 66 = .ok (.ireturn, 1) := by decide +kernel
theorem dX7_together_0 : decode cX7_together 0 = .ok (.iconst 0, 1) := by decide +kernel
theorem dX7_together_1 : decode cX7_together 1 = .ok (.istore 4, 2) := by decide +kernel
theorem dX7_together_3 : decode cX7_together 3 = .ok (.iconst 0, 1) := by decide +kernel
theorem dX7_together_4 : decode cX7_together 4 = .ok (.istore 5, 2) := by decide +kernel
theorem dX7_together_6 : decode cX7_together 6 = .ok (.iload 5, 2) := by decide +kernel
theorem dX7_together_8 : decode cX7_together 8 = .ok (.aload_n 0, 1) := by decide +kernel
theorem dX7_together_9 : decode cX7_together 9 = .ok (.getfield 66, 3) := by decide +kernel
theorem dX7_together_12 : decode cX7_together 12 = .ok (.if_icmp .ge 78, 3) := by decide +kernel
theorem dX7_together_15 : decode cX7_together 15 = .ok (.aload_n 0, 1) := by decide +kernel
theorem dX7_together_16 : decode cX7_together 16 = .ok (.getfield 59, 3) := by decide +kernel
theorem dX7_together_19 : decode cX7_together 19 = .ok (.iload_n 3, 1) := by decide +kernel
theorem dX7_together_20 : decode cX7_together 20 = .ok (.ifCond .eq 13, 3) := by decide +kernel
theorem dX7_together_23 : decode cX7_together 23 = .ok (.bipush 13, 2) := by decide +kernel
theorem dX7_together_25 : decode cX7_together 25 = .ok (.iload_n 1, 1) := by decide +kernel
theorem dX7_together_26 : decode cX7_together 26 = .ok (.imul, 1) := by decide +kernel
theorem dX7_together_27 : decode cX7_together 27 = .ok (.iload 5, 2) := by decide +kernel
theorem dX7_together_29 : decode cX7_together 29 = .ok (.iadd, 1) := by decide +kernel
theorem dX7_together_30 : decode cX7_together 30 = .ok (.goto 10, 3) := by decide +kernel
theorem dX7_together_33 : decode cX7_together 33 = .ok (.bipush 13, 2) := by decide +kernel
theorem dX7_together_35 : decode cX7_together 35 = .ok (.iload 5, 2) := by decide +kernel
theorem dX7_together_37 : decode cX7_together 37 = .ok (.imul, 1) := by decide +kernel
theorem dX7_together_38 : decode cX7_together 38 = .ok (.iload_n 1, 1) := by decide +kernel
theorem dX7_together_39 : decode cX7_together 39 = .ok (.iadd, 1) := by decide +kernel
theorem dX7_together_40 : decode cX7_together 40 = .ok (.baload, 1) := by decide +kernel
theorem dX7_together_41 : decode cX7_together 41 = .ok (.ifCond .eq 39, 3) := by decide +kernel
theorem dX7_together_44 : decode cX7_together 44 = .ok (.aload_n 0, 1) := by decide +kernel
theorem dX7_together_45 : decode cX7_together 45 = .ok (.getfield 59, 3) := by decide +kernel
theorem dX7_together_48 : decode cX7_together 48 = .ok (.iload_n 3, 1) := by decide +kernel
theorem dX7_together_49 : decode cX7_together 49 = .ok (.ifCond .eq 13, 3) := by decide +kernel
theorem dX7_together_52 : decode cX7_together 52 = .ok (.bipush 13, 2) := by decide +kernel
theorem dX7_together_54 : decode cX7_together 54 = .ok (.iload_n 2, 1) := by decide +kernel
theorem dX7_together_55 : decode cX7_together 55 = .ok (.imul, 1) := by decide +kernel
theorem dX7_together_56 : decode cX7_together 56 = .ok (.iload 5, 2) := by decide +kernel
theorem dX7_together_58 : decode cX7_together 58 = .ok (.iadd, 1) := by decide +kernel
theorem dX7_together_59 : decode cX7_together 59 = .ok (.goto 10, 3) := by decide +kernel
theorem dX7_together_62 : decode cX7_together 62 = .ok (.bipush 13, 2) := by decide +kernel
theorem dX7_together_64 : decode cX7_together 64 = .ok (.iload 5, 2) := by decide +kernel
theorem dX7_together_66 : decode cX7_together 66 = .ok (.imul, 1) := by decide +kernel
theorem dX7_together_67 : decode cX7_together 67 = .ok (.iload_n 2, 1) := by decide +kernel
theorem dX7_together_68 : decode cX7_together 68 = .ok (.iadd, 1) := by decide +kernel
theorem dX7_together_69 : decode cX7_together 69 = .ok (.baload, 1) := by decide +kernel
theorem dX7_together_70 : decode cX7_together 70 = .ok (.ifCond .eq 10, 3) := by decide +kernel
theorem dX7_together_73 : decode cX7_together 73 = .ok (.iload 4, 2) := by decide +kernel
theorem dX7_together_75 : decode cX7_together 75 = .ok (.iconst 1, 1) := by decide +kernel
theorem dX7_together_76 : decode cX7_together 76 = .ok (.iadd, 1) := by decide +kernel
theorem dX7_together_77 : decode cX7_together 77 = .ok (.goto 5, 3) := by decide +kernel
theorem dX7_together_80 : decode cX7_together 80 = .ok (.iload 4, 2) := by decide +kernel
theorem dX7_together_82 : decode cX7_together 82 = .ok (.istore 4, 2) := by decide +kernel
theorem dX7_together_84 : decode cX7_together 84 = .ok (.iinc 5 1, 3) := by decide +kernel
theorem dX7_together_87 : decode cX7_together 87 = .ok (.goto (-81), 3) := by decide +kernel
theorem dX7_together_90 : decode cX7_together 90 = .ok (.iload 4, 2) := by decide +kernel
theorem dX7_together_92 : decode cX7_together 92 = .ok (.ireturn, 1) := by decide +kernel
set_option maxRecDepth 20000 in
theorem ggX7_flawOf_X7_together : GoodIn wsX7_flawOf wsX7_together := goodIn_r _ [6, 1, 7, 8, 9, 10, 11, 12, 13, 14, 15, 16, 17, 18, 19, 20, 21, 22, 23, 24, 25, 26, 27] (by decide +kernel) (by decide +kernel)
set_option maxRecDepth 20000 in
theorem gX7_flawOf_X7_together : GoodIn wsX7_flawOf (wsV RX7 203 RX7 yX7_together wsX7_together) := goodIn_app (goodIn_of _ (by decide +kernel)) ggX7_flawOf_X7_together
theorem dX7_flawOf_0 : decode cX7_flawOf 0 = .ok (.iconst 0, 1) := by decide +kernel
theorem dX7_flawOf_1 : decode cX7_flawOf 1 = .ok (.istore_n 2, 1) := by decide +kernel
theorem dX7_flawOf_2 : decode cX7_flawOf 2 = .ok (.iconst 0, 1) := by decide +kernel
theorem dX7_flawOf_3 : decode cX7_flawOf 3 = .ok (.istore_n 3, 1) := by decide +kernel
theorem dX7_flawOf_4 : decode cX7_flawOf 4 = .ok (.iload_n 3, 1) := by decide +kernel
theorem dX7_flawOf_5 : decode cX7_flawOf 5 = .ok (.aload_n 0, 1) := by decide +kernel
theorem dX7_flawOf_6 : decode cX7_flawOf 6 = .ok (.getfield 66, 3) := by decide +kernel
theorem dX7_flawOf_9 : decode cX7_flawOf 9 = .ok (.if_icmp .ge 71, 3) := by decide +kernel
theorem dX7_flawOf_12 : decode cX7_flawOf 12 = .ok (.iload_n 3, 1) := by decide +kernel
theorem dX7_flawOf_13 : decode cX7_flawOf 13 = .ok (.iconst 1, 1) := by decide +kernel
theorem dX7_flawOf_14 : decode cX7_flawOf 14 = .ok (.iadd, 1) := by decide +kernel
theorem dX7_flawOf_15 : decode cX7_flawOf 15 = .ok (.istore 4, 2) := by decide +kernel
theorem dX7_flawOf_17 : decode cX7_flawOf 17 = .ok (.iload 4, 2) := by decide +kernel
theorem dX7_flawOf_19 : decode cX7_flawOf 19 = .ok (.aload_n 0, 1) := by decide +kernel
theorem dX7_flawOf_20 : decode cX7_flawOf 20 = .ok (.getfield 66, 3) := by decide +kernel
theorem dX7_flawOf_23 : decode cX7_flawOf 23 = .ok (.if_icmp .ge 51, 3) := by decide +kernel
theorem dX7_flawOf_26 : decode cX7_flawOf 26 = .ok (.iload_n 2, 1) := by decide +kernel
theorem dX7_flawOf_27 : decode cX7_flawOf 27 = .ok (.ifCond .ne 39, 3) := by decide +kernel
theorem dX7_flawOf_30 : decode cX7_flawOf 30 = .ok (.aload_n 0, 1) := by decide +kernel
theorem dX7_flawOf_31 : decode cX7_flawOf 31 = .ok (.iload_n 3, 1) := by decide +kernel
theorem dX7_flawOf_32 : decode cX7_flawOf 32 = .ok (.iload 4, 2) := by decide +kernel
theorem dX7_flawOf_34 : decode cX7_flawOf 34 = .ok (.iload_n 1, 1) := by decide +kernel
theorem dX7_flawOf_35 : decode cX7_flawOf 35 = .ok (.invokevirtual 203, 3) := by decide +kernel
theorem dX7_flawOf_38 : decode cX7_flawOf 38 = .ok (.iconst 1, 1) := by decide +kernel
theorem dX7_flawOf_39 : decode cX7_flawOf 39 = .ok (.if_icmp .eq 27, 3) := by decide +kernel
theorem dX7_flawOf_42 : decode cX7_flawOf 42 = .ok (.iload_n 1, 1) := by decide +kernel
theorem dX7_flawOf_43 : decode cX7_flawOf 43 = .ok (.ifCond .eq 9, 3) := by decide +kernel
theorem dX7_flawOf_46 : decode cX7_flawOf 46 = .ok (.sipush 1000, 3) := by decide +kernel
theorem dX7_flawOf_49 : decode cX7_flawOf 49 = .ok (.goto 6, 3) := by decide +kernel
theorem dX7_flawOf_52 : decode cX7_flawOf 52 = .ok (.sipush 2000, 3) := by decide +kernel
theorem dX7_flawOf_55 : decode cX7_flawOf 55 = .ok (.bipush 20, 2) := by decide +kernel
theorem dX7_flawOf_57 : decode cX7_flawOf 57 = .ok (.iload_n 3, 1) := by decide +kernel
theorem dX7_flawOf_58 : decode cX7_flawOf 58 = .ok (.imul, 1) := by decide +kernel
theorem dX7_flawOf_59 : decode cX7_flawOf 59 = .ok (.iadd, 1) := by decide +kernel
theorem dX7_flawOf_60 : decode cX7_flawOf 60 = .ok (.iload 4, 2) := by decide +kernel
theorem dX7_flawOf_62 : decode cX7_flawOf 62 = .ok (.iadd, 1) := by decide +kernel
theorem dX7_flawOf_63 : decode cX7_flawOf 63 = .ok (.goto 4, 3) := by decide +kernel
theorem dX7_flawOf_66 : decode cX7_flawOf 66 = .ok (.iload_n 2, 1) := by decide +kernel
theorem dX7_flawOf_67 : decode cX7_flawOf 67 = .ok (.istore_n 2, 1) := by decide +kernel
theorem dX7_flawOf_68 : decode cX7_flawOf 68 = .ok (.iinc 4 1, 3) := by decide +kernel
theorem dX7_flawOf_71 : decode cX7_flawOf 71 = .ok (.goto (-54), 3) := by decide +kernel
theorem dX7_flawOf_74 : decode cX7_flawOf 74 = .ok (.iinc 3 1, 3) := by decide +kernel
theorem dX7_flawOf_77 : decode cX7_flawOf 77 = .ok (.goto (-73), 3) := by decide +kernel
theorem dX7_flawOf_80 : decode cX7_flawOf 80 = .ok (.iload_n 2, 1) := by decide +kernel
theorem dX7_flawOf_81 : decode cX7_flawOf 81 = .ok (.ireturn, 1) := by decide +kernel
theorem dX7_isTableLine_0 : decode cX7_isTableLine 0 = .ok (.iconst 0, 1) := by decide +kernel
theorem dX7_isTableLine_1 : decode cX7_isTableLine 1 = .ok (.istore 4, 2) := by decide +kernel
theorem dX7_isTableLine_3 : decode cX7_isTableLine 3 = .ok (.iconst 0, 1) := by decide +kernel
theorem dX7_isTableLine_4 : decode cX7_isTableLine 4 = .ok (.istore 5, 2) := by decide +kernel
theorem dX7_isTableLine_6 : decode cX7_isTableLine 6 = .ok (.iload 5, 2) := by decide +kernel
theorem dX7_isTableLine_8 : decode cX7_isTableLine 8 = .ok (.aload_n 0, 1) := by decide +kernel
theorem dX7_isTableLine_9 : decode cX7_isTableLine 9 = .ok (.getfield 66, 3) := by decide +kernel
theorem dX7_isTableLine_12 : decode cX7_isTableLine 12 = .ok (.if_icmp .ge 66, 3) := by decide +kernel
theorem dX7_isTableLine_15 : decode cX7_isTableLine 15 = .ok (.iload 4, 2) := by decide +kernel
theorem dX7_isTableLine_17 : decode cX7_isTableLine 17 = .ok (.ifCond .ne 48, 3) := by decide +kernel
theorem dX7_isTableLine_20 : decode cX7_isTableLine 20 = .ok (.aload_n 0, 1) := by decide +kernel
theorem dX7_isTableLine_21 : decode cX7_isTableLine 21 = .ok (.getfield 59, 3) := by decide +kernel
theorem dX7_isTableLine_24 : decode cX7_isTableLine 24 = .ok (.bipush 13, 2) := by decide +kernel
theorem dX7_isTableLine_26 : decode cX7_isTableLine 26 = .ok (.iload 5, 2) := by decide +kernel
theorem dX7_isTableLine_28 : decode cX7_isTableLine 28 = .ok (.imul, 1) := by decide +kernel
theorem dX7_isTableLine_29 : decode cX7_isTableLine 29 = .ok (.iload_n 1, 1) := by decide +kernel
theorem dX7_isTableLine_30 : decode cX7_isTableLine 30 = .ok (.iadd, 1) := by decide +kernel
theorem dX7_isTableLine_31 : decode cX7_isTableLine 31 = .ok (.baload, 1) := by decide +kernel
theorem dX7_isTableLine_32 : decode cX7_isTableLine 32 = .ok (.ifCond .eq 37, 3) := by decide +kernel
theorem dX7_isTableLine_35 : decode cX7_isTableLine 35 = .ok (.aload_n 0, 1) := by decide +kernel
theorem dX7_isTableLine_36 : decode cX7_isTableLine 36 = .ok (.getfield 59, 3) := by decide +kernel
theorem dX7_isTableLine_39 : decode cX7_isTableLine 39 = .ok (.bipush 13, 2) := by decide +kernel
theorem dX7_isTableLine_41 : decode cX7_isTableLine 41 = .ok (.iload 5, 2) := by decide +kernel
theorem dX7_isTableLine_43 : decode cX7_isTableLine 43 = .ok (.imul, 1) := by decide +kernel
theorem dX7_isTableLine_44 : decode cX7_isTableLine 44 = .ok (.iload_n 2, 1) := by decide +kernel
theorem dX7_isTableLine_45 : decode cX7_isTableLine 45 = .ok (.iadd, 1) := by decide +kernel
theorem dX7_isTableLine_46 : decode cX7_isTableLine 46 = .ok (.baload, 1) := by decide +kernel
theorem dX7_isTableLine_47 : decode cX7_isTableLine 47 = .ok (.ifCond .eq 22, 3) := by decide +kernel
theorem dX7_isTableLine_50 : decode cX7_isTableLine 50 = .ok (.aload_n 0, 1) := by decide +kernel
theorem dX7_isTableLine_51 : decode cX7_isTableLine 51 = .ok (.getfield 59, 3) := by decide +kernel
theorem dX7_isTableLine_54 : decode cX7_isTableLine 54 = .ok (.bipush 13, 2) := by decide +kernel
theorem dX7_isTableLine_56 : decode cX7_isTableLine 56 = .ok (.iload 5, 2) := by decide +kernel
theorem dX7_isTableLine_58 : decode cX7_isTableLine 58 = .ok (.imul, 1) := by decide +kernel
theorem dX7_isTableLine_59 : decode cX7_isTableLine 59 = .ok (.iload_n 3, 1) := by decide +kernel
theorem dX7_isTableLine_60 : decode cX7_isTableLine 60 = .ok (.iadd, 1) := by decide +kernel
theorem dX7_isTableLine_61 : decode cX7_isTableLine 61 = .ok (.baload, 1) := by decide +kernel
theorem dX7_isTableLine_62 : decode cX7_isTableLine 62 = .ok (.ifCond .eq 7, 3) := by decide +kernel
theorem dX7_isTableLine_65 : decode cX7_isTableLine 65 = .ok (.iconst 1, 1) := by decide +kernel
theorem dX7_isTableLine_66 : decode cX7_isTableLine 66 = .ok (.goto 4, 3) := by decide +kernel
theorem dX7_isTableLine_69 : decode cX7_isTableLine 69 = .ok (.iconst 0, 1) := by decide +kernel
theorem dX7_isTableLine_70 : decode cX7_isTableLine 70 = .ok (.istore 4, 2) := by decide +kernel
theorem dX7_isTableLine_72 : decode cX7_isTableLine 72 = .ok (.iinc 5 1, 3) := by decide +kernel
theorem dX7_isTableLine_75 : decode cX7_isTableLine 75 = .ok (.goto (-69), 3) := by decide +kernel
theorem dX7_isTableLine_78 : decode cX7_isTableLine 78 = .ok (.iload 4, 2) := by decide +kernel
theorem dX7_isTableLine_80 : decode cX7_isTableLine 80 = .ok (.ireturn, 1) := by decide +kernel
set_option maxRecDepth 20000 in
theorem ggX7_hasFrame_X7_isTableLine : GoodIn wsX7_hasFrame wsX7_isTableLine := goodIn_r _ [6, 1, 7, 8, 9, 10, 11, 12, 13, 14, 15, 16, 17, 18, 19, 20, 21, 22, 23, 24, 25, 26, 27] (by decide +kernel) (by decide +kernel)
set_option maxRecDepth 20000 in
theorem gX7_hasFrame_X7_isTableLine : GoodIn wsX7_hasFrame (wsV RX7 207 RX7 yX7_isTableLine wsX7_isTableLine) := goodIn_app (goodIn_of _ (by decide +kernel)) ggX7_hasFrame_X7_isTableLine
theorem dX7_hasFrame_0 : decode cX7_hasFrame 0 = .ok (.iconst 0, 1) := by decide +kernel
theorem dX7_hasFrame_1 : decode cX7_hasFrame 1 = .ok (.istore_n 1, 1) := by decide +kernel
theorem dX7_hasFrame_2 : decode cX7_hasFrame 2 = .ok (.iconst 0, 1) := by decide +kernel
theorem dX7_hasFrame_3 : decode cX7_hasFrame 3 = .ok (.istore_n 2, 1) := by decide +kernel
theorem dX7_hasFrame_4 : decode cX7_hasFrame 4 = .ok (.iload_n 2, 1) := by decide +kernel
theorem dX7_hasFrame_5 : decode cX7_hasFrame 5 = .ok (.aload_n 0, 1) := by decide +kernel
theorem dX7_hasFrame_6 : decode cX7_hasFrame 6 = .ok (.getfield 66, 3) := by decide +kernel
theorem dX7_hasFrame_9 : decode cX7_hasFrame 9 = .ok (.if_icmp .ge 128, 3) := by decide +kernel
theorem dX7_hasFrame_12 : decode cX7_hasFrame 12 = .ok (.iload_n 2, 1) := by decide +kernel
theorem dX7_hasFrame_13 : decode cX7_hasFrame 13 = .ok (.iconst 1, 1) := by decide +kernel
theorem dX7_hasFrame_14 : decode cX7_hasFrame 14 = .ok (.iadd, 1) := by decide +kernel
theorem dX7_hasFrame_15 : decode cX7_hasFrame 15 = .ok (.istore_n 3, 1) := by decide +kernel
theorem dX7_hasFrame_16 : decode cX7_hasFrame 16 = .ok (.iload_n 3, 1) := by decide +kernel
theorem dX7_hasFrame_17 : decode cX7_hasFrame 17 = .ok (.aload_n 0, 1) := by decide +kernel
theorem dX7_hasFrame_18 : decode cX7_hasFrame 18 = .ok (.getfield 66, 3) := by decide +kernel
theorem dX7_hasFrame_21 : decode cX7_hasFrame 21 = .ok (.if_icmp .ge 110, 3) := by decide +kernel
theorem dX7_hasFrame_24 : decode cX7_hasFrame 24 = .ok (.iload_n 3, 1) := by decide +kernel
theorem dX7_hasFrame_25 : decode cX7_hasFrame 25 = .ok (.iconst 1, 1) := by decide +kernel
theorem dX7_hasFrame_26 : decode cX7_hasFrame 26 = .ok (.iadd, 1) := by decide +kernel
theorem dX7_hasFrame_27 : decode cX7_hasFrame 27 = .ok (.istore 4, 2) := by decide +kernel
theorem dX7_hasFrame_29 : decode cX7_hasFrame 29 = .ok (.iload 4, 2) := by decide +kernel
theorem dX7_hasFrame_31 : decode cX7_hasFrame 31 = .ok (.aload_n 0, 1) := by decide +kernel
theorem dX7_hasFrame_32 : decode cX7_hasFrame 32 = .ok (.getfield 66, 3) := by decide +kernel
theorem dX7_hasFrame_35 : decode cX7_hasFrame 35 = .ok (.if_icmp .ge 90, 3) := by decide +kernel
theorem dX7_hasFrame_38 : decode cX7_hasFrame 38 = .ok (.iload_n 1, 1) := by decide +kernel
theorem dX7_hasFrame_39 : decode cX7_hasFrame 39 = .ok (.ifCond .ne 86, 3) := by decide +kernel
theorem dX7_hasFrame_42 : decode cX7_hasFrame 42 = .ok (.iload 4, 2) := by decide +kernel
theorem dX7_hasFrame_44 : decode cX7_hasFrame 44 = .ok (.iconst 1, 1) := by decide +kernel
theorem dX7_hasFrame_45 : decode cX7_hasFrame 45 = .ok (.iadd, 1) := by decide +kernel
theorem dX7_hasFrame_46 : decode cX7_hasFrame 46 = .ok (.istore 5, 2) := by decide +kernel
theorem dX7_hasFrame_48 : decode cX7_hasFrame 48 = .ok (.iload 5, 2) := by decide +kernel
theorem dX7_hasFrame_50 : decode cX7_hasFrame 50 = .ok (.aload_n 0, 1) := by decide +kernel
theorem dX7_hasFrame_51 : decode cX7_hasFrame 51 = .ok (.getfield 66, 3) := by decide +kernel
theorem dX7_hasFrame_54 : decode cX7_hasFrame 54 = .ok (.if_icmp .ge 65, 3) := by decide +kernel
theorem dX7_hasFrame_57 : decode cX7_hasFrame 57 = .ok (.iload_n 1, 1) := by decide +kernel
theorem dX7_hasFrame_58 : decode cX7_hasFrame 58 = .ok (.ifCond .ne 61, 3) := by decide +kernel
theorem dX7_hasFrame_61 : decode cX7_hasFrame 61 = .ok (.aload_n 0, 1) := by decide +kernel
theorem dX7_hasFrame_62 : decode cX7_hasFrame 62 = .ok (.iload_n 2, 1) := by decide +kernel
theorem dX7_hasFrame_63 : decode cX7_hasFrame 63 = .ok (.iload_n 3, 1) := by decide +kernel
theorem dX7_hasFrame_64 : decode cX7_hasFrame 64 = .ok (.iload 4, 2) := by decide +kernel
theorem dX7_hasFrame_66 : decode cX7_hasFrame 66 = .ok (.invokevirtual 207, 3) := by decide +kernel
theorem dX7_hasFrame_69 : decode cX7_hasFrame 69 = .ok (.ifCond .ne 42, 3) := by decide +kernel
theorem dX7_hasFrame_72 : decode cX7_hasFrame 72 = .ok (.aload_n 0, 1) := by decide +kernel
theorem dX7_hasFrame_73 : decode cX7_hasFrame 73 = .ok (.iload_n 2, 1) := by decide +kernel
theorem dX7_hasFrame_74 : decode cX7_hasFrame 74 = .ok (.iload_n 3, 1) := by decide +kernel
theorem dX7_hasFrame_75 : decode cX7_hasFrame 75 = .ok (.iload 5, 2) := by decide +kernel
theorem dX7_hasFrame_77 : decode cX7_hasFrame 77 = .ok (.invokevirtual 207, 3) := by decide +kernel
theorem dX7_hasFrame_80 : decode cX7_hasFrame 80 = .ok (.ifCond .ne 31, 3) := by decide +kernel
theorem dX7_hasFrame_83 : decode cX7_hasFrame 83 = .ok (.aload_n 0, 1) := by decide +kernel
theorem dX7_hasFrame_84 : decode cX7_hasFrame 84 = .ok (.iload_n 2, 1) := by decide +kernel
theorem dX7_hasFrame_85 : decode cX7_hasFrame 85 = .ok (.iload 4, 2) := by decide +kernel
theorem dX7_hasFrame_87 : decode cX7_hasFrame 87 = .ok (.iload 5, 2) := by decide +kernel
theorem dX7_hasFrame_89 : decode cX7_hasFrame 89 = .ok (.invokevirtual 207, 3) := by decide +kernel
theorem dX7_hasFrame_92 : decode cX7_hasFrame 92 = .ok (.ifCond .ne 19, 3) := by decide +kernel
theorem dX7_hasFrame_95 : decode cX7_hasFrame 95 = .ok (.aload_n 0, 1) := by decide +kernel
theorem dX7_hasFrame_96 : decode cX7_hasFrame 96 = .ok (.iload_n 3, 1) := by decide +kernel
theorem dX7_hasFrame_97 : decode cX7_hasFrame 97 = .ok (.iload 4, 2) := by decide +kernel
theorem dX7_hasFrame_99 : decode cX7_hasFrame 99 = .ok (.iload 5, 2) := by decide +kernel
theorem dX7_hasFrame_101 : decode cX7_hasFrame 101 = .ok (.invokevirtual 207, 3) := by decide +kernel
theorem dX7_hasFrame_104 : decode cX7_hasFrame 104 = .ok (.ifCond .ne 7, 3) := by decide +kernel
theorem dX7_hasFrame_107 : decode cX7_hasFrame 107 = .ok (.iconst 1, 1) := by decide +kernel
theorem dX7_hasFrame_108 : decode cX7_hasFrame 108 = .ok (.goto 4, 3) := by decide +kernel
theorem dX7_hasFrame_111 : decode cX7_hasFrame 111 = .ok (.iconst 0, 1) := by decide +kernel
theorem dX7_hasFrame_112 : decode cX7_hasFrame 112 = .ok (.istore_n 1, 1) := by decide +kernel
theorem dX7_hasFrame_113 : decode cX7_hasFrame 113 = .ok (.iinc 5 1, 3) := by decide +kernel
theorem dX7_hasFrame_116 : decode cX7_hasFrame 116 = .ok (.goto (-68), 3) := by decide +kernel
theorem dX7_hasFrame_119 : decode cX7_hasFrame 119 = .ok (.iinc 4 1, 3) := by decide +kernel
theorem dX7_hasFrame_122 : decode cX7_hasFrame 122 = .ok (.goto (-93), 3) := by decide +kernel
theorem dX7_hasFrame_125 : decode cX7_hasFrame 125 = .ok (.iinc 3 1, 3) := by decide +kernel
theorem dX7_hasFrame_128 : decode cX7_hasFrame 128 = .ok (.goto (-112), 3) := by decide +kernel
theorem dX7_hasFrame_131 : decode cX7_hasFrame 131 = .ok (.iinc 2 1, 3) := by decide +kernel
theorem dX7_hasFrame_134 : decode cX7_hasFrame 134 = .ok (.goto (-130), 3) := by decide +kernel
theorem dX7_hasFrame_137 : decode cX7_hasFrame 137 = .ok (.iload_n 1, 1) := by decide +kernel
theorem dX7_hasFrame_138 : decode cX7_hasFrame 138 = .ok (.ireturn, 1) := by decide +kernel
set_option maxRecDepth 20000 in
theorem ggX7_flaw_X7_flawOf : GoodIn wsX7_flaw wsX7_flawOf := goodIn_r _ [5, 6, 7, 8, 9, 4, 10, 11, 20, 21, 22, 23, 24, 25, 26, 27, 28, 29, 30, 31, 32, 33, 34, 35, 36, 37, 38, 39] (by decide +kernel) (by decide +kernel)
set_option maxRecDepth 20000 in
theorem gX7_flaw_X7_flawOf : GoodIn wsX7_flaw (wsV RX7 210 RX7 yX7_flawOf wsX7_flawOf) := goodIn_app (goodIn_of _ (by decide +kernel)) ggX7_flaw_X7_flawOf
set_option maxRecDepth 20000 in
theorem ggX7_flaw_X7_hasFrame : GoodIn wsX7_flaw wsX7_hasFrame := goodIn_r _ [15, 6, 16, 17, 18, 4, 19, 11, 20, 21, 22, 23, 24, 25, 26, 27, 28, 29, 30, 31, 32, 33, 34, 35, 36, 37, 38, 39] (by decide +kernel) (by decide +kernel)
set_option maxRecDepth 20000 in
theorem gX7_flaw_X7_hasFrame : GoodIn wsX7_flaw (wsV RX7 214 RX7 yX7_hasFrame wsX7_hasFrame) := goodIn_app (goodIn_of _ (by decide +kernel)) ggX7_flaw_X7_hasFrame
theorem dX7_flaw_0 : decode cX7_flaw 0 = .ok (.aload_n 0, 1) := by decide +kernel
theorem dX7_flaw_1 : decode cX7_flaw 1 = .ok (.iconst 1, 1) := by decide +kernel
theorem dX7_flaw_2 : decode cX7_flaw 2 = .ok (.invokevirtual 210, 3) := by decide +kernel
theorem dX7_flaw_5 : decode cX7_flaw 5 = .ok (.istore_n 1, 1) := by decide +kernel
theorem dX7_flaw_6 : decode cX7_flaw 6 = .ok (.iload_n 1, 1) := by decide +kernel
theorem dX7_flaw_7 : decode cX7_flaw 7 = .ok (.ifCond .ne 11, 3) := by decide +kernel
theorem dX7_flaw_10 : decode cX7_flaw 10 = .ok (.aload_n 0, 1) := by decide +kernel
theorem dX7_flaw_11 : decode cX7_flaw 11 = .ok (.iconst 0, 1) := by decide +kernel
theorem dX7_flaw_12 : decode cX7_flaw 12 = .ok (.invokevirtual 210, 3) := by decide +kernel
theorem dX7_flaw_15 : decode cX7_flaw 15 = .ok (.goto 4, 3) := by decide +kernel
theorem dX7_flaw_18 : decode cX7_flaw 18 = .ok (.iload_n 1, 1) := by decide +kernel
theorem dX7_flaw_19 : decode cX7_flaw 19 = .ok (.istore_n 1, 1) := by decide +kernel
theorem dX7_flaw_20 : decode cX7_flaw 20 = .ok (.iload_n 1, 1) := by decide +kernel
theorem dX7_flaw_21 : decode cX7_flaw 21 = .ok (.ifCond .eq 7, 3) := by decide +kernel
theorem dX7_flaw_24 : decode cX7_flaw 24 = .ok (.iload_n 1, 1) := by decide +kernel
theorem dX7_flaw_25 : decode cX7_flaw 25 = .ok (.goto 17, 3) := by decide +kernel
theorem dX7_flaw_28 : decode cX7_flaw 28 = .ok (.aload_n 0, 1) := by decide +kernel
theorem dX7_flaw_29 : decode cX7_flaw 29 = .ok (.invokevirtual 214, 3) := by decide +kernel
theorem dX7_flaw_32 : decode cX7_flaw 32 = .ok (.ifCond .eq 7, 3) := by decide +kernel
theorem dX7_flaw_35 : decode cX7_flaw 35 = .ok (.iconst 0, 1) := by decide +kernel
theorem dX7_flaw_36 : decode cX7_flaw 36 = .ok (.goto 6, 3) := by decide +kernel
theorem dX7_flaw_39 : decode cX7_flaw 39 = .ok (.sipush 3000, 3) := by decide +kernel
theorem dX7_flaw_42 : decode cX7_flaw 42 = .ok (.ireturn, 1) := by decide +kernel
set_option maxRecDepth 20000 in
theorem ggX7_told_X7_table : GoodIn wsX7_told wsX7_table := goodIn_r _ [9, 4, 3, 10, 11, 8, 12, 30, 31, 32, 33, 34, 35, 36, 37, 38, 39, 40, 41, 42, 43, 44, 45, 46, 47, 48, 49] (by decide +kernel) (by decide +kernel)
set_option maxRecDepth 20000 in
theorem gX7_told_X7_table : GoodIn wsX7_told (wsV RX7 217 RX7 yX7_table wsX7_table) := goodIn_app (goodIn_of _ (by decide +kernel)) ggX7_told_X7_table
set_option maxRecDepth 20000 in
theorem ggX7_told_X7_isOn : GoodIn wsX7_told wsX7_isOn := goodIn_r _ [16, 17, 18, 19, 20, 21, 22, 8, 23, 24, 25, 26, 27, 28, 29, 30, 31, 32, 33, 34, 35, 36, 37, 38, 39, 40, 41, 42, 43, 44, 45, 46, 47, 48, 49] (by decide +kernel) (by decide +kernel)
set_option maxRecDepth 20000 in
theorem gX7_told_X7_isOn : GoodIn wsX7_told (wsV RX7 117 RX7 yX7_isOn wsX7_isOn) := goodIn_app (goodIn_of _ (by decide +kernel)) ggX7_told_X7_isOn
theorem dX7_told_0 : decode cX7_told 0 = .ok (.aload_n 0, 1) := by decide +kernel
theorem dX7_told_1 : decode cX7_told 1 = .ok (.getfield 74, 3) := by decide +kernel
theorem dX7_told_4 : decode cX7_told 4 = .ok (.iconst 3, 1) := by decide +kernel
theorem dX7_told_5 : decode cX7_told 5 = .ok (.if_icmp .le 6, 3) := by decide +kernel
theorem dX7_told_8 : decode cX7_told 8 = .ok (.bipush (-2), 2) := by decide +kernel
theorem dX7_told_10 : decode cX7_told 10 = .ok (.ireturn, 1) := by decide +kernel
theorem dX7_told_11 : decode cX7_told 11 = .ok (.aload_n 0, 1) := by decide +kernel
theorem dX7_told_12 : decode cX7_told 12 = .ok (.aload_n 0, 1) := by decide +kernel
theorem dX7_told_13 : decode cX7_told 13 = .ok (.getfield 83, 3) := by decide +kernel
theorem dX7_told_16 : decode cX7_told 16 = .ok (.invokevirtual 217, 3) := by decide +kernel
theorem dX7_told_19 : decode cX7_told 19 = .ok (.pop, 1) := by decide +kernel
theorem dX7_told_20 : decode cX7_told 20 = .ok (.iconst 0, 1) := by decide +kernel
theorem dX7_told_21 : decode cX7_told 21 = .ok (.istore_n 1, 1) := by decide +kernel
theorem dX7_told_22 : decode cX7_told 22 = .ok (.iload_n 1, 1) := by decide +kernel
theorem dX7_told_23 : decode cX7_told 23 = .ok (.aload_n 0, 1) := by decide +kernel
theorem dX7_told_24 : decode cX7_told 24 = .ok (.getfield 83, 3) := by decide +kernel
theorem dX7_told_27 : decode cX7_told 27 = .ok (.if_icmp .ge 42, 3) := by decide +kernel
theorem dX7_told_30 : decode cX7_told 30 = .ok (.iconst 0, 1) := by decide +kernel
theorem dX7_told_31 : decode cX7_told 31 = .ok (.istore_n 2, 1) := by decide +kernel
theorem dX7_told_32 : decode cX7_told 32 = .ok (.iload_n 2, 1) := by decide +kernel
theorem dX7_told_33 : decode cX7_told 33 = .ok (.aload_n 0, 1) := by decide +kernel
theorem dX7_told_34 : decode cX7_told 34 = .ok (.getfield 83, 3) := by decide +kernel
theorem dX7_told_37 : decode cX7_told 37 = .ok (.if_icmp .ge 26, 3) := by decide +kernel
theorem dX7_told_40 : decode cX7_told 40 = .ok (.aload_n 0, 1) := by decide +kernel
theorem dX7_told_41 : decode cX7_told 41 = .ok (.getfield 59, 3) := by decide +kernel
theorem dX7_told_44 : decode cX7_told 44 = .ok (.bipush 13, 2) := by decide +kernel
theorem dX7_told_46 : decode cX7_told 46 = .ok (.iload_n 1, 1) := by decide +kernel
theorem dX7_told_47 : decode cX7_told 47 = .ok (.imul, 1) := by decide +kernel
theorem dX7_told_48 : decode cX7_told 48 = .ok (.iload_n 2, 1) := by decide +kernel
theorem dX7_told_49 : decode cX7_told 49 = .ok (.iadd, 1) := by decide +kernel
theorem dX7_told_50 : decode cX7_told 50 = .ok (.aload_n 0, 1) := by decide +kernel
theorem dX7_told_51 : decode cX7_told 51 = .ok (.iload_n 2, 1) := by decide +kernel
theorem dX7_told_52 : decode cX7_told 52 = .ok (.iload_n 1, 1) := by decide +kernel
theorem dX7_told_53 : decode cX7_told 53 = .ok (.invokevirtual 117, 3) := by decide +kernel
theorem dX7_told_56 : decode cX7_told 56 = .ok (.bastore, 1) := by decide +kernel
theorem dX7_told_57 : decode cX7_told 57 = .ok (.iinc 2 1, 3) := by decide +kernel
theorem dX7_told_60 : decode cX7_told 60 = .ok (.goto (-28), 3) := by decide +kernel
theorem dX7_told_63 : decode cX7_told 63 = .ok (.iinc 1 1, 3) := by decide +kernel
theorem dX7_told_66 : decode cX7_told 66 = .ok (.goto (-44), 3) := by decide +kernel
theorem dX7_told_69 : decode cX7_told 69 = .ok (.aload_n 0, 1) := by decide +kernel
theorem dX7_told_70 : decode cX7_told 70 = .ok (.getfield 66, 3) := by decide +kernel
theorem dX7_told_73 : decode cX7_told 73 = .ok (.ireturn, 1) := by decide +kernel
set_option maxRecDepth 20000 in
theorem ggX7_count_X7_sizeOf : GoodIn wsX7_count wsX7_sizeOf := goodIn_r _ [10, 2, 61, 62, 63, 64, 65, 66, 67, 68, 69, 70, 71, 72, 73, 74, 75, 76, 77, 78, 79, 80] (by decide +kernel) (by decide +kernel)
set_option maxRecDepth 20000 in
theorem gX7_count_X7_sizeOf : GoodIn wsX7_count (wsV RX7 146 RX7 yX7_sizeOf wsX7_sizeOf) := goodIn_app (goodIn_of _ (by decide +kernel)) ggX7_count_X7_sizeOf
set_option maxRecDepth 20000 in
theorem ggX7_count_X7_spares : GoodIn wsX7_count wsX7_spares := goodIn_r _ [14, 2, 3, 15, 16, 17, 9, 18, 19, 20, 21, 22, 23, 24, 25, 26, 27, 28, 29, 30, 31, 32, 33, 34, 35, 36, 37, 38, 39, 61, 62, 63, 64, 65, 66, 67, 68, 69, 70, 71, 72, 73, 74, 75, 76, 77, 78, 79, 80] (by decide +kernel) (by decide +kernel)
set_option maxRecDepth 20000 in
theorem gX7_count_X7_spares : GoodIn wsX7_count (wsV RX7 220 RX7 yX7_spares wsX7_spares) := goodIn_app (goodIn_of _ (by decide +kernel)) ggX7_count_X7_spares
set_option maxRecDepth 20000 in
theorem ggX7_count_X7_close : GoodIn wsX7_count wsX7_close := goodIn_r _ [43, 2, 4, 3, 19, 20, 21, 9, 22, 23, 24, 25, 26, 27, 28, 29, 30, 31, 32, 33, 34, 35, 36, 37, 38, 39, 44, 45, 46, 47, 61, 62, 63, 64, 65, 66, 67, 68, 69, 70, 71, 72, 73, 74, 75, 76, 77, 78, 79, 80] (by decide +kernel) (by decide +kernel)
set_option maxRecDepth 20000 in
theorem gX7_count_X7_close : GoodIn wsX7_count (wsV RX7 139 RX7 yX7_close wsX7_close) := goodIn_app (goodIn_of _ (by decide +kernel)) ggX7_count_X7_close
set_option maxRecDepth 20000 in
theorem ggX7_count_X7_comers : GoodIn wsX7_count wsX7_comers := goodIn_r _ [51, 2, 3, 52, 53, 54, 9, 55, 19, 20, 21, 22, 23, 24, 25, 26, 27, 28, 29, 30, 31, 32, 33, 34, 35, 36, 37, 38, 39, 61, 62, 63, 64, 65, 66, 67, 68, 69, 70, 71, 72, 73, 74, 75, 76, 77, 78, 79, 80] (by decide +kernel) (by decide +kernel)
set_option maxRecDepth 20000 in
theorem gX7_count_X7_comers : GoodIn wsX7_count (wsV RX7 142 RX7 yX7_comers wsX7_comers) := goodIn_app (goodIn_of _ (by decide +kernel)) ggX7_count_X7_comers
set_option maxRecDepth 20000 in
theorem ggX7_count_X7_marks : GoodIn wsX7_count wsX7_marks := goodIn_r _ [59, 60, 61, 62, 63, 64, 65, 66, 67, 68, 69, 70, 71, 72, 73, 74, 75, 76, 77, 78, 79, 80] (by decide +kernel) (by decide +kernel)
set_option maxRecDepth 20000 in
theorem gX7_count_X7_marks : GoodIn wsX7_count (wsV RX7 223 RX7 yX7_marks wsX7_marks) := goodIn_app (goodIn_of _ (by decide +kernel)) ggX7_count_X7_marks
theorem dX7_count_0 : decode cX7_count 0 = .ok (.iload_n 1, 1) := by decide +kernel
theorem dX7_count_1 : decode cX7_count 1 = .ok (.tableswitch 99 0 7 #[47, 52, 57, 66, 71, 84, 89, 94], 47) := by decide +kernel
theorem dX7_count_48 : decode cX7_count 48 = .ok (.aload_n 0, 1) := by decide +kernel
theorem dX7_count_49 : decode cX7_count 49 = .ok (.getfield 74, 3) := by decide +kernel
theorem dX7_count_52 : decode cX7_count 52 = .ok (.ireturn, 1) := by decide +kernel
theorem dX7_count_53 : decode cX7_count 53 = .ok (.aload_n 0, 1) := by decide +kernel
theorem dX7_count_54 : decode cX7_count 54 = .ok (.getfield 83, 3) := by decide +kernel
theorem dX7_count_57 : decode cX7_count 57 = .ok (.ireturn, 1) := by decide +kernel
theorem dX7_count_58 : decode cX7_count 58 = .ok (.aload_n 0, 1) := by decide +kernel
theorem dX7_count_59 : decode cX7_count 59 = .ok (.aload_n 0, 1) := by decide +kernel
theorem dX7_count_60 : decode cX7_count 60 = .ok (.getfield 25, 3) := by decide +kernel
theorem dX7_count_63 : decode cX7_count 63 = .ok (.invokevirtual 146, 3) := by decide +kernel
theorem dX7_count_66 : decode cX7_count 66 = .ok (.ireturn, 1) := by decide +kernel
theorem dX7_count_67 : decode cX7_count 67 = .ok (.aload_n 0, 1) := by decide +kernel
theorem dX7_count_68 : decode cX7_count 68 = .ok (.invokevirtual 220, 3) := by decide +kernel
theorem dX7_count_71 : decode cX7_count 71 = .ok (.ireturn, 1) := by decide +kernel
theorem dX7_count_72 : decode cX7_count 72 = .ok (.aload_n 0, 1) := by decide +kernel
theorem dX7_count_73 : decode cX7_count 73 = .ok (.invokevirtual 139, 3) := by decide +kernel
theorem dX7_count_76 : decode cX7_count 76 = .ok (.aload_n 0, 1) := by decide +kernel
theorem dX7_count_77 : decode cX7_count 77 = .ok (.aload_n 0, 1) := by decide +kernel
theorem dX7_count_78 : decode cX7_count 78 = .ok (.getfield 32, 3) := by decide +kernel
theorem dX7_count_81 : decode cX7_count 81 = .ok (.invokevirtual 146, 3) := by decide +kernel
theorem dX7_count_84 : decode cX7_count 84 = .ok (.ireturn, 1) := by decide +kernel
theorem dX7_count_85 : decode cX7_count 85 = .ok (.aload_n 0, 1) := by decide +kernel
theorem dX7_count_86 : decode cX7_count 86 = .ok (.invokevirtual 142, 3) := by decide +kernel
theorem dX7_count_89 : decode cX7_count 89 = .ok (.ireturn, 1) := by decide +kernel
theorem dX7_count_90 : decode cX7_count 90 = .ok (.aload_n 0, 1) := by decide +kernel
theorem dX7_count_91 : decode cX7_count 91 = .ok (.getfield 66, 3) := by decide +kernel
theorem dX7_count_94 : decode cX7_count 94 = .ok (.ireturn, 1) := by decide +kernel
theorem dX7_count_95 : decode cX7_count 95 = .ok (.aload_n 0, 1) := by decide +kernel
theorem dX7_count_96 : decode cX7_count 96 = .ok (.invokevirtual 223, 3) := by decide +kernel
theorem dX7_count_99 : decode cX7_count 99 = .ok (.ireturn, 1) := by decide +kernel
theorem dX7_count_100 : decode cX7_count 100 = .ok (.bipush (-2), 2) := by decide +kernel
theorem dX7_count_102 : decode cX7_count 102 = .ok (.ireturn, 1) := by decide +kernel
theorem dX7_marks_0 : decode cX7_marks 0 = .ok (.iconst 0, 1) := by decide +kernel
theorem dX7_marks_1 : decode cX7_marks 1 = .ok (.istore_n 1, 1) := by decide +kernel
theorem dX7_marks_2 : decode cX7_marks 2 = .ok (.iconst 0, 1) := by decide +kernel
theorem dX7_marks_3 : decode cX7_marks 3 = .ok (.istore_n 2, 1) := by decide +kernel
theorem dX7_marks_4 : decode cX7_marks 4 = .ok (.iload_n 2, 1) := by decide +kernel
theorem dX7_marks_5 : decode cX7_marks 5 = .ok (.sipush 169, 3) := by decide +kernel
theorem dX7_marks_8 : decode cX7_marks 8 = .ok (.if_icmp .ge 26, 3) := by decide +kernel
theorem dX7_marks_11 : decode cX7_marks 11 = .ok (.aload_n 0, 1) := by decide +kernel
theorem dX7_marks_12 : decode cX7_marks 12 = .ok (.getfield 59, 3) := by decide +kernel
theorem dX7_marks_15 : decode cX7_marks 15 = .ok (.iload_n 2, 1) := by decide +kernel
theorem dX7_marks_16 : decode cX7_marks 16 = .ok (.baload, 1) := by decide +kernel
theorem dX7_marks_17 : decode cX7_marks 17 = .ok (.ifCond .eq 9, 3) := by decide +kernel
theorem dX7_marks_20 : decode cX7_marks 20 = .ok (.iload_n 1, 1) := by decide +kernel
theorem dX7_marks_21 : decode cX7_marks 21 = .ok (.iconst 1, 1) := by decide +kernel
theorem dX7_marks_22 : decode cX7_marks 22 = .ok (.iadd, 1) := by decide +kernel
theorem dX7_marks_23 : decode cX7_marks 23 = .ok (.goto 4, 3) := by decide +kernel
theorem dX7_marks_26 : decode cX7_marks 26 = .ok (.iload_n 1, 1) := by decide +kernel
theorem dX7_marks_27 : decode cX7_marks 27 = .ok (.istore_n 1, 1) := by decide +kernel
theorem dX7_marks_28 : decode cX7_marks 28 = .ok (.iinc 2 1, 3) := by decide +kernel
theorem dX7_marks_31 : decode cX7_marks 31 = .ok (.goto (-27), 3) := by decide +kernel
theorem dX7_marks_34 : decode cX7_marks 34 = .ok (.iload_n 1, 1) := by decide +kernel
theorem dX7_marks_35 : decode cX7_marks 35 = .ok (.ireturn, 1) := by decide +kernel
theorem dJ6_bitCount_0f7a4_0 : decode cJ6_bitCount_0f7a4 0 = .ok (.iload_n 0, 1) := by decide +kernel
theorem dJ6_bitCount_0f7a4_1 : decode cJ6_bitCount_0f7a4 1 = .ok (.iload_n 0, 1) := by decide +kernel
theorem dJ6_bitCount_0f7a4_2 : decode cJ6_bitCount_0f7a4 2 = .ok (.iconst 1, 1) := by decide +kernel
theorem dJ6_bitCount_0f7a4_3 : decode cJ6_bitCount_0f7a4 3 = .ok (.iushr, 1) := by decide +kernel
theorem dJ6_bitCount_0f7a4_4 : decode cJ6_bitCount_0f7a4 4 = .ok (.ldc_w 265, 3) := by decide +kernel
theorem dJ6_bitCount_0f7a4_7 : decode cJ6_bitCount_0f7a4 7 = .ok (.iand, 1) := by decide +kernel
theorem dJ6_bitCount_0f7a4_8 : decode cJ6_bitCount_0f7a4 8 = .ok (.isub, 1) := by decide +kernel
theorem dJ6_bitCount_0f7a4_9 : decode cJ6_bitCount_0f7a4 9 = .ok (.istore_n 0, 1) := by decide +kernel
theorem dJ6_bitCount_0f7a4_10 : decode cJ6_bitCount_0f7a4 10 = .ok (.iload_n 0, 1) := by decide +kernel
theorem dJ6_bitCount_0f7a4_11 : decode cJ6_bitCount_0f7a4 11 = .ok (.ldc_w 266, 3) := by decide +kernel
theorem dJ6_bitCount_0f7a4_14 : decode cJ6_bitCount_0f7a4 14 = .ok (.iand, 1) := by decide +kernel
theorem dJ6_bitCount_0f7a4_15 : decode cJ6_bitCount_0f7a4 15 = .ok (.iload_n 0, 1) := by decide +kernel
theorem dJ6_bitCount_0f7a4_16 : decode cJ6_bitCount_0f7a4 16 = .ok (.iconst 2, 1) := by decide +kernel
theorem dJ6_bitCount_0f7a4_17 : decode cJ6_bitCount_0f7a4 17 = .ok (.iushr, 1) := by decide +kernel
theorem dJ6_bitCount_0f7a4_18 : decode cJ6_bitCount_0f7a4 18 = .ok (.ldc_w 266, 3) := by decide +kernel
theorem dJ6_bitCount_0f7a4_21 : decode cJ6_bitCount_0f7a4 21 = .ok (.iand, 1) := by decide +kernel
theorem dJ6_bitCount_0f7a4_22 : decode cJ6_bitCount_0f7a4 22 = .ok (.iadd, 1) := by decide +kernel
theorem dJ6_bitCount_0f7a4_23 : decode cJ6_bitCount_0f7a4 23 = .ok (.istore_n 0, 1) := by decide +kernel
theorem dJ6_bitCount_0f7a4_24 : decode cJ6_bitCount_0f7a4 24 = .ok (.iload_n 0, 1) := by decide +kernel
theorem dJ6_bitCount_0f7a4_25 : decode cJ6_bitCount_0f7a4 25 = .ok (.iload_n 0, 1) := by decide +kernel
theorem dJ6_bitCount_0f7a4_26 : decode cJ6_bitCount_0f7a4 26 = .ok (.iconst 4, 1) := by decide +kernel
theorem dJ6_bitCount_0f7a4_27 : decode cJ6_bitCount_0f7a4 27 = .ok (.iushr, 1) := by decide +kernel
theorem dJ6_bitCount_0f7a4_28 : decode cJ6_bitCount_0f7a4 28 = .ok (.iadd, 1) := by decide +kernel
theorem dJ6_bitCount_0f7a4_29 : decode cJ6_bitCount_0f7a4 29 = .ok (.ldc_w 267, 3) := by decide +kernel
theorem dJ6_bitCount_0f7a4_32 : decode cJ6_bitCount_0f7a4 32 = .ok (.iand, 1) := by decide +kernel
theorem dJ6_bitCount_0f7a4_33 : decode cJ6_bitCount_0f7a4 33 = .ok (.istore_n 0, 1) := by decide +kernel
theorem dJ6_bitCount_0f7a4_34 : decode cJ6_bitCount_0f7a4 34 = .ok (.iload_n 0, 1) := by decide +kernel
theorem dJ6_bitCount_0f7a4_35 : decode cJ6_bitCount_0f7a4 35 = .ok (.iload_n 0, 1) := by decide +kernel
theorem dJ6_bitCount_0f7a4_36 : decode cJ6_bitCount_0f7a4 36 = .ok (.bipush 8, 2) := by decide +kernel
theorem dJ6_bitCount_0f7a4_38 : decode cJ6_bitCount_0f7a4 38 = .ok (.iushr, 1) := by decide +kernel
theorem dJ6_bitCount_0f7a4_39 : decode cJ6_bitCount_0f7a4 39 = .ok (.iadd, 1) := by decide +kernel
theorem dJ6_bitCount_0f7a4_40 : decode cJ6_bitCount_0f7a4 40 = .ok (.istore_n 0, 1) := by decide +kernel
theorem dJ6_bitCount_0f7a4_41 : decode cJ6_bitCount_0f7a4 41 = .ok (.iload_n 0, 1) := by decide +kernel
theorem dJ6_bitCount_0f7a4_42 : decode cJ6_bitCount_0f7a4 42 = .ok (.iload_n 0, 1) := by decide +kernel
theorem dJ6_bitCount_0f7a4_43 : decode cJ6_bitCount_0f7a4 43 = .ok (.bipush 16, 2) := by decide +kernel
theorem dJ6_bitCount_0f7a4_45 : decode cJ6_bitCount_0f7a4 45 = .ok (.iushr, 1) := by decide +kernel
theorem dJ6_bitCount_0f7a4_46 : decode cJ6_bitCount_0f7a4 46 = .ok (.iadd, 1) := by decide +kernel
theorem dJ6_bitCount_0f7a4_47 : decode cJ6_bitCount_0f7a4 47 = .ok (.istore_n 0, 1) := by decide +kernel
theorem dJ6_bitCount_0f7a4_48 : decode cJ6_bitCount_0f7a4 48 = .ok (.iload_n 0, 1) := by decide +kernel
theorem dJ6_bitCount_0f7a4_49 : decode cJ6_bitCount_0f7a4 49 = .ok (.bipush 63, 2) := by decide +kernel
theorem dJ6_bitCount_0f7a4_51 : decode cJ6_bitCount_0f7a4 51 = .ok (.iand, 1) := by decide +kernel
theorem dJ6_bitCount_0f7a4_52 : decode cJ6_bitCount_0f7a4 52 = .ok (.ireturn, 1) := by decide +kernel
theorem dJ9_max_7cf53_0 : decode cJ9_max_7cf53 0 = .ok (.iload_n 0, 1) := by decide +kernel
theorem dJ9_max_7cf53_1 : decode cJ9_max_7cf53 1 = .ok (.iload_n 1, 1) := by decide +kernel
theorem dJ9_max_7cf53_2 : decode cJ9_max_7cf53 2 = .ok (.if_icmp .lt 7, 3) := by decide +kernel
theorem dJ9_max_7cf53_5 : decode cJ9_max_7cf53 5 = .ok (.iload_n 0, 1) := by decide +kernel
theorem dJ9_max_7cf53_6 : decode cJ9_max_7cf53 6 = .ok (.goto 4, 3) := by decide +kernel
theorem dJ9_max_7cf53_9 : decode cJ9_max_7cf53 9 = .ok (.iload_n 1, 1) := by decide +kernel
theorem dJ9_max_7cf53_10 : decode cJ9_max_7cf53 10 = .ok (.ireturn, 1) := by decide +kernel
theorem dJ9_min_7cf53_0 : decode cJ9_min_7cf53 0 = .ok (.iload_n 0, 1) := by decide +kernel
theorem dJ9_min_7cf53_1 : decode cJ9_min_7cf53 1 = .ok (.iload_n 1, 1) := by decide +kernel
theorem dJ9_min_7cf53_2 : decode cJ9_min_7cf53 2 = .ok (.if_icmp .gt 7, 3) := by decide +kernel
theorem dJ9_min_7cf53_5 : decode cJ9_min_7cf53 5 = .ok (.iload_n 0, 1) := by decide +kernel
theorem dJ9_min_7cf53_6 : decode cJ9_min_7cf53 6 = .ok (.goto 4, 3) := by decide +kernel
theorem dJ9_min_7cf53_9 : decode cJ9_min_7cf53 9 = .ok (.iload_n 1, 1) := by decide +kernel
theorem dJ9_min_7cf53_10 : decode cJ9_min_7cf53 10 = .ok (.ireturn, 1) := by decide +kernel
