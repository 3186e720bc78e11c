theorem dX7_begin_10 : decode cX7_begin 10 = .ok (.getfield 18, 3) := by decide +kernel
theorem dX7_begin_13 : decode cX7_begin 13 = .ok (.iconst 0, 1) := by decide +kernel
theorem dX7_begin_14 : decode cX7_begin 14 = .ok (.invokestatic 32, 3) := by decide +kernel
theorem dX7_begin_17 : decode cX7_begin 17 = .ok (.return_, 1) := by decide +kernel
theorem dX7_openRoom_0 : decode cX7_openRoom 0 = .ok (.iload_n 2, 1) := by decide +kernel
theorem dX7_openRoom_1 : decode cX7_openRoom 1 = .ok (.bipush 16, 2) := by decide +kernel
theorem dX7_openRoom_3 : decode cX7_openRoom 3 = .ok (.imul, 1) := by decide +kernel
theorem dX7_openRoom_4 : decode cX7_openRoom 4 = .ok (.istore_n 3, 1) := by decide +kernel
theorem dX7_openRoom_5 : decode cX7_openRoom 5 = .ok (.iconst 0, 1) := by decide +kernel
theorem dX7_openRoom_6 : decode cX7_openRoom 6 = .ok (.istore 4, 2) := by decide +kernel
theorem dX7_openRoom_8 : decode cX7_openRoom 8 = .ok (.iload 4, 2) := by decide +kernel
theorem dX7_openRoom_10 : decode cX7_openRoom 10 = .ok (.bipush 16, 2) := by decide +kernel
theorem dX7_openRoom_12 : decode cX7_openRoom 12 = .ok (.if_icmp .ge 19, 3) := by decide +kernel
theorem dX7_openRoom_15 : decode cX7_openRoom 15 = .ok (.aload_n 0, 1) := by decide +kernel
theorem dX7_openRoom_16 : decode cX7_openRoom 16 = .ok (.getfield 9, 3) := by decide +kernel
theorem dX7_openRoom_19 : decode cX7_openRoom 19 = .ok (.iload_n 3, 1) := by decide +kernel
theorem dX7_openRoom_20 : decode cX7_openRoom 20 = .ok (.iload 4, 2) := by decide +kernel
theorem dX7_openRoom_22 : decode cX7_openRoom 22 = .ok (.iadd, 1) := by decide +kernel
theorem dX7_openRoom_23 : decode cX7_openRoom 23 = .ok (.iconst 0, 1) := by decide +kernel
theorem dX7_openRoom_24 : decode cX7_openRoom 24 = .ok (.iastore, 1) := by decide +kernel
theorem dX7_openRoom_25 : decode cX7_openRoom 25 = .ok (.iinc 4 1, 3) := by decide +kernel
theorem dX7_openRoom_28 : decode cX7_openRoom 28 = .ok (.goto (-20), 3) := by decide +kernel
theorem dX7_openRoom_31 : decode cX7_openRoom 31 = .ok (.iload_n 2, 1) := by decide +kernel
theorem dX7_openRoom_32 : decode cX7_openRoom 32 = .ok (.bipush 22, 2) := by decide +kernel
theorem dX7_openRoom_34 : decode cX7_openRoom 34 = .ok (.imul, 1) := by decide +kernel
theorem dX7_openRoom_35 : decode cX7_openRoom 35 = .ok (.istore 4, 2) := by decide +kernel
theorem dX7_openRoom_37 : decode cX7_openRoom 37 = .ok (.iconst 0, 1) := by decide +kernel
theorem dX7_openRoom_38 : decode cX7_openRoom 38 = .ok (.istore 5, 2) := by decide +kernel
theorem dX7_openRoom_40 : decode cX7_openRoom 40 = .ok (.iload 5, 2) := by decide +kernel
theorem dX7_openRoom_42 : decode cX7_openRoom 42 = .ok (.bipush 22, 2) := by decide +kernel
theorem dX7_openRoom_44 : decode cX7_openRoom 44 = .ok (.if_icmp .ge 20, 3) := by decide +kernel
theorem dX7_openRoom_47 : decode cX7_openRoom 47 = .ok (.aload_n 0, 1) := by decide +kernel
theorem dX7_openRoom_48 : decode cX7_openRoom 48 = .ok (.getfield 15, 3) := by decide +kernel
theorem dX7_openRoom_51 : decode cX7_openRoom 51 = .ok (.iload 4, 2) := by decide +kernel
theorem dX7_openRoom_53 : decode cX7_openRoom 53 = .ok (.iload 5, 2) := by decide +kernel
theorem dX7_openRoom_55 : decode cX7_openRoom 55 = .ok (.iadd, 1) := by decide +kernel
theorem dX7_openRoom_56 : decode cX7_openRoom 56 = .ok (.iconst 0, 1) := by decide +kernel
theorem dX7_openRoom_57 : decode cX7_openRoom 57 = .ok (.iastore, 1) := by decide +kernel
theorem dX7_openRoom_58 : decode cX7_openRoom 58 = .ok (.iinc 5 1, 3) := by decide +kernel
theorem dX7_openRoom_61 : decode cX7_openRoom 61 = .ok (.goto (-21), 3) := by decide +kernel
theorem dX7_openRoom_64 : decode cX7_openRoom 64 = .ok (.return_, 1) := by decide +kernel
theorem dX7_takeAnswer_0 : decode cX7_takeAnswer 0 = .ok (.aload_n 0, 1) := by decide +kernel
theorem dX7_takeAnswer_1 : decode cX7_takeAnswer 1 = .ok (.iload_n 1, 1) := by decide +kernel
theorem dX7_takeAnswer_2 : decode cX7_takeAnswer 2 = .ok (.putfield 28, 3) := by decide +kernel
theorem dX7_takeAnswer_5 : decode cX7_takeAnswer 5 = .ok (.return_, 1) := by decide +kernel
theorem dX7_step_0 : decode cX7_step 0 = .ok (.aload_n 0, 1) := by decide +kernel
theorem dX7_step_1 : decode cX7_step 1 = .ok (.getfield 21, 3) := by decide +kernel
theorem dX7_step_4 : decode cX7_step 4 = .ok (.iload_n 1, 1) := by decide +kernel
theorem dX7_step_5 : decode cX7_step 5 = .ok (.iload_n 2, 1) := by decide +kernel
theorem dX7_step_6 : decode cX7_step 6 = .ok (.iconst 1, 1) := by decide +kernel
theorem dX7_step_7 : decode cX7_step 7 = .ok (.invokevirtual 38, 3) := by decide +kernel
theorem dX7_step_10 : decode cX7_step 10 = .ok (.istore_n 3, 1) := by decide +kernel
theorem dX7_step_11 : decode cX7_step 11 = .ok (.aload_n 0, 1) := by decide +kernel
theorem dX7_step_12 : decode cX7_step 12 = .ok (.getfield 21, 3) := by decide +kernel
theorem dX7_step_15 : decode cX7_step 15 = .ok (.iload_n 1, 1) := by decide +kernel
theorem dX7_step_16 : decode cX7_step 16 = .ok (.iload_n 2, 1) := by decide +kernel
theorem dX7_step_17 : decode cX7_step 17 = .ok (.iconst 2, 1) := by decide +kernel
theorem dX7_step_18 : decode cX7_step 18 = .ok (.invokevirtual 38, 3) := by decide +kernel
theorem dX7_step_21 : decode cX7_step 21 = .ok (.istore 4, 2) := by decide +kernel
theorem dX7_step_23 : decode cX7_step 23 = .ok (.aload_n 0, 1) := by decide +kernel
theorem dX7_step_24 : decode cX7_step 24 = .ok (.invokevirtual 44, 3) := by decide +kernel
theorem dX7_step_27 : decode cX7_step 27 = .ok (.bipush 16, 2) := by decide +kernel
theorem dX7_step_29 : decode cX7_step 29 = .ok (.imul, 1) := by decide +kernel
theorem dX7_step_30 : decode cX7_step 30 = .ok (.istore 5, 2) := by decide +kernel
theorem dX7_step_32 : decode cX7_step 32 = .ok (.aload_n 0, 1) := by decide +kernel
theorem dX7_step_33 : decode cX7_step 33 = .ok (.getfield 21, 3) := by decide +kernel
theorem dX7_step_36 : decode cX7_step 36 = .ok (.iload_n 1, 1) := by decide +kernel
theorem dX7_step_37 : decode cX7_step 37 = .ok (.iload_n 2, 1) := by decide +kernel
theorem dX7_step_38 : decode cX7_step 38 = .ok (.iconst 0, 1) := by decide +kernel
theorem dX7_step_39 : decode cX7_step 39 = .ok (.invokevirtual 38, 3) := by decide +kernel
theorem dX7_step_42 : decode cX7_step 42 = .ok (.tableswitch 325 0 13 #[70, 84, 106, 117, 133, 141, 162, 178, 199, 225, 252, 279, 298, 317], 70) := by decide +kernel
theorem dX7_step_112 : decode cX7_step 112 = .ok (.aload_n 0, 1) := by decide +kernel
theorem dX7_step_113 : decode cX7_step 113 = .ok (.getfield 9, 3) := by decide +kernel
theorem dX7_step_116 : decode cX7_step 116 = .ok (.iload 5, 2) := by decide +kernel
theorem dX7_step_118 : decode cX7_step 118 = .ok (.iload_n 3, 1) := by decide +kernel
theorem dX7_step_119 : decode cX7_step 119 = .ok (.iadd, 1) := by decide +kernel
theorem dX7_step_120 : decode cX7_step 120 = .ok (.iload 4, 2) := by decide +kernel
theorem dX7_step_122 : decode cX7_step 122 = .ok (.iastore, 1) := by decide +kernel
theorem dX7_step_123 : decode cX7_step 123 = .ok (.goto 257, 3) := by decide +kernel
theorem dX7_step_126 : decode cX7_step 126 = .ok (.aload_n 0, 1) := by decide +kernel
theorem dX7_step_127 : decode cX7_step 127 = .ok (.getfield 9, 3) := by decide +kernel
theorem dX7_step_130 : decode cX7_step 130 = .ok (.iload 5, 2) := by decide +kernel
theorem dX7_step_132 : decode cX7_step 132 = .ok (.iload_n 3, 1) := by decide +kernel
theorem dX7_step_133 : decode cX7_step 133 = .ok (.iadd, 1) := by decide +kernel
theorem dX7_step_134 : decode cX7_step 134 = .ok (.aload_n 0, 1) := by decide +kernel
theorem dX7_step_135 : decode cX7_step 135 = .ok (.getfield 9, 3) := by decide +kernel
theorem dX7_step_138 : decode cX7_step 138 = .ok (.iload 5, 2) := by decide +kernel
theorem dX7_step_140 : decode cX7_step 140 = .ok (.iload 4, 2) := by decide +kernel
theorem dX7_step_142 : decode cX7_step 142 = .ok (.iadd, 1) := by decide +kernel
theorem dX7_step_143 : decode cX7_step 143 = .ok (.iaload, 1) := by decide +kernel
theorem dX7_step_144 : decode cX7_step 144 = .ok (.iastore, 1) := by decide +kernel
theorem dX7_step_145 : decode cX7_step 145 = .ok (.goto 235, 3) := by decide +kernel
theorem dX7_step_148 : decode cX7_step 148 = .ok (.aload_n 0, 1) := by decide +kernel
theorem dX7_step_149 : decode cX7_step 149 = .ok (.iload_n 1, 1) := by decide +kernel
theorem dX7_step_150 : decode cX7_step 150 = .ok (.iload_n 2, 1) := by decide +kernel
theorem dX7_step_151 : decode cX7_step 151 = .ok (.iload 5, 2) := by decide +kernel
theorem dX7_step_153 : decode cX7_step 153 = .ok (.invokevirtual 48, 3) := by decide +kernel
theorem dX7_step_156 : decode cX7_step 156 = .ok (.goto 224, 3) := by decide +kernel
theorem dX7_step_159 : decode cX7_step 159 = .ok (.aload_n 0, 1) := by decide +kernel
theorem dX7_step_160 : decode cX7_step 160 = .ok (.iload 5, 2) := by decide +kernel
theorem dX7_step_162 : decode cX7_step 162 = .ok (.iload_n 3, 1) := by decide +kernel
theorem dX7_step_163 : decode cX7_step 163 = .ok (.iadd, 1) := by decide +kernel
theorem dX7_step_164 : decode cX7_step 164 = .ok (.iload 5, 2) := by decide +kernel
theorem dX7_step_166 : decode cX7_step 166 = .ok (.iload 4, 2) := by decide +kernel
theorem dX7_step_168 : decode cX7_step 168 = .ok (.iadd, 1) := by decide +kernel
theorem dX7_step_169 : decode cX7_step 169 = .ok (.invokevirtual 52, 3) := by decide +kernel
theorem dX7_step_172 : decode cX7_step 172 = .ok (.goto 208, 3) := by decide +kernel
theorem dX7_step_175 : decode cX7_step 175 = .ok (.aload_n 0, 1) := by decide +kernel
theorem dX7_step_176 : decode cX7_step 176 = .ok (.iload_n 3, 1) := by decide +kernel
theorem dX7_step_177 : decode cX7_step 177 = .ok (.invokevirtual 56, 3) := by decide +kernel
theorem dX7_step_180 : decode cX7_step 180 = .ok (.goto 200, 3) := by decide +kernel
theorem dX7_step_183 : decode cX7_step 183 = .ok (.aload_n 0, 1) := by decide +kernel
theorem dX7_step_184 : decode cX7_step 184 = .ok (.getfield 9, 3) := by decide +kernel
theorem dX7_step_187 : decode cX7_step 187 = .ok (.iload 5, 2) := by decide +kernel
theorem dX7_step_189 : decode cX7_step 189 = .ok (.iload_n 3, 1) := by decide +kernel
theorem dX7_step_190 : decode cX7_step 190 = .ok (.iadd, 1) := by decide +kernel
theorem dX7_step_191 : decode cX7_step 191 = .ok (.iaload, 1) := by decide +kernel
theorem dX7_step_192 : decode cX7_step 192 = .ok (.ifCond .ne 188, 3) := by decide +kernel
theorem dX7_step_195 : decode cX7_step 195 = .ok (.aload_n 0, 1) := by decide +kernel
theorem dX7_step_196 : decode cX7_step 196 = .ok (.iload 4, 2) := by decide +kernel
theorem dX7_step_198 : decode cX7_step 198 = .ok (.invokevirtual 56, 3) := by decide +kernel
theorem dX7_step_201 : decode cX7_step 201 = .ok (.goto 179, 3) := by decide +kernel
theorem dX7_step_204 : decode cX7_step 204 = .ok (.aload_n 0, 1) := by decide +kernel
theorem dX7_step_205 : decode cX7_step 205 = .ok (.aload_n 0, 1) := by decide +kernel
theorem dX7_step_206 : decode cX7_step 206 = .ok (.getfield 9, 3) := by decide +kernel
theorem dX7_step_209 : decode cX7_step 209 = .ok (.iload 5, 2) := by decide +kernel
theorem dX7_step_211 : decode cX7_step 211 = .ok (.iload_n 3, 1) := by decide +kernel
theorem dX7_step_212 : decode cX7_step 212 = .ok (.iadd, 1) := by decide +kernel
theorem dX7_step_213 : decode cX7_step 213 = .ok (.iaload, 1) := by decide +kernel
theorem dX7_step_214 : decode cX7_step 214 = .ok (.invokevirtual 60, 3) := by decide +kernel
theorem dX7_step_217 : decode cX7_step 217 = .ok (.goto 163, 3) := by decide +kernel
theorem dX7_step_220 : decode cX7_step 220 = .ok (.aload_n 0, 1) := by decide +kernel
theorem dX7_step_221 : decode cX7_step 221 = .ok (.iload 5, 2) := by decide +kernel
theorem dX7_step_223 : decode cX7_step 223 = .ok (.iload_n 3, 1) := by decide +kernel
theorem dX7_step_224 : decode cX7_step 224 = .ok (.iadd, 1) := by decide +kernel
theorem dX7_step_225 : decode cX7_step 225 = .ok (.aload_n 0, 1) := by decide +kernel
theorem dX7_step_226 : decode cX7_step 226 = .ok (.getfield 9, 3) := by decide +kernel
theorem dX7_step_229 : decode cX7_step 229 = .ok (.iload 5, 2) := by decide +kernel
theorem dX7_step_231 : decode cX7_step 231 = .ok (.iload 4, 2) := by decide +kernel
theorem dX7_step_233 : decode cX7_step 233 = .ok (.iadd, 1) := by decide +kernel
theorem dX7_step_234 : decode cX7_step 234 = .ok (.iaload, 1) := by decide +kernel
theorem dX7_step_235 : decode cX7_step 235 = .ok (.invokevirtual 63, 3) := by decide +kernel
theorem dX7_step_238 : decode cX7_step 238 = .ok (.goto 142, 3) := by decide +kernel
theorem dX7_step_241 : decode cX7_step 241 = .ok (.aload_n 0, 1) := by decide +kernel
theorem dX7_step_242 : decode cX7_step 242 = .ok (.aload_n 0, 1) := by decide +kernel
theorem dX7_step_243 : decode cX7_step 243 = .ok (.getfield 9, 3) := by decide +kernel
theorem dX7_step_246 : decode cX7_step 246 = .ok (.iload 5, 2) := by decide +kernel
theorem dX7_step_248 : decode cX7_step 248 = .ok (.iload_n 3, 1) := by decide +kernel
theorem dX7_step_249 : decode cX7_step 249 = .ok (.iadd, 1) := by decide +kernel
theorem dX7_step_250 : decode cX7_step 250 = .ok (.iaload, 1) := by decide +kernel
theorem dX7_step_251 : decode cX7_step 251 = .ok (.aload_n 0, 1) := by decide +kernel
theorem dX7_step_252 : decode cX7_step 252 = .ok (.getfield 9, 3) := by decide +kernel
theorem dX7_step_255 : decode cX7_step 255 = .ok (.iload 5, 2) := by decide +kernel
theorem dX7_step_257 : decode cX7_step 257 = .ok (.iload 4, 2) := by decide +kernel
theorem dX7_step_259 : decode cX7_step 259 = .ok (.iadd, 1) := by decide +kernel
theorem dX7_step_260 : decode cX7_step 260 = .ok (.iaload, 1) := by decide +kernel
theorem dX7_step_261 : decode cX7_step 261 = .ok (.invokevirtual 66, 3) := by decide +kernel
theorem dX7_step_264 : decode cX7_step 264 = .ok (.goto 116, 3) := by decide +kernel
theorem dX7_step_267 : decode cX7_step 267 = .ok (.aload_n 0, 1) := by decide +kernel
theorem dX7_step_268 : decode cX7_step 268 = .ok (.getfield 9, 3) := by decide +kernel
theorem dX7_step_271 : decode cX7_step 271 = .ok (.iload 5, 2) := by decide +kernel
theorem dX7_step_273 : decode cX7_step 273 = .ok (.iload_n 3, 1) := by decide +kernel
theorem dX7_step_274 : decode cX7_step 274 = .ok (.iadd, 1) := by decide +kernel
theorem dX7_step_275 : decode cX7_step 275 = .ok (.aload_n 0, 1) := by decide +kernel
theorem dX7_step_276 : decode cX7_step 276 = .ok (.getfield 15, 3) := by decide +kernel
theorem dX7_step_279 : decode cX7_step 279 = .ok (.aload_n 0, 1) := by decide +kernel
theorem dX7_step_280 : decode cX7_step 280 = .ok (.invokevirtual 44, 3) := by decide +kernel
theorem dX7_step_283 : decode cX7_step 283 = .ok (.bipush 22, 2) := by decide +kernel
theorem dX7_step_285 : decode cX7_step 285 = .ok (.imul, 1) := by decide +kernel
theorem dX7_step_286 : decode cX7_step 286 = .ok (.iload 4, 2) := by decide +kernel
theorem dX7_step_288 : decode cX7_step 288 = .ok (.iadd, 1) := by decide +kernel
theorem dX7_step_289 : decode cX7_step 289 = .ok (.iaload, 1) := by decide +kernel
theorem dX7_step_290 : decode cX7_step 290 = .ok (.iastore, 1) := by decide +kernel
theorem dX7_step_291 : decode cX7_step 291 = .ok (.goto 89, 3) := by decide +kernel
theorem dX7_step_294 : decode cX7_step 294 = .ok (.aload_n 0, 1) := by decide +kernel
theorem dX7_step_295 : decode cX7_step 295 = .ok (.getfield 15, 3) := by decide +kernel
theorem dX7_step_298 : decode cX7_step 298 = .ok (.aload_n 0, 1) := by decide +kernel
theorem dX7_step_299 : decode cX7_step 299 = .ok (.invokevirtual 44, 3) := by decide +kernel
theorem dX7_step_302 : decode cX7_step 302 = .ok (.bipush 22, 2) := by decide +kernel
theorem dX7_step_304 : decode cX7_step 304 = .ok (.imul, 1) := by decide +kernel
theorem dX7_step_305 : decode cX7_step 305 = .ok (.iload_n 3, 1) := by decide +kernel
theorem dX7_step_306 : decode cX7_step 306 = .ok (.iadd, 1) := by decide +kernel
theorem dX7_step_307 : decode cX7_step 307 = .ok (.aload_n 0, 1) := by decide +kernel
theorem dX7_step_308 : decode cX7_step 308 = .ok (.getfield 9, 3) := by decide +kernel
theorem dX7_step_311 : decode cX7_step 311 = .ok (.iload 5, 2) := by decide +kernel
theorem dX7_step_313 : decode cX7_step 313 = .ok (.iload 4, 2) := by decide +kernel
theorem dX7_step_315 : decode cX7_step 315 = .ok (.iadd, 1) := by decide +kernel
theorem dX7_step_316 : decode cX7_step 316 = .ok (.iaload, 1) := by decide +kernel
theorem dX7_step_317 : decode cX7_step 317 = .ok (.iastore, 1) := by decide +kernel
theorem dX7_step_318 : decode cX7_step 318 = .ok (.goto 62, 3) := by decide +kernel
theorem dX7_step_321 : decode cX7_step 321 = .ok (.aload_n 0, 1) := by decide +kernel
theorem dX7_step_322 : decode cX7_step 322 = .ok (.getfield 9, 3) := by decide +kernel
theorem dX7_step_325 : decode cX7_step 325 = .ok (.iload 5, 2) := by decide +kernel
theorem dX7_step_327 : decode cX7_step 327 = .ok (.iload_n 3, 1) := by decide +kernel
theorem dX7_step_328 : decode cX7_step 328 = .ok (.iadd, 1) := by decide +kernel
theorem dX7_step_329 : decode cX7_step 329 = .ok (.aload_n 0, 1) := by decide +kernel
theorem dX7_step_330 : decode cX7_step 330 = .ok (.getfield 18, 3) := by decide +kernel
theorem dX7_step_333 : decode cX7_step 333 = .ok (.iload 4, 2) := by decide +kernel
theorem dX7_step_335 : decode cX7_step 335 = .ok (.iaload, 1) := by decide +kernel
theorem dX7_step_336 : decode cX7_step 336 = .ok (.iastore, 1) := by decide +kernel
theorem dX7_step_337 : decode cX7_step 337 = .ok (.goto 43, 3) := by decide +kernel
theorem dX7_step_340 : decode cX7_step 340 = .ok (.aload_n 0, 1) := by decide +kernel
theorem dX7_step_341 : decode cX7_step 341 = .ok (.getfield 18, 3) := by decide +kernel
theorem dX7_step_344 : decode cX7_step 344 = .ok (.iload_n 3, 1) := by decide +kernel
theorem dX7_step_345 : decode cX7_step 345 = .ok (.aload_n 0, 1) := by decide +kernel
theorem dX7_step_346 : decode cX7_step 346 = .ok (.getfield 9, 3) := by decide +kernel
theorem dX7_step_349 : decode cX7_step 349 = .ok (.iload 5, 2) := by decide +kernel
theorem dX7_step_351 : decode cX7_step 351 = .ok (.iload 4, 2) := by decide +kernel
theorem dX7_step_353 : decode cX7_step 353 = .ok (.iadd, 1) := by decide +kernel
theorem dX7_step_354 : decode cX7_step 354 = .ok (.iaload, 1) := by decide +kernel
theorem dX7_step_355 : decode cX7_step 355 = .ok (.iastore, 1) := by decide +kernel
theorem dX7_step_356 : decode cX7_step 356 = .ok (.goto 24, 3) := by decide +kernel
theorem dX7_step_359 : decode cX7_step 359 = .ok (.aload_n 0, 1) := by decide +kernel
theorem dX7_step_360 : decode cX7_step 360 = .ok (.iload_n 3, 1) := by decide +kernel
theorem dX7_step_361 : decode cX7_step 361 = .ok (.invokevirtual 69, 3) := by decide +kernel
theorem dX7_step_364 : decode cX7_step 364 = .ok (.goto 16, 3) := by decide +kernel
theorem dX7_step_367 : decode cX7_step 367 = .ok (.aload_n 0, 1) := by decide +kernel
theorem dX7_step_368 : decode cX7_step 368 = .ok (.getfield 9, 3) := by decide +kernel
theorem dX7_step_371 : decode cX7_step 371 = .ok (.iload 5, 2) := by decide +kernel
theorem dX7_step_373 : decode cX7_step 373 = .ok (.iload_n 3, 1) := by decide +kernel
theorem dX7_step_374 : decode cX7_step 374 = .ok (.iadd, 1) := by decide +kernel
theorem dX7_step_375 : decode cX7_step 375 = .ok (.aload_n 0, 1) := by decide +kernel
theorem dX7_step_376 : decode cX7_step 376 = .ok (.getfield 28, 3) := by decide +kernel
theorem dX7_step_379 : decode cX7_step 379 = .ok (.iastore, 1) := by decide +kernel
theorem dX7_step_380 : decode cX7_step 380 = .ok (.return_, 1) := by decide +kernel
theorem dX7_work_0 : decode cX7_work 0 = .ok (.aload_n 0, 1) := by decide +kernel
theorem dX7_work_1 : decode cX7_work 1 = .ok (.getfield 21, 3) := by decide +kernel
theorem dX7_work_4 : decode cX7_work 4 = .ok (.iload_n 1, 1) := by decide +kernel
theorem dX7_work_5 : decode cX7_work 5 = .ok (.iload_n 2, 1) := by decide +kernel
theorem dX7_work_6 : decode cX7_work 6 = .ok (.iconst 4, 1) := by decide +kernel
theorem dX7_work_7 : decode cX7_work 7 = .ok (.invokevirtual 38, 3) := by decide +kernel
theorem dX7_work_10 : decode cX7_work 10 = .ok (.istore 4, 2) := by decide +kernel
theorem dX7_work_12 : decode cX7_work 12 = .ok (.aload_n 0, 1) := by decide +kernel
theorem dX7_work_13 : decode cX7_work 13 = .ok (.getfield 9, 3) := by decide +kernel
theorem dX7_work_16 : decode cX7_work 16 = .ok (.iload_n 3, 1) := by decide +kernel
theorem dX7_work_17 : decode cX7_work 17 = .ok (.aload_n 0, 1) := by decide +kernel
theorem dX7_work_18 : decode cX7_work 18 = .ok (.getfield 21, 3) := by decide +kernel
theorem dX7_work_21 : decode cX7_work 21 = .ok (.iload_n 1, 1) := by decide +kernel
theorem dX7_work_22 : decode cX7_work 22 = .ok (.iload_n 2, 1) := by decide +kernel
theorem dX7_work_23 : decode cX7_work 23 = .ok (.iconst 2, 1) := by decide +kernel
theorem dX7_work_24 : decode cX7_work 24 = .ok (.invokevirtual 38, 3) := by decide +kernel
theorem dX7_work_27 : decode cX7_work 27 = .ok (.iadd, 1) := by decide +kernel
theorem dX7_work_28 : decode cX7_work 28 = .ok (.iaload, 1) := by decide +kernel
theorem dX7_work_29 : decode cX7_work 29 = .ok (.istore 5, 2) := by decide +kernel
theorem dX7_work_31 : decode cX7_work 31 = .ok (.aload_n 0, 1) := by decide +kernel
theorem dX7_work_32 : decode cX7_work 32 = .ok (.getfield 9, 3) := by decide +kernel
theorem dX7_work_35 : decode cX7_work 35 = .ok (.iload_n 3, 1) := by decide +kernel
theorem dX7_work_36 : decode cX7_work 36 = .ok (.aload_n 0, 1) := by decide +kernel
theorem dX7_work_37 : decode cX7_work 37 = .ok (.getfield 21, 3) := by decide +kernel
theorem dX7_work_40 : decode cX7_work 40 = .ok (.iload_n 1, 1) := by decide +kernel
theorem dX7_work_41 : decode cX7_work 41 = .ok (.iload_n 2, 1) := by decide +kernel
theorem dX7_work_42 : decode cX7_work 42 = .ok (.iconst 3, 1) := by decide +kernel
theorem dX7_work_43 : decode cX7_work 43 = .ok (.invokevirtual 38, 3) := by decide +kernel
theorem dX7_work_46 : decode cX7_work 46 = .ok (.iadd, 1) := by decide +kernel
theorem dX7_work_47 : decode cX7_work 47 = .ok (.iaload, 1) := by decide +kernel
theorem dX7_work_48 : decode cX7_work 48 = .ok (.istore 6, 2) := by decide +kernel
theorem dX7_work_50 : decode cX7_work 50 = .ok (.aload_n 0, 1) := by decide +kernel
theorem dX7_work_51 : decode cX7_work 51 = .ok (.iload 4, 2) := by decide +kernel
theorem dX7_work_53 : decode cX7_work 53 = .ok (.iload 6, 2) := by decide +kernel
theorem dX7_work_55 : decode cX7_work 55 = .ok (.invokevirtual 72, 3) := by decide +kernel
theorem dX7_work_58 : decode cX7_work 58 = .ok (.ifCond .eq 29, 3) := by decide +kernel
theorem dX7_work_61 : decode cX7_work 61 = .ok (.aload_n 0, 1) := by decide +kernel
theorem dX7_work_62 : decode cX7_work 62 = .ok (.getfield 9, 3) := by decide +kernel
theorem dX7_work_65 : decode cX7_work 65 = .ok (.iload_n 3, 1) := by decide +kernel
theorem dX7_work_66 : decode cX7_work 66 = .ok (.aload_n 0, 1) := by decide +kernel
theorem dX7_work_67 : decode cX7_work 67 = .ok (.getfield 21, 3) := by decide +kernel
theorem dX7_work_70 : decode cX7_work 70 = .ok (.iload_n 1, 1) := by decide +kernel
theorem dX7_work_71 : decode cX7_work 71 = .ok (.iload_n 2, 1) := by decide +kernel
theorem dX7_work_72 : decode cX7_work 72 = .ok (.iconst 1, 1) := by decide +kernel
theorem dX7_work_73 : decode cX7_work 73 = .ok (.invokevirtual 38, 3) := by decide +kernel
theorem dX7_work_76 : decode cX7_work 76 = .ok (.iadd, 1) := by decide +kernel
theorem dX7_work_77 : decode cX7_work 77 = .ok (.iload 4, 2) := by decide +kernel
theorem dX7_work_79 : decode cX7_work 79 = .ok (.iload 5, 2) := by decide +kernel
theorem dX7_work_81 : decode cX7_work 81 = .ok (.iload 6, 2) := by decide +kernel
theorem dX7_work_83 : decode cX7_work 83 = .ok (.invokestatic 76, 3) := by decide +kernel
theorem dX7_work_86 : decode cX7_work 86 = .ok (.iastore, 1) := by decide +kernel
theorem dX7_work_87 : decode cX7_work 87 = .ok (.return_, 1) := by decide +kernel
theorem dX7_swap_0 : decode cX7_swap 0 = .ok (.aload_n 0, 1) := by decide +kernel
theorem dX7_swap_1 : decode cX7_swap 1 = .ok (.getfield 9, 3) := by decide +kernel
theorem dX7_swap_4 : decode cX7_swap 4 = .ok (.iload_n 1, 1) := by decide +kernel
theorem dX7_swap_5 : decode cX7_swap 5 = .ok (.iaload, 1) := by decide +kernel
theorem dX7_swap_6 : decode cX7_swap 6 = .ok (.istore_n 3, 1) := by decide +kernel
theorem dX7_swap_7 : decode cX7_swap 7 = .ok (.aload_n 0, 1) := by decide +kernel
theorem dX7_swap_8 : decode cX7_swap 8 = .ok (.getfield 9, 3) := by decide +kernel
theorem dX7_swap_11 : decode cX7_swap 11 = .ok (.iload_n 1, 1) := by decide +kernel
theorem dX7_swap_12 : decode cX7_swap 12 = .ok (.aload_n 0, 1) := by decide +kernel
theorem dX7_swap_13 : decode cX7_swap 13 = .ok (.getfield 9, 3) := by decide +kernel
theorem dX7_swap_16 : decode cX7_swap 16 = .ok (.iload_n 2, 1) := by decide +kernel
theorem dX7_swap_17 : decode cX7_swap 17 = .ok (.iaload, 1) := by decide +kernel
theorem dX7_swap_18 : decode cX7_swap 18 = .ok (.iastore, 1) := by decide +kernel
theorem dX7_swap_19 : decode cX7_swap 19 = .ok (.aload_n 0, 1) := by decide +kernel
theorem dX7_swap_20 : decode cX7_swap 20 = .ok (.getfield 9, 3) := by decide +kernel
theorem dX7_swap_23 : decode cX7_swap 23 = .ok (.iload_n 2, 1) := by decide +kernel
theorem dX7_swap_24 : decode cX7_swap 24 = .ok (.iload_n 3, 1) := by decide +kernel
theorem dX7_swap_25 : decode cX7_swap 25 = .ok (.iastore, 1) := by decide +kernel
theorem dX7_swap_26 : decode cX7_swap 26 = .ok (.return_, 1) := by decide +kernel
theorem dX7_fetch_0 : decode cX7_fetch 0 = .ok (.aload_n 0, 1) := by decide +kernel
theorem dX7_fetch_1 : decode cX7_fetch 1 = .ok (.iload_n 2, 1) := by decide +kernel
theorem dX7_fetch_2 : decode cX7_fetch 2 = .ok (.invokevirtual 79, 3) := by decide +kernel
theorem dX7_fetch_5 : decode cX7_fetch 5 = .ok (.ifCond .eq 15, 3) := by decide +kernel
theorem dX7_fetch_8 : decode cX7_fetch 8 = .ok (.aload_n 0, 1) := by decide +kernel
theorem dX7_fetch_9 : decode cX7_fetch 9 = .ok (.getfield 9, 3) := by decide +kernel
theorem dX7_fetch_12 : decode cX7_fetch 12 = .ok (.iload_n 1, 1) := by decide +kernel
theorem dX7_fetch_13 : decode cX7_fetch 13 = .ok (.aload_n 0, 1) := by decide +kernel
theorem dX7_fetch_14 : decode cX7_fetch 14 = .ok (.getfield 83, 3) := by decide +kernel
theorem dX7_fetch_17 : decode cX7_fetch 17 = .ok (.iload_n 2, 1) := by decide +kernel
theorem dX7_fetch_18 : decode cX7_fetch 18 = .ok (.iaload, 1) := by decide +kernel
theorem dX7_fetch_19 : decode cX7_fetch 19 = .ok (.iastore, 1) := by decide +kernel
theorem dX7_fetch_20 : decode cX7_fetch 20 = .ok (.return_, 1) := by decide +kernel
theorem dX7_store_0 : decode cX7_store 0 = .ok (.aload_n 0, 1) := by decide +kernel
theorem dX7_store_1 : decode cX7_store 1 = .ok (.iload_n 1, 1) := by decide +kernel
theorem dX7_store_2 : decode cX7_store 2 = .ok (.invokevirtual 79, 3) := by decide +kernel
theorem dX7_store_5 : decode cX7_store 5 = .ok (.ifCond .eq 10, 3) := by decide +kernel
theorem dX7_store_8 : decode cX7_store 8 = .ok (.aload_n 0, 1) := by decide +kernel
theorem dX7_store_9 : decode cX7_store 9 = .ok (.getfield 83, 3) := by decide +kernel
theorem dX7_store_12 : decode cX7_store 12 = .ok (.iload_n 1, 1) := by decide +kernel
theorem dX7_store_13 : decode cX7_store 13 = .ok (.iload_n 2, 1) := by decide +kernel
theorem dX7_store_14 : decode cX7_store 14 = .ok (.iastore, 1) := by decide +kernel
theorem dX7_store_15 : decode cX7_store 15 = .ok (.return_, 1) := by decide +kernel
theorem dX8_init_0 : decode cX8_init 0 = .ok (.aload_n 0, 1) := by decide +kernel
theorem dX8_init_1 : decode cX8_init 1 = .ok (.invokespecial 3, 3) := by decide +kernel
theorem dX8_init_4 : decode cX8_init 4 = .ok (.aload_n 0, 1) := by decide +kernel
theorem dX8_init_5 : decode cX8_init 5 = .ok (.sipush 300, 3) := by decide +kernel
theorem dX8_init_8 : decode cX8_init 8 = .ok (.newarray .int, 2) := by decide +kernel
theorem dX8_init_10 : decode cX8_init 10 = .ok (.putfield 9, 3) := by decide +kernel
theorem dX8_init_13 : decode cX8_init 13 = .ok (.aload_n 0, 1) := by decide +kernel
theorem dX8_init_14 : decode cX8_init 14 = .ok (.sipush 360, 3) := by decide +kernel
theorem dX8_init_17 : decode cX8_init 17 = .ok (.newarray .int, 2) := by decide +kernel
theorem dX8_init_19 : decode cX8_init 19 = .ok (.putfield 15, 3) := by decide +kernel
theorem dX8_init_22 : decode cX8_init 22 = .ok (.aload_n 0, 1) := by decide +kernel
theorem dX8_init_23 : decode cX8_init 23 = .ok (.bipush 30, 2) := by decide +kernel
theorem dX8_init_25 : decode cX8_init 25 = .ok (.newarray .int, 2) := by decide +kernel
theorem dX8_init_27 : decode cX8_init 27 = .ok (.putfield 18, 3) := by decide +kernel
theorem dX8_init_30 : decode cX8_init 30 = .ok (.aload_n 0, 1) := by decide +kernel
theorem dX8_init_31 : decode cX8_init 31 = .ok (.aload_n 1, 1) := by decide +kernel
theorem dX8_init_32 : decode cX8_init 32 = .ok (.putfield 21, 3) := by decide +kernel
theorem dX8_init_35 : decode cX8_init 35 = .ok (.return_, 1) := by decide +kernel
theorem dX8_begin_0 : decode cX8_begin 0 = .ok (.aload_n 0, 1) := by decide +kernel
theorem dX8_begin_1 : decode cX8_begin 1 = .ok (.invokespecial 25, 3) := by decide +kernel
theorem dX8_begin_4 : decode cX8_begin 4 = .ok (.aload_n 0, 1) := by decide +kernel
theorem dX8_begin_5 : decode cX8_begin 5 = .ok (.iconst 0, 1) := by decide +kernel
theorem dX8_begin_6 : decode cX8_begin 6 = .ok (.putfield 28, 3) := by decide +kernel
theorem dX8_begin_9 : decode cX8_begin 9 = .ok (.return_, 1) := by decide +kernel
theorem dX8_openRoom_0 : decode cX8_openRoom 0 = .ok (.iload_n 2, 1) := by decide +kernel
theorem dX8_openRoom_1 : decode cX8_openRoom 1 = .ok (.bipush 10, 2) := by decide +kernel
theorem dX8_openRoom_3 : decode cX8_openRoom 3 = .ok (.imul, 1) := by decide +kernel
theorem dX8_openRoom_4 : decode cX8_openRoom 4 = .ok (.istore_n 3, 1) := by decide +kernel
theorem dX8_openRoom_5 : decode cX8_openRoom 5 = .ok (.iload_n 2, 1) := by decide +kernel
theorem dX8_openRoom_6 : decode cX8_openRoom 6 = .ok (.ifCond .ne 7, 3) := by decide +kernel
theorem dX8_openRoom_9 : decode cX8_openRoom 9 = .ok (.iconst 0, 1) := by decide +kernel
theorem dX8_openRoom_10 : decode cX8_openRoom 10 = .ok (.goto 12, 3) := by decide +kernel
theorem dX8_openRoom_13 : decode cX8_openRoom 13 = .ok (.aload_n 0, 1) := by decide +kernel
theorem dX8_openRoom_14 : decode cX8_openRoom 14 = .ok (.getfield 21, 3) := by decide +kernel
theorem dX8_openRoom_17 : decode cX8_openRoom 17 = .ok (.getfield 32, 3) := by decide +kernel
theorem dX8_openRoom_20 : decode cX8_openRoom 20 = .ok (.iload_n 1, 1) := by decide +kernel
theorem dX8_openRoom_21 : decode cX8_openRoom 21 = .ok (.iaload, 1) := by decide +kernel
theorem dX8_openRoom_22 : decode cX8_openRoom 22 = .ok (.istore 4, 2) := by decide +kernel
theorem dX8_openRoom_24 : decode cX8_openRoom 24 = .ok (.aload_n 0, 1) := by decide +kernel
theorem dX8_openRoom_25 : decode cX8_openRoom 25 = .ok (.dup, 1) := by decide +kernel
theorem dX8_openRoom_26 : decode cX8_openRoom 26 = .ok (.getfield 28, 3) := by decide +kernel
theorem dX8_openRoom_29 : decode cX8_openRoom 29 = .ok (.iload 4, 2) := by decide +kernel
theorem dX8_openRoom_31 : decode cX8_openRoom 31 = .ok (.isub, 1) := by decide +kernel
theorem dX8_openRoom_32 : decode cX8_openRoom 32 = .ok (.putfield 28, 3) := by decide +kernel
theorem dX8_openRoom_35 : decode cX8_openRoom 35 = .ok (.iconst 0, 1) := by decide +kernel
theorem dX8_openRoom_36 : decode cX8_openRoom 36 = .ok (.istore 5, 2) := by decide +kernel
theorem dX8_openRoom_38 : decode cX8_openRoom 38 = .ok (.iload 5, 2) := by decide +kernel
theorem dX8_openRoom_40 : decode cX8_openRoom 40 = .ok (.bipush 10, 2) := by decide +kernel
theorem dX8_openRoom_42 : decode cX8_openRoom 42 = .ok (.if_icmp .ge 41, 3) := by decide +kernel
theorem dX8_openRoom_45 : decode cX8_openRoom 45 = .ok (.aload_n 0, 1) := by decide +kernel
theorem dX8_openRoom_46 : decode cX8_openRoom 46 = .ok (.getfield 9, 3) := by decide +kernel
theorem dX8_openRoom_49 : decode cX8_openRoom 49 = .ok (.iload_n 3, 1) := by decide +kernel
theorem dX8_openRoom_50 : decode cX8_openRoom 50 = .ok (.iload 5, 2) := by decide +kernel
theorem dX8_openRoom_52 : decode cX8_openRoom 52 = .ok (.iadd, 1) := by decide +kernel
theorem dX8_openRoom_53 : decode cX8_openRoom 53 = .ok (.iload 5, 2) := by decide +kernel
theorem dX8_openRoom_55 : decode cX8_openRoom 55 = .ok (.iload 4, 2) := by decide +kernel
theorem dX8_openRoom_57 : decode cX8_openRoom 57 = .ok (.if_icmp .ge 18, 3) := by decide +kernel
theorem dX8_openRoom_60 : decode cX8_openRoom 60 = .ok (.aload_n 0, 1) := by decide +kernel
theorem dX8_openRoom_61 : decode cX8_openRoom 61 = .ok (.getfield 15, 3) := by decide +kernel
theorem dX8_openRoom_64 : decode cX8_openRoom 64 = .ok (.aload_n 0, 1) := by decide +kernel
theorem dX8_openRoom_65 : decode cX8_openRoom 65 = .ok (.getfield 28, 3) := by decide +kernel
theorem dX8_openRoom_68 : decode cX8_openRoom 68 = .ok (.iload 5, 2) := by decide +kernel
theorem dX8_openRoom_70 : decode cX8_openRoom 70 = .ok (.iadd, 1) := by decide +kernel
theorem dX8_openRoom_71 : decode cX8_openRoom 71 = .ok (.iaload, 1) := by decide +kernel
theorem dX8_openRoom_72 : decode cX8_openRoom 72 = .ok (.goto 4, 3) := by decide +kernel
theorem dX8_openRoom_75 : decode cX8_openRoom 75 = .ok (.iconst 0, 1) := by decide +kernel
theorem dX8_openRoom_76 : decode cX8_openRoom 76 = .ok (.iastore, 1) := by decide +kernel
theorem dX8_openRoom_77 : decode cX8_openRoom 77 = .ok (.iinc 5 1, 3) := by decide +kernel
theorem dX8_openRoom_80 : decode cX8_openRoom 80 = .ok (.goto (-42), 3) := by decide +kernel
theorem dX8_openRoom_83 : decode cX8_openRoom 83 = .ok (.aload_n 0, 1) := by decide +kernel
theorem dX8_openRoom_84 : decode cX8_openRoom 84 = .ok (.getfield 18, 3) := by decide +kernel
theorem dX8_openRoom_87 : decode cX8_openRoom 87 = .ok (.iload_n 2, 1) := by decide +kernel
theorem dX8_openRoom_88 : decode cX8_openRoom 88 = .ok (.aload_n 0, 1) := by decide +kernel
theorem dX8_openRoom_89 : decode cX8_openRoom 89 = .ok (.getfield 28, 3) := by decide +kernel
theorem dX8_openRoom_92 : decode cX8_openRoom 92 = .ok (.iastore, 1) := by decide +kernel
theorem dX8_openRoom_93 : decode cX8_openRoom 93 = .ok (.return_, 1) := by decide +kernel
theorem dX8_takeAnswer_0 : decode cX8_takeAnswer 0 = .ok (.aload_n 0, 1) := by decide +kernel
theorem dX8_takeAnswer_1 : decode cX8_takeAnswer 1 = .ok (.aload_n 0, 1) := by decide +kernel
theorem dX8_takeAnswer_2 : decode cX8_takeAnswer 2 = .ok (.getfield 18, 3) := by decide +kernel
theorem dX8_takeAnswer_5 : decode cX8_takeAnswer 5 = .ok (.aload_n 0, 1) := by decide +kernel
theorem dX8_takeAnswer_6 : decode cX8_takeAnswer 6 = .ok (.invokevirtual 37, 3) := by decide +kernel
theorem dX8_takeAnswer_9 : decode cX8_takeAnswer 9 = .ok (.iconst 1, 1) := by decide +kernel
theorem dX8_takeAnswer_10 : decode cX8_takeAnswer 10 = .ok (.iadd, 1) := by decide +kernel
theorem dX8_takeAnswer_11 : decode cX8_takeAnswer 11 = .ok (.iaload, 1) := by decide +kernel
theorem dX8_takeAnswer_12 : decode cX8_takeAnswer 12 = .ok (.putfield 28, 3) := by decide +kernel
theorem dX8_takeAnswer_15 : decode cX8_takeAnswer 15 = .ok (.aload_n 0, 1) := by decide +kernel
theorem dX8_takeAnswer_16 : decode cX8_takeAnswer 16 = .ok (.iload_n 1, 1) := by decide +kernel
theorem dX8_takeAnswer_17 : decode cX8_takeAnswer 17 = .ok (.invokevirtual 41, 3) := by decide +kernel
theorem dX8_takeAnswer_20 : decode cX8_takeAnswer 20 = .ok (.return_, 1) := by decide +kernel
theorem dX8_step_0 : decode cX8_step 0 = .ok (.aload_n 0, 1) := by decide +kernel
theorem dX8_step_1 : decode cX8_step 1 = .ok (.getfield 21, 3) := by decide +kernel
theorem dX8_step_4 : decode cX8_step 4 = .ok (.getfield 45, 3) := by decide +kernel
theorem dX8_step_7 : decode cX8_step 7 = .ok (.aload_n 0, 1) := by decide +kernel
theorem dX8_step_8 : decode cX8_step 8 = .ok (.getfield 21, 3) := by decide +kernel
theorem dX8_step_11 : decode cX8_step 11 = .ok (.getfield 48, 3) := by decide +kernel
theorem dX8_step_14 : decode cX8_step 14 = .ok (.iload_n 1, 1) := by decide +kernel
theorem dX8_step_15 : decode cX8_step 15 = .ok (.iaload, 1) := by decide +kernel
theorem dX8_step_16 : decode cX8_step 16 = .ok (.iload_n 2, 1) := by decide +kernel
theorem dX8_step_17 : decode cX8_step 17 = .ok (.iadd, 1) := by decide +kernel
theorem dX8_step_18 : decode cX8_step 18 = .ok (.iaload, 1) := by decide +kernel
theorem dX8_step_19 : decode cX8_step 19 = .ok (.istore_n 3, 1) := by decide +kernel
theorem dX8_step_20 : decode cX8_step 20 = .ok (.aload_n 0, 1) := by decide +kernel
theorem dX8_step_21 : decode cX8_step 21 = .ok (.getfield 21, 3) := by decide +kernel
theorem dX8_step_24 : decode cX8_step 24 = .ok (.getfield 51, 3) := by decide +kernel
theorem dX8_step_27 : decode cX8_step 27 = .ok (.aload_n 0, 1) := by decide +kernel
theorem dX8_step_28 : decode cX8_step 28 = .ok (.getfield 21, 3) := by decide +kernel
theorem dX8_step_31 : decode cX8_step 31 = .ok (.getfield 48, 3) := by decide +kernel
theorem dX8_step_34 : decode cX8_step 34 = .ok (.iload_n 1, 1) := by decide +kernel
theorem dX8_step_35 : decode cX8_step 35 = .ok (.iaload, 1) := by decide +kernel
theorem dX8_step_36 : decode cX8_step 36 = .ok (.iload_n 2, 1) := by decide +kernel
theorem dX8_step_37 : decode cX8_step 37 = .ok (.iadd, 1) := by decide +kernel
theorem dX8_step_38 : decode cX8_step 38 = .ok (.iaload, 1) := by decide +kernel
theorem dX8_step_39 : decode cX8_step 39 = .ok (.istore 4, 2) := by decide +kernel
theorem dX8_step_41 : decode cX8_step 41 = .ok (.iload_n 3, 1) := by decide +kernel
theorem dX8_step_42 : decode cX8_step 42 = .ok (.tableswitch 243 0 17 #[86, 95, 117, 243, 243, 243, 243, 243, 243, 139, 157, 164, 172, 181, 197, 206, 217, 228], 86) := by decide +kernel
theorem dX8_step_128 : decode cX8_step 128 = .ok (.aload_n 0, 1) := by decide +kernel
theorem dX8_step_129 : decode cX8_step 129 = .ok (.iload 4, 2) := by decide +kernel
theorem dX8_step_131 : decode cX8_step 131 = .ok (.invokevirtual 41, 3) := by decide +kernel
theorem dX8_step_134 : decode cX8_step 134 = .ok (.goto 164, 3) := by decide +kernel
theorem dX8_step_137 : decode cX8_step 137 = .ok (.aload_n 0, 1) := by decide +kernel
theorem dX8_step_138 : decode cX8_step 138 = .ok (.aload_n 0, 1) := by decide +kernel
theorem dX8_step_139 : decode cX8_step 139 = .ok (.getfield 9, 3) := by decide +kernel
theorem dX8_step_142 : decode cX8_step 142 = .ok (.aload_n 0, 1) := by decide +kernel
theorem dX8_step_143 : decode cX8_step 143 = .ok (.invokevirtual 37, 3) := by decide +kernel
theorem dX8_step_146 : decode cX8_step 146 = .ok (.bipush 10, 2) := by decide +kernel
theorem dX8_step_148 : decode cX8_step 148 = .ok (.imul, 1) := by decide +kernel
theorem dX8_step_149 : decode cX8_step 149 = .ok (.iload 4, 2) := by decide +kernel
theorem dX8_step_151 : decode cX8_step 151 = .ok (.iadd, 1) := by decide +kernel
theorem dX8_step_152 : decode cX8_step 152 = .ok (.iaload, 1) := by decide +kernel
theorem dX8_step_153 : decode cX8_step 153 = .ok (.invokevirtual 41, 3) := by decide +kernel
theorem dX8_step_156 : decode cX8_step 156 = .ok (.goto 142, 3) := by decide +kernel
theorem dX8_step_159 : decode cX8_step 159 = .ok (.aload_n 0, 1) := by decide +kernel
theorem dX8_step_160 : decode cX8_step 160 = .ok (.getfield 9, 3) := by decide +kernel
theorem dX8_step_163 : decode cX8_step 163 = .ok (.aload_n 0, 1) := by decide +kernel
theorem dX8_step_164 : decode cX8_step 164 = .ok (.invokevirtual 37, 3) := by decide +kernel
theorem dX8_step_167 : decode cX8_step 167 = .ok (.bipush 10, 2) := by decide +kernel
theorem dX8_step_169 : decode cX8_step 169 = .ok (.imul, 1) := by decide +kernel
theorem dX8_step_170 : decode cX8_step 170 = .ok (.iload 4, 2) := by decide +kernel
theorem dX8_step_172 : decode cX8_step 172 = .ok (.iadd, 1) := by decide +kernel
theorem dX8_step_173 : decode cX8_step 173 = .ok (.aload_n 0, 1) := by decide +kernel
theorem dX8_step_174 : decode cX8_step 174 = .ok (.invokevirtual 54, 3) := by decide +kernel
theorem dX8_step_177 : decode cX8_step 177 = .ok (.iastore, 1) := by decide +kernel
theorem dX8_step_178 : decode cX8_step 178 = .ok (.goto 120, 3) := by decide +kernel
theorem dX8_step_181 : decode cX8_step 181 = .ok (.aload_n 0, 1) := by decide +kernel
theorem dX8_step_182 : decode cX8_step 182 = .ok (.aload_n 0, 1) := by decide +kernel
theorem dX8_step_183 : decode cX8_step 183 = .ok (.getfield 15, 3) := by decide +kernel
theorem dX8_step_186 : decode cX8_step 186 = .ok (.aload_n 0, 1) := by decide +kernel
theorem dX8_step_187 : decode cX8_step 187 = .ok (.getfield 28, 3) := by decide +kernel
theorem dX8_step_190 : decode cX8_step 190 = .ok (.iconst 1, 1) := by decide +kernel
theorem dX8_step_191 : decode cX8_step 191 = .ok (.isub, 1) := by decide +kernel
theorem dX8_step_192 : decode cX8_step 192 = .ok (.iaload, 1) := by decide +kernel
theorem dX8_step_193 : decode cX8_step 193 = .ok (.invokevirtual 41, 3) := by decide +kernel
theorem dX8_step_196 : decode cX8_step 196 = .ok (.goto 102, 3) := by decide +kernel
theorem dX8_step_199 : decode cX8_step 199 = .ok (.aload_n 0, 1) := by decide +kernel
theorem dX8_step_200 : decode cX8_step 200 = .ok (.invokevirtual 57, 3) := by decide +kernel
theorem dX8_step_203 : decode cX8_step 203 = .ok (.goto 95, 3) := by decide +kernel
theorem dX8_step_206 : decode cX8_step 206 = .ok (.aload_n 0, 1) := by decide +kernel
theorem dX8_step_207 : decode cX8_step 207 = .ok (.invokevirtual 54, 3) := by decide +kernel
theorem dX8_step_210 : decode cX8_step 210 = .ok (.pop, 1) := by decide +kernel
theorem dX8_step_211 : decode cX8_step 211 = .ok (.goto 87, 3) := by decide +kernel
theorem dX8_step_214 : decode cX8_step 214 = .ok (.aload_n 0, 1) := by decide +kernel
theorem dX8_step_215 : decode cX8_step 215 = .ok (.iload 4, 2) := by decide +kernel
theorem dX8_step_217 : decode cX8_step 217 = .ok (.invokevirtual 60, 3) := by decide +kernel
theorem dX8_step_220 : decode cX8_step 220 = .ok (.goto 78, 3) := by decide +kernel
theorem dX8_step_223 : decode cX8_step 223 = .ok (.aload_n 0, 1) := by decide +kernel
theorem dX8_step_224 : decode cX8_step 224 = .ok (.invokevirtual 54, 3) := by decide +kernel
theorem dX8_step_227 : decode cX8_step 227 = .ok (.ifCond .ne 71, 3) := by decide +kernel
theorem dX8_step_230 : decode cX8_step 230 = .ok (.aload_n 0, 1) := by decide +kernel
theorem dX8_step_231 : decode cX8_step 231 = .ok (.iload 4, 2) := by decide +kernel
theorem dX8_step_233 : decode cX8_step 233 = .ok (.invokevirtual 60, 3) := by decide +kernel
theorem dX8_step_236 : decode cX8_step 236 = .ok (.goto 62, 3) := by decide +kernel
theorem dX8_step_239 : decode cX8_step 239 = .ok (.aload_n 0, 1) := by decide +kernel
theorem dX8_step_240 : decode cX8_step 240 = .ok (.iload 4, 2) := by decide +kernel
theorem dX8_step_242 : decode cX8_step 242 = .ok (.invokevirtual 63, 3) := by decide +kernel
theorem dX8_step_245 : decode cX8_step 245 = .ok (.goto 53, 3) := by decide +kernel
theorem dX8_step_248 : decode cX8_step 248 = .ok (.aload_n 0, 1) := by decide +kernel
theorem dX8_step_249 : decode cX8_step 249 = .ok (.aload_n 0, 1) := by decide +kernel
theorem dX8_step_250 : decode cX8_step 250 = .ok (.invokevirtual 54, 3) := by decide +kernel
theorem dX8_step_253 : decode cX8_step 253 = .ok (.invokevirtual 66, 3) := by decide +kernel
theorem dX8_step_256 : decode cX8_step 256 = .ok (.goto 42, 3) := by decide +kernel
theorem dX8_step_259 : decode cX8_step 259 = .ok (.aload_n 0, 1) := by decide +kernel
theorem dX8_step_260 : decode cX8_step 260 = .ok (.aload_n 0, 1) := by decide +kernel
theorem dX8_step_261 : decode cX8_step 261 = .ok (.invokevirtual 54, 3) := by decide +kernel
theorem dX8_step_264 : decode cX8_step 264 = .ok (.invokevirtual 69, 3) := by decide +kernel
theorem dX8_step_267 : decode cX8_step 267 = .ok (.goto 31, 3) := by decide +kernel
theorem dX8_step_270 : decode cX8_step 270 = .ok (.aload_n 0, 1) := by decide +kernel
theorem dX8_step_271 : decode cX8_step 271 = .ok (.aload_n 0, 1) := by decide +kernel
theorem dX8_step_272 : decode cX8_step 272 = .ok (.invokevirtual 54, 3) := by decide +kernel
theorem dX8_step_275 : decode cX8_step 275 = .ok (.aload_n 0, 1) := by decide +kernel
theorem dX8_step_276 : decode cX8_step 276 = .ok (.invokevirtual 54, 3) := by decide +kernel
theorem dX8_step_279 : decode cX8_step 279 = .ok (.invokevirtual 72, 3) := by decide +kernel
theorem dX8_step_282 : decode cX8_step 282 = .ok (.goto 16, 3) := by decide +kernel
theorem dX8_step_285 : decode cX8_step 285 = .ok (.aload_n 0, 1) := by decide +kernel
theorem dX8_step_286 : decode cX8_step 286 = .ok (.iload_n 3, 1) := by decide +kernel
theorem dX8_step_287 : decode cX8_step 287 = .ok (.aload_n 0, 1) := by decide +kernel
theorem dX8_step_288 : decode cX8_step 288 = .ok (.invokevirtual 54, 3) := by decide +kernel
theorem dX8_step_291 : decode cX8_step 291 = .ok (.aload_n 0, 1) := by decide +kernel
theorem dX8_step_292 : decode cX8_step 292 = .ok (.invokevirtual 54, 3) := by decide +kernel
theorem dX8_step_295 : decode cX8_step 295 = .ok (.invokevirtual 76, 3) := by decide +kernel
theorem dX8_step_298 : decode cX8_step 298 = .ok (.return_, 1) := by decide +kernel
theorem dX8_push_0 : decode cX8_push 0 = .ok (.aload_n 0, 1) := by decide +kernel
theorem dX8_push_1 : decode cX8_push 1 = .ok (.getfield 15, 3) := by decide +kernel
theorem dX8_push_4 : decode cX8_push 4 = .ok (.aload_n 0, 1) := by decide +kernel
theorem dX8_push_5 : decode cX8_push 5 = .ok (.getfield 28, 3) := by decide +kernel
theorem dX8_push_8 : decode cX8_push 8 = .ok (.iload_n 1, 1) := by decide +kernel
theorem dX8_push_9 : decode cX8_push 9 = .ok (.iastore, 1) := by decide +kernel
theorem dX8_push_10 : decode cX8_push 10 = .ok (.aload_n 0, 1) := by decide +kernel
theorem dX8_push_11 : decode cX8_push 11 = .ok (.dup, 1) := by decide +kernel
theorem dX8_push_12 : decode cX8_push 12 = .ok (.getfield 28, 3) := by decide +kernel
theorem dX8_push_15 : decode cX8_push 15 = .ok (.iconst 1, 1) := by decide +kernel
theorem dX8_push_16 : decode cX8_push 16 = .ok (.iadd, 1) := by decide +kernel
theorem dX8_push_17 : decode cX8_push 17 = .ok (.putfield 28, 3) := by decide +kernel
theorem dX8_push_20 : decode cX8_push 20 = .ok (.return_, 1) := by decide +kernel
theorem dX8_pop_0 : decode cX8_pop 0 = .ok (.aload_n 0, 1) := by decide +kernel
theorem dX8_pop_1 : decode cX8_pop 1 = .ok (.dup, 1) := by decide +kernel
theorem dX8_pop_2 : decode cX8_pop 2 = .ok (.getfield 28, 3) := by decide +kernel
theorem dX8_pop_5 : decode cX8_pop 5 = .ok (.iconst 1, 1) := by decide +kernel
theorem dX8_pop_6 : decode cX8_pop 6 = .ok (.isub, 1) := by decide +kernel
theorem dX8_pop_7 : decode cX8_pop 7 = .ok (.putfield 28, 3) := by decide +kernel
theorem dX8_pop_10 : decode cX8_pop 10 = .ok (.aload_n 0, 1) := by decide +kernel
theorem dX8_pop_11 : decode cX8_pop 11 = .ok (.getfield 15, 3) := by decide +kernel
theorem dX8_pop_14 : decode cX8_pop 14 = .ok (.aload_n 0, 1) := by decide +kernel
theorem dX8_pop_15 : decode cX8_pop 15 = .ok (.getfield 28, 3) := by decide +kernel
theorem dX8_pop_18 : decode cX8_pop 18 = .ok (.iaload, 1) := by decide +kernel
theorem dX8_pop_19 : decode cX8_pop 19 = .ok (.ireturn, 1) := by decide +kernel
theorem dX8_flip_0 : decode cX8_flip 0 = .ok (.aload_n 0, 1) := by decide +kernel
theorem dX8_flip_1 : decode cX8_flip 1 = .ok (.invokevirtual 54, 3) := by decide +kernel
theorem dX8_flip_4 : decode cX8_flip 4 = .ok (.istore_n 1, 1) := by decide +kernel
theorem dX8_flip_5 : decode cX8_flip 5 = .ok (.aload_n 0, 1) := by decide +kernel
theorem dX8_flip_6 : decode cX8_flip 6 = .ok (.invokevirtual 54, 3) := by decide +kernel
theorem dX8_flip_9 : decode cX8_flip 9 = .ok (.istore_n 2, 1) := by decide +kernel
theorem dX8_flip_10 : decode cX8_flip 10 = .ok (.aload_n 0, 1) := by decide +kernel
theorem dX8_flip_11 : decode cX8_flip 11 = .ok (.iload_n 1, 1) := by decide +kernel
theorem dX8_flip_12 : decode cX8_flip 12 = .ok (.invokevirtual 41, 3) := by decide +kernel
theorem dX8_flip_15 : decode cX8_flip 15 = .ok (.aload_n 0, 1) := by decide +kernel
theorem dX8_flip_16 : decode cX8_flip 16 = .ok (.iload_n 2, 1) := by decide +kernel
theorem dX8_flip_17 : decode cX8_flip 17 = .ok (.invokevirtual 41, 3) := by decide +kernel
theorem dX8_flip_20 : decode cX8_flip 20 = .ok (.return_, 1) := by decide +kernel
theorem dX8_fetch_0 : decode cX8_fetch 0 = .ok (.aload_n 0, 1) := by decide +kernel
theorem dX8_fetch_1 : decode cX8_fetch 1 = .ok (.iload_n 1, 1) := by decide +kernel
theorem dX8_fetch_2 : decode cX8_fetch 2 = .ok (.invokevirtual 80, 3) := by decide +kernel
theorem dX8_fetch_5 : decode cX8_fetch 5 = .ok (.ifCond .eq 13, 3) := by decide +kernel
theorem dX8_fetch_8 : decode cX8_fetch 8 = .ok (.aload_n 0, 1) := by decide +kernel
theorem dX8_fetch_9 : decode cX8_fetch 9 = .ok (.aload_n 0, 1) := by decide +kernel
theorem dX8_fetch_10 : decode cX8_fetch 10 = .ok (.getfield 84, 3) := by decide +kernel
theorem dX8_fetch_13 : decode cX8_fetch 13 = .ok (.iload_n 1, 1) := by decide +kernel
theorem dX8_fetch_14 : decode cX8_fetch 14 = .ok (.iaload, 1) := by decide +kernel
theorem dX8_fetch_15 : decode cX8_fetch 15 = .ok (.invokevirtual 41, 3) := by decide +kernel
theorem dX8_fetch_18 : decode cX8_fetch 18 = .ok (.return_, 1) := by decide +kernel
theorem dX8_store_0 : decode cX8_store 0 = .ok (.aload_n 0, 1) := by decide +kernel
theorem dX8_store_1 : decode cX8_store 1 = .ok (.iload_n 1, 1) := by decide +kernel
theorem dX8_store_2 : decode cX8_store 2 = .ok (.invokevirtual 80, 3) := by decide +kernel
theorem dX8_store_5 : decode cX8_store 5 = .ok (.ifCond .eq 10, 3) := by decide +kernel
theorem dX8_store_8 : decode cX8_store 8 = .ok (.aload_n 0, 1) := by decide +kernel
theorem dX8_store_9 : decode cX8_store 9 = .ok (.getfield 84, 3) := by decide +kernel
theorem dX8_store_12 : decode cX8_store 12 = .ok (.iload_n 1, 1) := by decide +kernel
theorem dX8_store_13 : decode cX8_store 13 = .ok (.iload_n 2, 1) := by decide +kernel
theorem dX8_store_14 : decode cX8_store 14 = .ok (.iastore, 1) := by decide +kernel
theorem dX8_store_15 : decode cX8_store 15 = .ok (.return_, 1) := by decide +kernel
theorem dX8_work_0 : decode cX8_work 0 = .ok (.aload_n 0, 1) := by decide +kernel
theorem dX8_work_1 : decode cX8_work 1 = .ok (.iload_n 1, 1) := by decide +kernel
theorem dX8_work_2 : decode cX8_work 2 = .ok (.iload_n 2, 1) := by decide +kernel
theorem dX8_work_3 : decode cX8_work 3 = .ok (.invokevirtual 87, 3) := by decide +kernel
theorem dX8_work_6 : decode cX8_work 6 = .ok (.ifCond .eq 13, 3) := by decide +kernel
theorem dX8_work_9 : decode cX8_work 9 = .ok (.aload_n 0, 1) := by decide +kernel
theorem dX8_work_10 : decode cX8_work 10 = .ok (.iload_n 1, 1) := by decide +kernel
theorem dX8_work_11 : decode cX8_work 11 = .ok (.iload_n 3, 1) := by decide +kernel
theorem dX8_work_12 : decode cX8_work 12 = .ok (.iload_n 2, 1) := by decide +kernel
theorem dX8_work_13 : decode cX8_work 13 = .ok (.invokestatic 91, 3) := by decide +kernel
theorem dX8_work_16 : decode cX8_work 16 = .ok (.invokevirtual 41, 3) := by decide +kernel
theorem dX8_work_19 : decode cX8_work 19 = .ok (.return_, 1) := by decide +kernel
theorem dX9_init_0 : decode cX9_init 0 = .ok (.aload_n 0, 1) := by decide +kernel
theorem dX9_init_1 : decode cX9_init 1 = .ok (.invokespecial 3, 3) := by decide +kernel
theorem dX9_init_4 : decode cX9_init 4 = .ok (.aload_n 0, 1) := by decide +kernel
theorem dX9_init_5 : decode cX9_init 5 = .ok (.new 9, 3) := by decide +kernel
theorem dX9_init_8 : decode cX9_init 8 = .ok (.dup, 1) := by decide +kernel
theorem dX9_init_9 : decode cX9_init 9 = .ok (.invokespecial 11, 3) := by decide +kernel
theorem dX9_init_12 : decode cX9_init 12 = .ok (.putfield 12, 3) := by decide +kernel
theorem dX9_init_15 : decode cX9_init 15 = .ok (.aload_n 0, 1) := by decide +kernel
theorem dX9_init_16 : decode cX9_init 16 = .ok (.new 18, 3) := by decide +kernel
theorem dX9_init_19 : decode cX9_init 19 = .ok (.dup, 1) := by decide +kernel
theorem dX9_init_20 : decode cX9_init 20 = .ok (.invokespecial 20, 3) := by decide +kernel
theorem dX9_init_23 : decode cX9_init 23 = .ok (.putfield 21, 3) := by decide +kernel
theorem dX9_init_26 : decode cX9_init 26 = .ok (.aload_n 0, 1) := by decide +kernel
theorem dX9_init_27 : decode cX9_init 27 = .ok (.new 25, 3) := by decide +kernel
theorem dX9_init_30 : decode cX9_init 30 = .ok (.dup, 1) := by decide +kernel
theorem dX9_init_31 : decode cX9_init 31 = .ok (.invokespecial 27, 3) := by decide +kernel
theorem dX9_init_34 : decode cX9_init 34 = .ok (.putfield 28, 3) := by decide +kernel
theorem dX9_init_37 : decode cX9_init 37 = .ok (.aload_n 0, 1) := by decide +kernel
theorem dX9_init_38 : decode cX9_init 38 = .ok (.new 32, 3) := by decide +kernel
theorem dX9_init_41 : decode cX9_init 41 = .ok (.dup, 1) := by decide +kernel
theorem dX9_init_42 : decode cX9_init 42 = .ok (.invokespecial 34, 3) := by decide +kernel
theorem dX9_init_45 : decode cX9_init 45 = .ok (.putfield 35, 3) := by decide +kernel
theorem dX9_init_48 : decode cX9_init 48 = .ok (.aload_n 0, 1) := by decide +kernel
theorem dX9_init_49 : decode cX9_init 49 = .ok (.bipush 12, 2) := by decide +kernel
theorem dX9_init_51 : decode cX9_init 51 = .ok (.newarray .int, 2) := by decide +kernel
theorem dX9_init_53 : decode cX9_init 53 = .ok (.putfield 39, 3) := by decide +kernel
theorem dX9_init_56 : decode cX9_init 56 = .ok (.aload_n 0, 1) := by decide +kernel
theorem dX9_init_57 : decode cX9_init 57 = .ok (.aload_n 1, 1) := by decide +kernel
theorem dX9_init_58 : decode cX9_init 58 = .ok (.putfield 43, 3) := by decide +kernel
theorem dX9_init_61 : decode cX9_init 61 = .ok (.aload_n 0, 1) := by decide +kernel
theorem dX9_init_62 : decode cX9_init 62 = .ok (.new 47, 3) := by decide +kernel
theorem dX9_init_65 : decode cX9_init 65 = .ok (.dup, 1) := by decide +kernel
theorem dX9_init_66 : decode cX9_init 66 = .ok (.aload_n 0, 1) := by decide +kernel
theorem dX9_init_67 : decode cX9_init 67 = .ok (.getfield 12, 3) := by decide +kernel
theorem dX9_init_70 : decode cX9_init 70 = .ok (.aload_n 0, 1) := by decide +kernel
theorem dX9_init_71 : decode cX9_init 71 = .ok (.getfield 28, 3) := by decide +kernel
theorem dX9_init_74 : decode cX9_init 74 = .ok (.aload_n 0, 1) := by decide +kernel
theorem dX9_init_75 : decode cX9_init 75 = .ok (.getfield 35, 3) := by decide +kernel
theorem dX9_init_78 : decode cX9_init 78 = .ok (.invokespecial 49, 3) := by decide +kernel
theorem dX9_init_81 : decode cX9_init 81 = .ok (.putfield 52, 3) := by decide +kernel
theorem dX9_init_84 : decode cX9_init 84 = .ok (.return_, 1) := by decide +kernel
theorem dX9_begin_0 : decode cX9_begin 0 = .ok (.aload_n 0, 1) := by decide +kernel
theorem dX9_begin_1 : decode cX9_begin 1 = .ok (.iload_n 1, 1) := by decide +kernel
theorem dX9_begin_2 : decode cX9_begin 2 = .ok (.putfield 56, 3) := by decide +kernel
theorem dX9_begin_5 : decode cX9_begin 5 = .ok (.aload_n 0, 1) := by decide +kernel
theorem dX9_begin_6 : decode cX9_begin 6 = .ok (.getfield 35, 3) := by decide +kernel
theorem dX9_begin_9 : decode cX9_begin 9 = .ok (.iconst 0, 1) := by decide +kernel
theorem dX9_begin_10 : decode cX9_begin 10 = .ok (.putfield 60, 3) := by decide +kernel
theorem dX9_begin_13 : decode cX9_begin 13 = .ok (.return_, 1) := by decide +kernel
theorem dX9_turnFunc_0 : decode cX9_turnFunc 0 = .ok (.aload_n 0, 1) := by decide +kernel
theorem dX9_turnFunc_1 : decode cX9_turnFunc 1 = .ok (.getfield 12, 3) := by decide +kernel
theorem dX9_turnFunc_4 : decode cX9_turnFunc 4 = .ok (.aload_n 0, 1) := by decide +kernel
theorem dX9_turnFunc_5 : decode cX9_turnFunc 5 = .ok (.getfield 43, 3) := by decide +kernel
theorem dX9_turnFunc_8 : decode cX9_turnFunc 8 = .ok (.iload_n 1, 1) := by decide +kernel
theorem dX9_turnFunc_9 : decode cX9_turnFunc 9 = .ok (.invokevirtual 63, 3) := by decide +kernel
theorem dX9_turnFunc_12 : decode cX9_turnFunc 12 = .ok (.aload_n 0, 1) := by decide +kernel
theorem dX9_turnFunc_13 : decode cX9_turnFunc 13 = .ok (.getfield 12, 3) := by decide +kernel
theorem dX9_turnFunc_16 : decode cX9_turnFunc 16 = .ok (.invokevirtual 67, 3) := by decide +kernel
theorem dX9_turnFunc_19 : decode cX9_turnFunc 19 = .ok (.aload_n 0, 1) := by decide +kernel
theorem dX9_turnFunc_20 : decode cX9_turnFunc 20 = .ok (.invokevirtual 70, 3) := by decide +kernel
theorem dX9_turnFunc_23 : decode cX9_turnFunc 23 = .ok (.aload_n 0, 1) := by decide +kernel
theorem dX9_turnFunc_24 : decode cX9_turnFunc 24 = .ok (.getfield 39, 3) := by decide +kernel
theorem dX9_turnFunc_27 : decode cX9_turnFunc 27 = .ok (.iload_n 1, 1) := by decide +kernel
theorem dX9_turnFunc_28 : decode cX9_turnFunc 28 = .ok (.aload_n 0, 1) := by decide +kernel
theorem dX9_turnFunc_29 : decode cX9_turnFunc 29 = .ok (.getfield 12, 3) := by decide +kernel
theorem dX9_turnFunc_32 : decode cX9_turnFunc 32 = .ok (.getfield 73, 3) := by decide +kernel
theorem dX9_turnFunc_35 : decode cX9_turnFunc 35 = .ok (.iastore, 1) := by decide +kernel
theorem dX9_turnFunc_36 : decode cX9_turnFunc 36 = .ok (.aload_n 0, 1) := by decide +kernel
theorem dX9_turnFunc_37 : decode cX9_turnFunc 37 = .ok (.getfield 28, 3) := by decide +kernel
theorem dX9_turnFunc_40 : decode cX9_turnFunc 40 = .ok (.iload_n 1, 1) := by decide +kernel
theorem dX9_turnFunc_41 : decode cX9_turnFunc 41 = .ok (.aload_n 0, 1) := by decide +kernel
theorem dX9_turnFunc_42 : decode cX9_turnFunc 42 = .ok (.getfield 12, 3) := by decide +kernel
theorem dX9_turnFunc_45 : decode cX9_turnFunc 45 = .ok (.aload_n 0, 1) := by decide +kernel
theorem dX9_turnFunc_46 : decode cX9_turnFunc 46 = .ok (.getfield 21, 3) := by decide +kernel
theorem dX9_turnFunc_49 : decode cX9_turnFunc 49 = .ok (.aload_n 0, 1) := by decide +kernel
theorem dX9_turnFunc_50 : decode cX9_turnFunc 50 = .ok (.getfield 56, 3) := by decide +kernel
theorem dX9_turnFunc_53 : decode cX9_turnFunc 53 = .ok (.iconst 2, 1) := by decide +kernel
theorem dX9_turnFunc_54 : decode cX9_turnFunc 54 = .ok (.isub, 1) := by decide +kernel
theorem dX9_turnFunc_55 : decode cX9_turnFunc 55 = .ok (.invokevirtual 74, 3) := by decide +kernel
theorem dX9_turnFunc_58 : decode cX9_turnFunc 58 = .ok (.aload_n 0, 1) := by decide +kernel
theorem dX9_turnFunc_59 : decode cX9_turnFunc 59 = .ok (.getfield 52, 3) := by decide +kernel
theorem dX9_turnFunc_62 : decode cX9_turnFunc 62 = .ok (.iload_n 1, 1) := by decide +kernel
theorem dX9_turnFunc_63 : decode cX9_turnFunc 63 = .ok (.aload_n 0, 1) := by decide +kernel
theorem dX9_turnFunc_64 : decode cX9_turnFunc 64 = .ok (.getfield 56, 3) := by decide +kernel
theorem dX9_turnFunc_67 : decode cX9_turnFunc 67 = .ok (.invokevirtual 78, 3) := by decide +kernel
theorem dX9_turnFunc_70 : decode cX9_turnFunc 70 = .ok (.aload_n 0, 1) := by decide +kernel
theorem dX9_turnFunc_71 : decode cX9_turnFunc 71 = .ok (.getfield 52, 3) := by decide +kernel
theorem dX9_turnFunc_74 : decode cX9_turnFunc 74 = .ok (.aload_n 0, 1) := by decide +kernel
theorem dX9_turnFunc_75 : decode cX9_turnFunc 75 = .ok (.getfield 43, 3) := by decide +kernel
theorem dX9_turnFunc_78 : decode cX9_turnFunc 78 = .ok (.aload_n 0, 1) := by decide +kernel
theorem dX9_turnFunc_79 : decode cX9_turnFunc 79 = .ok (.getfield 21, 3) := by decide +kernel
theorem dX9_turnFunc_82 : decode cX9_turnFunc 82 = .ok (.getfield 82, 3) := by decide +kernel
theorem dX9_turnFunc_85 : decode cX9_turnFunc 85 = .ok (.iconst 0, 1) := by decide +kernel
theorem dX9_turnFunc_86 : decode cX9_turnFunc 86 = .ok (.iaload, 1) := by decide +kernel
theorem dX9_turnFunc_87 : decode cX9_turnFunc 87 = .ok (.invokevirtual 85, 3) := by decide +kernel
theorem dX9_turnFunc_90 : decode cX9_turnFunc 90 = .ok (.aload_n 0, 1) := by decide +kernel
theorem dX9_turnFunc_91 : decode cX9_turnFunc 91 = .ok (.getfield 52, 3) := by decide +kernel
theorem dX9_turnFunc_94 : decode cX9_turnFunc 94 = .ok (.invokevirtual 88, 3) := by decide +kernel
theorem dX9_turnFunc_97 : decode cX9_turnFunc 97 = .ok (.return_, 1) := by decide +kernel
theorem dX9_leaveOut_0 : decode cX9_leaveOut 0 = .ok (.aload_n 0, 1) := by decide +kernel
theorem dX9_leaveOut_1 : decode cX9_leaveOut 1 = .ok (.getfield 12, 3) := by decide +kernel
theorem dX9_leaveOut_4 : decode cX9_leaveOut 4 = .ok (.getfield 73, 3) := by decide +kernel
theorem dX9_leaveOut_7 : decode cX9_leaveOut 7 = .ok (.iconst 1, 1) := by decide +kernel
theorem dX9_leaveOut_8 : decode cX9_leaveOut 8 = .ok (.iadd, 1) := by decide +kernel
theorem dX9_leaveOut_9 : decode cX9_leaveOut 9 = .ok (.istore_n 1, 1) := by decide +kernel
theorem dX9_leaveOut_10 : decode cX9_leaveOut 10 = .ok (.iconst 0, 1) := by decide +kernel
theorem dX9_leaveOut_11 : decode cX9_leaveOut 11 = .ok (.istore_n 2, 1) := by decide +kernel
theorem dX9_leaveOut_12 : decode cX9_leaveOut 12 = .ok (.iload_n 2, 1) := by decide +kernel
theorem dX9_leaveOut_13 : decode cX9_leaveOut 13 = .ok (.iload_n 1, 1) := by decide +kernel
theorem dX9_leaveOut_14 : decode cX9_leaveOut 14 = .ok (.if_icmp .ge 35, 3) := by decide +kernel
theorem dX9_leaveOut_17 : decode cX9_leaveOut 17 = .ok (.aload_n 0, 1) := by decide +kernel
theorem dX9_leaveOut_18 : decode cX9_leaveOut 18 = .ok (.getfield 21, 3) := by decide +kernel
theorem dX9_leaveOut_21 : decode cX9_leaveOut 21 = .ok (.aload_n 0, 1) := by decide +kernel
theorem dX9_leaveOut_22 : decode cX9_leaveOut 22 = .ok (.getfield 12, 3) := by decide +kernel
theorem dX9_leaveOut_25 : decode cX9_leaveOut 25 = .ok (.invokevirtual 91, 3) := by decide +kernel
theorem dX9_leaveOut_28 : decode cX9_leaveOut 28 = .ok (.aload_n 0, 1) := by decide +kernel
theorem dX9_leaveOut_29 : decode cX9_leaveOut 29 = .ok (.getfield 12, 3) := by decide +kernel
theorem dX9_leaveOut_32 : decode cX9_leaveOut 32 = .ok (.aload_n 0, 1) := by decide +kernel
theorem dX9_leaveOut_33 : decode cX9_leaveOut 33 = .ok (.getfield 21, 3) := by decide +kernel
theorem dX9_leaveOut_36 : decode cX9_leaveOut 36 = .ok (.invokevirtual 95, 3) := by decide +kernel
theorem dX9_leaveOut_39 : decode cX9_leaveOut 39 = .ok (.ifCond .ne 4, 3) := by decide +kernel
theorem dX9_leaveOut_42 : decode cX9_leaveOut 42 = .ok (.return_, 1) := by decide +kernel
theorem dX9_leaveOut_43 : decode cX9_leaveOut 43 = .ok (.iinc 2 1, 3) := by decide +kernel
theorem dX9_leaveOut_46 : decode cX9_leaveOut 46 = .ok (.goto (-34), 3) := by decide +kernel
theorem dX9_leaveOut_49 : decode cX9_leaveOut 49 = .ok (.return_, 1) := by decide +kernel
theorem dX10_init_0 : decode cX10_init 0 = .ok (.aload_n 0, 1) := by decide +kernel
theorem dX10_init_1 : decode cX10_init 1 = .ok (.invokespecial 3, 3) := by decide +kernel
theorem dX10_init_4 : decode cX10_init 4 = .ok (.aload_n 0, 1) := by decide +kernel
theorem dX10_init_5 : decode cX10_init 5 = .ok (.sipush 300, 3) := by decide +kernel
theorem dX10_init_8 : decode cX10_init 8 = .ok (.newarray .int, 2) := by decide +kernel
theorem dX10_init_10 : decode cX10_init 10 = .ok (.putfield 9, 3) := by decide +kernel
theorem dX10_init_13 : decode cX10_init 13 = .ok (.aload_n 0, 1) := by decide +kernel
theorem dX10_init_14 : decode cX10_init 14 = .ok (.aload_n 1, 1) := by decide +kernel
theorem dX10_init_15 : decode cX10_init 15 = .ok (.putfield 15, 3) := by decide +kernel
theorem dX10_init_18 : decode cX10_init 18 = .ok (.aload_n 0, 1) := by decide +kernel
theorem dX10_init_19 : decode cX10_init 19 = .ok (.aload_n 2, 1) := by decide +kernel
theorem dX10_init_20 : decode cX10_init 20 = .ok (.putfield 19, 3) := by decide +kernel
theorem dX10_init_23 : decode cX10_init 23 = .ok (.aload_n 0, 1) := by decide +kernel
theorem dX10_init_24 : decode cX10_init 24 = .ok (.aload_n 3, 1) := by decide +kernel
theorem dX10_init_25 : decode cX10_init 25 = .ok (.putfield 23, 3) := by decide +kernel
theorem dX10_init_28 : decode cX10_init 28 = .ok (.return_, 1) := by decide +kernel
theorem dX10_begin_0 : decode cX10_begin 0 = .ok (.aload_n 0, 1) := by decide +kernel
theorem dX10_begin_1 : decode cX10_begin 1 = .ok (.iload_n 1, 1) := by decide +kernel
theorem dX10_begin_2 : decode cX10_begin 2 = .ok (.putfield 27, 3) := by decide +kernel
theorem dX10_begin_5 : decode cX10_begin 5 = .ok (.aload_n 0, 1) := by decide +kernel
theorem dX10_begin_6 : decode cX10_begin 6 = .ok (.iload_n 2, 1) := by decide +kernel
theorem dX10_begin_7 : decode cX10_begin 7 = .ok (.iconst 2, 1) := by decide +kernel
theorem dX10_begin_8 : decode cX10_begin 8 = .ok (.isub, 1) := by decide +kernel
theorem dX10_begin_9 : decode cX10_begin 9 = .ok (.putfield 31, 3) := by decide +kernel
theorem dX10_begin_12 : decode cX10_begin 12 = .ok (.aload_n 0, 1) := by decide +kernel
theorem dX10_begin_13 : decode cX10_begin 13 = .ok (.iload_n 2, 1) := by decide +kernel
theorem dX10_begin_14 : decode cX10_begin 14 = .ok (.iconst 1, 1) := by decide +kernel
theorem dX10_begin_15 : decode cX10_begin 15 = .ok (.isub, 1) := by decide +kernel
theorem dX10_begin_16 : decode cX10_begin 16 = .ok (.putfield 34, 3) := by decide +kernel
theorem dX10_begin_19 : decode cX10_begin 19 = .ok (.aload_n 0, 1) := by decide +kernel
theorem dX10_begin_20 : decode cX10_begin 20 = .ok (.getfield 23, 3) := by decide +kernel
theorem dX10_begin_23 : decode cX10_begin 23 = .ok (.iload_n 1, 1) := by decide +kernel
theorem dX10_begin_24 : decode cX10_begin 24 = .ok (.aload_n 0, 1) := by decide +kernel
theorem dX10_begin_25 : decode cX10_begin 25 = .ok (.getfield 15, 3) := by decide +kernel
theorem dX10_begin_28 : decode cX10_begin 28 = .ok (.getfield 37, 3) := by decide +kernel
theorem dX10_begin_31 : decode cX10_begin 31 = .ok (.invokevirtual 42, 3) := by decide +kernel
theorem dX10_begin_34 : decode cX10_begin 34 = .ok (.return_, 1) := by decide +kernel
theorem dX10_writeEntry_0 : decode cX10_writeEntry 0 = .ok (.iconst 0, 1) := by decide +kernel
theorem dX10_writeEntry_1 : decode cX10_writeEntry 1 = .ok (.istore_n 3, 1) := by decide +kernel
theorem dX10_writeEntry_2 : decode cX10_writeEntry 2 = .ok (.iload_n 3, 1) := by decide +kernel
theorem dX10_writeEntry_3 : decode cX10_writeEntry 3 = .ok (.aload_n 1, 1) := by decide +kernel
theorem dX10_writeEntry_4 : decode cX10_writeEntry 4 = .ok (.getfield 48, 3) := by decide +kernel
theorem dX10_writeEntry_7 : decode cX10_writeEntry 7 = .ok (.aload_n 0, 1) := by decide +kernel
theorem dX10_writeEntry_8 : decode cX10_writeEntry 8 = .ok (.getfield 27, 3) := by decide +kernel
theorem dX10_writeEntry_11 : decode cX10_writeEntry 11 = .ok (.iaload, 1) := by decide +kernel
theorem dX10_writeEntry_12 : decode cX10_writeEntry 12 = .ok (.if_icmp .ge 75, 3) := by decide +kernel
theorem dX10_writeEntry_15 : decode cX10_writeEntry 15 = .ok (.iload_n 2, 1) := by decide +kernel
theorem dX10_writeEntry_16 : decode cX10_writeEntry 16 = .ok (.iload_n 3, 1) := by decide +kernel
theorem dX10_writeEntry_17 : decode cX10_writeEntry 17 = .ok (.ishr, 1) := by decide +kernel
theorem dX10_writeEntry_18 : decode cX10_writeEntry 18 = .ok (.iconst 1, 1) := by decide +kernel
theorem dX10_writeEntry_19 : decode cX10_writeEntry 19 = .ok (.iand, 1) := by decide +kernel
theorem dX10_writeEntry_20 : decode cX10_writeEntry 20 = .ok (.ifCond .eq 61, 3) := by decide +kernel
theorem dX10_writeEntry_23 : decode cX10_writeEntry 23 = .ok (.iload_n 3, 1) := by decide +kernel
theorem dX10_writeEntry_24 : decode cX10_writeEntry 24 = .ok (.aload_n 1, 1) := by decide +kernel
theorem dX10_writeEntry_25 : decode cX10_writeEntry 25 = .ok (.getfield 53, 3) := by decide +kernel
theorem dX10_writeEntry_28 : decode cX10_writeEntry 28 = .ok (.aload_n 0, 1) := by decide +kernel
theorem dX10_writeEntry_29 : decode cX10_writeEntry 29 = .ok (.getfield 27, 3) := by decide +kernel
theorem dX10_writeEntry_32 : decode cX10_writeEntry 32 = .ok (.iaload, 1) := by decide +kernel
theorem dX10_writeEntry_33 : decode cX10_writeEntry 33 = .ok (.if_icmp .ge 25, 3) := by decide +kernel
theorem dX10_writeEntry_36 : decode cX10_writeEntry 36 = .ok (.aload_n 0, 1) := by decide +kernel
theorem dX10_writeEntry_37 : decode cX10_writeEntry 37 = .ok (.getfield 23, 3) := by decide +kernel
theorem dX10_writeEntry_40 : decode cX10_writeEntry 40 = .ok (.aload_n 0, 1) := by decide +kernel
theorem dX10_writeEntry_41 : decode cX10_writeEntry 41 = .ok (.getfield 27, 3) := by decide +kernel
theorem dX10_writeEntry_44 : decode cX10_writeEntry 44 = .ok (.bipush 11, 2) := by decide +kernel
theorem dX10_writeEntry_46 : decode cX10_writeEntry 46 = .ok (.aload_n 0, 1) := by decide +kernel
theorem dX10_writeEntry_47 : decode cX10_writeEntry 47 = .ok (.iload_n 3, 1) := by decide +kernel
theorem dX10_writeEntry_48 : decode cX10_writeEntry 48 = .ok (.invokevirtual 56, 3) := by decide +kernel
theorem dX10_writeEntry_51 : decode cX10_writeEntry 51 = .ok (.iload_n 3, 1) := by decide +kernel
theorem dX10_writeEntry_52 : decode cX10_writeEntry 52 = .ok (.invokevirtual 60, 3) := by decide +kernel
theorem dX10_writeEntry_55 : decode cX10_writeEntry 55 = .ok (.goto 21, 3) := by decide +kernel
theorem dX10_writeEntry_58 : decode cX10_writeEntry 58 = .ok (.aload_n 0, 1) := by decide +kernel
theorem dX10_writeEntry_59 : decode cX10_writeEntry 59 = .ok (.getfield 23, 3) := by decide +kernel
theorem dX10_writeEntry_62 : decode cX10_writeEntry 62 = .ok (.aload_n 0, 1) := by decide +kernel
theorem dX10_writeEntry_63 : decode cX10_writeEntry 63 = .ok (.getfield 27, 3) := by decide +kernel
theorem dX10_writeEntry_66 : decode cX10_writeEntry 66 = .ok (.iconst 0, 1) := by decide +kernel
theorem dX10_writeEntry_67 : decode cX10_writeEntry 67 = .ok (.aload_n 0, 1) := by decide +kernel
theorem dX10_writeEntry_68 : decode cX10_writeEntry 68 = .ok (.iload_n 3, 1) := by decide +kernel
theorem dX10_writeEntry_69 : decode cX10_writeEntry 69 = .ok (.invokevirtual 56, 3) := by decide +kernel
theorem dX10_writeEntry_72 : decode cX10_writeEntry 72 = .ok (.iconst 0, 1) := by decide +kernel
theorem dX10_writeEntry_73 : decode cX10_writeEntry 73 = .ok (.invokevirtual 60, 3) := by decide +kernel
theorem dX10_writeEntry_76 : decode cX10_writeEntry 76 = .ok (.aload_n 0, 1) := by decide +kernel
theorem dX10_writeEntry_77 : decode cX10_writeEntry 77 = .ok (.iload_n 3, 1) := by decide +kernel
theorem dX10_writeEntry_78 : decode cX10_writeEntry 78 = .ok (.invokevirtual 64, 3) := by decide +kernel
theorem dX10_writeEntry_81 : decode cX10_writeEntry 81 = .ok (.iinc 3 1, 3) := by decide +kernel
theorem dX10_writeEntry_84 : decode cX10_writeEntry 84 = .ok (.goto (-82), 3) := by decide +kernel
theorem dX10_writeEntry_87 : decode cX10_writeEntry 87 = .ok (.return_, 1) := by decide +kernel
theorem dX10_writePlaces_0 : decode cX10_writePlaces 0 = .ok (.iconst 0, 1) := by decide +kernel
theorem dX10_writePlaces_1 : decode cX10_writePlaces 1 = .ok (.istore_n 1, 1) := by decide +kernel
theorem dX10_writePlaces_2 : decode cX10_writePlaces 2 = .ok (.iload_n 1, 1) := by decide +kernel
theorem dX10_writePlaces_3 : decode cX10_writePlaces 3 = .ok (.aload_n 0, 1) := by decide +kernel
theorem dX10_writePlaces_4 : decode cX10_writePlaces 4 = .ok (.getfield 15, 3) := by decide +kernel
theorem dX10_writePlaces_7 : decode cX10_writePlaces 7 = .ok (.getfield 37, 3) := by decide +kernel
theorem dX10_writePlaces_10 : decode cX10_writePlaces 10 = .ok (.if_icmp .ge 32, 3) := by decide +kernel
theorem dX10_writePlaces_13 : decode cX10_writePlaces 13 = .ok (.aload_n 0, 1) := by decide +kernel
theorem dX10_writePlaces_14 : decode cX10_writePlaces 14 = .ok (.getfield 9, 3) := by decide +kernel
theorem dX10_writePlaces_17 : decode cX10_writePlaces 17 = .ok (.iload_n 1, 1) := by decide +kernel
theorem dX10_writePlaces_18 : decode cX10_writePlaces 18 = .ok (.aload_n 0, 1) := by decide +kernel
theorem dX10_writePlaces_19 : decode cX10_writePlaces 19 = .ok (.getfield 23, 3) := by decide +kernel
theorem dX10_writePlaces_22 : decode cX10_writePlaces 22 = .ok (.getfield 68, 3) := by decide +kernel
theorem dX10_writePlaces_25 : decode cX10_writePlaces 25 = .ok (.aload_n 0, 1) := by decide +kernel
theorem dX10_writePlaces_26 : decode cX10_writePlaces 26 = .ok (.getfield 27, 3) := by decide +kernel
theorem dX10_writePlaces_29 : decode cX10_writePlaces 29 = .ok (.iaload, 1) := by decide +kernel
theorem dX10_writePlaces_30 : decode cX10_writePlaces 30 = .ok (.iastore, 1) := by decide +kernel
theorem dX10_writePlaces_31 : decode cX10_writePlaces 31 = .ok (.aload_n 0, 1) := by decide +kernel
theorem dX10_writePlaces_32 : decode cX10_writePlaces 32 = .ok (.iload_n 1, 1) := by decide +kernel
theorem dX10_writePlaces_33 : decode cX10_writePlaces 33 = .ok (.invokevirtual 71, 3) := by decide +kernel
theorem dX10_writePlaces_36 : decode cX10_writePlaces 36 = .ok (.iinc 1 1, 3) := by decide +kernel
theorem dX10_writePlaces_39 : decode cX10_writePlaces 39 = .ok (.goto (-37), 3) := by decide +kernel
theorem dX10_writePlaces_42 : decode cX10_writePlaces 42 = .ok (.aload_n 0, 1) := by decide +kernel
theorem dX10_writePlaces_43 : decode cX10_writePlaces 43 = .ok (.getfield 23, 3) := by decide +kernel
theorem dX10_writePlaces_46 : decode cX10_writePlaces 46 = .ok (.aload_n 0, 1) := by decide +kernel
theorem dX10_writePlaces_47 : decode cX10_writePlaces 47 = .ok (.getfield 27, 3) := by decide +kernel
theorem dX10_writePlaces_50 : decode cX10_writePlaces 50 = .ok (.aload_n 0, 1) := by decide +kernel
theorem dX10_writePlaces_51 : decode cX10_writePlaces 51 = .ok (.getfield 9, 3) := by decide +kernel
theorem dX10_writePlaces_54 : decode cX10_writePlaces 54 = .ok (.invokevirtual 74, 3) := by decide +kernel
theorem dX10_writePlaces_57 : decode cX10_writePlaces 57 = .ok (.return_, 1) := by decide +kernel
theorem dX10_writePlace_0 : decode cX10_writePlace 0 = .ok (.aload_n 0, 1) := by decide +kernel
theorem dX10_writePlace_1 : decode cX10_writePlace 1 = .ok (.getfield 15, 3) := by decide +kernel
theorem dX10_writePlace_4 : decode cX10_writePlace 4 = .ok (.getfield 78, 3) := by decide +kernel
theorem dX10_writePlace_7 : decode cX10_writePlace 7 = .ok (.iload_n 1, 1) := by decide +kernel
theorem dX10_writePlace_8 : decode cX10_writePlace 8 = .ok (.iaload, 1) := by decide +kernel
theorem dX10_writePlace_9 : decode cX10_writePlace 9 = .ok (.tableswitch 325 0 8 #[51, 101, 128, 136, 165, 190, 233, 269, 296], 51) := by decide +kernel
theorem dX10_writePlace_60 : decode cX10_writePlace 60 = .ok (.aload_n 0, 1) := by decide +kernel
theorem dX10_writePlace_61 : decode cX10_writePlace 61 = .ok (.getfield 23, 3) := by decide +kernel
theorem dX10_writePlace_64 : decode cX10_writePlace 64 = .ok (.aload_n 0, 1) := by decide +kernel
theorem dX10_writePlace_65 : decode cX10_writePlace 65 = .ok (.getfield 27, 3) := by decide +kernel
theorem dX10_writePlace_68 : decode cX10_writePlace 68 = .ok (.iconst 0, 1) := by decide +kernel
theorem dX10_writePlace_69 : decode cX10_writePlace 69 = .ok (.aload_n 0, 1) := by decide +kernel
theorem dX10_writePlace_70 : decode cX10_writePlace 70 = .ok (.aload_n 0, 1) := by decide +kernel
theorem dX10_writePlace_71 : decode cX10_writePlace 71 = .ok (.getfield 15, 3) := by decide +kernel
theorem dX10_writePlace_74 : decode cX10_writePlace 74 = .ok (.getfield 81, 3) := by decide +kernel
theorem dX10_writePlace_77 : decode cX10_writePlace 77 = .ok (.iload_n 1, 1) := by decide +kernel
theorem dX10_writePlace_78 : decode cX10_writePlace 78 = .ok (.iaload, 1) := by decide +kernel
theorem dX10_writePlace_79 : decode cX10_writePlace 79 = .ok (.invokevirtual 56, 3) := by decide +kernel
theorem dX10_writePlace_82 : decode cX10_writePlace 82 = .ok (.aload_n 0, 1) := by decide +kernel
theorem dX10_writePlace_83 : decode cX10_writePlace 83 = .ok (.getfield 15, 3) := by decide +kernel
theorem dX10_writePlace_86 : decode cX10_writePlace 86 = .ok (.getfield 84, 3) := by decide +kernel
theorem dX10_writePlace_89 : decode cX10_writePlace 89 = .ok (.iload_n 1, 1) := by decide +kernel
theorem dX10_writePlace_90 : decode cX10_writePlace 90 = .ok (.iaload, 1) := by decide +kernel
theorem dX10_writePlace_91 : decode cX10_writePlace 91 = .ok (.invokevirtual 60, 3) := by decide +kernel
theorem dX10_writePlace_94 : decode cX10_writePlace 94 = .ok (.aload_n 0, 1) := by decide +kernel
theorem dX10_writePlace_95 : decode cX10_writePlace 95 = .ok (.aload_n 0, 1) := by decide +kernel
theorem dX10_writePlace_96 : decode cX10_writePlace 96 = .ok (.getfield 15, 3) := by decide +kernel
theorem dX10_writePlace_99 : decode cX10_writePlace 99 = .ok (.getfield 81, 3) := by decide +kernel
theorem dX10_writePlace_102 : decode cX10_writePlace 102 = .ok (.iload_n 1, 1) := by decide +kernel
theorem dX10_writePlace_103 : decode cX10_writePlace 103 = .ok (.iaload, 1) := by decide +kernel
theorem dX10_writePlace_104 : decode cX10_writePlace 104 = .ok (.invokevirtual 64, 3) := by decide +kernel
theorem dX10_writePlace_107 : decode cX10_writePlace 107 = .ok (.goto 232, 3) := by decide +kernel
theorem dX10_writePlace_110 : decode cX10_writePlace 110 = .ok (.aload_n 0, 1) := by decide +kernel
theorem dX10_writePlace_111 : decode cX10_writePlace 111 = .ok (.aload_n 0, 1) := by decide +kernel
theorem dX10_writePlace_112 : decode cX10_writePlace 112 = .ok (.getfield 15, 3) := by decide +kernel
theorem dX10_writePlace_115 : decode cX10_writePlace 115 = .ok (.getfield 81, 3) := by decide +kernel
theorem dX10_writePlace_118 : decode cX10_writePlace 118 = .ok (.iload_n 1, 1) := by decide +kernel
theorem dX10_writePlace_119 : decode cX10_writePlace 119 = .ok (.iaload, 1) := by decide +kernel
theorem dX10_writePlace_120 : decode cX10_writePlace 120 = .ok (.aload_n 0, 1) := by decide +kernel
theorem dX10_writePlace_121 : decode cX10_writePlace 121 = .ok (.getfield 15, 3) := by decide +kernel
theorem dX10_writePlace_124 : decode cX10_writePlace 124 = .ok (.getfield 87, 3) := by decide +kernel
theorem dX10_writePlace_127 : decode cX10_writePlace 127 = .ok (.iconst 0, 1) := by decide +kernel
theorem dX10_writePlace_128 : decode cX10_writePlace 128 = .ok (.aaload, 1) := by decide +kernel
theorem dX10_writePlace_129 : decode cX10_writePlace 129 = .ok (.iload_n 1, 1) := by decide +kernel
theorem dX10_writePlace_130 : decode cX10_writePlace 130 = .ok (.iaload, 1) := by decide +kernel
theorem dX10_writePlace_131 : decode cX10_writePlace 131 = .ok (.invokevirtual 91, 3) := by decide +kernel
theorem dX10_writePlace_134 : decode cX10_writePlace 134 = .ok (.goto 205, 3) := by decide +kernel
theorem dX10_writePlace_137 : decode cX10_writePlace 137 = .ok (.aload_n 0, 1) := by decide +kernel
theorem dX10_writePlace_138 : decode cX10_writePlace 138 = .ok (.iload_n 1, 1) := by decide +kernel
theorem dX10_writePlace_139 : decode cX10_writePlace 139 = .ok (.invokevirtual 94, 3) := by decide +kernel
theorem dX10_writePlace_142 : decode cX10_writePlace 142 = .ok (.goto 197, 3) := by decide +kernel
theorem dX10_writePlace_145 : decode cX10_writePlace 145 = .ok (.aload_n 0, 1) := by decide +kernel
theorem dX10_writePlace_146 : decode cX10_writePlace 146 = .ok (.aload_n 0, 1) := by decide +kernel
theorem dX10_writePlace_147 : decode cX10_writePlace 147 = .ok (.getfield 15, 3) := by decide +kernel
theorem dX10_writePlace_150 : decode cX10_writePlace 150 = .ok (.getfield 87, 3) := by decide +kernel
theorem dX10_writePlace_153 : decode cX10_writePlace 153 = .ok (.iconst 0, 1) := by decide +kernel
theorem dX10_writePlace_154 : decode cX10_writePlace 154 = .ok (.aaload, 1) := by decide +kernel
theorem dX10_writePlace_155 : decode cX10_writePlace 155 = .ok (.iload_n 1, 1) := by decide +kernel
theorem dX10_writePlace_156 : decode cX10_writePlace 156 = .ok (.iaload, 1) := by decide +kernel
theorem dX10_writePlace_157 : decode cX10_writePlace 157 = .ok (.aload_n 0, 1) := by decide +kernel
theorem dX10_writePlace_158 : decode cX10_writePlace 158 = .ok (.getfield 15, 3) := by decide +kernel
theorem dX10_writePlace_161 : decode cX10_writePlace 161 = .ok (.getfield 87, 3) := by decide +kernel
theorem dX10_writePlace_164 : decode cX10_writePlace 164 = .ok (.iconst 1, 1) := by decide +kernel
theorem dX10_writePlace_165 : decode cX10_writePlace 165 = .ok (.aaload, 1) := by decide +kernel
theorem dX10_writePlace_166 : decode cX10_writePlace 166 = .ok (.iload_n 1, 1) := by decide +kernel
theorem dX10_writePlace_167 : decode cX10_writePlace 167 = .ok (.iaload, 1) := by decide +kernel
theorem dX10_writePlace_168 : decode cX10_writePlace 168 = .ok (.invokevirtual 97, 3) := by decide +kernel
theorem dX10_writePlace_171 : decode cX10_writePlace 171 = .ok (.goto 168, 3) := by decide +kernel
theorem dX10_writePlace_174 : decode cX10_writePlace 174 = .ok (.aload_n 0, 1) := by decide +kernel
theorem dX10_writePlace_175 : decode cX10_writePlace 175 = .ok (.getfield 23, 3) := by decide +kernel
theorem dX10_writePlace_178 : decode cX10_writePlace 178 = .ok (.aload_n 0, 1) := by decide +kernel
theorem dX10_writePlace_179 : decode cX10_writePlace 179 = .ok (.getfield 27, 3) := by decide +kernel
theorem dX10_writePlace_182 : decode cX10_writePlace 182 = .ok (.iconst 4, 1) := by decide +kernel
theorem dX10_writePlace_183 : decode cX10_writePlace 183 = .ok (.aload_n 0, 1) := by decide +kernel
theorem dX10_writePlace_184 : decode cX10_writePlace 184 = .ok (.getfield 15, 3) := by decide +kernel
theorem dX10_writePlace_187 : decode cX10_writePlace 187 = .ok (.getfield 100, 3) := by decide +kernel
theorem dX10_writePlace_190 : decode cX10_writePlace 190 = .ok (.iload_n 1, 1) := by decide +kernel
theorem dX10_writePlace_191 : decode cX10_writePlace 191 = .ok (.iaload, 1) := by decide +kernel
theorem dX10_writePlace_192 : decode cX10_writePlace 192 = .ok (.iconst 0, 1) := by decide +kernel
theorem dX10_writePlace_193 : decode cX10_writePlace 193 = .ok (.invokevirtual 60, 3) := by decide +kernel
theorem dX10_writePlace_196 : decode cX10_writePlace 196 = .ok (.goto 143, 3) := by decide +kernel
theorem dX10_writePlace_199 : decode cX10_writePlace 199 = .ok (.aload_n 0, 1) := by decide +kernel
theorem dX10_writePlace_200 : decode cX10_writePlace 200 = .ok (.getfield 23, 3) := by decide +kernel
theorem dX10_writePlace_203 : decode cX10_writePlace 203 = .ok (.aload_n 0, 1) := by decide +kernel
theorem dX10_writePlace_204 : decode cX10_writePlace 204 = .ok (.getfield 27, 3) := by decide +kernel
theorem dX10_writePlace_207 : decode cX10_writePlace 207 = .ok (.iconst 5, 1) := by decide +kernel
theorem dX10_writePlace_208 : decode cX10_writePlace 208 = .ok (.aload_n 0, 1) := by decide +kernel
theorem dX10_writePlace_209 : decode cX10_writePlace 209 = .ok (.aload_n 0, 1) := by decide +kernel
theorem dX10_writePlace_210 : decode cX10_writePlace 210 = .ok (.getfield 15, 3) := by decide +kernel
theorem dX10_writePlace_213 : decode cX10_writePlace 213 = .ok (.getfield 87, 3) := by decide +kernel
theorem dX10_writePlace_216 : decode cX10_writePlace 216 = .ok (.iconst 0, 1) := by decide +kernel
theorem dX10_writePlace_217 : decode cX10_writePlace 217 = .ok (.aaload, 1) := by decide +kernel
theorem dX10_writePlace_218 : decode cX10_writePlace 218 = .ok (.iload_n 1, 1) := by decide +kernel
theorem dX10_writePlace_219 : decode cX10_writePlace 219 = .ok (.iaload, 1) := by decide +kernel
theorem dX10_writePlace_220 : decode cX10_writePlace 220 = .ok (.aload_n 0, 1) := by decide +kernel
theorem dX10_writePlace_221 : decode cX10_writePlace 221 = .ok (.getfield 31, 3) := by decide +kernel
theorem dX10_writePlace_224 : decode cX10_writePlace 224 = .ok (.invokevirtual 103, 3) := by decide +kernel
theorem dX10_writePlace_227 : decode cX10_writePlace 227 = .ok (.aload_n 0, 1) := by decide +kernel
theorem dX10_writePlace_228 : decode cX10_writePlace 228 = .ok (.getfield 15, 3) := by decide +kernel
theorem dX10_writePlace_231 : decode cX10_writePlace 231 = .ok (.getfield 100, 3) := by decide +kernel
theorem dX10_writePlace_234 : decode cX10_writePlace 234 = .ok (.iload_n 1, 1) := by decide +kernel
theorem dX10_writePlace_235 : decode cX10_writePlace 235 = .ok (.iaload, 1) := by decide +kernel
theorem dX10_writePlace_236 : decode cX10_writePlace 236 = .ok (.invokevirtual 60, 3) := by decide +kernel
theorem dX10_writePlace_239 : decode cX10_writePlace 239 = .ok (.goto 100, 3) := by decide +kernel
theorem dX10_writePlace_242 : decode cX10_writePlace 242 = .ok (.aload_n 0, 1) := by decide +kernel
theorem dX10_writePlace_243 : decode cX10_writePlace 243 = .ok (.getfield 23, 3) := by decide +kernel
theorem dX10_writePlace_246 : decode cX10_writePlace 246 = .ok (.aload_n 0, 1) := by decide +kernel
theorem dX10_writePlace_247 : decode cX10_writePlace 247 = .ok (.getfield 27, 3) := by decide +kernel
theorem dX10_writePlace_250 : decode cX10_writePlace 250 = .ok (.bipush 6, 2) := by decide +kernel
theorem dX10_writePlace_252 : decode cX10_writePlace 252 = .ok (.aload_n 0, 1) := by decide +kernel
theorem dX10_writePlace_253 : decode cX10_writePlace 253 = .ok (.aload_n 0, 1) := by decide +kernel
theorem dX10_writePlace_254 : decode cX10_writePlace 254 = .ok (.getfield 15, 3) := by decide +kernel
theorem dX10_writePlace_257 : decode cX10_writePlace 257 = .ok (.getfield 87, 3) := by decide +kernel
theorem dX10_writePlace_260 : decode cX10_writePlace 260 = .ok (.iconst 0, 1) := by decide +kernel
theorem dX10_writePlace_261 : decode cX10_writePlace 261 = .ok (.aaload, 1) := by decide +kernel
theorem dX10_writePlace_262 : decode cX10_writePlace 262 = .ok (.iload_n 1, 1) := by decide +kernel
theorem dX10_writePlace_263 : decode cX10_writePlace 263 = .ok (.iaload, 1) := by decide +kernel
theorem dX10_writePlace_264 : decode cX10_writePlace 264 = .ok (.aload_n 0, 1) := by decide +kernel
theorem dX10_writePlace_265 : decode cX10_writePlace 265 = .ok (.getfield 31, 3) := by decide +kernel
theorem dX10_writePlace_268 : decode cX10_writePlace 268 = .ok (.invokevirtual 103, 3) := by decide +kernel
theorem dX10_writePlace_271 : decode cX10_writePlace 271 = .ok (.iconst 0, 1) := by decide +kernel
theorem dX10_writePlace_272 : decode cX10_writePlace 272 = .ok (.invokevirtual 60, 3) := by decide +kernel
theorem dX10_writePlace_275 : decode cX10_writePlace 275 = .ok (.goto 64, 3) := by decide +kernel
theorem dX10_writePlace_278 : decode cX10_writePlace 278 = .ok (.aload_n 0, 1) := by decide +kernel
theorem dX10_writePlace_279 : decode cX10_writePlace 279 = .ok (.aload_n 0, 1) := by decide +kernel
theorem dX10_writePlace_280 : decode cX10_writePlace 280 = .ok (.getfield 15, 3) := by decide +kernel
theorem dX10_writePlace_283 : decode cX10_writePlace 283 = .ok (.getfield 81, 3) := by decide +kernel
theorem dX10_writePlace_286 : decode cX10_writePlace 286 = .ok (.iload_n 1, 1) := by decide +kernel
theorem dX10_writePlace_287 : decode cX10_writePlace 287 = .ok (.iaload, 1) := by decide +kernel
theorem dX10_writePlace_288 : decode cX10_writePlace 288 = .ok (.aload_n 0, 1) := by decide +kernel
theorem dX10_writePlace_289 : decode cX10_writePlace 289 = .ok (.getfield 15, 3) := by decide +kernel
theorem dX10_writePlace_292 : decode cX10_writePlace 292 = .ok (.getfield 87, 3) := by decide +kernel
theorem dX10_writePlace_295 : decode cX10_writePlace 295 = .ok (.iconst 0, 1) := by decide +kernel
theorem dX10_writePlace_296 : decode cX10_writePlace 296 = .ok (.aaload, 1) := by decide +kernel
theorem dX10_writePlace_297 : decode cX10_writePlace 297 = .ok (.iload_n 1, 1) := by decide +kernel
theorem dX10_writePlace_298 : decode cX10_writePlace 298 = .ok (.iaload, 1) := by decide +kernel
theorem dX10_writePlace_299 : decode cX10_writePlace 299 = .ok (.invokevirtual 107, 3) := by decide +kernel
theorem dX10_writePlace_302 : decode cX10_writePlace 302 = .ok (.goto 37, 3) := by decide +kernel
theorem dX10_writePlace_305 : decode cX10_writePlace 305 = .ok (.aload_n 0, 1) := by decide +kernel
theorem dX10_writePlace_306 : decode cX10_writePlace 306 = .ok (.aload_n 0, 1) := by decide +kernel
theorem dX10_writePlace_307 : decode cX10_writePlace 307 = .ok (.getfield 15, 3) := by decide +kernel
theorem dX10_writePlace_310 : decode cX10_writePlace 310 = .ok (.getfield 87, 3) := by decide +kernel
theorem dX10_writePlace_313 : decode cX10_writePlace 313 = .ok (.iconst 0, 1) := by decide +kernel
theorem dX10_writePlace_314 : decode cX10_writePlace 314 = .ok (.aaload, 1) := by decide +kernel
theorem dX10_writePlace_315 : decode cX10_writePlace 315 = .ok (.iload_n 1, 1) := by decide +kernel
theorem dX10_writePlace_316 : decode cX10_writePlace 316 = .ok (.iaload, 1) := by decide +kernel
theorem dX10_writePlace_317 : decode cX10_writePlace 317 = .ok (.aload_n 0, 1) := by decide +kernel
theorem dX10_writePlace_318 : decode cX10_writePlace 318 = .ok (.getfield 15, 3) := by decide +kernel
theorem dX10_writePlace_321 : decode cX10_writePlace 321 = .ok (.getfield 87, 3) := by decide +kernel
theorem dX10_writePlace_324 : decode cX10_writePlace 324 = .ok (.iconst 1, 1) := by decide +kernel
theorem dX10_writePlace_325 : decode cX10_writePlace 325 = .ok (.aaload, 1) := by decide +kernel
theorem dX10_writePlace_326 : decode cX10_writePlace 326 = .ok (.iload_n 1, 1) := by decide +kernel
theorem dX10_writePlace_327 : decode cX10_writePlace 327 = .ok (.iaload, 1) := by decide +kernel
theorem dX10_writePlace_328 : decode cX10_writePlace 328 = .ok (.invokevirtual 110, 3) := by decide +kernel
theorem dX10_writePlace_331 : decode cX10_writePlace 331 = .ok (.goto 8, 3) := by decide +kernel
theorem dX10_writePlace_334 : decode cX10_writePlace 334 = .ok (.aload_n 0, 1) := by decide +kernel
theorem dX10_writePlace_335 : decode cX10_writePlace 335 = .ok (.iload_n 1, 1) := by decide +kernel
theorem dX10_writePlace_336 : decode cX10_writePlace 336 = .ok (.invokevirtual 113, 3) := by decide +kernel
theorem dX10_writePlace_339 : decode cX10_writePlace 339 = .ok (.return_, 1) := by decide +kernel
theorem dX10_writeWork_0 : decode cX10_writeWork 0 = .ok (.aload_n 0, 1) := by decide +kernel
theorem dX10_writeWork_1 : decode cX10_writeWork 1 = .ok (.aload_n 0, 1) := by decide +kernel
theorem dX10_writeWork_2 : decode cX10_writeWork 2 = .ok (.getfield 15, 3) := by decide +kernel
theorem dX10_writeWork_5 : decode cX10_writeWork 5 = .ok (.getfield 87, 3) := by decide +kernel
theorem dX10_writeWork_8 : decode cX10_writeWork 8 = .ok (.iconst 0, 1) := by decide +kernel
theorem dX10_writeWork_9 : decode cX10_writeWork 9 = .ok (.aaload, 1) := by decide +kernel
theorem dX10_writeWork_10 : decode cX10_writeWork 10 = .ok (.iload_n 1, 1) := by decide +kernel
theorem dX10_writeWork_11 : decode cX10_writeWork 11 = .ok (.iaload, 1) := by decide +kernel
theorem dX10_writeWork_12 : decode cX10_writeWork 12 = .ok (.aload_n 0, 1) := by decide +kernel
theorem dX10_writeWork_13 : decode cX10_writeWork 13 = .ok (.getfield 31, 3) := by decide +kernel
theorem dX10_writeWork_16 : decode cX10_writeWork 16 = .ok (.invokevirtual 103, 3) := by decide +kernel
theorem dX10_writeWork_19 : decode cX10_writeWork 19 = .ok (.istore_n 2, 1) := by decide +kernel
theorem dX10_writeWork_20 : decode cX10_writeWork 20 = .ok (.aload_n 0, 1) := by decide +kernel
theorem dX10_writeWork_21 : decode cX10_writeWork 21 = .ok (.aload_n 0, 1) := by decide +kernel
theorem dX10_writeWork_22 : decode cX10_writeWork 22 = .ok (.getfield 15, 3) := by decide +kernel
theorem dX10_writeWork_25 : decode cX10_writeWork 25 = .ok (.getfield 87, 3) := by decide +kernel
theorem dX10_writeWork_28 : decode cX10_writeWork 28 = .ok (.iconst 1, 1) := by decide +kernel
theorem dX10_writeWork_29 : decode cX10_writeWork 29 = .ok (.aaload, 1) := by decide +kernel
theorem dX10_writeWork_30 : decode cX10_writeWork 30 = .ok (.iload_n 1, 1) := by decide +kernel
theorem dX10_writeWork_31 : decode cX10_writeWork 31 = .ok (.iaload, 1) := by decide +kernel
theorem dX10_writeWork_32 : decode cX10_writeWork 32 = .ok (.aload_n 0, 1) := by decide +kernel
theorem dX10_writeWork_33 : decode cX10_writeWork 33 = .ok (.getfield 34, 3) := by decide +kernel
theorem dX10_writeWork_36 : decode cX10_writeWork 36 = .ok (.invokevirtual 103, 3) := by decide +kernel
theorem dX10_writeWork_39 : decode cX10_writeWork 39 = .ok (.istore_n 3, 1) := by decide +kernel
theorem dX10_writeWork_40 : decode cX10_writeWork 40 = .ok (.aload_n 0, 1) := by decide +kernel
theorem dX10_writeWork_41 : decode cX10_writeWork 41 = .ok (.aload_n 0, 1) := by decide +kernel
theorem dX10_writeWork_42 : decode cX10_writeWork 42 = .ok (.getfield 15, 3) := by decide +kernel
theorem dX10_writeWork_45 : decode cX10_writeWork 45 = .ok (.getfield 81, 3) := by decide +kernel
theorem dX10_writeWork_48 : decode cX10_writeWork 48 = .ok (.iload_n 1, 1) := by decide +kernel
theorem dX10_writeWork_49 : decode cX10_writeWork 49 = .ok (.iaload, 1) := by decide +kernel
theorem dX10_writeWork_50 : decode cX10_writeWork 50 = .ok (.invokevirtual 56, 3) := by decide +kernel
theorem dX10_writeWork_53 : decode cX10_writeWork 53 = .ok (.istore 4, 2) := by decide +kernel
theorem dX10_writeWork_55 : decode cX10_writeWork 55 = .ok (.aload_n 0, 1) := by decide +kernel
theorem dX10_writeWork_56 : decode cX10_writeWork 56 = .ok (.getfield 23, 3) := by decide +kernel
theorem dX10_writeWork_59 : decode cX10_writeWork 59 = .ok (.aload_n 0, 1) := by decide +kernel
theorem dX10_writeWork_60 : decode cX10_writeWork 60 = .ok (.getfield 27, 3) := by decide +kernel
theorem dX10_writeWork_63 : decode cX10_writeWork 63 = .ok (.iload 4, 2) := by decide +kernel
theorem dX10_writeWork_65 : decode cX10_writeWork 65 = .ok (.iload_n 2, 1) := by decide +kernel
theorem dX10_writeWork_66 : decode cX10_writeWork 66 = .ok (.iload_n 3, 1) := by decide +kernel
theorem dX10_writeWork_67 : decode cX10_writeWork 67 = .ok (.aload_n 0, 1) := by decide +kernel
theorem dX10_writeWork_68 : decode cX10_writeWork 68 = .ok (.getfield 15, 3) := by decide +kernel
theorem dX10_writeWork_71 : decode cX10_writeWork 71 = .ok (.getfield 84, 3) := by decide +kernel
theorem dX10_writeWork_74 : decode cX10_writeWork 74 = .ok (.iload_n 1, 1) := by decide +kernel
theorem dX10_writeWork_75 : decode cX10_writeWork 75 = .ok (.iaload, 1) := by decide +kernel
theorem dX10_writeWork_76 : decode cX10_writeWork 76 = .ok (.invokevirtual 116, 3) := by decide +kernel
theorem dX10_writeWork_79 : decode cX10_writeWork 79 = .ok (.aload_n 0, 1) := by decide +kernel
theorem dX10_writeWork_80 : decode cX10_writeWork 80 = .ok (.aload_n 0, 1) := by decide +kernel
theorem dX10_writeWork_81 : decode cX10_writeWork 81 = .ok (.getfield 15, 3) := by decide +kernel
theorem dX10_writeWork_84 : decode cX10_writeWork 84 = .ok (.getfield 81, 3) := by decide +kernel
theorem dX10_writeWork_87 : decode cX10_writeWork 87 = .ok (.iload_n 1, 1) := by decide +kernel
theorem dX10_writeWork_88 : decode cX10_writeWork 88 = .ok (.iaload, 1) := by decide +kernel
theorem dX10_writeWork_89 : decode cX10_writeWork 89 = .ok (.invokevirtual 64, 3) := by decide +kernel
theorem dX10_writeWork_92 : decode cX10_writeWork 92 = .ok (.return_, 1) := by decide +kernel
theorem dX10_writeRead_0 : decode cX10_writeRead 0 = .ok (.aload_n 0, 1) := by decide +kernel
theorem dX10_writeRead_1 : decode cX10_writeRead 1 = .ok (.iload_n 2, 1) := by decide +kernel
theorem dX10_writeRead_2 : decode cX10_writeRead 2 = .ok (.aload_n 0, 1) := by decide +kernel
theorem dX10_writeRead_3 : decode cX10_writeRead 3 = .ok (.getfield 31, 3) := by decide +kernel
theorem dX10_writeRead_6 : decode cX10_writeRead 6 = .ok (.invokevirtual 103, 3) := by decide +kernel
theorem dX10_writeRead_9 : decode cX10_writeRead 9 = .ok (.istore_n 3, 1) := by decide +kernel
theorem dX10_writeRead_10 : decode cX10_writeRead 10 = .ok (.aload_n 0, 1) := by decide +kernel
theorem dX10_writeRead_11 : decode cX10_writeRead 11 = .ok (.getfield 23, 3) := by decide +kernel
theorem dX10_writeRead_14 : decode cX10_writeRead 14 = .ok (.aload_n 0, 1) := by decide +kernel
theorem dX10_writeRead_15 : decode cX10_writeRead 15 = .ok (.getfield 27, 3) := by decide +kernel
theorem dX10_writeRead_18 : decode cX10_writeRead 18 = .ok (.bipush 7, 2) := by decide +kernel
theorem dX10_writeRead_20 : decode cX10_writeRead 20 = .ok (.aload_n 0, 1) := by decide +kernel
theorem dX10_writeRead_21 : decode cX10_writeRead 21 = .ok (.iload_n 1, 1) := by decide +kernel
theorem dX10_writeRead_22 : decode cX10_writeRead 22 = .ok (.invokevirtual 56, 3) := by decide +kernel
theorem dX10_writeRead_25 : decode cX10_writeRead 25 = .ok (.iload_n 3, 1) := by decide +kernel
theorem dX10_writeRead_26 : decode cX10_writeRead 26 = .ok (.invokevirtual 60, 3) := by decide +kernel
theorem dX10_writeRead_29 : decode cX10_writeRead 29 = .ok (.aload_n 0, 1) := by decide +kernel
theorem dX10_writeRead_30 : decode cX10_writeRead 30 = .ok (.iload_n 1, 1) := by decide +kernel
theorem dX10_writeRead_31 : decode cX10_writeRead 31 = .ok (.invokevirtual 64, 3) := by decide +kernel
theorem dX10_writeRead_34 : decode cX10_writeRead 34 = .ok (.return_, 1) := by decide +kernel
theorem dX10_writeWrite_0 : decode cX10_writeWrite 0 = .ok (.aload_n 0, 1) := by decide +kernel
theorem dX10_writeWrite_1 : decode cX10_writeWrite 1 = .ok (.iload_n 1, 1) := by decide +kernel
theorem dX10_writeWrite_2 : decode cX10_writeWrite 2 = .ok (.aload_n 0, 1) := by decide +kernel
theorem dX10_writeWrite_3 : decode cX10_writeWrite 3 = .ok (.getfield 31, 3) := by decide +kernel
theorem dX10_writeWrite_6 : decode cX10_writeWrite 6 = .ok (.invokevirtual 103, 3) := by decide +kernel
theorem dX10_writeWrite_9 : decode cX10_writeWrite 9 = .ok (.istore_n 3, 1) := by decide +kernel
theorem dX10_writeWrite_10 : decode cX10_writeWrite 10 = .ok (.aload_n 0, 1) := by decide +kernel
theorem dX10_writeWrite_11 : decode cX10_writeWrite 11 = .ok (.iload_n 2, 1) := by decide +kernel
theorem dX10_writeWrite_12 : decode cX10_writeWrite 12 = .ok (.aload_n 0, 1) := by decide +kernel
theorem dX10_writeWrite_13 : decode cX10_writeWrite 13 = .ok (.getfield 34, 3) := by decide +kernel
theorem dX10_writeWrite_16 : decode cX10_writeWrite 16 = .ok (.invokevirtual 103, 3) := by decide +kernel
theorem dX10_writeWrite_19 : decode cX10_writeWrite 19 = .ok (.istore 4, 2) := by decide +kernel
theorem dX10_writeWrite_21 : decode cX10_writeWrite 21 = .ok (.aload_n 0, 1) := by decide +kernel
theorem dX10_writeWrite_22 : decode cX10_writeWrite 22 = .ok (.getfield 23, 3) := by decide +kernel
theorem dX10_writeWrite_25 : decode cX10_writeWrite 25 = .ok (.aload_n 0, 1) := by decide +kernel
theorem dX10_writeWrite_26 : decode cX10_writeWrite 26 = .ok (.getfield 27, 3) := by decide +kernel
theorem dX10_writeWrite_29 : decode cX10_writeWrite 29 = .ok (.bipush 8, 2) := by decide +kernel
theorem dX10_writeWrite_31 : decode cX10_writeWrite 31 = .ok (.iload_n 3, 1) := by decide +kernel
theorem dX10_writeWrite_32 : decode cX10_writeWrite 32 = .ok (.iload 4, 2) := by decide +kernel
theorem dX10_writeWrite_34 : decode cX10_writeWrite 34 = .ok (.invokevirtual 60, 3) := by decide +kernel
theorem dX10_writeWrite_37 : decode cX10_writeWrite 37 = .ok (.return_, 1) := by decide +kernel
theorem dX10_writeMove_0 : decode cX10_writeMove 0 = .ok (.aload_n 0, 1) := by decide +kernel
theorem dX10_writeMove_1 : decode cX10_writeMove 1 = .ok (.getfield 19, 3) := by decide +kernel
theorem dX10_writeMove_4 : decode cX10_writeMove 4 = .ok (.aload_n 0, 1) := by decide +kernel
theorem dX10_writeMove_5 : decode cX10_writeMove 5 = .ok (.getfield 27, 3) := by decide +kernel
theorem dX10_writeMove_8 : decode cX10_writeMove 8 = .ok (.iload_n 1, 1) := by decide +kernel
theorem dX10_writeMove_9 : decode cX10_writeMove 9 = .ok (.invokevirtual 120, 3) := by decide +kernel
theorem dX10_writeMove_12 : decode cX10_writeMove 12 = .ok (.istore_n 3, 1) := by decide +kernel
theorem dX10_writeMove_13 : decode cX10_writeMove 13 = .ok (.aload_n 0, 1) := by decide +kernel
theorem dX10_writeMove_14 : decode cX10_writeMove 14 = .ok (.getfield 19, 3) := by decide +kernel
theorem dX10_writeMove_17 : decode cX10_writeMove 17 = .ok (.aload_n 0, 1) := by decide +kernel
theorem dX10_writeMove_18 : decode cX10_writeMove 18 = .ok (.getfield 27, 3) := by decide +kernel
theorem dX10_writeMove_21 : decode cX10_writeMove 21 = .ok (.iload_n 2, 1) := by decide +kernel
theorem dX10_writeMove_22 : decode cX10_writeMove 22 = .ok (.invokevirtual 120, 3) := by decide +kernel
theorem dX10_writeMove_25 : decode cX10_writeMove 25 = .ok (.istore 4, 2) := by decide +kernel
theorem dX10_writeMove_27 : decode cX10_writeMove 27 = .ok (.iload_n 3, 1) := by decide +kernel
theorem dX10_writeMove_28 : decode cX10_writeMove 28 = .ok (.iconst (-1), 1) := by decide +kernel
theorem dX10_writeMove_29 : decode cX10_writeMove 29 = .ok (.if_icmp .ne 23, 3) := by decide +kernel
theorem dX10_writeMove_32 : decode cX10_writeMove 32 = .ok (.aload_n 0, 1) := by decide +kernel
theorem dX10_writeMove_33 : decode cX10_writeMove 33 = .ok (.aload_n 0, 1) := by decide +kernel
theorem dX10_writeMove_34 : decode cX10_writeMove 34 = .ok (.getfield 19, 3) := by decide +kernel
theorem dX10_writeMove_37 : decode cX10_writeMove 37 = .ok (.aload_n 0, 1) := by decide +kernel
theorem dX10_writeMove_38 : decode cX10_writeMove 38 = .ok (.getfield 27, 3) := by decide +kernel
theorem dX10_writeMove_41 : decode cX10_writeMove 41 = .ok (.iload_n 1, 1) := by decide +kernel
theorem dX10_writeMove_42 : decode cX10_writeMove 42 = .ok (.invokevirtual 125, 3) := by decide +kernel
theorem dX10_writeMove_45 : decode cX10_writeMove 45 = .ok (.iload_n 2, 1) := by decide +kernel
theorem dX10_writeMove_46 : decode cX10_writeMove 46 = .ok (.invokevirtual 128, 3) := by decide +kernel
theorem dX10_writeMove_49 : decode cX10_writeMove 49 = .ok (.goto 81, 3) := by decide +kernel
theorem dX10_writeMove_52 : decode cX10_writeMove 52 = .ok (.iload 4, 2) := by decide +kernel
theorem dX10_writeMove_54 : decode cX10_writeMove 54 = .ok (.iconst (-1), 1) := by decide +kernel
theorem dX10_writeMove_55 : decode cX10_writeMove 55 = .ok (.if_icmp .ne 32, 3) := by decide +kernel
theorem dX10_writeMove_58 : decode cX10_writeMove 58 = .ok (.aload_n 0, 1) := by decide +kernel
theorem dX10_writeMove_59 : decode cX10_writeMove 59 = .ok (.getfield 23, 3) := by decide +kernel
theorem dX10_writeMove_62 : decode cX10_writeMove 62 = .ok (.aload_n 0, 1) := by decide +kernel
theorem dX10_writeMove_63 : decode cX10_writeMove 63 = .ok (.getfield 27, 3) := by decide +kernel
theorem dX10_writeMove_66 : decode cX10_writeMove 66 = .ok (.bipush 10, 2) := by decide +kernel
theorem dX10_writeMove_68 : decode cX10_writeMove 68 = .ok (.iload_n 3, 1) := by decide +kernel
theorem dX10_writeMove_69 : decode cX10_writeMove 69 = .ok (.aload_n 0, 1) := by decide +kernel
theorem dX10_writeMove_70 : decode cX10_writeMove 70 = .ok (.getfield 19, 3) := by decide +kernel
theorem dX10_writeMove_73 : decode cX10_writeMove 73 = .ok (.aload_n 0, 1) := by decide +kernel
theorem dX10_writeMove_74 : decode cX10_writeMove 74 = .ok (.getfield 27, 3) := by decide +kernel
theorem dX10_writeMove_77 : decode cX10_writeMove 77 = .ok (.iload_n 2, 1) := by decide +kernel
theorem dX10_writeMove_78 : decode cX10_writeMove 78 = .ok (.invokevirtual 125, 3) := by decide +kernel
theorem dX10_writeMove_81 : decode cX10_writeMove 81 = .ok (.invokevirtual 60, 3) := by decide +kernel
theorem dX10_writeMove_84 : decode cX10_writeMove 84 = .ok (.goto 46, 3) := by decide +kernel
theorem dX10_writeMove_87 : decode cX10_writeMove 87 = .ok (.iload_n 3, 1) := by decide +kernel
theorem dX10_writeMove_88 : decode cX10_writeMove 88 = .ok (.iload 4, 2) := by decide +kernel
theorem dX10_writeMove_90 : decode cX10_writeMove 90 = .ok (.if_icmp .eq 40, 3) := by decide +kernel
theorem dX10_writeMove_93 : decode cX10_writeMove 93 = .ok (.aload_n 0, 1) := by decide +kernel
theorem dX10_writeMove_94 : decode cX10_writeMove 94 = .ok (.getfield 23, 3) := by decide +kernel
theorem dX10_writeMove_97 : decode cX10_writeMove 97 = .ok (.aload_n 0, 1) := by decide +kernel
theorem dX10_writeMove_98 : decode cX10_writeMove 98 = .ok (.getfield 27, 3) := by decide +kernel
theorem dX10_writeMove_101 : decode cX10_writeMove 101 = .ok (.bipush 9, 2) := by decide +kernel
theorem dX10_writeMove_103 : decode cX10_writeMove 103 = .ok (.aload_n 0, 1) := by decide +kernel
theorem dX10_writeMove_104 : decode cX10_writeMove 104 = .ok (.getfield 31, 3) := by decide +kernel
theorem dX10_writeMove_107 : decode cX10_writeMove 107 = .ok (.iload 4, 2) := by decide +kernel
theorem dX10_writeMove_109 : decode cX10_writeMove 109 = .ok (.invokevirtual 60, 3) := by decide +kernel
theorem dX10_writeMove_112 : decode cX10_writeMove 112 = .ok (.aload_n 0, 1) := by decide +kernel
theorem dX10_writeMove_113 : decode cX10_writeMove 113 = .ok (.getfield 23, 3) := by decide +kernel
theorem dX10_writeMove_116 : decode cX10_writeMove 116 = .ok (.aload_n 0, 1) := by decide +kernel
theorem dX10_writeMove_117 : decode cX10_writeMove 117 = .ok (.getfield 27, 3) := by decide +kernel
theorem dX10_writeMove_120 : decode cX10_writeMove 120 = .ok (.bipush 10, 2) := by decide +kernel
theorem dX10_writeMove_122 : decode cX10_writeMove 122 = .ok (.iload_n 3, 1) := by decide +kernel
theorem dX10_writeMove_123 : decode cX10_writeMove 123 = .ok (.aload_n 0, 1) := by decide +kernel
theorem dX10_writeMove_124 : decode cX10_writeMove 124 = .ok (.getfield 31, 3) := by decide +kernel
theorem dX10_writeMove_127 : decode cX10_writeMove 127 = .ok (.invokevirtual 60, 3) := by decide +kernel
theorem dX10_writeMove_130 : decode cX10_writeMove 130 = .ok (.return_, 1) := by decide +kernel
theorem dX10_writeSwap_0 : decode cX10_writeSwap 0 = .ok (.aload_n 0, 1) := by decide +kernel
theorem dX10_writeSwap_1 : decode cX10_writeSwap 1 = .ok (.getfield 19, 3) := by decide +kernel
theorem dX10_writeSwap_4 : decode cX10_writeSwap 4 = .ok (.aload_n 0, 1) := by decide +kernel
theorem dX10_writeSwap_5 : decode cX10_writeSwap 5 = .ok (.getfield 27, 3) := by decide +kernel
theorem dX10_writeSwap_8 : decode cX10_writeSwap 8 = .ok (.iload_n 1, 1) := by decide +kernel
theorem dX10_writeSwap_9 : decode cX10_writeSwap 9 = .ok (.invokevirtual 120, 3) := by decide +kernel
theorem dX10_writeSwap_12 : decode cX10_writeSwap 12 = .ok (.iconst (-1), 1) := by decide +kernel
theorem dX10_writeSwap_13 : decode cX10_writeSwap 13 = .ok (.if_icmp .ne 23, 3) := by decide +kernel
theorem dX10_writeSwap_16 : decode cX10_writeSwap 16 = .ok (.aload_n 0, 1) := by decide +kernel
theorem dX10_writeSwap_17 : decode cX10_writeSwap 17 = .ok (.getfield 19, 3) := by decide +kernel
theorem dX10_writeSwap_20 : decode cX10_writeSwap 20 = .ok (.aload_n 0, 1) := by decide +kernel
theorem dX10_writeSwap_21 : decode cX10_writeSwap 21 = .ok (.getfield 27, 3) := by decide +kernel
theorem dX10_writeSwap_24 : decode cX10_writeSwap 24 = .ok (.iload_n 2, 1) := by decide +kernel
theorem dX10_writeSwap_25 : decode cX10_writeSwap 25 = .ok (.invokevirtual 120, 3) := by decide +kernel
theorem dX10_writeSwap_28 : decode cX10_writeSwap 28 = .ok (.iconst (-1), 1) := by decide +kernel
theorem dX10_writeSwap_29 : decode cX10_writeSwap 29 = .ok (.if_icmp .ne 7, 3) := by decide +kernel
theorem dX10_writeSwap_32 : decode cX10_writeSwap 32 = .ok (.iconst 1, 1) := by decide +kernel
theorem dX10_writeSwap_33 : decode cX10_writeSwap 33 = .ok (.goto 4, 3) := by decide +kernel
theorem dX10_writeSwap_36 : decode cX10_writeSwap 36 = .ok (.iconst 0, 1) := by decide +kernel
theorem dX10_writeSwap_37 : decode cX10_writeSwap 37 = .ok (.istore_n 3, 1) := by decide +kernel
theorem dX10_writeSwap_38 : decode cX10_writeSwap 38 = .ok (.iload_n 3, 1) := by decide +kernel
theorem dX10_writeSwap_39 : decode cX10_writeSwap 39 = .ok (.ifCond .eq 40, 3) := by decide +kernel
theorem dX10_writeSwap_42 : decode cX10_writeSwap 42 = .ok (.aload_n 0, 1) := by decide +kernel
theorem dX10_writeSwap_43 : decode cX10_writeSwap 43 = .ok (.getfield 23, 3) := by decide +kernel
theorem dX10_writeSwap_46 : decode cX10_writeSwap 46 = .ok (.aload_n 0, 1) := by decide +kernel
theorem dX10_writeSwap_47 : decode cX10_writeSwap 47 = .ok (.getfield 27, 3) := by decide +kernel
theorem dX10_writeSwap_50 : decode cX10_writeSwap 50 = .ok (.iconst 3, 1) := by decide +kernel
theorem dX10_writeSwap_51 : decode cX10_writeSwap 51 = .ok (.aload_n 0, 1) := by decide +kernel
theorem dX10_writeSwap_52 : decode cX10_writeSwap 52 = .ok (.getfield 19, 3) := by decide +kernel
theorem dX10_writeSwap_55 : decode cX10_writeSwap 55 = .ok (.aload_n 0, 1) := by decide +kernel
theorem dX10_writeSwap_56 : decode cX10_writeSwap 56 = .ok (.getfield 27, 3) := by decide +kernel
theorem dX10_writeSwap_59 : decode cX10_writeSwap 59 = .ok (.iload_n 1, 1) := by decide +kernel
theorem dX10_writeSwap_60 : decode cX10_writeSwap 60 = .ok (.invokevirtual 125, 3) := by decide +kernel
theorem dX10_writeSwap_63 : decode cX10_writeSwap 63 = .ok (.aload_n 0, 1) := by decide +kernel
theorem dX10_writeSwap_64 : decode cX10_writeSwap 64 = .ok (.getfield 19, 3) := by decide +kernel
theorem dX10_writeSwap_67 : decode cX10_writeSwap 67 = .ok (.aload_n 0, 1) := by decide +kernel
theorem dX10_writeSwap_68 : decode cX10_writeSwap 68 = .ok (.getfield 27, 3) := by decide +kernel
theorem dX10_writeSwap_71 : decode cX10_writeSwap 71 = .ok (.iload_n 2, 1) := by decide +kernel
theorem dX10_writeSwap_72 : decode cX10_writeSwap 72 = .ok (.invokevirtual 125, 3) := by decide +kernel
theorem dX10_writeSwap_75 : decode cX10_writeSwap 75 = .ok (.invokevirtual 60, 3) := by decide +kernel
theorem dX10_writeSwap_78 : decode cX10_writeSwap 78 = .ok (.return_, 1) := by decide +kernel
theorem dX10_writeSwap_79 : decode cX10_writeSwap 79 = .ok (.aload_n 0, 1) := by decide +kernel
theorem dX10_writeSwap_80 : decode cX10_writeSwap 80 = .ok (.aload_n 0, 1) := by decide +kernel
theorem dX10_writeSwap_81 : decode cX10_writeSwap 81 = .ok (.getfield 31, 3) := by decide +kernel
theorem dX10_writeSwap_84 : decode cX10_writeSwap 84 = .ok (.iload_n 1, 1) := by decide +kernel
theorem dX10_writeSwap_85 : decode cX10_writeSwap 85 = .ok (.invokevirtual 128, 3) := by decide +kernel
theorem dX10_writeSwap_88 : decode cX10_writeSwap 88 = .ok (.aload_n 0, 1) := by decide +kernel
theorem dX10_writeSwap_89 : decode cX10_writeSwap 89 = .ok (.aload_n 0, 1) := by decide +kernel
theorem dX10_writeSwap_90 : decode cX10_writeSwap 90 = .ok (.getfield 34, 3) := by decide +kernel
theorem dX10_writeSwap_93 : decode cX10_writeSwap 93 = .ok (.iload_n 2, 1) := by decide +kernel
theorem dX10_writeSwap_94 : decode cX10_writeSwap 94 = .ok (.invokevirtual 128, 3) := by decide +kernel
theorem dX10_writeSwap_97 : decode cX10_writeSwap 97 = .ok (.aload_n 0, 1) := by decide +kernel
theorem dX10_writeSwap_98 : decode cX10_writeSwap 98 = .ok (.iload_n 1, 1) := by decide +kernel
theorem dX10_writeSwap_99 : decode cX10_writeSwap 99 = .ok (.aload_n 0, 1) := by decide +kernel
theorem dX10_writeSwap_100 : decode cX10_writeSwap 100 = .ok (.getfield 34, 3) := by decide +kernel
theorem dX10_writeSwap_103 : decode cX10_writeSwap 103 = .ok (.invokevirtual 131, 3) := by decide +kernel
theorem dX10_writeSwap_106 : decode cX10_writeSwap 106 = .ok (.aload_n 0, 1) := by decide +kernel
theorem dX10_writeSwap_107 : decode cX10_writeSwap 107 = .ok (.iload_n 2, 1) := by decide +kernel
theorem dX10_writeSwap_108 : decode cX10_writeSwap 108 = .ok (.aload_n 0, 1) := by decide +kernel
theorem dX10_writeSwap_109 : decode cX10_writeSwap 109 = .ok (.getfield 31, 3) := by decide +kernel
theorem dX10_writeSwap_112 : decode cX10_writeSwap 112 = .ok (.invokevirtual 131, 3) := by decide +kernel
theorem dX10_writeSwap_115 : decode cX10_writeSwap 115 = .ok (.return_, 1) := by decide +kernel
theorem dX10_writeCall_0 : decode cX10_writeCall 0 = .ok (.iconst 0, 1) := by decide +kernel
theorem dX10_writeCall_1 : decode cX10_writeCall 1 = .ok (.istore_n 2, 1) := by decide +kernel
theorem dX10_writeCall_2 : decode cX10_writeCall 2 = .ok (.iload_n 2, 1) := by decide +kernel
theorem dX10_writeCall_3 : decode cX10_writeCall 3 = .ok (.aload_n 0, 1) := by decide +kernel
theorem dX10_writeCall_4 : decode cX10_writeCall 4 = .ok (.getfield 15, 3) := by decide +kernel
theorem dX10_writeCall_7 : decode cX10_writeCall 7 = .ok (.getfield 134, 3) := by decide +kernel
theorem dX10_writeCall_10 : decode cX10_writeCall 10 = .ok (.iload_n 1, 1) := by decide +kernel
theorem dX10_writeCall_11 : decode cX10_writeCall 11 = .ok (.iaload, 1) := by decide +kernel
theorem dX10_writeCall_12 : decode cX10_writeCall 12 = .ok (.if_icmp .ge 42, 3) := by decide +kernel
theorem dX10_writeCall_15 : decode cX10_writeCall 15 = .ok (.aload_n 0, 1) := by decide +kernel
theorem dX10_writeCall_16 : decode cX10_writeCall 16 = .ok (.getfield 23, 3) := by decide +kernel
theorem dX10_writeCall_19 : decode cX10_writeCall 19 = .ok (.aload_n 0, 1) := by decide +kernel
theorem dX10_writeCall_20 : decode cX10_writeCall 20 = .ok (.getfield 27, 3) := by decide +kernel
theorem dX10_writeCall_23 : decode cX10_writeCall 23 = .ok (.bipush 12, 2) := by decide +kernel
theorem dX10_writeCall_25 : decode cX10_writeCall 25 = .ok (.iload_n 2, 1) := by decide +kernel
theorem dX10_writeCall_26 : decode cX10_writeCall 26 = .ok (.aload_n 0, 1) := by decide +kernel
theorem dX10_writeCall_27 : decode cX10_writeCall 27 = .ok (.aload_n 0, 1) := by decide +kernel
theorem dX10_writeCall_28 : decode cX10_writeCall 28 = .ok (.getfield 15, 3) := by decide +kernel
theorem dX10_writeCall_31 : decode cX10_writeCall 31 = .ok (.getfield 87, 3) := by decide +kernel
theorem dX10_writeCall_34 : decode cX10_writeCall 34 = .ok (.iload_n 2, 1) := by decide +kernel
theorem dX10_writeCall_35 : decode cX10_writeCall 35 = .ok (.aaload, 1) := by decide +kernel
theorem dX10_writeCall_36 : decode cX10_writeCall 36 = .ok (.iload_n 1, 1) := by decide +kernel
theorem dX10_writeCall_37 : decode cX10_writeCall 37 = .ok (.iaload, 1) := by decide +kernel
theorem dX10_writeCall_38 : decode cX10_writeCall 38 = .ok (.aload_n 0, 1) := by decide +kernel
theorem dX10_writeCall_39 : decode cX10_writeCall 39 = .ok (.getfield 31, 3) := by decide +kernel
theorem dX10_writeCall_42 : decode cX10_writeCall 42 = .ok (.invokevirtual 103, 3) := by decide +kernel
theorem dX10_writeCall_45 : decode cX10_writeCall 45 = .ok (.invokevirtual 60, 3) := by decide +kernel
theorem dX10_writeCall_48 : decode cX10_writeCall 48 = .ok (.iinc 2 1, 3) := by decide +kernel
theorem dX10_writeCall_51 : decode cX10_writeCall 51 = .ok (.goto (-49), 3) := by decide +kernel
theorem dX10_writeCall_54 : decode cX10_writeCall 54 = .ok (.aload_n 0, 1) := by decide +kernel
theorem dX10_writeCall_55 : decode cX10_writeCall 55 = .ok (.getfield 23, 3) := by decide +kernel
theorem dX10_writeCall_58 : decode cX10_writeCall 58 = .ok (.aload_n 0, 1) := by decide +kernel
theorem dX10_writeCall_59 : decode cX10_writeCall 59 = .ok (.getfield 27, 3) := by decide +kernel
theorem dX10_writeCall_62 : decode cX10_writeCall 62 = .ok (.bipush 13, 2) := by decide +kernel
theorem dX10_writeCall_64 : decode cX10_writeCall 64 = .ok (.aload_n 0, 1) := by decide +kernel
theorem dX10_writeCall_65 : decode cX10_writeCall 65 = .ok (.getfield 15, 3) := by decide +kernel
theorem dX10_writeCall_68 : decode cX10_writeCall 68 = .ok (.getfield 84, 3) := by decide +kernel
theorem dX10_writeCall_71 : decode cX10_writeCall 71 = .ok (.iload_n 1, 1) := by decide +kernel
theorem dX10_writeCall_72 : decode cX10_writeCall 72 = .ok (.iaload, 1) := by decide +kernel
theorem dX10_writeCall_73 : decode cX10_writeCall 73 = .ok (.iconst 0, 1) := by decide +kernel
theorem dX10_writeCall_74 : decode cX10_writeCall 74 = .ok (.invokevirtual 60, 3) := by decide +kernel
theorem dX10_writeCall_77 : decode cX10_writeCall 77 = .ok (.aload_n 0, 1) := by decide +kernel
theorem dX10_writeCall_78 : decode cX10_writeCall 78 = .ok (.getfield 23, 3) := by decide +kernel
theorem dX10_writeCall_81 : decode cX10_writeCall 81 = .ok (.aload_n 0, 1) := by decide +kernel
theorem dX10_writeCall_82 : decode cX10_writeCall 82 = .ok (.getfield 27, 3) := by decide +kernel
theorem dX10_writeCall_85 : decode cX10_writeCall 85 = .ok (.bipush 14, 2) := by decide +kernel
theorem dX10_writeCall_87 : decode cX10_writeCall 87 = .ok (.aload_n 0, 1) := by decide +kernel
theorem dX10_writeCall_88 : decode cX10_writeCall 88 = .ok (.aload_n 0, 1) := by decide +kernel
theorem dX10_writeCall_89 : decode cX10_writeCall 89 = .ok (.getfield 15, 3) := by decide +kernel
theorem dX10_writeCall_92 : decode cX10_writeCall 92 = .ok (.getfield 81, 3) := by decide +kernel
theorem dX10_writeCall_95 : decode cX10_writeCall 95 = .ok (.iload_n 1, 1) := by decide +kernel
theorem dX10_writeCall_96 : decode cX10_writeCall 96 = .ok (.iaload, 1) := by decide +kernel
theorem dX10_writeCall_97 : decode cX10_writeCall 97 = .ok (.invokevirtual 56, 3) := by decide +kernel
theorem dX10_writeCall_100 : decode cX10_writeCall 100 = .ok (.iconst 0, 1) := by decide +kernel
theorem dX10_writeCall_101 : decode cX10_writeCall 101 = .ok (.invokevirtual 60, 3) := by decide +kernel
theorem dX10_writeCall_104 : decode cX10_writeCall 104 = .ok (.aload_n 0, 1) := by decide +kernel
theorem dX10_writeCall_105 : decode cX10_writeCall 105 = .ok (.aload_n 0, 1) := by decide +kernel
theorem dX10_writeCall_106 : decode cX10_writeCall 106 = .ok (.getfield 15, 3) := by decide +kernel
theorem dX10_writeCall_109 : decode cX10_writeCall 109 = .ok (.getfield 81, 3) := by decide +kernel
theorem dX10_writeCall_112 : decode cX10_writeCall 112 = .ok (.iload_n 1, 1) := by decide +kernel
theorem dX10_writeCall_113 : decode cX10_writeCall 113 = .ok (.iaload, 1) := by decide +kernel
theorem dX10_writeCall_114 : decode cX10_writeCall 114 = .ok (.invokevirtual 64, 3) := by decide +kernel
theorem dX10_writeCall_117 : decode cX10_writeCall 117 = .ok (.return_, 1) := by decide +kernel
theorem dX10_moveInto_0 : decode cX10_moveInto 0 = .ok (.aload_n 0, 1) := by decide +kernel
theorem dX10_moveInto_1 : decode cX10_moveInto 1 = .ok (.getfield 19, 3) := by decide +kernel
theorem dX10_moveInto_4 : decode cX10_moveInto 4 = .ok (.aload_n 0, 1) := by decide +kernel
theorem dX10_moveInto_5 : decode cX10_moveInto 5 = .ok (.getfield 27, 3) := by decide +kernel
theorem dX10_moveInto_8 : decode cX10_moveInto 8 = .ok (.iload_n 2, 1) := by decide +kernel
theorem dX10_moveInto_9 : decode cX10_moveInto 9 = .ok (.invokevirtual 120, 3) := by decide +kernel
theorem dX10_moveInto_12 : decode cX10_moveInto 12 = .ok (.istore_n 3, 1) := by decide +kernel
theorem dX10_moveInto_13 : decode cX10_moveInto 13 = .ok (.iload_n 3, 1) := by decide +kernel
theorem dX10_moveInto_14 : decode cX10_moveInto 14 = .ok (.iconst (-1), 1) := by decide +kernel
theorem dX10_moveInto_15 : decode cX10_moveInto 15 = .ok (.if_icmp .eq 21, 3) := by decide +kernel
theorem dX10_moveInto_18 : decode cX10_moveInto 18 = .ok (.aload_n 0, 1) := by decide +kernel
theorem dX10_moveInto_19 : decode cX10_moveInto 19 = .ok (.getfield 23, 3) := by decide +kernel
theorem dX10_moveInto_22 : decode cX10_moveInto 22 = .ok (.aload_n 0, 1) := by decide +kernel
theorem dX10_moveInto_23 : decode cX10_moveInto 23 = .ok (.getfield 27, 3) := by decide +kernel
theorem dX10_moveInto_26 : decode cX10_moveInto 26 = .ok (.bipush 9, 2) := by decide +kernel
theorem dX10_moveInto_28 : decode cX10_moveInto 28 = .ok (.iload_n 1, 1) := by decide +kernel
theorem dX10_moveInto_29 : decode cX10_moveInto 29 = .ok (.iload_n 3, 1) := by decide +kernel
theorem dX10_moveInto_30 : decode cX10_moveInto 30 = .ok (.invokevirtual 60, 3) := by decide +kernel
theorem dX10_moveInto_33 : decode cX10_moveInto 33 = .ok (.goto 44, 3) := by decide +kernel
theorem dX10_moveInto_36 : decode cX10_moveInto 36 = .ok (.iload_n 1, 1) := by decide +kernel
theorem dX10_moveInto_37 : decode cX10_moveInto 37 = .ok (.aload_n 0, 1) := by decide +kernel
theorem dX10_moveInto_38 : decode cX10_moveInto 38 = .ok (.getfield 19, 3) := by decide +kernel
theorem dX10_moveInto_41 : decode cX10_moveInto 41 = .ok (.aload_n 0, 1) := by decide +kernel
theorem dX10_moveInto_42 : decode cX10_moveInto 42 = .ok (.getfield 27, 3) := by decide +kernel
theorem dX10_moveInto_45 : decode cX10_moveInto 45 = .ok (.iload_n 2, 1) := by decide +kernel
theorem dX10_moveInto_46 : decode cX10_moveInto 46 = .ok (.invokevirtual 125, 3) := by decide +kernel
theorem dX10_moveInto_49 : decode cX10_moveInto 49 = .ok (.if_icmp .eq 28, 3) := by decide +kernel
theorem dX10_moveInto_52 : decode cX10_moveInto 52 = .ok (.aload_n 0, 1) := by decide +kernel
theorem dX10_moveInto_53 : decode cX10_moveInto 53 = .ok (.getfield 23, 3) := by decide +kernel
theorem dX10_moveInto_56 : decode cX10_moveInto 56 = .ok (.aload_n 0, 1) := by decide +kernel
theorem dX10_moveInto_57 : decode cX10_moveInto 57 = .ok (.getfield 27, 3) := by decide +kernel
theorem dX10_moveInto_60 : decode cX10_moveInto 60 = .ok (.iconst 1, 1) := by decide +kernel
theorem dX10_moveInto_61 : decode cX10_moveInto 61 = .ok (.iload_n 1, 1) := by decide +kernel
theorem dX10_moveInto_62 : decode cX10_moveInto 62 = .ok (.aload_n 0, 1) := by decide +kernel
theorem dX10_moveInto_63 : decode cX10_moveInto 63 = .ok (.getfield 19, 3) := by decide +kernel
theorem dX10_moveInto_66 : decode cX10_moveInto 66 = .ok (.aload_n 0, 1) := by decide +kernel
theorem dX10_moveInto_67 : decode cX10_moveInto 67 = .ok (.getfield 27, 3) := by decide +kernel
theorem dX10_moveInto_70 : decode cX10_moveInto 70 = .ok (.iload_n 2, 1) := by decide +kernel
theorem dX10_moveInto_71 : decode cX10_moveInto 71 = .ok (.invokevirtual 125, 3) := by decide +kernel
theorem dX10_moveInto_74 : decode cX10_moveInto 74 = .ok (.invokevirtual 60, 3) := by decide +kernel
theorem dX10_moveInto_77 : decode cX10_moveInto 77 = .ok (.return_, 1) := by decide +kernel
theorem dX10_moveFrom_0 : decode cX10_moveFrom 0 = .ok (.aload_n 0, 1) := by decide +kernel
theorem dX10_moveFrom_1 : decode cX10_moveFrom 1 = .ok (.getfield 19, 3) := by decide +kernel
theorem dX10_moveFrom_4 : decode cX10_moveFrom 4 = .ok (.aload_n 0, 1) := by decide +kernel
theorem dX10_moveFrom_5 : decode cX10_moveFrom 5 = .ok (.getfield 27, 3) := by decide +kernel
theorem dX10_moveFrom_8 : decode cX10_moveFrom 8 = .ok (.iload_n 1, 1) := by decide +kernel
theorem dX10_moveFrom_9 : decode cX10_moveFrom 9 = .ok (.invokevirtual 120, 3) := by decide +kernel
theorem dX10_moveFrom_12 : decode cX10_moveFrom 12 = .ok (.istore_n 3, 1) := by decide +kernel
theorem dX10_moveFrom_13 : decode cX10_moveFrom 13 = .ok (.iload_n 3, 1) := by decide +kernel
theorem dX10_moveFrom_14 : decode cX10_moveFrom 14 = .ok (.iconst (-1), 1) := by decide +kernel
theorem dX10_moveFrom_15 : decode cX10_moveFrom 15 = .ok (.if_icmp .eq 21, 3) := by decide +kernel
theorem dX10_moveFrom_18 : decode cX10_moveFrom 18 = .ok (.aload_n 0, 1) := by decide +kernel
theorem dX10_moveFrom_19 : decode cX10_moveFrom 19 = .ok (.getfield 23, 3) := by decide +kernel
theorem dX10_moveFrom_22 : decode cX10_moveFrom 22 = .ok (.aload_n 0, 1) := by decide +kernel
theorem dX10_moveFrom_23 : decode cX10_moveFrom 23 = .ok (.getfield 27, 3) := by decide +kernel
theorem dX10_moveFrom_26 : decode cX10_moveFrom 26 = .ok (.bipush 10, 2) := by decide +kernel
theorem dX10_moveFrom_28 : decode cX10_moveFrom 28 = .ok (.iload_n 3, 1) := by decide +kernel
theorem dX10_moveFrom_29 : decode cX10_moveFrom 29 = .ok (.iload_n 2, 1) := by decide +kernel
theorem dX10_moveFrom_30 : decode cX10_moveFrom 30 = .ok (.invokevirtual 60, 3) := by decide +kernel
theorem dX10_moveFrom_33 : decode cX10_moveFrom 33 = .ok (.goto 28, 3) := by decide +kernel
theorem dX10_moveFrom_36 : decode cX10_moveFrom 36 = .ok (.aload_n 0, 1) := by decide +kernel
theorem dX10_moveFrom_37 : decode cX10_moveFrom 37 = .ok (.getfield 23, 3) := by decide +kernel
theorem dX10_moveFrom_40 : decode cX10_moveFrom 40 = .ok (.aload_n 0, 1) := by decide +kernel
theorem dX10_moveFrom_41 : decode cX10_moveFrom 41 = .ok (.getfield 27, 3) := by decide +kernel
theorem dX10_moveFrom_44 : decode cX10_moveFrom 44 = .ok (.iconst 1, 1) := by decide +kernel
theorem dX10_moveFrom_45 : decode cX10_moveFrom 45 = .ok (.aload_n 0, 1) := by decide +kernel
theorem dX10_moveFrom_46 : decode cX10_moveFrom 46 = .ok (.getfield 19, 3) := by decide +kernel
theorem dX10_moveFrom_49 : decode cX10_moveFrom 49 = .ok (.aload_n 0, 1) := by decide +kernel
theorem dX10_moveFrom_50 : decode cX10_moveFrom 50 = .ok (.getfield 27, 3) := by decide +kernel
theorem dX10_moveFrom_53 : decode cX10_moveFrom 53 = .ok (.iload_n 1, 1) := by decide +kernel
theorem dX10_moveFrom_54 : decode cX10_moveFrom 54 = .ok (.invokevirtual 125, 3) := by decide +kernel
theorem dX10_moveFrom_57 : decode cX10_moveFrom 57 = .ok (.iload_n 2, 1) := by decide +kernel
theorem dX10_moveFrom_58 : decode cX10_moveFrom 58 = .ok (.invokevirtual 60, 3) := by decide +kernel
theorem dX10_moveFrom_61 : decode cX10_moveFrom 61 = .ok (.return_, 1) := by decide +kernel
theorem dX10_loaded_0 : decode cX10_loaded 0 = .ok (.aload_n 0, 1) := by decide +kernel
theorem dX10_loaded_1 : decode cX10_loaded 1 = .ok (.getfield 19, 3) := by decide +kernel
theorem dX10_loaded_4 : decode cX10_loaded 4 = .ok (.aload_n 0, 1) := by decide +kernel
theorem dX10_loaded_5 : decode cX10_loaded 5 = .ok (.getfield 27, 3) := by decide +kernel
theorem dX10_loaded_8 : decode cX10_loaded 8 = .ok (.iload_n 1, 1) := by decide +kernel
theorem dX10_loaded_9 : decode cX10_loaded 9 = .ok (.invokevirtual 120, 3) := by decide +kernel
theorem dX10_loaded_12 : decode cX10_loaded 12 = .ok (.istore_n 3, 1) := by decide +kernel
theorem dX10_loaded_13 : decode cX10_loaded 13 = .ok (.iload_n 3, 1) := by decide +kernel
theorem dX10_loaded_14 : decode cX10_loaded 14 = .ok (.iconst (-1), 1) := by decide +kernel
theorem dX10_loaded_15 : decode cX10_loaded 15 = .ok (.if_icmp .ne 16, 3) := by decide +kernel
theorem dX10_loaded_18 : decode cX10_loaded 18 = .ok (.aload_n 0, 1) := by decide +kernel
theorem dX10_loaded_19 : decode cX10_loaded 19 = .ok (.getfield 19, 3) := by decide +kernel
theorem dX10_loaded_22 : decode cX10_loaded 22 = .ok (.aload_n 0, 1) := by decide +kernel
theorem dX10_loaded_23 : decode cX10_loaded 23 = .ok (.getfield 27, 3) := by decide +kernel
theorem dX10_loaded_26 : decode cX10_loaded 26 = .ok (.iload_n 1, 1) := by decide +kernel
theorem dX10_loaded_27 : decode cX10_loaded 27 = .ok (.invokevirtual 125, 3) := by decide +kernel
theorem dX10_loaded_30 : decode cX10_loaded 30 = .ok (.ireturn, 1) := by decide +kernel
theorem dX10_loaded_31 : decode cX10_loaded 31 = .ok (.aload_n 0, 1) := by decide +kernel
theorem dX10_loaded_32 : decode cX10_loaded 32 = .ok (.getfield 23, 3) := by decide +kernel
theorem dX10_loaded_35 : decode cX10_loaded 35 = .ok (.aload_n 0, 1) := by decide +kernel
theorem dX10_loaded_36 : decode cX10_loaded 36 = .ok (.getfield 27, 3) := by decide +kernel
theorem dX10_loaded_39 : decode cX10_loaded 39 = .ok (.bipush 9, 2) := by decide +kernel
theorem dX10_loaded_41 : decode cX10_loaded 41 = .ok (.iload_n 2, 1) := by decide +kernel
theorem dX10_loaded_42 : decode cX10_loaded 42 = .ok (.iload_n 3, 1) := by decide +kernel
theorem dX10_loaded_43 : decode cX10_loaded 43 = .ok (.invokevirtual 60, 3) := by decide +kernel
theorem dX10_loaded_46 : decode cX10_loaded 46 = .ok (.iload_n 2, 1) := by decide +kernel
theorem dX10_loaded_47 : decode cX10_loaded 47 = .ok (.ireturn, 1) := by decide +kernel
theorem dX10_target_0 : decode cX10_target 0 = .ok (.aload_n 0, 1) := by decide +kernel
theorem dX10_target_1 : decode cX10_target 1 = .ok (.getfield 19, 3) := by decide +kernel
theorem dX10_target_4 : decode cX10_target 4 = .ok (.aload_n 0, 1) := by decide +kernel
theorem dX10_target_5 : decode cX10_target 5 = .ok (.getfield 27, 3) := by decide +kernel
theorem dX10_target_8 : decode cX10_target 8 = .ok (.iload_n 1, 1) := by decide +kernel
theorem dX10_target_9 : decode cX10_target 9 = .ok (.invokevirtual 120, 3) := by decide +kernel
theorem dX10_target_12 : decode cX10_target 12 = .ok (.iconst (-1), 1) := by decide +kernel
theorem dX10_target_13 : decode cX10_target 13 = .ok (.if_icmp .ne 18, 3) := by decide +kernel
theorem dX10_target_16 : decode cX10_target 16 = .ok (.aload_n 0, 1) := by decide +kernel
theorem dX10_target_17 : decode cX10_target 17 = .ok (.getfield 19, 3) := by decide +kernel
theorem dX10_target_20 : decode cX10_target 20 = .ok (.aload_n 0, 1) := by decide +kernel
theorem dX10_target_21 : decode cX10_target 21 = .ok (.getfield 27, 3) := by decide +kernel
theorem dX10_target_24 : decode cX10_target 24 = .ok (.iload_n 1, 1) := by decide +kernel
theorem dX10_target_25 : decode cX10_target 25 = .ok (.invokevirtual 125, 3) := by decide +kernel
theorem dX10_target_28 : decode cX10_target 28 = .ok (.goto 7, 3) := by decide +kernel
theorem dX10_target_31 : decode cX10_target 31 = .ok (.aload_n 0, 1) := by decide +kernel
theorem dX10_target_32 : decode cX10_target 32 = .ok (.getfield 31, 3) := by decide +kernel
theorem dX10_target_35 : decode cX10_target 35 = .ok (.ireturn, 1) := by decide +kernel
theorem dX10_saveTarget_0 : decode cX10_saveTarget 0 = .ok (.aload_n 0, 1) := by decide +kernel
theorem dX10_saveTarget_1 : decode cX10_saveTarget 1 = .ok (.getfield 19, 3) := by decide +kernel
theorem dX10_saveTarget_4 : decode cX10_saveTarget 4 = .ok (.aload_n 0, 1) := by decide +kernel
theorem dX10_saveTarget_5 : decode cX10_saveTarget 5 = .ok (.getfield 27, 3) := by decide +kernel
theorem dX10_saveTarget_8 : decode cX10_saveTarget 8 = .ok (.iload_n 1, 1) := by decide +kernel
theorem dX10_saveTarget_9 : decode cX10_saveTarget 9 = .ok (.invokevirtual 120, 3) := by decide +kernel
theorem dX10_saveTarget_12 : decode cX10_saveTarget 12 = .ok (.istore_n 2, 1) := by decide +kernel
theorem dX10_saveTarget_13 : decode cX10_saveTarget 13 = .ok (.iload_n 2, 1) := by decide +kernel
theorem dX10_saveTarget_14 : decode cX10_saveTarget 14 = .ok (.iconst (-1), 1) := by decide +kernel
theorem dX10_saveTarget_15 : decode cX10_saveTarget 15 = .ok (.if_icmp .eq 21, 3) := by decide +kernel
theorem dX10_saveTarget_18 : decode cX10_saveTarget 18 = .ok (.aload_n 0, 1) := by decide +kernel
theorem dX10_saveTarget_19 : decode cX10_saveTarget 19 = .ok (.getfield 23, 3) := by decide +kernel
theorem dX10_saveTarget_22 : decode cX10_saveTarget 22 = .ok (.aload_n 0, 1) := by decide +kernel
theorem dX10_saveTarget_23 : decode cX10_saveTarget 23 = .ok (.getfield 27, 3) := by decide +kernel
theorem dX10_saveTarget_26 : decode cX10_saveTarget 26 = .ok (.bipush 10, 2) := by decide +kernel
theorem dX10_saveTarget_28 : decode cX10_saveTarget 28 = .ok (.iload_n 2, 1) := by decide +kernel
theorem dX10_saveTarget_29 : decode cX10_saveTarget 29 = .ok (.aload_n 0, 1) := by decide +kernel
theorem dX10_saveTarget_30 : decode cX10_saveTarget 30 = .ok (.getfield 31, 3) := by decide +kernel
theorem dX10_saveTarget_33 : decode cX10_saveTarget 33 = .ok (.invokevirtual 60, 3) := by decide +kernel
theorem dX10_saveTarget_36 : decode cX10_saveTarget 36 = .ok (.return_, 1) := by decide +kernel
theorem dX11_init_0 : decode cX11_init 0 = .ok (.aload_n 0, 1) := by decide +kernel
theorem dX11_init_1 : decode cX11_init 1 = .ok (.invokespecial 3, 3) := by decide +kernel
theorem dX11_init_4 : decode cX11_init 4 = .ok (.aload_n 0, 1) := by decide +kernel
theorem dX11_init_5 : decode cX11_init 5 = .ok (.new 9, 3) := by decide +kernel
theorem dX11_init_8 : decode cX11_init 8 = .ok (.dup, 1) := by decide +kernel
theorem dX11_init_9 : decode cX11_init 9 = .ok (.invokespecial 11, 3) := by decide +kernel
theorem dX11_init_12 : decode cX11_init 12 = .ok (.putfield 12, 3) := by decide +kernel
theorem dX11_init_15 : decode cX11_init 15 = .ok (.aload_n 0, 1) := by decide +kernel
theorem dX11_init_16 : decode cX11_init 16 = .ok (.new 16, 3) := by decide +kernel
theorem dX11_init_19 : decode cX11_init 19 = .ok (.dup, 1) := by decide +kernel
theorem dX11_init_20 : decode cX11_init 20 = .ok (.aload_n 0, 1) := by decide +kernel
theorem dX11_init_21 : decode cX11_init 21 = .ok (.getfield 12, 3) := by decide +kernel
theorem dX11_init_24 : decode cX11_init 24 = .ok (.invokespecial 18, 3) := by decide +kernel
theorem dX11_init_27 : decode cX11_init 27 = .ok (.putfield 21, 3) := by decide +kernel
theorem dX11_init_30 : decode cX11_init 30 = .ok (.aload_n 0, 1) := by decide +kernel
theorem dX11_init_31 : decode cX11_init 31 = .ok (.new 25, 3) := by decide +kernel
theorem dX11_init_34 : decode cX11_init 34 = .ok (.dup, 1) := by decide +kernel
theorem dX11_init_35 : decode cX11_init 35 = .ok (.aload_n 0, 1) := by decide +kernel
theorem dX11_init_36 : decode cX11_init 36 = .ok (.getfield 12, 3) := by decide +kernel
theorem dX11_init_39 : decode cX11_init 39 = .ok (.invokespecial 27, 3) := by decide +kernel
theorem dX11_init_42 : decode cX11_init 42 = .ok (.putfield 28, 3) := by decide +kernel
theorem dX11_init_45 : decode cX11_init 45 = .ok (.aload_n 0, 1) := by decide +kernel
theorem dX11_init_46 : decode cX11_init 46 = .ok (.new 32, 3) := by decide +kernel
theorem dX11_init_49 : decode cX11_init 49 = .ok (.dup, 1) := by decide +kernel
theorem dX11_init_50 : decode cX11_init 50 = .ok (.aload_n 0, 1) := by decide +kernel
theorem dX11_init_51 : decode cX11_init 51 = .ok (.getfield 12, 3) := by decide +kernel
theorem dX11_init_54 : decode cX11_init 54 = .ok (.invokespecial 34, 3) := by decide +kernel
theorem dX11_init_57 : decode cX11_init 57 = .ok (.putfield 35, 3) := by decide +kernel
theorem dX11_init_60 : decode cX11_init 60 = .ok (.aload_n 0, 1) := by decide +kernel
theorem dX11_init_61 : decode cX11_init 61 = .ok (.new 39, 3) := by decide +kernel
theorem dX11_init_64 : decode cX11_init 64 = .ok (.dup, 1) := by decide +kernel
theorem dX11_init_65 : decode cX11_init 65 = .ok (.aload_n 0, 1) := by decide +kernel
theorem dX11_init_66 : decode cX11_init 66 = .ok (.getfield 28, 3) := by decide +kernel
theorem dX11_init_69 : decode cX11_init 69 = .ok (.getfield 41, 3) := by decide +kernel
theorem dX11_init_72 : decode cX11_init 72 = .ok (.invokespecial 45, 3) := by decide +kernel
theorem dX11_init_75 : decode cX11_init 75 = .ok (.putfield 48, 3) := by decide +kernel
theorem dX11_init_78 : decode cX11_init 78 = .ok (.return_, 1) := by decide +kernel
theorem dX11_func_0 : decode cX11_func 0 = .ok (.iload_n 1, 1) := by decide +kernel
theorem dX11_func_1 : decode cX11_func 1 = .ok (.ifCond .lt 24, 3) := by decide +kernel
theorem dX11_func_4 : decode cX11_func 4 = .ok (.iload_n 1, 1) := by decide +kernel
theorem dX11_func_5 : decode cX11_func 5 = .ok (.bipush 6, 2) := by decide +kernel
theorem dX11_func_7 : decode cX11_func 7 = .ok (.if_icmp .gt 18, 3) := by decide +kernel
theorem dX11_func_10 : decode cX11_func 10 = .ok (.iload_n 2, 1) := by decide +kernel
theorem dX11_func_11 : decode cX11_func 11 = .ok (.iload_n 1, 1) := by decide +kernel
theorem dX11_func_12 : decode cX11_func 12 = .ok (.if_icmp .lt 13, 3) := by decide +kernel
theorem dX11_func_15 : decode cX11_func 15 = .ok (.iload_n 2, 1) := by decide +kernel
theorem dX11_func_16 : decode cX11_func 16 = .ok (.bipush 10, 2) := by decide +kernel
theorem dX11_func_18 : decode cX11_func 18 = .ok (.if_icmp .gt 7, 3) := by decide +kernel
theorem dX11_func_21 : decode cX11_func 21 = .ok (.iconst 1, 1) := by decide +kernel
theorem dX11_func_22 : decode cX11_func 22 = .ok (.goto 4, 3) := by decide +kernel
theorem dX11_func_25 : decode cX11_func 25 = .ok (.iconst 0, 1) := by decide +kernel
theorem dX11_func_26 : decode cX11_func 26 = .ok (.istore_n 3, 1) := by decide +kernel
theorem dX11_func_27 : decode cX11_func 27 = .ok (.iload_n 3, 1) := by decide +kernel
theorem dX11_func_28 : decode cX11_func 28 = .ok (.ifCond .eq 25, 3) := by decide +kernel
theorem dX11_func_31 : decode cX11_func 31 = .ok (.aload_n 0, 1) := by decide +kernel
theorem dX11_func_32 : decode cX11_func 32 = .ok (.getfield 12, 3) := by decide +kernel
theorem dX11_func_35 : decode cX11_func 35 = .ok (.getfield 51, 3) := by decide +kernel
theorem dX11_func_38 : decode cX11_func 38 = .ok (.ifCond .ne 15, 3) := by decide +kernel
theorem dX11_func_41 : decode cX11_func 41 = .ok (.aload_n 0, 1) := by decide +kernel
theorem dX11_func_42 : decode cX11_func 42 = .ok (.getfield 12, 3) := by decide +kernel
theorem dX11_func_45 : decode cX11_func 45 = .ok (.getfield 55, 3) := by decide +kernel
theorem dX11_func_48 : decode cX11_func 48 = .ok (.bipush 12, 2) := by decide +kernel
theorem dX11_func_50 : decode cX11_func 50 = .ok (.if_icmp .lt 5, 3) := by decide +kernel
theorem dX11_func_53 : decode cX11_func 53 = .ok (.iconst (-1), 1) := by decide +kernel
theorem dX11_func_54 : decode cX11_func 54 = .ok (.ireturn, 1) := by decide +kernel
theorem dX11_func_55 : decode cX11_func 55 = .ok (.aload_n 0, 1) := by decide +kernel
theorem dX11_func_56 : decode cX11_func 56 = .ok (.getfield 12, 3) := by decide +kernel
theorem dX11_func_59 : decode cX11_func 59 = .ok (.iload_n 1, 1) := by decide +kernel
theorem dX11_func_60 : decode cX11_func 60 = .ok (.iload_n 2, 1) := by decide +kernel
theorem dX11_func_61 : decode cX11_func 61 = .ok (.invokevirtual 59, 3) := by decide +kernel
theorem dX11_func_64 : decode cX11_func 64 = .ok (.ireturn, 1) := by decide +kernel
theorem dX11_word_0 : decode cX11_word 0 = .ok (.aload_n 0, 1) := by decide +kernel
theorem dX11_word_1 : decode cX11_word 1 = .ok (.getfield 12, 3) := by decide +kernel
theorem dX11_word_4 : decode cX11_word 4 = .ok (.getfield 55, 3) := by decide +kernel
theorem dX11_word_7 : decode cX11_word 7 = .ok (.ifCond .eq 26, 3) := by decide +kernel
theorem dX11_word_10 : decode cX11_word 10 = .ok (.aload_n 0, 1) := by decide +kernel
theorem dX11_word_11 : decode cX11_word 11 = .ok (.getfield 12, 3) := by decide +kernel
theorem dX11_word_14 : decode cX11_word 14 = .ok (.getfield 51, 3) := by decide +kernel
theorem dX11_word_17 : decode cX11_word 17 = .ok (.ifCond .ne 16, 3) := by decide +kernel
theorem dX11_word_20 : decode cX11_word 20 = .ok (.aload_n 0, 1) := by decide +kernel
theorem dX11_word_21 : decode cX11_word 21 = .ok (.getfield 12, 3) := by decide +kernel
theorem dX11_word_24 : decode cX11_word 24 = .ok (.getfield 63, 3) := by decide +kernel
theorem dX11_word_27 : decode cX11_word 27 = .ok (.sipush 300, 3) := by decide +kernel
theorem dX11_word_30 : decode cX11_word 30 = .ok (.if_icmp .lt 5, 3) := by decide +kernel
theorem dX11_word_33 : decode cX11_word 33 = .ok (.iconst (-1), 1) := by decide +kernel
theorem dX11_word_34 : decode cX11_word 34 = .ok (.ireturn, 1) := by decide +kernel
theorem dX11_word_35 : decode cX11_word 35 = .ok (.aload_n 0, 1) := by decide +kernel
theorem dX11_word_36 : decode cX11_word 36 = .ok (.getfield 12, 3) := by decide +kernel
theorem dX11_word_39 : decode cX11_word 39 = .ok (.iload_n 1, 1) := by decide +kernel
theorem dX11_word_40 : decode cX11_word 40 = .ok (.iload_n 2, 1) := by decide +kernel
theorem dX11_word_41 : decode cX11_word 41 = .ok (.invokevirtual 66, 3) := by decide +kernel
theorem dX11_word_44 : decode cX11_word 44 = .ok (.ireturn, 1) := by decide +kernel
theorem dX11_check_0 : decode cX11_check 0 = .ok (.aload_n 0, 1) := by decide +kernel
theorem dX11_check_1 : decode cX11_check 1 = .ok (.getfield 12, 3) := by decide +kernel
theorem dX11_check_4 : decode cX11_check 4 = .ok (.getfield 51, 3) := by decide +kernel
theorem dX11_check_7 : decode cX11_check 7 = .ok (.ifCond .eq 5, 3) := by decide +kernel
theorem dX11_check_10 : decode cX11_check 10 = .ok (.iconst 0, 1) := by decide +kernel
theorem dX11_check_11 : decode cX11_check 11 = .ok (.ireturn, 1) := by decide +kernel
theorem dX11_check_12 : decode cX11_check 12 = .ok (.aload_n 0, 1) := by decide +kernel
theorem dX11_check_13 : decode cX11_check 13 = .ok (.getfield 21, 3) := by decide +kernel
theorem dX11_check_16 : decode cX11_check 16 = .ok (.invokevirtual 69, 3) := by decide +kernel
theorem dX11_check_19 : decode cX11_check 19 = .ok (.istore_n 1, 1) := by decide +kernel
theorem dX11_check_20 : decode cX11_check 20 = .ok (.aload_n 0, 1) := by decide +kernel
theorem dX11_check_21 : decode cX11_check 21 = .ok (.getfield 12, 3) := by decide +kernel
theorem dX11_check_24 : decode cX11_check 24 = .ok (.iload_n 1, 1) := by decide +kernel
theorem dX11_check_25 : decode cX11_check 25 = .ok (.ifCond .ne 7, 3) := by decide +kernel
theorem dX11_check_28 : decode cX11_check 28 = .ok (.iconst 1, 1) := by decide +kernel
theorem dX11_check_29 : decode cX11_check 29 = .ok (.goto 4, 3) := by decide +kernel
theorem dX11_check_32 : decode cX11_check 32 = .ok (.iconst 0, 1) := by decide +kernel
theorem dX11_check_33 : decode cX11_check 33 = .ok (.putfield 51, 3) := by decide +kernel
theorem dX11_check_36 : decode cX11_check 36 = .ok (.iload_n 1, 1) := by decide +kernel
theorem dX11_check_37 : decode cX11_check 37 = .ok (.ireturn, 1) := by decide +kernel
theorem dX11_depth_0 : decode cX11_depth 0 = .ok (.aload_n 0, 1) := by decide +kernel
theorem dX11_depth_1 : decode cX11_depth 1 = .ok (.getfield 12, 3) := by decide +kernel
theorem dX11_depth_4 : decode cX11_depth 4 = .ok (.getfield 51, 3) := by decide +kernel
theorem dX11_depth_7 : decode cX11_depth 7 = .ok (.ifCond .eq 14, 3) := by decide +kernel
theorem dX11_depth_10 : decode cX11_depth 10 = .ok (.aload_n 0, 1) := by decide +kernel
theorem dX11_depth_11 : decode cX11_depth 11 = .ok (.getfield 12, 3) := by decide +kernel
theorem dX11_depth_14 : decode cX11_depth 14 = .ok (.iload_n 1, 1) := by decide +kernel
theorem dX11_depth_15 : decode cX11_depth 15 = .ok (.invokevirtual 73, 3) := by decide +kernel
theorem dX11_depth_18 : decode cX11_depth 18 = .ok (.ifCond .ne 5, 3) := by decide +kernel
theorem dX11_depth_21 : decode cX11_depth 21 = .ok (.iconst (-1), 1) := by decide +kernel
theorem dX11_depth_22 : decode cX11_depth 22 = .ok (.ireturn, 1) := by decide +kernel
theorem dX11_depth_23 : decode cX11_depth 23 = .ok (.iload_n 2, 1) := by decide +kernel
theorem dX11_depth_24 : decode cX11_depth 24 = .ok (.ifCond .lt 16, 3) := by decide +kernel
theorem dX11_depth_27 : decode cX11_depth 27 = .ok (.iload_n 2, 1) := by decide +kernel
theorem dX11_depth_28 : decode cX11_depth 28 = .ok (.aload_n 0, 1) := by decide +kernel
theorem dX11_depth_29 : decode cX11_depth 29 = .ok (.getfield 12, 3) := by decide +kernel
theorem dX11_depth_32 : decode cX11_depth 32 = .ok (.getfield 77, 3) := by decide +kernel
theorem dX11_depth_35 : decode cX11_depth 35 = .ok (.iload_n 1, 1) := by decide +kernel
theorem dX11_depth_36 : decode cX11_depth 36 = .ok (.iaload, 1) := by decide +kernel
theorem dX11_depth_37 : decode cX11_depth 37 = .ok (.if_icmp .lt 5, 3) := by decide +kernel
theorem dX11_depth_40 : decode cX11_depth 40 = .ok (.iconst (-1), 1) := by decide +kernel
theorem dX11_depth_41 : decode cX11_depth 41 = .ok (.ireturn, 1) := by decide +kernel
theorem dX11_depth_42 : decode cX11_depth 42 = .ok (.aload_n 0, 1) := by decide +kernel
theorem dX11_depth_43 : decode cX11_depth 43 = .ok (.getfield 12, 3) := by decide +kernel
theorem dX11_depth_46 : decode cX11_depth 46 = .ok (.getfield 81, 3) := by decide +kernel
theorem dX11_depth_49 : decode cX11_depth 49 = .ok (.aload_n 0, 1) := by decide +kernel
theorem dX11_depth_50 : decode cX11_depth 50 = .ok (.getfield 12, 3) := by decide +kernel
theorem dX11_depth_53 : decode cX11_depth 53 = .ok (.getfield 84, 3) := by decide +kernel
theorem dX11_depth_56 : decode cX11_depth 56 = .ok (.iload_n 1, 1) := by decide +kernel
theorem dX11_depth_57 : decode cX11_depth 57 = .ok (.iaload, 1) := by decide +kernel
theorem dX11_depth_58 : decode cX11_depth 58 = .ok (.iload_n 2, 1) := by decide +kernel
theorem dX11_depth_59 : decode cX11_depth 59 = .ok (.iadd, 1) := by decide +kernel
theorem dX11_depth_60 : decode cX11_depth 60 = .ok (.iaload, 1) := by decide +kernel
theorem dX11_depth_61 : decode cX11_depth 61 = .ok (.ireturn, 1) := by decide +kernel
theorem dX11_clear_0 : decode cX11_clear 0 = .ok (.aload_n 0, 1) := by decide +kernel
theorem dX11_clear_1 : decode cX11_clear 1 = .ok (.getfield 12, 3) := by decide +kernel
theorem dX11_clear_4 : decode cX11_clear 4 = .ok (.invokevirtual 87, 3) := by decide +kernel
theorem dX11_clear_7 : decode cX11_clear 7 = .ok (.aload_n 0, 1) := by decide +kernel
theorem dX11_clear_8 : decode cX11_clear 8 = .ok (.getfield 28, 3) := by decide +kernel
theorem dX11_clear_11 : decode cX11_clear 11 = .ok (.iconst 0, 1) := by decide +kernel
theorem dX11_clear_12 : decode cX11_clear 12 = .ok (.putfield 90, 3) := by decide +kernel
theorem dX11_clear_15 : decode cX11_clear 15 = .ok (.aload_n 0, 1) := by decide +kernel
theorem dX11_clear_16 : decode cX11_clear 16 = .ok (.invokevirtual 93, 3) := by decide +kernel
theorem dX11_clear_19 : decode cX11_clear 19 = .ok (.aload_n 0, 1) := by decide +kernel
theorem dX11_clear_20 : decode cX11_clear 20 = .ok (.getfield 35, 3) := by decide +kernel
theorem dX11_clear_23 : decode cX11_clear 23 = .ok (.getfield 96, 3) := by decide +kernel
theorem dX11_clear_26 : decode cX11_clear 26 = .ok (.iconst 0, 1) := by decide +kernel
theorem dX11_clear_27 : decode cX11_clear 27 = .ok (.invokestatic 101, 3) := by decide +kernel
theorem dX11_clear_30 : decode cX11_clear 30 = .ok (.aload_n 0, 1) := by decide +kernel
theorem dX11_clear_31 : decode cX11_clear 31 = .ok (.getfield 48, 3) := by decide +kernel
theorem dX11_clear_34 : decode cX11_clear 34 = .ok (.getfield 96, 3) := by decide +kernel
theorem dX11_clear_37 : decode cX11_clear 37 = .ok (.iconst 0, 1) := by decide +kernel
theorem dX11_clear_38 : decode cX11_clear 38 = .ok (.invokestatic 101, 3) := by decide +kernel
theorem dX11_clear_41 : decode cX11_clear 41 = .ok (.return_, 1) := by decide +kernel
theorem dX11_turn_0 : decode cX11_turn 0 = .ok (.aload_n 0, 1) := by decide +kernel
theorem dX11_turn_1 : decode cX11_turn 1 = .ok (.getfield 12, 3) := by decide +kernel
theorem dX11_turn_4 : decode cX11_turn 4 = .ok (.getfield 51, 3) := by decide +kernel
theorem dX11_turn_7 : decode cX11_turn 7 = .ok (.ifCond .eq 14, 3) := by decide +kernel
theorem dX11_turn_10 : decode cX11_turn 10 = .ok (.iload_n 1, 1) := by decide +kernel
theorem dX11_turn_11 : decode cX11_turn 11 = .ok (.iconst 3, 1) := by decide +kernel
theorem dX11_turn_12 : decode cX11_turn 12 = .ok (.if_icmp .lt 9, 3) := by decide +kernel
theorem dX11_turn_15 : decode cX11_turn 15 = .ok (.iload_n 1, 1) := by decide +kernel
theorem dX11_turn_16 : decode cX11_turn 16 = .ok (.bipush 16, 2) := by decide +kernel
theorem dX11_turn_18 : decode cX11_turn 18 = .ok (.if_icmp .le 5, 3) := by decide +kernel
theorem dX11_turn_21 : decode cX11_turn 21 = .ok (.iconst (-1), 1) := by decide +kernel
theorem dX11_turn_22 : decode cX11_turn 22 = .ok (.ireturn, 1) := by decide +kernel
theorem dX11_turn_23 : decode cX11_turn 23 = .ok (.aload_n 0, 1) := by decide +kernel
theorem dX11_turn_24 : decode cX11_turn 24 = .ok (.getfield 28, 3) := by decide +kernel
theorem dX11_turn_27 : decode cX11_turn 27 = .ok (.iload_n 1, 1) := by decide +kernel
theorem dX11_turn_28 : decode cX11_turn 28 = .ok (.invokevirtual 107, 3) := by decide +kernel
theorem dX11_turn_31 : decode cX11_turn 31 = .ok (.iconst 0, 1) := by decide +kernel
theorem dX11_turn_32 : decode cX11_turn 32 = .ok (.istore_n 2, 1) := by decide +kernel
theorem dX11_turn_33 : decode cX11_turn 33 = .ok (.iload_n 2, 1) := by decide +kernel
theorem dX11_turn_34 : decode cX11_turn 34 = .ok (.aload_n 0, 1) := by decide +kernel
theorem dX11_turn_35 : decode cX11_turn 35 = .ok (.getfield 12, 3) := by decide +kernel
theorem dX11_turn_38 : decode cX11_turn 38 = .ok (.getfield 55, 3) := by decide +kernel
theorem dX11_turn_41 : decode cX11_turn 41 = .ok (.if_icmp .ge 17, 3) := by decide +kernel
theorem dX11_turn_44 : decode cX11_turn 44 = .ok (.aload_n 0, 1) := by decide +kernel
theorem dX11_turn_45 : decode cX11_turn 45 = .ok (.getfield 28, 3) := by decide +kernel
theorem dX11_turn_48 : decode cX11_turn 48 = .ok (.iload_n 2, 1) := by decide +kernel
theorem dX11_turn_49 : decode cX11_turn 49 = .ok (.invokevirtual 111, 3) := by decide +kernel
theorem dX11_turn_52 : decode cX11_turn 52 = .ok (.iinc 2 1, 3) := by decide +kernel
theorem dX11_turn_55 : decode cX11_turn 55 = .ok (.goto (-22), 3) := by decide +kernel
theorem dX11_turn_58 : decode cX11_turn 58 = .ok (.aload_n 0, 1) := by decide +kernel
theorem dX11_turn_59 : decode cX11_turn 59 = .ok (.invokevirtual 93, 3) := by decide +kernel
theorem dX11_turn_62 : decode cX11_turn 62 = .ok (.aload_n 0, 1) := by decide +kernel
theorem dX11_turn_63 : decode cX11_turn 63 = .ok (.getfield 28, 3) := by decide +kernel
theorem dX11_turn_66 : decode cX11_turn 66 = .ok (.getfield 41, 3) := by decide +kernel
theorem dX11_turn_69 : decode cX11_turn 69 = .ok (.getfield 114, 3) := by decide +kernel
theorem dX11_turn_72 : decode cX11_turn 72 = .ok (.ireturn, 1) := by decide +kernel
theorem dX11_op_0 : decode cX11_op 0 = .ok (.aload_n 0, 1) := by decide +kernel
theorem dX11_op_1 : decode cX11_op 1 = .ok (.iload_n 1, 1) := by decide +kernel
theorem dX11_op_2 : decode cX11_op 2 = .ok (.invokevirtual 119, 3) := by decide +kernel
theorem dX11_op_5 : decode cX11_op 5 = .ok (.ifCond .eq 23, 3) := by decide +kernel
theorem dX11_op_8 : decode cX11_op 8 = .ok (.iload_n 2, 1) := by decide +kernel
theorem dX11_op_9 : decode cX11_op 9 = .ok (.ifCond .lt 19, 3) := by decide +kernel
theorem dX11_op_12 : decode cX11_op 12 = .ok (.iload_n 2, 1) := by decide +kernel
theorem dX11_op_13 : decode cX11_op 13 = .ok (.aload_n 0, 1) := by decide +kernel
theorem dX11_op_14 : decode cX11_op 14 = .ok (.getfield 28, 3) := by decide +kernel
theorem dX11_op_17 : decode cX11_op 17 = .ok (.getfield 41, 3) := by decide +kernel
theorem dX11_op_20 : decode cX11_op 20 = .ok (.getfield 122, 3) := by decide +kernel
theorem dX11_op_23 : decode cX11_op 23 = .ok (.iload_n 1, 1) := by decide +kernel
theorem dX11_op_24 : decode cX11_op 24 = .ok (.iaload, 1) := by decide +kernel
theorem dX11_op_25 : decode cX11_op 25 = .ok (.if_icmp .lt 13, 3) := by decide +kernel
theorem dX11_op_28 : decode cX11_op 28 = .ok (.new 125, 3) := by decide +kernel
theorem dX11_op_31 : decode cX11_op 31 = .ok (.dup, 1) := by decide +kernel
theorem dX11_op_32 : decode cX11_op 32 = .ok (.ldc 127, 2) := by decide +kernel
theorem dX11_op_34 : decode cX11_op 34 = .ok (.invokespecial 129, 3) := by decide +kernel
theorem dX11_op_37 : decode cX11_op 37 = .ok (.athrow, 1) := by decide +kernel
theorem dX11_op_38 : decode cX11_op 38 = .ok (.iload_n 3, 1) := by decide +kernel
theorem dX11_op_39 : decode cX11_op 39 = .ok (.ifCond .lt 8, 3) := by decide +kernel
theorem dX11_op_42 : decode cX11_op 42 = .ok (.iload_n 3, 1) := by decide +kernel
theorem dX11_op_43 : decode cX11_op 43 = .ok (.iconst 5, 1) := by decide +kernel
theorem dX11_op_44 : decode cX11_op 44 = .ok (.if_icmp .lt 13, 3) := by decide +kernel
theorem dX11_op_47 : decode cX11_op 47 = .ok (.new 125, 3) := by decide +kernel
theorem dX11_op_50 : decode cX11_op 50 = .ok (.dup, 1) := by decide +kernel
theorem dX11_op_51 : decode cX11_op 51 = .ok (.ldc 132, 2) := by decide +kernel
theorem dX11_op_53 : decode cX11_op 53 = .ok (.invokespecial 129, 3) := by decide +kernel
theorem dX11_op_56 : decode cX11_op 56 = .ok (.athrow, 1) := by decide +kernel
theorem dX11_op_57 : decode cX11_op 57 = .ok (.aload_n 0, 1) := by decide +kernel
theorem dX11_op_58 : decode cX11_op 58 = .ok (.getfield 28, 3) := by decide +kernel
theorem dX11_op_61 : decode cX11_op 61 = .ok (.getfield 41, 3) := by decide +kernel
theorem dX11_op_64 : decode cX11_op 64 = .ok (.iload_n 1, 1) := by decide +kernel
theorem dX11_op_65 : decode cX11_op 65 = .ok (.iload_n 2, 1) := by decide +kernel
theorem dX11_op_66 : decode cX11_op 66 = .ok (.iload_n 3, 1) := by decide +kernel
theorem dX11_op_67 : decode cX11_op 67 = .ok (.invokevirtual 134, 3) := by decide +kernel
theorem dX11_op_70 : decode cX11_op 70 = .ok (.ireturn, 1) := by decide +kernel
theorem dX11_size_0 : decode cX11_size 0 = .ok (.aload_n 0, 1) := by decide +kernel
theorem dX11_size_1 : decode cX11_size 1 = .ok (.iload_n 1, 1) := by decide +kernel
theorem dX11_size_2 : decode cX11_size 2 = .ok (.invokevirtual 119, 3) := by decide +kernel
theorem dX11_size_5 : decode cX11_size 5 = .ok (.ifCond .eq 18, 3) := by decide +kernel
theorem dX11_size_8 : decode cX11_size 8 = .ok (.aload_n 0, 1) := by decide +kernel
theorem dX11_size_9 : decode cX11_size 9 = .ok (.getfield 28, 3) := by decide +kernel
theorem dX11_size_12 : decode cX11_size 12 = .ok (.getfield 41, 3) := by decide +kernel
theorem dX11_size_15 : decode cX11_size 15 = .ok (.getfield 122, 3) := by decide +kernel
theorem dX11_size_18 : decode cX11_size 18 = .ok (.iload_n 1, 1) := by decide +kernel
theorem dX11_size_19 : decode cX11_size 19 = .ok (.iaload, 1) := by decide +kernel
theorem dX11_size_20 : decode cX11_size 20 = .ok (.goto 4, 3) := by decide +kernel
theorem dX11_size_23 : decode cX11_size 23 = .ok (.iconst (-1), 1) := by decide +kernel
theorem dX11_size_24 : decode cX11_size 24 = .ok (.ireturn, 1) := by decide +kernel
theorem dX11_value_0 : decode cX11_value 0 = .ok (.aload_n 0, 1) := by decide +kernel
theorem dX11_value_1 : decode cX11_value 1 = .ok (.iload_n 1, 1) := by decide +kernel
theorem dX11_value_2 : decode cX11_value 2 = .ok (.invokevirtual 119, 3) := by decide +kernel
theorem dX11_value_5 : decode cX11_value 5 = .ok (.ifCond .eq 23, 3) := by decide +kernel
theorem dX11_value_8 : decode cX11_value 8 = .ok (.iload_n 2, 1) := by decide +kernel
theorem dX11_value_9 : decode cX11_value 9 = .ok (.ifCond .lt 19, 3) := by decide +kernel
theorem dX11_value_12 : decode cX11_value 12 = .ok (.iload_n 2, 1) := by decide +kernel
theorem dX11_value_13 : decode cX11_value 13 = .ok (.aload_n 0, 1) := by decide +kernel
theorem dX11_value_14 : decode cX11_value 14 = .ok (.getfield 12, 3) := by decide +kernel
theorem dX11_value_17 : decode cX11_value 17 = .ok (.getfield 138, 3) := by decide +kernel
theorem dX11_value_20 : decode cX11_value 20 = .ok (.iload_n 1, 1) := by decide +kernel
theorem dX11_value_21 : decode cX11_value 21 = .ok (.iaload, 1) := by decide +kernel
theorem dX11_value_22 : decode cX11_value 22 = .ok (.bipush 12, 2) := by decide +kernel
theorem dX11_value_24 : decode cX11_value 24 = .ok (.iadd, 1) := by decide +kernel
theorem dX11_value_25 : decode cX11_value 25 = .ok (.if_icmp .lt 5, 3) := by decide +kernel
theorem dX11_value_28 : decode cX11_value 28 = .ok (.iconst (-1), 1) := by decide +kernel
theorem dX11_value_29 : decode cX11_value 29 = .ok (.ireturn, 1) := by decide +kernel
theorem dX11_value_30 : decode cX11_value 30 = .ok (.aload_n 0, 1) := by decide +kernel
theorem dX11_value_31 : decode cX11_value 31 = .ok (.getfield 28, 3) := by decide +kernel
theorem dX11_value_34 : decode cX11_value 34 = .ok (.getfield 141, 3) := by decide +kernel
theorem dX11_value_37 : decode cX11_value 37 = .ok (.iload_n 1, 1) := by decide +kernel
theorem dX11_value_38 : decode cX11_value 38 = .ok (.iload_n 2, 1) := by decide +kernel
theorem dX11_value_39 : decode cX11_value 39 = .ok (.iload_n 3, 1) := by decide +kernel
theorem dX11_value_40 : decode cX11_value 40 = .ok (.invokevirtual 145, 3) := by decide +kernel
theorem dX11_value_43 : decode cX11_value 43 = .ok (.ireturn, 1) := by decide +kernel
theorem dX11_slots_0 : decode cX11_slots 0 = .ok (.aload_n 0, 1) := by decide +kernel
theorem dX11_slots_1 : decode cX11_slots 1 = .ok (.iload_n 1, 1) := by decide +kernel
theorem dX11_slots_2 : decode cX11_slots 2 = .ok (.invokevirtual 119, 3) := by decide +kernel
theorem dX11_slots_5 : decode cX11_slots 5 = .ok (.ifCond .eq 18, 3) := by decide +kernel
theorem dX11_slots_8 : decode cX11_slots 8 = .ok (.aload_n 0, 1) := by decide +kernel
theorem dX11_slots_9 : decode cX11_slots 9 = .ok (.getfield 28, 3) := by decide +kernel
theorem dX11_slots_12 : decode cX11_slots 12 = .ok (.getfield 141, 3) := by decide +kernel
theorem dX11_slots_15 : decode cX11_slots 15 = .ok (.getfield 150, 3) := by decide +kernel
theorem dX11_slots_18 : decode cX11_slots 18 = .ok (.iload_n 1, 1) := by decide +kernel
theorem dX11_slots_19 : decode cX11_slots 19 = .ok (.iaload, 1) := by decide +kernel
theorem dX11_slots_20 : decode cX11_slots 20 = .ok (.goto 4, 3) := by decide +kernel
theorem dX11_slots_23 : decode cX11_slots 23 = .ok (.iconst (-1), 1) := by decide +kernel
theorem dX11_slots_24 : decode cX11_slots 24 = .ok (.ireturn, 1) := by decide +kernel
theorem dX11_places_0 : decode cX11_places 0 = .ok (.aload_n 0, 1) := by decide +kernel
theorem dX11_places_1 : decode cX11_places 1 = .ok (.iload_n 1, 1) := by decide +kernel
theorem dX11_places_2 : decode cX11_places 2 = .ok (.invokevirtual 119, 3) := by decide +kernel
theorem dX11_places_5 : decode cX11_places 5 = .ok (.ifCond .eq 15, 3) := by decide +kernel
theorem dX11_places_8 : decode cX11_places 8 = .ok (.aload_n 0, 1) := by decide +kernel
theorem dX11_places_9 : decode cX11_places 9 = .ok (.getfield 28, 3) := by decide +kernel
theorem dX11_places_12 : decode cX11_places 12 = .ok (.getfield 153, 3) := by decide +kernel
theorem dX11_places_15 : decode cX11_places 15 = .ok (.iload_n 1, 1) := by decide +kernel
theorem dX11_places_16 : decode cX11_places 16 = .ok (.iaload, 1) := by decide +kernel
theorem dX11_places_17 : decode cX11_places 17 = .ok (.goto 4, 3) := by decide +kernel
theorem dX11_places_20 : decode cX11_places 20 = .ok (.iconst (-1), 1) := by decide +kernel
theorem dX11_places_21 : decode cX11_places 21 = .ok (.ireturn, 1) := by decide +kernel
theorem dX11_cell_0 : decode cX11_cell 0 = .ok (.iload_n 1, 1) := by decide +kernel
theorem dX11_cell_1 : decode cX11_cell 1 = .ok (.ifCond .lt 9, 3) := by decide +kernel
theorem dX11_cell_4 : decode cX11_cell 4 = .ok (.iload_n 1, 1) := by decide +kernel
theorem dX11_cell_5 : decode cX11_cell 5 = .ok (.bipush 64, 2) := by decide +kernel
theorem dX11_cell_7 : decode cX11_cell 7 = .ok (.if_icmp .lt 5, 3) := by decide +kernel
theorem dX11_cell_10 : decode cX11_cell 10 = .ok (.iconst 0, 1) := by decide +kernel
theorem dX11_cell_11 : decode cX11_cell 11 = .ok (.ireturn, 1) := by decide +kernel
theorem dX11_cell_12 : decode cX11_cell 12 = .ok (.aload_n 0, 1) := by decide +kernel
theorem dX11_cell_13 : decode cX11_cell 13 = .ok (.getfield 35, 3) := by decide +kernel
theorem dX11_cell_16 : decode cX11_cell 16 = .ok (.getfield 96, 3) := by decide +kernel
theorem dX11_cell_19 : decode cX11_cell 19 = .ok (.iload_n 1, 1) := by decide +kernel
theorem dX11_cell_20 : decode cX11_cell 20 = .ok (.iload_n 2, 1) := by decide +kernel
theorem dX11_cell_21 : decode cX11_cell 21 = .ok (.iastore, 1) := by decide +kernel
theorem dX11_cell_22 : decode cX11_cell 22 = .ok (.aload_n 0, 1) := by decide +kernel
theorem dX11_cell_23 : decode cX11_cell 23 = .ok (.getfield 48, 3) := by decide +kernel
theorem dX11_cell_26 : decode cX11_cell 26 = .ok (.getfield 96, 3) := by decide +kernel
theorem dX11_cell_29 : decode cX11_cell 29 = .ok (.iload_n 1, 1) := by decide +kernel
theorem dX11_cell_30 : decode cX11_cell 30 = .ok (.iload_n 2, 1) := by decide +kernel
theorem dX11_cell_31 : decode cX11_cell 31 = .ok (.iastore, 1) := by decide +kernel
theorem dX11_cell_32 : decode cX11_cell 32 = .ok (.iconst 1, 1) := by decide +kernel
theorem dX11_cell_33 : decode cX11_cell 33 = .ok (.ireturn, 1) := by decide +kernel
theorem dX11_again_0 : decode cX11_again 0 = .ok (.aload_n 0, 1) := by decide +kernel
theorem dX11_again_1 : decode cX11_again 1 = .ok (.getfield 12, 3) := by decide +kernel
theorem dX11_again_4 : decode cX11_again 4 = .ok (.getfield 51, 3) := by decide +kernel
theorem dX11_again_7 : decode cX11_again 7 = .ok (.ifCond .ne 5, 3) := by decide +kernel
theorem dX11_again_10 : decode cX11_again 10 = .ok (.iconst 0, 1) := by decide +kernel
theorem dX11_again_11 : decode cX11_again 11 = .ok (.ireturn, 1) := by decide +kernel
theorem dX11_again_12 : decode cX11_again 12 = .ok (.aload_n 0, 1) := by decide +kernel
theorem dX11_again_13 : decode cX11_again 13 = .ok (.invokevirtual 93, 3) := by decide +kernel
theorem dX11_again_16 : decode cX11_again 16 = .ok (.iconst 1, 1) := by decide +kernel
theorem dX11_again_17 : decode cX11_again 17 = .ok (.ireturn, 1) := by decide +kernel
theorem dX11_runStack_0 : decode cX11_runStack 0 = .ok (.aload_n 0, 1) := by decide +kernel
theorem dX11_runStack_1 : decode cX11_runStack 1 = .ok (.getfield 12, 3) := by decide +kernel
theorem dX11_runStack_4 : decode cX11_runStack 4 = .ok (.getfield 51, 3) := by decide +kernel
theorem dX11_runStack_7 : decode cX11_runStack 7 = .ok (.ifCond .eq 15, 3) := by decide +kernel
theorem dX11_runStack_10 : decode cX11_runStack 10 = .ok (.iload_n 1, 1) := by decide +kernel
theorem dX11_runStack_11 : decode cX11_runStack 11 = .ok (.iconst 1, 1) := by decide +kernel
theorem dX11_runStack_12 : decode cX11_runStack 12 = .ok (.if_icmp .lt 10, 3) := by decide +kernel
theorem dX11_runStack_15 : decode cX11_runStack 15 = .ok (.iload_n 1, 1) := by decide +kernel
theorem dX11_runStack_16 : decode cX11_runStack 16 = .ok (.sipush 20000, 3) := by decide +kernel
theorem dX11_runStack_19 : decode cX11_runStack 19 = .ok (.if_icmp .le 5, 3) := by decide +kernel
theorem dX11_runStack_22 : decode cX11_runStack 22 = .ok (.iconst (-1), 1) := by decide +kernel
theorem dX11_runStack_23 : decode cX11_runStack 23 = .ok (.ireturn, 1) := by decide +kernel
theorem dX11_runStack_24 : decode cX11_runStack 24 = .ok (.aload_n 0, 1) := by decide +kernel
theorem dX11_runStack_25 : decode cX11_runStack 25 = .ok (.getfield 35, 3) := by decide +kernel
theorem dX11_runStack_28 : decode cX11_runStack 28 = .ok (.iload_n 1, 1) := by decide +kernel
theorem dX11_runStack_29 : decode cX11_runStack 29 = .ok (.invokevirtual 156, 3) := by decide +kernel
theorem dX11_runStack_32 : decode cX11_runStack 32 = .ok (.ireturn, 1) := by decide +kernel
theorem dX11_runRegisters_0 : decode cX11_runRegisters 0 = .ok (.aload_n 0, 1) := by decide +kernel
theorem dX11_runRegisters_1 : decode cX11_runRegisters 1 = .ok (.getfield 28, 3) := by decide +kernel
theorem dX11_runRegisters_4 : decode cX11_runRegisters 4 = .ok (.getfield 90, 3) := by decide +kernel
theorem dX11_runRegisters_7 : decode cX11_runRegisters 7 = .ok (.ifCond .eq 15, 3) := by decide +kernel
theorem dX11_runRegisters_10 : decode cX11_runRegisters 10 = .ok (.iload_n 1, 1) := by decide +kernel
theorem dX11_runRegisters_11 : decode cX11_runRegisters 11 = .ok (.iconst 1, 1) := by decide +kernel
theorem dX11_runRegisters_12 : decode cX11_runRegisters 12 = .ok (.if_icmp .lt 10, 3) := by decide +kernel
theorem dX11_runRegisters_15 : decode cX11_runRegisters 15 = .ok (.iload_n 1, 1) := by decide +kernel
theorem dX11_runRegisters_16 : decode cX11_runRegisters 16 = .ok (.sipush 20000, 3) := by decide +kernel
theorem dX11_runRegisters_19 : decode cX11_runRegisters 19 = .ok (.if_icmp .le 5, 3) := by decide +kernel
theorem dX11_runRegisters_22 : decode cX11_runRegisters 22 = .ok (.iconst (-1), 1) := by decide +kernel
theorem dX11_runRegisters_23 : decode cX11_runRegisters 23 = .ok (.ireturn, 1) := by decide +kernel
theorem dX11_runRegisters_24 : decode cX11_runRegisters 24 = .ok (.aload_n 0, 1) := by decide +kernel
theorem dX11_runRegisters_25 : decode cX11_runRegisters 25 = .ok (.getfield 48, 3) := by decide +kernel
theorem dX11_runRegisters_28 : decode cX11_runRegisters 28 = .ok (.iload_n 1, 1) := by decide +kernel
theorem dX11_runRegisters_29 : decode cX11_runRegisters 29 = .ok (.invokevirtual 156, 3) := by decide +kernel
theorem dX11_runRegisters_32 : decode cX11_runRegisters 32 = .ok (.ireturn, 1) := by decide +kernel
theorem dX11_look_0 : decode cX11_look 0 = .ok (.iload_n 1, 1) := by decide +kernel
theorem dX11_look_1 : decode cX11_look 1 = .ok (.ifCond .lt 8, 3) := by decide +kernel
theorem dX11_look_4 : decode cX11_look 4 = .ok (.iload_n 1, 1) := by decide +kernel
theorem dX11_look_5 : decode cX11_look 5 = .ok (.iconst 1, 1) := by decide +kernel
theorem dX11_look_6 : decode cX11_look 6 = .ok (.if_icmp .le 5, 3) := by decide +kernel
theorem dX11_look_9 : decode cX11_look 9 = .ok (.iconst (-1), 1) := by decide +kernel
theorem dX11_look_10 : decode cX11_look 10 = .ok (.ireturn, 1) := by decide +kernel
theorem dX11_look_11 : decode cX11_look 11 = .ok (.aload_n 0, 1) := by decide +kernel
theorem dX11_look_12 : decode cX11_look 12 = .ok (.iload_n 1, 1) := by decide +kernel
theorem dX11_look_13 : decode cX11_look 13 = .ok (.invokevirtual 160, 3) := by decide +kernel
theorem dX11_look_16 : decode cX11_look 16 = .ok (.iload_n 2, 1) := by decide +kernel
theorem dX11_look_17 : decode cX11_look 17 = .ok (.invokevirtual 164, 3) := by decide +kernel
theorem dX11_look_20 : decode cX11_look 20 = .ok (.ireturn, 1) := by decide +kernel
theorem dX11_peek_0 : decode cX11_peek 0 = .ok (.iload_n 1, 1) := by decide +kernel
theorem dX11_peek_1 : decode cX11_peek 1 = .ok (.ifCond .lt 18, 3) := by decide +kernel
theorem dX11_peek_4 : decode cX11_peek 4 = .ok (.iload_n 1, 1) := by decide +kernel
theorem dX11_peek_5 : decode cX11_peek 5 = .ok (.iconst 1, 1) := by decide +kernel
theorem dX11_peek_6 : decode cX11_peek 6 = .ok (.if_icmp .gt 13, 3) := by decide +kernel
theorem dX11_peek_9 : decode cX11_peek 9 = .ok (.iload_n 2, 1) := by decide +kernel
theorem dX11_peek_10 : decode cX11_peek 10 = .ok (.ifCond .lt 9, 3) := by decide +kernel
theorem dX11_peek_13 : decode cX11_peek 13 = .ok (.iload_n 2, 1) := by decide +kernel
theorem dX11_peek_14 : decode cX11_peek 14 = .ok (.bipush 64, 2) := by decide +kernel
theorem dX11_peek_16 : decode cX11_peek 16 = .ok (.if_icmp .lt 13, 3) := by decide +kernel
theorem dX11_peek_19 : decode cX11_peek 19 = .ok (.new 125, 3) := by decide +kernel
theorem dX11_peek_22 : decode cX11_peek 22 = .ok (.dup, 1) := by decide +kernel
theorem dX11_peek_23 : decode cX11_peek 23 = .ok (.ldc 166, 2) := by decide +kernel
theorem dX11_peek_25 : decode cX11_peek 25 = .ok (.invokespecial 129, 3) := by decide +kernel
theorem dX11_peek_28 : decode cX11_peek 28 = .ok (.athrow, 1) := by decide +kernel
theorem dX11_peek_29 : decode cX11_peek 29 = .ok (.aload_n 0, 1) := by decide +kernel
theorem dX11_peek_30 : decode cX11_peek 30 = .ok (.iload_n 1, 1) := by decide +kernel
theorem dX11_peek_31 : decode cX11_peek 31 = .ok (.invokevirtual 160, 3) := by decide +kernel
theorem dX11_peek_34 : decode cX11_peek 34 = .ok (.getfield 96, 3) := by decide +kernel
theorem dX11_peek_37 : decode cX11_peek 37 = .ok (.iload_n 2, 1) := by decide +kernel
theorem dX11_peek_38 : decode cX11_peek 38 = .ok (.iaload, 1) := by decide +kernel
theorem dX11_peek_39 : decode cX11_peek 39 = .ok (.ireturn, 1) := by decide +kernel
theorem dX11_count_0 : decode cX11_count 0 = .ok (.iload_n 1, 1) := by decide +kernel
theorem dX11_count_1 : decode cX11_count 1 = .ok (.tableswitch 100 0 4 #[35, 43, 51, 67, 75], 35) := by decide +kernel
theorem dX11_count_36 : decode cX11_count 36 = .ok (.aload_n 0, 1) := by decide +kernel
theorem dX11_count_37 : decode cX11_count 37 = .ok (.getfield 12, 3) := by decide +kernel
theorem dX11_count_40 : decode cX11_count 40 = .ok (.getfield 55, 3) := by decide +kernel
theorem dX11_count_43 : decode cX11_count 43 = .ok (.ireturn, 1) := by decide +kernel
theorem dX11_count_44 : decode cX11_count 44 = .ok (.aload_n 0, 1) := by decide +kernel
theorem dX11_count_45 : decode cX11_count 45 = .ok (.getfield 12, 3) := by decide +kernel
theorem dX11_count_48 : decode cX11_count 48 = .ok (.getfield 63, 3) := by decide +kernel
theorem dX11_count_51 : decode cX11_count 51 = .ok (.ireturn, 1) := by decide +kernel
theorem dX11_count_52 : decode cX11_count 52 = .ok (.aload_n 0, 1) := by decide +kernel
theorem dX11_count_53 : decode cX11_count 53 = .ok (.getfield 12, 3) := by decide +kernel
theorem dX11_count_56 : decode cX11_count 56 = .ok (.getfield 51, 3) := by decide +kernel
theorem dX11_count_59 : decode cX11_count 59 = .ok (.ifCond .eq 7, 3) := by decide +kernel
theorem dX11_count_62 : decode cX11_count 62 = .ok (.iconst 1, 1) := by decide +kernel
theorem dX11_count_63 : decode cX11_count 63 = .ok (.goto 4, 3) := by decide +kernel
theorem dX11_count_66 : decode cX11_count 66 = .ok (.iconst 0, 1) := by decide +kernel
theorem dX11_count_67 : decode cX11_count 67 = .ok (.ireturn, 1) := by decide +kernel
theorem dX11_count_68 : decode cX11_count 68 = .ok (.aload_n 0, 1) := by decide +kernel
theorem dX11_count_69 : decode cX11_count 69 = .ok (.getfield 28, 3) := by decide +kernel
theorem dX11_count_72 : decode cX11_count 72 = .ok (.getfield 90, 3) := by decide +kernel
theorem dX11_count_75 : decode cX11_count 75 = .ok (.ireturn, 1) := by decide +kernel
theorem dX11_count_76 : decode cX11_count 76 = .ok (.aload_n 0, 1) := by decide +kernel
theorem dX11_count_77 : decode cX11_count 77 = .ok (.getfield 28, 3) := by decide +kernel
theorem dX11_count_80 : decode cX11_count 80 = .ok (.getfield 90, 3) := by decide +kernel
theorem dX11_count_83 : decode cX11_count 83 = .ok (.ifCond .ne 7, 3) := by decide +kernel
theorem dX11_count_86 : decode cX11_count 86 = .ok (.iconst 0, 1) := by decide +kernel
theorem dX11_count_87 : decode cX11_count 87 = .ok (.goto 13, 3) := by decide +kernel
theorem dX11_count_90 : decode cX11_count 90 = .ok (.aload_n 0, 1) := by decide +kernel
theorem dX11_count_91 : decode cX11_count 91 = .ok (.getfield 28, 3) := by decide +kernel
theorem dX11_count_94 : decode cX11_count 94 = .ok (.getfield 41, 3) := by decide +kernel
theorem dX11_count_97 : decode cX11_count 97 = .ok (.getfield 114, 3) := by decide +kernel
theorem dX11_count_100 : decode cX11_count 100 = .ok (.ireturn, 1) := by decide +kernel
theorem dX11_count_101 : decode cX11_count 101 = .ok (.iconst (-1), 1) := by decide +kernel
theorem dX11_count_102 : decode cX11_count 102 = .ok (.ireturn, 1) := by decide +kernel
theorem dX11_isTurned_0 : decode cX11_isTurned 0 = .ok (.aload_n 0, 1) := by decide +kernel
theorem dX11_isTurned_1 : decode cX11_isTurned 1 = .ok (.getfield 28, 3) := by decide +kernel
theorem dX11_isTurned_4 : decode cX11_isTurned 4 = .ok (.getfield 90, 3) := by decide +kernel
theorem dX11_isTurned_7 : decode cX11_isTurned 7 = .ok (.ifCond .eq 18, 3) := by decide +kernel
theorem dX11_isTurned_10 : decode cX11_isTurned 10 = .ok (.aload_n 0, 1) := by decide +kernel
theorem dX11_isTurned_11 : decode cX11_isTurned 11 = .ok (.getfield 12, 3) := by decide +kernel
theorem dX11_isTurned_14 : decode cX11_isTurned 14 = .ok (.iload_n 1, 1) := by decide +kernel
theorem dX11_isTurned_15 : decode cX11_isTurned 15 = .ok (.invokevirtual 73, 3) := by decide +kernel
theorem dX11_isTurned_18 : decode cX11_isTurned 18 = .ok (.ifCond .eq 7, 3) := by decide +kernel
theorem dX11_isTurned_21 : decode cX11_isTurned 21 = .ok (.iconst 1, 1) := by decide +kernel
theorem dX11_isTurned_22 : decode cX11_isTurned 22 = .ok (.goto 4, 3) := by decide +kernel
theorem dX11_isTurned_25 : decode cX11_isTurned 25 = .ok (.iconst 0, 1) := by decide +kernel
theorem dX11_isTurned_26 : decode cX11_isTurned 26 = .ok (.ireturn, 1) := by decide +kernel
theorem dX11_machineOf_0 : decode cX11_machineOf 0 = .ok (.iload_n 1, 1) := by decide +kernel
theorem dX11_machineOf_1 : decode cX11_machineOf 1 = .ok (.ifCond .ne 10, 3) := by decide +kernel
theorem dX11_machineOf_4 : decode cX11_machineOf 4 = .ok (.aload_n 0, 1) := by decide +kernel
theorem dX11_machineOf_5 : decode cX11_machineOf 5 = .ok (.getfield 35, 3) := by decide +kernel
theorem dX11_machineOf_8 : decode cX11_machineOf 8 = .ok (.goto 7, 3) := by decide +kernel
theorem dX11_machineOf_11 : decode cX11_machineOf 11 = .ok (.aload_n 0, 1) := by decide +kernel
theorem dX11_machineOf_12 : decode cX11_machineOf 12 = .ok (.getfield 48, 3) := by decide +kernel
theorem dX11_machineOf_15 : decode cX11_machineOf 15 = .ok (.areturn, 1) := by decide +kernel
theorem dX11_beginMachines_0 : decode cX11_beginMachines 0 = .ok (.aload_n 0, 1) := by decide +kernel
theorem dX11_beginMachines_1 : decode cX11_beginMachines 1 = .ok (.getfield 35, 3) := by decide +kernel
theorem dX11_beginMachines_4 : decode cX11_beginMachines 4 = .ok (.invokevirtual 168, 3) := by decide +kernel
theorem dX11_beginMachines_7 : decode cX11_beginMachines 7 = .ok (.aload_n 0, 1) := by decide +kernel
theorem dX11_beginMachines_8 : decode cX11_beginMachines 8 = .ok (.getfield 48, 3) := by decide +kernel
theorem dX11_beginMachines_11 : decode cX11_beginMachines 11 = .ok (.invokevirtual 168, 3) := by decide +kernel
theorem dX11_beginMachines_14 : decode cX11_beginMachines 14 = .ok (.return_, 1) := by decide +kernel
theorem dX11_reckon_0 : decode cX11_reckon 0 = .ok (.iload_n 0, 1) := by decide +kernel
theorem dX11_reckon_1 : decode cX11_reckon 1 = .ok (.tableswitch 70 3 7 #[35, 39, 43, 47, 59], 35) := by decide +kernel
theorem dX11_reckon_36 : decode cX11_reckon 36 = .ok (.iload_n 1, 1) := by decide +kernel
theorem dX11_reckon_37 : decode cX11_reckon 37 = .ok (.iload_n 2, 1) := by decide +kernel
theorem dX11_reckon_38 : decode cX11_reckon 38 = .ok (.iadd, 1) := by decide +kernel
theorem dX11_reckon_39 : decode cX11_reckon 39 = .ok (.ireturn, 1) := by decide +kernel
theorem dX11_reckon_40 : decode cX11_reckon 40 = .ok (.iload_n 1, 1) := by decide +kernel
theorem dX11_reckon_41 : decode cX11_reckon 41 = .ok (.iload_n 2, 1) := by decide +kernel
theorem dX11_reckon_42 : decode cX11_reckon 42 = .ok (.isub, 1) := by decide +kernel
theorem dX11_reckon_43 : decode cX11_reckon 43 = .ok (.ireturn, 1) := by decide +kernel
theorem dX11_reckon_44 : decode cX11_reckon 44 = .ok (.iload_n 1, 1) := by decide +kernel
theorem dX11_reckon_45 : decode cX11_reckon 45 = .ok (.iload_n 2, 1) := by decide +kernel
theorem dX11_reckon_46 : decode cX11_reckon 46 = .ok (.imul, 1) := by decide +kernel
theorem dX11_reckon_47 : decode cX11_reckon 47 = .ok (.ireturn, 1) := by decide +kernel
theorem dX11_reckon_48 : decode cX11_reckon 48 = .ok (.iload_n 2, 1) := by decide +kernel
theorem dX11_reckon_49 : decode cX11_reckon 49 = .ok (.ifCond .ne 7, 3) := by decide +kernel
theorem dX11_reckon_52 : decode cX11_reckon 52 = .ok (.iconst 0, 1) := by decide +kernel
theorem dX11_reckon_53 : decode cX11_reckon 53 = .ok (.goto 6, 3) := by decide +kernel
theorem dX11_reckon_56 : decode cX11_reckon 56 = .ok (.iload_n 1, 1) := by decide +kernel
theorem dX11_reckon_57 : decode cX11_reckon 57 = .ok (.iload_n 2, 1) := by decide +kernel
theorem dX11_reckon_58 : decode cX11_reckon 58 = .ok (.idiv, 1) := by decide +kernel
theorem dX11_reckon_59 : decode cX11_reckon 59 = .ok (.ireturn, 1) := by decide +kernel
theorem dX11_reckon_60 : decode cX11_reckon 60 = .ok (.iload_n 1, 1) := by decide +kernel
theorem dX11_reckon_61 : decode cX11_reckon 61 = .ok (.iload_n 2, 1) := by decide +kernel
theorem dX11_reckon_62 : decode cX11_reckon 62 = .ok (.if_icmp .ge 7, 3) := by decide +kernel
theorem dX11_reckon_65 : decode cX11_reckon 65 = .ok (.iconst 1, 1) := by decide +kernel
theorem dX11_reckon_66 : decode cX11_reckon 66 = .ok (.goto 4, 3) := by decide +kernel
theorem dX11_reckon_69 : decode cX11_reckon 69 = .ok (.iconst 0, 1) := by decide +kernel
theorem dX11_reckon_70 : decode cX11_reckon 70 = .ok (.ireturn, 1) := by decide +kernel
theorem dX11_reckon_71 : decode cX11_reckon 71 = .ok (.iload_n 1, 1) := by decide +kernel
theorem dX11_reckon_72 : decode cX11_reckon 72 = .ok (.iload_n 2, 1) := by decide +kernel
theorem dX11_reckon_73 : decode cX11_reckon 73 = .ok (.if_icmp .ne 7, 3) := by decide +kernel
theorem dX11_reckon_76 : decode cX11_reckon 76 = .ok (.iconst 1, 1) := by decide +kernel
theorem dX11_reckon_77 : decode cX11_reckon 77 = .ok (.goto 4, 3) := by decide +kernel
theorem dX11_reckon_80 : decode cX11_reckon 80 = .ok (.iconst 0, 1) := by decide +kernel
theorem dX11_reckon_81 : decode cX11_reckon 81 = .ok (.ireturn, 1) := by decide +kernel
theorem dX12_init_0 : decode cX12_init 0 = .ok (.aload_n 0, 1) := by decide +kernel
theorem dX12_init_1 : decode cX12_init 1 = .ok (.invokespecial 1, 3) := by decide +kernel
theorem dX12_init_4 : decode cX12_init 4 = .ok (.aload_n 0, 1) := by decide +kernel
theorem dX12_init_5 : decode cX12_init 5 = .ok (.bipush 12, 2) := by decide +kernel
theorem dX12_init_7 : decode cX12_init 7 = .ok (.newarray .int, 2) := by decide +kernel
theorem dX12_init_9 : decode cX12_init 9 = .ok (.putfield 7, 3) := by decide +kernel
theorem dX12_init_12 : decode cX12_init 12 = .ok (.aload_n 0, 1) := by decide +kernel
theorem dX12_init_13 : decode cX12_init 13 = .ok (.bipush 12, 2) := by decide +kernel
theorem dX12_init_15 : decode cX12_init 15 = .ok (.newarray .int, 2) := by decide +kernel
theorem dX12_init_17 : decode cX12_init 17 = .ok (.putfield 13, 3) := by decide +kernel
theorem dX12_init_20 : decode cX12_init 20 = .ok (.aload_n 0, 1) := by decide +kernel
theorem dX12_init_21 : decode cX12_init 21 = .ok (.bipush 12, 2) := by decide +kernel
theorem dX12_init_23 : decode cX12_init 23 = .ok (.newarray .int, 2) := by decide +kernel
theorem dX12_init_25 : decode cX12_init 25 = .ok (.putfield 16, 3) := by decide +kernel
theorem dX12_init_28 : decode cX12_init 28 = .ok (.aload_n 0, 1) := by decide +kernel
theorem dX12_init_29 : decode cX12_init 29 = .ok (.bipush 12, 2) := by decide +kernel
theorem dX12_init_31 : decode cX12_init 31 = .ok (.newarray .int, 2) := by decide +kernel
theorem dX12_init_33 : decode cX12_init 33 = .ok (.putfield 19, 3) := by decide +kernel
theorem dX12_init_36 : decode cX12_init 36 = .ok (.aload_n 0, 1) := by decide +kernel
theorem dX12_init_37 : decode cX12_init 37 = .ok (.sipush 300, 3) := by decide +kernel
theorem dX12_init_40 : decode cX12_init 40 = .ok (.newarray .int, 2) := by decide +kernel
theorem dX12_init_42 : decode cX12_init 42 = .ok (.putfield 22, 3) := by decide +kernel
theorem dX12_init_45 : decode cX12_init 45 = .ok (.aload_n 0, 1) := by decide +kernel
theorem dX12_init_46 : decode cX12_init 46 = .ok (.sipush 300, 3) := by decide +kernel
theorem dX12_init_49 : decode cX12_init 49 = .ok (.newarray .int, 2) := by decide +kernel
theorem dX12_init_51 : decode cX12_init 51 = .ok (.putfield 25, 3) := by decide +kernel
theorem dX12_init_54 : decode cX12_init 54 = .ok (.aload_n 0, 1) := by decide +kernel
theorem dX12_init_55 : decode cX12_init 55 = .ok (.sipush 300, 3) := by decide +kernel
theorem dX12_init_58 : decode cX12_init 58 = .ok (.newarray .int, 2) := by decide +kernel
theorem dX12_init_60 : decode cX12_init 60 = .ok (.putfield 28, 3) := by decide +kernel
theorem dX12_init_63 : decode cX12_init 63 = .ok (.aload_n 0, 1) := by decide +kernel
theorem dX12_init_64 : decode cX12_init 64 = .ok (.sipush 300, 3) := by decide +kernel
theorem dX12_init_67 : decode cX12_init 67 = .ok (.newarray .boolean, 2) := by decide +kernel
theorem dX12_init_69 : decode cX12_init 69 = .ok (.putfield 31, 3) := by decide +kernel
theorem dX12_init_72 : decode cX12_init 72 = .ok (.aload_n 0, 1) := by decide +kernel
theorem dX12_init_73 : decode cX12_init 73 = .ok (.sipush 300, 3) := by decide +kernel
theorem dX12_init_76 : decode cX12_init 76 = .ok (.newarray .int, 2) := by decide +kernel
theorem dX12_init_78 : decode cX12_init 78 = .ok (.putfield 35, 3) := by decide +kernel
theorem dX12_init_81 : decode cX12_init 81 = .ok (.aload_n 0, 1) := by decide +kernel
theorem dX12_init_82 : decode cX12_init 82 = .ok (.sipush 300, 3) := by decide +kernel
theorem dX12_init_85 : decode cX12_init 85 = .ok (.newarray .int, 2) := by decide +kernel
theorem dX12_init_87 : decode cX12_init 87 = .ok (.putfield 38, 3) := by decide +kernel
theorem dX12_init_90 : decode cX12_init 90 = .ok (.aload_n 0, 1) := by decide +kernel
theorem dX12_init_91 : decode cX12_init 91 = .ok (.sipush 2400, 3) := by decide +kernel
theorem dX12_init_94 : decode cX12_init 94 = .ok (.newarray .int, 2) := by decide +kernel
theorem dX12_init_96 : decode cX12_init 96 = .ok (.putfield 41, 3) := by decide +kernel
theorem dX12_init_99 : decode cX12_init 99 = .ok (.aload_n 0, 1) := by decide +kernel
theorem dX12_init_100 : decode cX12_init 100 = .ok (.sipush 300, 3) := by decide +kernel
theorem dX12_init_103 : decode cX12_init 103 = .ok (.newarray .int, 2) := by decide +kernel
theorem dX12_init_105 : decode cX12_init 105 = .ok (.putfield 44, 3) := by decide +kernel
theorem dX12_init_108 : decode cX12_init 108 = .ok (.aload_n 0, 1) := by decide +kernel
theorem dX12_init_109 : decode cX12_init 109 = .ok (.sipush 301, 3) := by decide +kernel
theorem dX12_init_112 : decode cX12_init 112 = .ok (.newarray .int, 2) := by decide +kernel
theorem dX12_init_114 : decode cX12_init 114 = .ok (.putfield 47, 3) := by decide +kernel
theorem dX12_init_117 : decode cX12_init 117 = .ok (.aload_n 0, 1) := by decide +kernel
theorem dX12_init_118 : decode cX12_init 118 = .ok (.sipush 301, 3) := by decide +kernel
theorem dX12_init_121 : decode cX12_init 121 = .ok (.newarray .int, 2) := by decide +kernel
theorem dX12_init_123 : decode cX12_init 123 = .ok (.putfield 50, 3) := by decide +kernel
theorem dX12_init_126 : decode cX12_init 126 = .ok (.aload_n 0, 1) := by decide +kernel
theorem dX12_init_127 : decode cX12_init 127 = .ok (.sipush 301, 3) := by decide +kernel
theorem dX12_init_130 : decode cX12_init 130 = .ok (.newarray .boolean, 2) := by decide +kernel
theorem dX12_init_132 : decode cX12_init 132 = .ok (.putfield 53, 3) := by decide +kernel
theorem dX12_init_135 : decode cX12_init 135 = .ok (.aload_n 0, 1) := by decide +kernel
theorem dX12_init_136 : decode cX12_init 136 = .ok (.bipush 24, 2) := by decide +kernel
theorem dX12_init_138 : decode cX12_init 138 = .ok (.newarray .int, 2) := by decide +kernel
theorem dX12_init_140 : decode cX12_init 140 = .ok (.putfield 56, 3) := by decide +kernel
theorem dX12_init_143 : decode cX12_init 143 = .ok (.aload_n 0, 1) := by decide +kernel
theorem dX12_init_144 : decode cX12_init 144 = .ok (.sipush 301, 3) := by decide +kernel
theorem dX12_init_147 : decode cX12_init 147 = .ok (.newarray .int, 2) := by decide +kernel
theorem dX12_init_149 : decode cX12_init 149 = .ok (.putfield 59, 3) := by decide +kernel
theorem dX12_init_152 : decode cX12_init 152 = .ok (.aload_n 0, 1) := by decide +kernel
theorem dX12_init_153 : decode cX12_init 153 = .ok (.sipush 288, 3) := by decide +kernel
theorem dX12_init_156 : decode cX12_init 156 = .ok (.newarray .int, 2) := by decide +kernel
theorem dX12_init_158 : decode cX12_init 158 = .ok (.putfield 62, 3) := by decide +kernel
theorem dX12_init_161 : decode cX12_init 161 = .ok (.aload_n 0, 1) := by decide +kernel
theorem dX12_init_162 : decode cX12_init 162 = .ok (.sipush 288, 3) := by decide +kernel
theorem dX12_init_165 : decode cX12_init 165 = .ok (.newarray .int, 2) := by decide +kernel
theorem dX12_init_167 : decode cX12_init 167 = .ok (.putfield 65, 3) := by decide +kernel
theorem dX12_init_170 : decode cX12_init 170 = .ok (.aload_n 0, 1) := by decide +kernel
theorem dX12_init_171 : decode cX12_init 171 = .ok (.sipush 288, 3) := by decide +kernel
theorem dX12_init_174 : decode cX12_init 174 = .ok (.newarray .int, 2) := by decide +kernel
theorem dX12_init_176 : decode cX12_init 176 = .ok (.putfield 68, 3) := by decide +kernel
theorem dX12_init_179 : decode cX12_init 179 = .ok (.aload_n 0, 1) := by decide +kernel
theorem dX12_init_180 : decode cX12_init 180 = .ok (.sipush 288, 3) := by decide +kernel
theorem dX12_init_183 : decode cX12_init 183 = .ok (.newarray .int, 2) := by decide +kernel
theorem dX12_init_185 : decode cX12_init 185 = .ok (.putfield 71, 3) := by decide +kernel
theorem dX12_init_188 : decode cX12_init 188 = .ok (.aload_n 0, 1) := by decide +kernel
theorem dX12_init_189 : decode cX12_init 189 = .ok (.bipush 12, 2) := by decide +kernel
theorem dX12_init_191 : decode cX12_init 191 = .ok (.newarray .int, 2) := by decide +kernel
theorem dX12_init_193 : decode cX12_init 193 = .ok (.putfield 74, 3) := by decide +kernel
theorem dX12_init_196 : decode cX12_init 196 = .ok (.aload_n 0, 1) := by decide +kernel
theorem dX12_init_197 : decode cX12_init 197 = .ok (.bipush 12, 2) := by decide +kernel
theorem dX12_init_199 : decode cX12_init 199 = .ok (.newarray .int, 2) := by decide +kernel
theorem dX12_init_201 : decode cX12_init 201 = .ok (.putfield 77, 3) := by decide +kernel
theorem dX12_init_204 : decode cX12_init 204 = .ok (.aload_n 0, 1) := by decide +kernel
theorem dX12_init_205 : decode cX12_init 205 = .ok (.bipush 24, 2) := by decide +kernel
theorem dX12_init_207 : decode cX12_init 207 = .ok (.newarray .boolean, 2) := by decide +kernel
theorem dX12_init_209 : decode cX12_init 209 = .ok (.putfield 80, 3) := by decide +kernel
theorem dX12_init_212 : decode cX12_init 212 = .ok (.aload_n 0, 1) := by decide +kernel
theorem dX12_init_213 : decode cX12_init 213 = .ok (.sipush 10000, 3) := by decide +kernel
theorem dX12_init_216 : decode cX12_init 216 = .ok (.newarray .int, 2) := by decide +kernel
theorem dX12_init_218 : decode cX12_init 218 = .ok (.putfield 83, 3) := by decide +kernel
theorem dX12_init_221 : decode cX12_init 221 = .ok (.aload_n 0, 1) := by decide +kernel
theorem dX12_init_222 : decode cX12_init 222 = .ok (.bipush 12, 2) := by decide +kernel
theorem dX12_init_224 : decode cX12_init 224 = .ok (.newarray .int, 2) := by decide +kernel
theorem dX12_init_226 : decode cX12_init 226 = .ok (.putfield 86, 3) := by decide +kernel
theorem dX12_init_229 : decode cX12_init 229 = .ok (.aload_n 0, 1) := by decide +kernel
theorem dX12_init_230 : decode cX12_init 230 = .ok (.bipush 12, 2) := by decide +kernel
theorem dX12_init_232 : decode cX12_init 232 = .ok (.newarray .int, 2) := by decide +kernel
theorem dX12_init_234 : decode cX12_init 234 = .ok (.putfield 89, 3) := by decide +kernel
theorem dX12_init_237 : decode cX12_init 237 = .ok (.aload_n 0, 1) := by decide +kernel
theorem dX12_init_238 : decode cX12_init 238 = .ok (.sipush 301, 3) := by decide +kernel
theorem dX12_init_241 : decode cX12_init 241 = .ok (.newarray .int, 2) := by decide +kernel
theorem dX12_init_243 : decode cX12_init 243 = .ok (.putfield 92, 3) := by decide +kernel
theorem dX12_init_246 : decode cX12_init 246 = .ok (.aload_n 0, 1) := by decide +kernel
theorem dX12_init_247 : decode cX12_init 247 = .ok (.sipush 128, 3) := by decide +kernel
theorem dX12_init_250 : decode cX12_init 250 = .ok (.newarray .int, 2) := by decide +kernel
theorem dX12_init_252 : decode cX12_init 252 = .ok (.putfield 95, 3) := by decide +kernel
theorem dX12_init_255 : decode cX12_init 255 = .ok (.aload_n 0, 1) := by decide +kernel
theorem dX12_init_256 : decode cX12_init 256 = .ok (.iconst 2, 1) := by decide +kernel
theorem dX12_init_257 : decode cX12_init 257 = .ok (.newarray .int, 2) := by decide +kernel
theorem dX12_init_259 : decode cX12_init 259 = .ok (.putfield 98, 3) := by decide +kernel
theorem dX12_init_262 : decode cX12_init 262 = .ok (.aload_n 0, 1) := by decide +kernel
theorem dX12_init_263 : decode cX12_init 263 = .ok (.iconst 2, 1) := by decide +kernel
theorem dX12_init_264 : decode cX12_init 264 = .ok (.newarray .int, 2) := by decide +kernel
theorem dX12_init_266 : decode cX12_init 266 = .ok (.putfield 101, 3) := by decide +kernel
theorem dX12_init_269 : decode cX12_init 269 = .ok (.aload_n 0, 1) := by decide +kernel
theorem dX12_init_270 : decode cX12_init 270 = .ok (.iconst 2, 1) := by decide +kernel
theorem dX12_init_271 : decode cX12_init 271 = .ok (.newarray .int, 2) := by decide +kernel
theorem dX12_init_273 : decode cX12_init 273 = .ok (.putfield 104, 3) := by decide +kernel
theorem dX12_init_276 : decode cX12_init 276 = .ok (.aload_n 0, 1) := by decide +kernel
theorem dX12_init_277 : decode cX12_init 277 = .ok (.iconst 2, 1) := by decide +kernel
theorem dX12_init_278 : decode cX12_init 278 = .ok (.newarray .int, 2) := by decide +kernel
theorem dX12_init_280 : decode cX12_init 280 = .ok (.putfield 107, 3) := by decide +kernel
theorem dX12_init_283 : decode cX12_init 283 = .ok (.aload_n 0, 1) := by decide +kernel
theorem dX12_init_284 : decode cX12_init 284 = .ok (.iconst 2, 1) := by decide +kernel
theorem dX12_init_285 : decode cX12_init 285 = .ok (.newarray .int, 2) := by decide +kernel
theorem dX12_init_287 : decode cX12_init 287 = .ok (.putfield 110, 3) := by decide +kernel
theorem dX12_init_290 : decode cX12_init 290 = .ok (.aload_n 0, 1) := by decide +kernel
theorem dX12_init_291 : decode cX12_init 291 = .ok (.bipush 60, 2) := by decide +kernel
theorem dX12_init_293 : decode cX12_init 293 = .ok (.newarray .int, 2) := by decide +kernel
theorem dX12_init_295 : decode cX12_init 295 = .ok (.putfield 113, 3) := by decide +kernel
theorem dX12_init_298 : decode cX12_init 298 = .ok (.aload_n 0, 1) := by decide +kernel
theorem dX12_init_299 : decode cX12_init 299 = .ok (.bipush 60, 2) := by decide +kernel
theorem dX12_init_301 : decode cX12_init 301 = .ok (.newarray .int, 2) := by decide +kernel
theorem dX12_init_303 : decode cX12_init 303 = .ok (.putfield 116, 3) := by decide +kernel
theorem dX12_init_306 : decode cX12_init 306 = .ok (.aload_n 0, 1) := by decide +kernel
theorem dX12_init_307 : decode cX12_init 307 = .ok (.sipush 1440, 3) := by decide +kernel
theorem dX12_init_310 : decode cX12_init 310 = .ok (.newarray .int, 2) := by decide +kernel
theorem dX12_init_312 : decode cX12_init 312 = .ok (.putfield 119, 3) := by decide +kernel
theorem dX12_init_315 : decode cX12_init 315 = .ok (.aload_n 0, 1) := by decide +kernel
theorem dX12_init_316 : decode cX12_init 316 = .ok (.bipush 60, 2) := by decide +kernel
theorem dX12_init_318 : decode cX12_init 318 = .ok (.newarray .int, 2) := by decide +kernel
theorem dX12_init_320 : decode cX12_init 320 = .ok (.putfield 122, 3) := by decide +kernel
theorem dX12_init_323 : decode cX12_init 323 = .ok (.aload_n 0, 1) := by decide +kernel
theorem dX12_init_324 : decode cX12_init 324 = .ok (.sipush 1440, 3) := by decide +kernel
theorem dX12_init_327 : decode cX12_init 327 = .ok (.newarray .int, 2) := by decide +kernel
theorem dX12_init_329 : decode cX12_init 329 = .ok (.putfield 125, 3) := by decide +kernel
theorem dX12_init_332 : decode cX12_init 332 = .ok (.aload_n 0, 1) := by decide +kernel
theorem dX12_init_333 : decode cX12_init 333 = .ok (.sipush 420, 3) := by decide +kernel
theorem dX12_init_336 : decode cX12_init 336 = .ok (.newarray .int, 2) := by decide +kernel
theorem dX12_init_338 : decode cX12_init 338 = .ok (.putfield 128, 3) := by decide +kernel
theorem dX12_init_341 : decode cX12_init 341 = .ok (.aload_n 0, 1) := by decide +kernel
theorem dX12_init_342 : decode cX12_init 342 = .ok (.bipush 12, 2) := by decide +kernel
theorem dX12_init_344 : decode cX12_init 344 = .ok (.newarray .int, 2) := by decide +kernel
theorem dX12_init_346 : decode cX12_init 346 = .ok (.putfield 131, 3) := by decide +kernel
theorem dX12_init_349 : decode cX12_init 349 = .ok (.aload_n 0, 1) := by decide +kernel
theorem dX12_init_350 : decode cX12_init 350 = .ok (.iconst 2, 1) := by decide +kernel
theorem dX12_init_351 : decode cX12_init 351 = .ok (.newarray .int, 2) := by decide +kernel
theorem dX12_init_353 : decode cX12_init 353 = .ok (.putfield 134, 3) := by decide +kernel
theorem dX12_init_356 : decode cX12_init 356 = .ok (.return_, 1) := by decide +kernel
theorem dX12_func_0 : decode cX12_func 0 = .ok (.aload_n 0, 1) := by decide +kernel
theorem dX12_func_1 : decode cX12_func 1 = .ok (.iconst 0, 1) := by decide +kernel
theorem dX12_func_2 : decode cX12_func 2 = .ok (.putfield 137, 3) := by decide +kernel
theorem dX12_func_5 : decode cX12_func 5 = .ok (.iload_n 1, 1) := by decide +kernel
theorem dX12_func_6 : decode cX12_func 6 = .ok (.ifCond .lt 36, 3) := by decide +kernel
theorem dX12_func_9 : decode cX12_func 9 = .ok (.iload_n 1, 1) := by decide +kernel
theorem dX12_func_10 : decode cX12_func 10 = .ok (.bipush 6, 2) := by decide +kernel
theorem dX12_func_12 : decode cX12_func 12 = .ok (.if_icmp .gt 30, 3) := by decide +kernel
theorem dX12_func_15 : decode cX12_func 15 = .ok (.iload_n 2, 1) := by decide +kernel
theorem dX12_func_16 : decode cX12_func 16 = .ok (.iload_n 1, 1) := by decide +kernel
theorem dX12_func_17 : decode cX12_func 17 = .ok (.if_icmp .lt 25, 3) := by decide +kernel
theorem dX12_func_20 : decode cX12_func 20 = .ok (.iload_n 2, 1) := by decide +kernel
theorem dX12_func_21 : decode cX12_func 21 = .ok (.bipush 10, 2) := by decide +kernel
theorem dX12_func_23 : decode cX12_func 23 = .ok (.if_icmp .gt 19, 3) := by decide +kernel
theorem dX12_func_26 : decode cX12_func 26 = .ok (.aload_n 0, 1) := by decide +kernel
theorem dX12_func_27 : decode cX12_func 27 = .ok (.getfield 141, 3) := by decide +kernel
theorem dX12_func_30 : decode cX12_func 30 = .ok (.bipush 12, 2) := by decide +kernel
theorem dX12_func_32 : decode cX12_func 32 = .ok (.if_icmp .eq 10, 3) := by decide +kernel
theorem dX12_func_35 : decode cX12_func 35 = .ok (.aload_n 0, 1) := by decide +kernel
theorem dX12_func_36 : decode cX12_func 36 = .ok (.getfield 144, 3) := by decide +kernel
theorem dX12_func_39 : decode cX12_func 39 = .ok (.ifCond .eq 5, 3) := by decide +kernel
theorem dX12_func_42 : decode cX12_func 42 = .ok (.iconst (-1), 1) := by decide +kernel
theorem dX12_func_43 : decode cX12_func 43 = .ok (.ireturn, 1) := by decide +kernel
theorem dX12_func_44 : decode cX12_func 44 = .ok (.aload_n 0, 1) := by decide +kernel
theorem dX12_func_45 : decode cX12_func 45 = .ok (.getfield 7, 3) := by decide +kernel
theorem dX12_func_48 : decode cX12_func 48 = .ok (.aload_n 0, 1) := by decide +kernel
theorem dX12_func_49 : decode cX12_func 49 = .ok (.getfield 141, 3) := by decide +kernel
theorem dX12_func_52 : decode cX12_func 52 = .ok (.iload_n 1, 1) := by decide +kernel
theorem dX12_func_53 : decode cX12_func 53 = .ok (.iastore, 1) := by decide +kernel
theorem dX12_func_54 : decode cX12_func 54 = .ok (.aload_n 0, 1) := by decide +kernel
theorem dX12_func_55 : decode cX12_func 55 = .ok (.getfield 13, 3) := by decide +kernel
theorem dX12_func_58 : decode cX12_func 58 = .ok (.aload_n 0, 1) := by decide +kernel
theorem dX12_func_59 : decode cX12_func 59 = .ok (.getfield 141, 3) := by decide +kernel
theorem dX12_func_62 : decode cX12_func 62 = .ok (.iload_n 2, 1) := by decide +kernel
theorem dX12_func_63 : decode cX12_func 63 = .ok (.iastore, 1) := by decide +kernel
theorem dX12_func_64 : decode cX12_func 64 = .ok (.aload_n 0, 1) := by decide +kernel
theorem dX12_func_65 : decode cX12_func 65 = .ok (.getfield 16, 3) := by decide +kernel
theorem dX12_func_68 : decode cX12_func 68 = .ok (.aload_n 0, 1) := by decide +kernel
theorem dX12_func_69 : decode cX12_func 69 = .ok (.getfield 141, 3) := by decide +kernel
theorem dX12_func_72 : decode cX12_func 72 = .ok (.aload_n 0, 1) := by decide +kernel
theorem dX12_func_73 : decode cX12_func 73 = .ok (.getfield 148, 3) := by decide +kernel
theorem dX12_func_76 : decode cX12_func 76 = .ok (.iastore, 1) := by decide +kernel
theorem dX12_func_77 : decode cX12_func 77 = .ok (.aload_n 0, 1) := by decide +kernel
theorem dX12_func_78 : decode cX12_func 78 = .ok (.getfield 19, 3) := by decide +kernel
theorem dX12_func_81 : decode cX12_func 81 = .ok (.aload_n 0, 1) := by decide +kernel
theorem dX12_func_82 : decode cX12_func 82 = .ok (.getfield 141, 3) := by decide +kernel
theorem dX12_func_85 : decode cX12_func 85 = .ok (.iconst 0, 1) := by decide +kernel
theorem dX12_func_86 : decode cX12_func 86 = .ok (.iastore, 1) := by decide +kernel
theorem dX12_func_87 : decode cX12_func 87 = .ok (.aload_n 0, 1) := by decide +kernel
theorem dX12_func_88 : decode cX12_func 88 = .ok (.dup, 1) := by decide +kernel
theorem dX12_func_89 : decode cX12_func 89 = .ok (.getfield 141, 3) := by decide +kernel
theorem dX12_func_92 : decode cX12_func 92 = .ok (.iconst 1, 1) := by decide +kernel
theorem dX12_func_93 : decode cX12_func 93 = .ok (.iadd, 1) := by decide +kernel
theorem dX12_func_94 : decode cX12_func 94 = .ok (.putfield 141, 3) := by decide +kernel
theorem dX12_func_97 : decode cX12_func 97 = .ok (.aload_n 0, 1) := by decide +kernel
theorem dX12_func_98 : decode cX12_func 98 = .ok (.getfield 141, 3) := by decide +kernel
theorem dX12_func_101 : decode cX12_func 101 = .ok (.iconst 1, 1) := by decide +kernel
theorem dX12_func_102 : decode cX12_func 102 = .ok (.isub, 1) := by decide +kernel
theorem dX12_func_103 : decode cX12_func 103 = .ok (.ireturn, 1) := by decide +kernel
theorem dX12_word_0 : decode cX12_word 0 = .ok (.aload_n 0, 1) := by decide +kernel
theorem dX12_word_1 : decode cX12_word 1 = .ok (.iconst 0, 1) := by decide +kernel
theorem dX12_word_2 : decode cX12_word 2 = .ok (.putfield 137, 3) := by decide +kernel
theorem dX12_word_5 : decode cX12_word 5 = .ok (.aload_n 0, 1) := by decide +kernel
theorem dX12_word_6 : decode cX12_word 6 = .ok (.getfield 141, 3) := by decide +kernel
theorem dX12_word_9 : decode cX12_word 9 = .ok (.ifCond .eq 20, 3) := by decide +kernel
theorem dX12_word_12 : decode cX12_word 12 = .ok (.aload_n 0, 1) := by decide +kernel
theorem dX12_word_13 : decode cX12_word 13 = .ok (.getfield 148, 3) := by decide +kernel
theorem dX12_word_16 : decode cX12_word 16 = .ok (.sipush 300, 3) := by decide +kernel
theorem dX12_word_19 : decode cX12_word 19 = .ok (.if_icmp .eq 10, 3) := by decide +kernel
theorem dX12_word_22 : decode cX12_word 22 = .ok (.aload_n 0, 1) := by decide +kernel
theorem dX12_word_23 : decode cX12_word 23 = .ok (.getfield 144, 3) := by decide +kernel
theorem dX12_word_26 : decode cX12_word 26 = .ok (.ifCond .eq 5, 3) := by decide +kernel
theorem dX12_word_29 : decode cX12_word 29 = .ok (.iconst (-1), 1) := by decide +kernel
theorem dX12_word_30 : decode cX12_word 30 = .ok (.ireturn, 1) := by decide +kernel
theorem dX12_word_31 : decode cX12_word 31 = .ok (.aload_n 0, 1) := by decide +kernel
theorem dX12_word_32 : decode cX12_word 32 = .ok (.getfield 22, 3) := by decide +kernel
theorem dX12_word_35 : decode cX12_word 35 = .ok (.aload_n 0, 1) := by decide +kernel
theorem dX12_word_36 : decode cX12_word 36 = .ok (.getfield 148, 3) := by decide +kernel
theorem dX12_word_39 : decode cX12_word 39 = .ok (.iload_n 1, 1) := by decide +kernel
theorem dX12_word_40 : decode cX12_word 40 = .ok (.iastore, 1) := by decide +kernel
theorem dX12_word_41 : decode cX12_word 41 = .ok (.aload_n 0, 1) := by decide +kernel
theorem dX12_word_42 : decode cX12_word 42 = .ok (.getfield 25, 3) := by decide +kernel
theorem dX12_word_45 : decode cX12_word 45 = .ok (.aload_n 0, 1) := by decide +kernel
theorem dX12_word_46 : decode cX12_word 46 = .ok (.getfield 148, 3) := by decide +kernel
theorem dX12_word_49 : decode cX12_word 49 = .ok (.iload_n 2, 1) := by decide +kernel
theorem dX12_word_50 : decode cX12_word 50 = .ok (.iastore, 1) := by decide +kernel
theorem dX12_word_51 : decode cX12_word 51 = .ok (.aload_n 0, 1) := by decide +kernel
theorem dX12_word_52 : decode cX12_word 52 = .ok (.dup, 1) := by decide +kernel
theorem dX12_word_53 : decode cX12_word 53 = .ok (.getfield 148, 3) := by decide +kernel
theorem dX12_word_56 : decode cX12_word 56 = .ok (.iconst 1, 1) := by decide +kernel
theorem dX12_word_57 : decode cX12_word 57 = .ok (.iadd, 1) := by decide +kernel
theorem dX12_word_58 : decode cX12_word 58 = .ok (.putfield 148, 3) := by decide +kernel
theorem dX12_word_61 : decode cX12_word 61 = .ok (.aload_n 0, 1) := by decide +kernel
theorem dX12_word_62 : decode cX12_word 62 = .ok (.getfield 19, 3) := by decide +kernel
theorem dX12_word_65 : decode cX12_word 65 = .ok (.aload_n 0, 1) := by decide +kernel
theorem dX12_word_66 : decode cX12_word 66 = .ok (.getfield 141, 3) := by decide +kernel
theorem dX12_word_69 : decode cX12_word 69 = .ok (.iconst 1, 1) := by decide +kernel
theorem dX12_word_70 : decode cX12_word 70 = .ok (.isub, 1) := by decide +kernel
theorem dX12_word_71 : decode cX12_word 71 = .ok (.dup2, 1) := by decide +kernel
theorem dX12_word_72 : decode cX12_word 72 = .ok (.iaload, 1) := by decide +kernel
theorem dX12_word_73 : decode cX12_word 73 = .ok (.iconst 1, 1) := by decide +kernel
theorem dX12_word_74 : decode cX12_word 74 = .ok (.iadd, 1) := by decide +kernel
theorem dX12_word_75 : decode cX12_word 75 = .ok (.iastore, 1) := by decide +kernel
theorem dX12_word_76 : decode cX12_word 76 = .ok (.aload_n 0, 1) := by decide +kernel
theorem dX12_word_77 : decode cX12_word 77 = .ok (.getfield 19, 3) := by decide +kernel
theorem dX12_word_80 : decode cX12_word 80 = .ok (.aload_n 0, 1) := by decide +kernel
theorem dX12_word_81 : decode cX12_word 81 = .ok (.getfield 141, 3) := by decide +kernel
theorem dX12_word_84 : decode cX12_word 84 = .ok (.iconst 1, 1) := by decide +kernel
theorem dX12_word_85 : decode cX12_word 85 = .ok (.isub, 1) := by decide +kernel
theorem dX12_word_86 : decode cX12_word 86 = .ok (.iaload, 1) := by decide +kernel
theorem dX12_word_87 : decode cX12_word 87 = .ok (.iconst 1, 1) := by decide +kernel
theorem dX12_word_88 : decode cX12_word 88 = .ok (.isub, 1) := by decide +kernel
theorem dX12_word_89 : decode cX12_word 89 = .ok (.ireturn, 1) := by decide +kernel
theorem dX12_takes_0 : decode cX12_takes 0 = .ok (.iload_n 1, 1) := by decide +kernel
