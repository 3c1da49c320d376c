/-! the law: links, rows that decode, calls (mk9i.py) -/
theorem dL_0 : decode code 0 = .ok (.new 7, 3) := by decide +kernel
theorem dL_3 : decode code 3 = .ok (.dup, 1) := by decide +kernel
theorem dL_4 : decode code 4 = .ok (.invokespecial 9, 3) := by decide +kernel
theorem dL_7 : decode code 7 = .ok (.astore_n 1, 1) := by decide +kernel
theorem dL_8 : decode code 8 = .ok (.new 10, 3) := by decide +kernel
theorem dL_11 : decode code 11 = .ok (.dup, 1) := by decide +kernel
theorem dL_12 : decode code 12 = .ok (.invokespecial 12, 3) := by decide +kernel
theorem dL_15 : decode code 15 = .ok (.astore_n 2, 1) := by decide +kernel
theorem dL_16 : decode code 16 = .ok (.iconst 0, 1) := by decide +kernel
theorem dL_17 : decode code 17 = .ok (.istore_n 3, 1) := by decide +kernel
theorem dL_18 : decode code 18 = .ok (.iload_n 3, 1) := by decide +kernel
theorem dL_19 : decode code 19 = .ok (.aload_n 0, 1) := by decide +kernel
theorem dL_20 : decode code 20 = .ok (.arraylength, 1) := by decide +kernel
theorem dL_21 : decode code 21 = .ok (.bipush 6, 2) := by decide +kernel
theorem dL_23 : decode code 23 = .ok (.isub, 1) := by decide +kernel
theorem dL_24 : decode code 24 = .ok (.if_icmp .gt 737, 3) := by decide +kernel
theorem dL_27 : decode code 27 = .ok (.aload_n 0, 1) := by decide +kernel
theorem dL_28 : decode code 28 = .ok (.iload_n 3, 1) := by decide +kernel
theorem dL_29 : decode code 29 = .ok (.iaload, 1) := by decide +kernel
theorem dL_30 : decode code 30 = .ok (.bipush 31, 2) := by decide +kernel
theorem dL_32 : decode code 32 = .ok (.iand, 1) := by decide +kernel
theorem dL_33 : decode code 33 = .ok (.tableswitch 722 0 18 #[91, 134, 197, 220, 233, 246, 279, 302, 366, 400, 463, 486, 510, 563, 587, 640, 673, 686, 709], 91) := by decide +kernel
theorem dL_124 : decode code 124 = .ok (.aload_n 1, 1) := by decide +kernel
theorem dL_125 : decode code 125 = .ok (.aload_n 0, 1) := by decide +kernel
theorem dL_126 : decode code 126 = .ok (.iload_n 3, 1) := by decide +kernel
theorem dL_127 : decode code 127 = .ok (.iconst 1, 1) := by decide +kernel
theorem dL_128 : decode code 128 = .ok (.iadd, 1) := by decide +kernel
theorem dL_129 : decode code 129 = .ok (.iaload, 1) := by decide +kernel
theorem dL_130 : decode code 130 = .ok (.aload_n 0, 1) := by decide +kernel
theorem dL_131 : decode code 131 = .ok (.iload_n 3, 1) := by decide +kernel
theorem dL_132 : decode code 132 = .ok (.iconst 2, 1) := by decide +kernel
theorem dL_133 : decode code 133 = .ok (.iadd, 1) := by decide +kernel
theorem dL_134 : decode code 134 = .ok (.iaload, 1) := by decide +kernel
theorem dL_135 : decode code 135 = .ok (.aload_n 0, 1) := by decide +kernel
theorem dL_136 : decode code 136 = .ok (.iload_n 3, 1) := by decide +kernel
theorem dL_137 : decode code 137 = .ok (.iconst 3, 1) := by decide +kernel
theorem dL_138 : decode code 138 = .ok (.iadd, 1) := by decide +kernel
theorem dL_139 : decode code 139 = .ok (.iaload, 1) := by decide +kernel
theorem dL_140 : decode code 140 = .ok (.invokevirtual 13, 3) := by decide +kernel
theorem dL_143 : decode code 143 = .ok (.aload_n 2, 1) := by decide +kernel
theorem dL_144 : decode code 144 = .ok (.aload_n 0, 1) := by decide +kernel
theorem dL_145 : decode code 145 = .ok (.iload_n 3, 1) := by decide +kernel
theorem dL_146 : decode code 146 = .ok (.iconst 1, 1) := by decide +kernel
theorem dL_147 : decode code 147 = .ok (.iadd, 1) := by decide +kernel
theorem dL_148 : decode code 148 = .ok (.iaload, 1) := by decide +kernel
theorem dL_149 : decode code 149 = .ok (.aload_n 0, 1) := by decide +kernel
theorem dL_150 : decode code 150 = .ok (.iload_n 3, 1) := by decide +kernel
theorem dL_151 : decode code 151 = .ok (.iconst 2, 1) := by decide +kernel
theorem dL_152 : decode code 152 = .ok (.iadd, 1) := by decide +kernel
theorem dL_153 : decode code 153 = .ok (.iaload, 1) := by decide +kernel
theorem dL_154 : decode code 154 = .ok (.aload_n 0, 1) := by decide +kernel
theorem dL_155 : decode code 155 = .ok (.iload_n 3, 1) := by decide +kernel
theorem dL_156 : decode code 156 = .ok (.iconst 3, 1) := by decide +kernel
theorem dL_157 : decode code 157 = .ok (.iadd, 1) := by decide +kernel
theorem dL_158 : decode code 158 = .ok (.iaload, 1) := by decide +kernel
theorem dL_159 : decode code 159 = .ok (.invokevirtual 17, 3) := by decide +kernel
theorem dL_162 : decode code 162 = .ok (.if_icmp .eq 593, 3) := by decide +kernel
theorem dL_165 : decode code 165 = .ok (.iconst 0, 1) := by decide +kernel
theorem dL_166 : decode code 166 = .ok (.ireturn, 1) := by decide +kernel
theorem dL_167 : decode code 167 = .ok (.aload_n 1, 1) := by decide +kernel
theorem dL_168 : decode code 168 = .ok (.aload_n 0, 1) := by decide +kernel
theorem dL_169 : decode code 169 = .ok (.iload_n 3, 1) := by decide +kernel
theorem dL_170 : decode code 170 = .ok (.iconst 1, 1) := by decide +kernel
theorem dL_171 : decode code 171 = .ok (.iadd, 1) := by decide +kernel
theorem dL_172 : decode code 172 = .ok (.iaload, 1) := by decide +kernel
theorem dL_173 : decode code 173 = .ok (.aload_n 0, 1) := by decide +kernel
theorem dL_174 : decode code 174 = .ok (.iload_n 3, 1) := by decide +kernel
theorem dL_175 : decode code 175 = .ok (.iconst 2, 1) := by decide +kernel
theorem dL_176 : decode code 176 = .ok (.iadd, 1) := by decide +kernel
theorem dL_177 : decode code 177 = .ok (.iaload, 1) := by decide +kernel
theorem dL_178 : decode code 178 = .ok (.aload_n 0, 1) := by decide +kernel
theorem dL_179 : decode code 179 = .ok (.iload_n 3, 1) := by decide +kernel
theorem dL_180 : decode code 180 = .ok (.iconst 3, 1) := by decide +kernel
theorem dL_181 : decode code 181 = .ok (.iadd, 1) := by decide +kernel
theorem dL_182 : decode code 182 = .ok (.iaload, 1) := by decide +kernel
theorem dL_183 : decode code 183 = .ok (.aload_n 0, 1) := by decide +kernel
theorem dL_184 : decode code 184 = .ok (.iload_n 3, 1) := by decide +kernel
theorem dL_185 : decode code 185 = .ok (.iconst 4, 1) := by decide +kernel
theorem dL_186 : decode code 186 = .ok (.iadd, 1) := by decide +kernel
theorem dL_187 : decode code 187 = .ok (.iaload, 1) := by decide +kernel
theorem dL_188 : decode code 188 = .ok (.aload_n 0, 1) := by decide +kernel
theorem dL_189 : decode code 189 = .ok (.iload_n 3, 1) := by decide +kernel
theorem dL_190 : decode code 190 = .ok (.iconst 5, 1) := by decide +kernel
theorem dL_191 : decode code 191 = .ok (.iadd, 1) := by decide +kernel
theorem dL_192 : decode code 192 = .ok (.iaload, 1) := by decide +kernel
theorem dL_193 : decode code 193 = .ok (.invokevirtual 18, 3) := by decide +kernel
theorem dL_196 : decode code 196 = .ok (.aload_n 2, 1) := by decide +kernel
theorem dL_197 : decode code 197 = .ok (.aload_n 0, 1) := by decide +kernel
theorem dL_198 : decode code 198 = .ok (.iload_n 3, 1) := by decide +kernel
theorem dL_199 : decode code 199 = .ok (.iconst 1, 1) := by decide +kernel
theorem dL_200 : decode code 200 = .ok (.iadd, 1) := by decide +kernel
theorem dL_201 : decode code 201 = .ok (.iaload, 1) := by decide +kernel
theorem dL_202 : decode code 202 = .ok (.aload_n 0, 1) := by decide +kernel
theorem dL_203 : decode code 203 = .ok (.iload_n 3, 1) := by decide +kernel
theorem dL_204 : decode code 204 = .ok (.iconst 2, 1) := by decide +kernel
theorem dL_205 : decode code 205 = .ok (.iadd, 1) := by decide +kernel
theorem dL_206 : decode code 206 = .ok (.iaload, 1) := by decide +kernel
theorem dL_207 : decode code 207 = .ok (.aload_n 0, 1) := by decide +kernel
theorem dL_208 : decode code 208 = .ok (.iload_n 3, 1) := by decide +kernel
theorem dL_209 : decode code 209 = .ok (.iconst 3, 1) := by decide +kernel
theorem dL_210 : decode code 210 = .ok (.iadd, 1) := by decide +kernel
theorem dL_211 : decode code 211 = .ok (.iaload, 1) := by decide +kernel
theorem dL_212 : decode code 212 = .ok (.aload_n 0, 1) := by decide +kernel
theorem dL_213 : decode code 213 = .ok (.iload_n 3, 1) := by decide +kernel
theorem dL_214 : decode code 214 = .ok (.iconst 4, 1) := by decide +kernel
theorem dL_215 : decode code 215 = .ok (.iadd, 1) := by decide +kernel
theorem dL_216 : decode code 216 = .ok (.iaload, 1) := by decide +kernel
theorem dL_217 : decode code 217 = .ok (.aload_n 0, 1) := by decide +kernel
theorem dL_218 : decode code 218 = .ok (.iload_n 3, 1) := by decide +kernel
theorem dL_219 : decode code 219 = .ok (.iconst 5, 1) := by decide +kernel
theorem dL_220 : decode code 220 = .ok (.iadd, 1) := by decide +kernel
theorem dL_221 : decode code 221 = .ok (.iaload, 1) := by decide +kernel
theorem dL_222 : decode code 222 = .ok (.invokevirtual 22, 3) := by decide +kernel
theorem dL_225 : decode code 225 = .ok (.if_icmp .eq 530, 3) := by decide +kernel
theorem dL_228 : decode code 228 = .ok (.iconst 0, 1) := by decide +kernel
theorem dL_229 : decode code 229 = .ok (.ireturn, 1) := by decide +kernel
theorem dL_230 : decode code 230 = .ok (.aload_n 1, 1) := by decide +kernel
theorem dL_231 : decode code 231 = .ok (.aload_n 0, 1) := by decide +kernel
theorem dL_232 : decode code 232 = .ok (.iload_n 3, 1) := by decide +kernel
theorem dL_233 : decode code 233 = .ok (.iconst 1, 1) := by decide +kernel
theorem dL_234 : decode code 234 = .ok (.iadd, 1) := by decide +kernel
theorem dL_235 : decode code 235 = .ok (.iaload, 1) := by decide +kernel
theorem dL_236 : decode code 236 = .ok (.invokevirtual 23, 3) := by decide +kernel
theorem dL_239 : decode code 239 = .ok (.aload_n 2, 1) := by decide +kernel
theorem dL_240 : decode code 240 = .ok (.aload_n 0, 1) := by decide +kernel
theorem dL_241 : decode code 241 = .ok (.iload_n 3, 1) := by decide +kernel
theorem dL_242 : decode code 242 = .ok (.iconst 1, 1) := by decide +kernel
theorem dL_243 : decode code 243 = .ok (.iadd, 1) := by decide +kernel
theorem dL_244 : decode code 244 = .ok (.iaload, 1) := by decide +kernel
theorem dL_245 : decode code 245 = .ok (.invokevirtual 27, 3) := by decide +kernel
theorem dL_248 : decode code 248 = .ok (.if_icmp .eq 507, 3) := by decide +kernel
theorem dL_251 : decode code 251 = .ok (.iconst 0, 1) := by decide +kernel
theorem dL_252 : decode code 252 = .ok (.ireturn, 1) := by decide +kernel
theorem dL_253 : decode code 253 = .ok (.aload_n 1, 1) := by decide +kernel
theorem dL_254 : decode code 254 = .ok (.invokevirtual 28, 3) := by decide +kernel
theorem dL_257 : decode code 257 = .ok (.aload_n 2, 1) := by decide +kernel
theorem dL_258 : decode code 258 = .ok (.invokevirtual 32, 3) := by decide +kernel
theorem dL_261 : decode code 261 = .ok (.if_icmp .eq 494, 3) := by decide +kernel
theorem dL_264 : decode code 264 = .ok (.iconst 0, 1) := by decide +kernel
theorem dL_265 : decode code 265 = .ok (.ireturn, 1) := by decide +kernel
theorem dL_266 : decode code 266 = .ok (.aload_n 1, 1) := by decide +kernel
theorem dL_267 : decode code 267 = .ok (.invokevirtual 33, 3) := by decide +kernel
theorem dL_270 : decode code 270 = .ok (.aload_n 2, 1) := by decide +kernel
theorem dL_271 : decode code 271 = .ok (.invokevirtual 36, 3) := by decide +kernel
theorem dL_274 : decode code 274 = .ok (.if_icmp .eq 481, 3) := by decide +kernel
theorem dL_277 : decode code 277 = .ok (.iconst 0, 1) := by decide +kernel
theorem dL_278 : decode code 278 = .ok (.ireturn, 1) := by decide +kernel
theorem dL_279 : decode code 279 = .ok (.aload_n 1, 1) := by decide +kernel
theorem dL_280 : decode code 280 = .ok (.aload_n 0, 1) := by decide +kernel
theorem dL_281 : decode code 281 = .ok (.iload_n 3, 1) := by decide +kernel
theorem dL_282 : decode code 282 = .ok (.iconst 1, 1) := by decide +kernel
theorem dL_283 : decode code 283 = .ok (.iadd, 1) := by decide +kernel
theorem dL_284 : decode code 284 = .ok (.iaload, 1) := by decide +kernel
theorem dL_285 : decode code 285 = .ok (.aload_n 0, 1) := by decide +kernel
theorem dL_286 : decode code 286 = .ok (.iload_n 3, 1) := by decide +kernel
theorem dL_287 : decode code 287 = .ok (.iconst 2, 1) := by decide +kernel
theorem dL_288 : decode code 288 = .ok (.iadd, 1) := by decide +kernel
theorem dL_289 : decode code 289 = .ok (.iaload, 1) := by decide +kernel
theorem dL_290 : decode code 290 = .ok (.invokevirtual 37, 3) := by decide +kernel
theorem dL_293 : decode code 293 = .ok (.aload_n 2, 1) := by decide +kernel
theorem dL_294 : decode code 294 = .ok (.aload_n 0, 1) := by decide +kernel
theorem dL_295 : decode code 295 = .ok (.iload_n 3, 1) := by decide +kernel
theorem dL_296 : decode code 296 = .ok (.iconst 1, 1) := by decide +kernel
theorem dL_297 : decode code 297 = .ok (.iadd, 1) := by decide +kernel
theorem dL_298 : decode code 298 = .ok (.iaload, 1) := by decide +kernel
theorem dL_299 : decode code 299 = .ok (.aload_n 0, 1) := by decide +kernel
theorem dL_300 : decode code 300 = .ok (.iload_n 3, 1) := by decide +kernel
theorem dL_301 : decode code 301 = .ok (.iconst 2, 1) := by decide +kernel
theorem dL_302 : decode code 302 = .ok (.iadd, 1) := by decide +kernel
theorem dL_303 : decode code 303 = .ok (.iaload, 1) := by decide +kernel
theorem dL_304 : decode code 304 = .ok (.invokevirtual 41, 3) := by decide +kernel
theorem dL_307 : decode code 307 = .ok (.if_icmp .eq 448, 3) := by decide +kernel
theorem dL_310 : decode code 310 = .ok (.iconst 0, 1) := by decide +kernel
theorem dL_311 : decode code 311 = .ok (.ireturn, 1) := by decide +kernel
theorem dL_312 : decode code 312 = .ok (.aload_n 1, 1) := by decide +kernel
theorem dL_313 : decode code 313 = .ok (.aload_n 0, 1) := by decide +kernel
theorem dL_314 : decode code 314 = .ok (.iload_n 3, 1) := by decide +kernel
theorem dL_315 : decode code 315 = .ok (.iconst 1, 1) := by decide +kernel
theorem dL_316 : decode code 316 = .ok (.iadd, 1) := by decide +kernel
theorem dL_317 : decode code 317 = .ok (.iaload, 1) := by decide +kernel
theorem dL_318 : decode code 318 = .ok (.invokevirtual 42, 3) := by decide +kernel
theorem dL_321 : decode code 321 = .ok (.aload_n 2, 1) := by decide +kernel
theorem dL_322 : decode code 322 = .ok (.aload_n 0, 1) := by decide +kernel
theorem dL_323 : decode code 323 = .ok (.iload_n 3, 1) := by decide +kernel
theorem dL_324 : decode code 324 = .ok (.iconst 1, 1) := by decide +kernel
theorem dL_325 : decode code 325 = .ok (.iadd, 1) := by decide +kernel
theorem dL_326 : decode code 326 = .ok (.iaload, 1) := by decide +kernel
theorem dL_327 : decode code 327 = .ok (.invokevirtual 45, 3) := by decide +kernel
theorem dL_330 : decode code 330 = .ok (.if_icmp .eq 425, 3) := by decide +kernel
theorem dL_333 : decode code 333 = .ok (.iconst 0, 1) := by decide +kernel
theorem dL_334 : decode code 334 = .ok (.ireturn, 1) := by decide +kernel
theorem dL_335 : decode code 335 = .ok (.aload_n 1, 1) := by decide +kernel
theorem dL_336 : decode code 336 = .ok (.aload_n 0, 1) := by decide +kernel
theorem dL_337 : decode code 337 = .ok (.iload_n 3, 1) := by decide +kernel
theorem dL_338 : decode code 338 = .ok (.iconst 1, 1) := by decide +kernel
theorem dL_339 : decode code 339 = .ok (.iadd, 1) := by decide +kernel
theorem dL_340 : decode code 340 = .ok (.iaload, 1) := by decide +kernel
theorem dL_341 : decode code 341 = .ok (.aload_n 0, 1) := by decide +kernel
theorem dL_342 : decode code 342 = .ok (.iload_n 3, 1) := by decide +kernel
theorem dL_343 : decode code 343 = .ok (.iconst 2, 1) := by decide +kernel
theorem dL_344 : decode code 344 = .ok (.iadd, 1) := by decide +kernel
theorem dL_345 : decode code 345 = .ok (.iaload, 1) := by decide +kernel
theorem dL_346 : decode code 346 = .ok (.aload_n 0, 1) := by decide +kernel
theorem dL_347 : decode code 347 = .ok (.iload_n 3, 1) := by decide +kernel
theorem dL_348 : decode code 348 = .ok (.iconst 3, 1) := by decide +kernel
theorem dL_349 : decode code 349 = .ok (.iadd, 1) := by decide +kernel
theorem dL_350 : decode code 350 = .ok (.iaload, 1) := by decide +kernel
theorem dL_351 : decode code 351 = .ok (.aload_n 0, 1) := by decide +kernel
theorem dL_352 : decode code 352 = .ok (.iload_n 3, 1) := by decide +kernel
theorem dL_353 : decode code 353 = .ok (.iconst 4, 1) := by decide +kernel
theorem dL_354 : decode code 354 = .ok (.iadd, 1) := by decide +kernel
theorem dL_355 : decode code 355 = .ok (.iaload, 1) := by decide +kernel
theorem dL_356 : decode code 356 = .ok (.aload_n 0, 1) := by decide +kernel
theorem dL_357 : decode code 357 = .ok (.iload_n 3, 1) := by decide +kernel
theorem dL_358 : decode code 358 = .ok (.iconst 5, 1) := by decide +kernel
theorem dL_359 : decode code 359 = .ok (.iadd, 1) := by decide +kernel
theorem dL_360 : decode code 360 = .ok (.iaload, 1) := by decide +kernel
theorem dL_361 : decode code 361 = .ok (.invokevirtual 46, 3) := by decide +kernel
theorem dL_364 : decode code 364 = .ok (.aload_n 2, 1) := by decide +kernel
theorem dL_365 : decode code 365 = .ok (.aload_n 0, 1) := by decide +kernel
theorem dL_366 : decode code 366 = .ok (.iload_n 3, 1) := by decide +kernel
theorem dL_367 : decode code 367 = .ok (.iconst 1, 1) := by decide +kernel
theorem dL_368 : decode code 368 = .ok (.iadd, 1) := by decide +kernel
theorem dL_369 : decode code 369 = .ok (.iaload, 1) := by decide +kernel
theorem dL_370 : decode code 370 = .ok (.aload_n 0, 1) := by decide +kernel
theorem dL_371 : decode code 371 = .ok (.iload_n 3, 1) := by decide +kernel
theorem dL_372 : decode code 372 = .ok (.iconst 2, 1) := by decide +kernel
theorem dL_373 : decode code 373 = .ok (.iadd, 1) := by decide +kernel
theorem dL_374 : decode code 374 = .ok (.iaload, 1) := by decide +kernel
theorem dL_375 : decode code 375 = .ok (.aload_n 0, 1) := by decide +kernel
theorem dL_376 : decode code 376 = .ok (.iload_n 3, 1) := by decide +kernel
theorem dL_377 : decode code 377 = .ok (.iconst 3, 1) := by decide +kernel
theorem dL_378 : decode code 378 = .ok (.iadd, 1) := by decide +kernel
theorem dL_379 : decode code 379 = .ok (.iaload, 1) := by decide +kernel
theorem dL_380 : decode code 380 = .ok (.aload_n 0, 1) := by decide +kernel
theorem dL_381 : decode code 381 = .ok (.iload_n 3, 1) := by decide +kernel
theorem dL_382 : decode code 382 = .ok (.iconst 4, 1) := by decide +kernel
theorem dL_383 : decode code 383 = .ok (.iadd, 1) := by decide +kernel
theorem dL_384 : decode code 384 = .ok (.iaload, 1) := by decide +kernel
theorem dL_385 : decode code 385 = .ok (.aload_n 0, 1) := by decide +kernel
theorem dL_386 : decode code 386 = .ok (.iload_n 3, 1) := by decide +kernel
theorem dL_387 : decode code 387 = .ok (.iconst 5, 1) := by decide +kernel
theorem dL_388 : decode code 388 = .ok (.iadd, 1) := by decide +kernel
theorem dL_389 : decode code 389 = .ok (.iaload, 1) := by decide +kernel
theorem dL_390 : decode code 390 = .ok (.invokevirtual 50, 3) := by decide +kernel
theorem dL_393 : decode code 393 = .ok (.lcmp, 1) := by decide +kernel
theorem dL_394 : decode code 394 = .ok (.ifCond .eq 361, 3) := by decide +kernel
theorem dL_397 : decode code 397 = .ok (.iconst 0, 1) := by decide +kernel
theorem dL_398 : decode code 398 = .ok (.ireturn, 1) := by decide +kernel
theorem dL_399 : decode code 399 = .ok (.aload_n 1, 1) := by decide +kernel
theorem dL_400 : decode code 400 = .ok (.aload_n 0, 1) := by decide +kernel
theorem dL_401 : decode code 401 = .ok (.iload_n 3, 1) := by decide +kernel
theorem dL_402 : decode code 402 = .ok (.iconst 1, 1) := by decide +kernel
theorem dL_403 : decode code 403 = .ok (.iadd, 1) := by decide +kernel
theorem dL_404 : decode code 404 = .ok (.iaload, 1) := by decide +kernel
theorem dL_405 : decode code 405 = .ok (.aload_n 0, 1) := by decide +kernel
theorem dL_406 : decode code 406 = .ok (.iload_n 3, 1) := by decide +kernel
theorem dL_407 : decode code 407 = .ok (.iconst 2, 1) := by decide +kernel
theorem dL_408 : decode code 408 = .ok (.iadd, 1) := by decide +kernel
theorem dL_409 : decode code 409 = .ok (.iaload, 1) := by decide +kernel
theorem dL_410 : decode code 410 = .ok (.invokevirtual 51, 3) := by decide +kernel
theorem dL_413 : decode code 413 = .ok (.aload_n 2, 1) := by decide +kernel
theorem dL_414 : decode code 414 = .ok (.aload_n 0, 1) := by decide +kernel
theorem dL_415 : decode code 415 = .ok (.iload_n 3, 1) := by decide +kernel
theorem dL_416 : decode code 416 = .ok (.iconst 1, 1) := by decide +kernel
theorem dL_417 : decode code 417 = .ok (.iadd, 1) := by decide +kernel
theorem dL_418 : decode code 418 = .ok (.iaload, 1) := by decide +kernel
theorem dL_419 : decode code 419 = .ok (.aload_n 0, 1) := by decide +kernel
theorem dL_420 : decode code 420 = .ok (.iload_n 3, 1) := by decide +kernel
theorem dL_421 : decode code 421 = .ok (.iconst 2, 1) := by decide +kernel
theorem dL_422 : decode code 422 = .ok (.iadd, 1) := by decide +kernel
theorem dL_423 : decode code 423 = .ok (.iaload, 1) := by decide +kernel
theorem dL_424 : decode code 424 = .ok (.invokevirtual 55, 3) := by decide +kernel
theorem dL_427 : decode code 427 = .ok (.lcmp, 1) := by decide +kernel
theorem dL_428 : decode code 428 = .ok (.ifCond .eq 327, 3) := by decide +kernel
theorem dL_431 : decode code 431 = .ok (.iconst 0, 1) := by decide +kernel
theorem dL_432 : decode code 432 = .ok (.ireturn, 1) := by decide +kernel
theorem dL_433 : decode code 433 = .ok (.aload_n 1, 1) := by decide +kernel
theorem dL_434 : decode code 434 = .ok (.aload_n 0, 1) := by decide +kernel
theorem dL_435 : decode code 435 = .ok (.iload_n 3, 1) := by decide +kernel
theorem dL_436 : decode code 436 = .ok (.iconst 1, 1) := by decide +kernel
theorem dL_437 : decode code 437 = .ok (.iadd, 1) := by decide +kernel
theorem dL_438 : decode code 438 = .ok (.iaload, 1) := by decide +kernel
theorem dL_439 : decode code 439 = .ok (.aload_n 0, 1) := by decide +kernel
theorem dL_440 : decode code 440 = .ok (.iload_n 3, 1) := by decide +kernel
theorem dL_441 : decode code 441 = .ok (.iconst 2, 1) := by decide +kernel
theorem dL_442 : decode code 442 = .ok (.iadd, 1) := by decide +kernel
theorem dL_443 : decode code 443 = .ok (.iaload, 1) := by decide +kernel
theorem dL_444 : decode code 444 = .ok (.i2l, 1) := by decide +kernel
theorem dL_445 : decode code 445 = .ok (.bipush 32, 2) := by decide +kernel
theorem dL_447 : decode code 447 = .ok (.lshl, 1) := by decide +kernel
theorem dL_448 : decode code 448 = .ok (.aload_n 0, 1) := by decide +kernel
theorem dL_449 : decode code 449 = .ok (.iload_n 3, 1) := by decide +kernel
theorem dL_450 : decode code 450 = .ok (.iconst 3, 1) := by decide +kernel
theorem dL_451 : decode code 451 = .ok (.iadd, 1) := by decide +kernel
theorem dL_452 : decode code 452 = .ok (.iaload, 1) := by decide +kernel
theorem dL_453 : decode code 453 = .ok (.i2l, 1) := by decide +kernel
theorem dL_454 : decode code 454 = .ok (.ldc2_w 56, 3) := by decide +kernel
theorem dL_457 : decode code 457 = .ok (.land, 1) := by decide +kernel
theorem dL_458 : decode code 458 = .ok (.lor, 1) := by decide +kernel
theorem dL_459 : decode code 459 = .ok (.invokevirtual 58, 3) := by decide +kernel
theorem dL_462 : decode code 462 = .ok (.aload_n 2, 1) := by decide +kernel
theorem dL_463 : decode code 463 = .ok (.aload_n 0, 1) := by decide +kernel
theorem dL_464 : decode code 464 = .ok (.iload_n 3, 1) := by decide +kernel
theorem dL_465 : decode code 465 = .ok (.iconst 1, 1) := by decide +kernel
theorem dL_466 : decode code 466 = .ok (.iadd, 1) := by decide +kernel
theorem dL_467 : decode code 467 = .ok (.iaload, 1) := by decide +kernel
theorem dL_468 : decode code 468 = .ok (.aload_n 0, 1) := by decide +kernel
theorem dL_469 : decode code 469 = .ok (.iload_n 3, 1) := by decide +kernel
theorem dL_470 : decode code 470 = .ok (.iconst 2, 1) := by decide +kernel
theorem dL_471 : decode code 471 = .ok (.iadd, 1) := by decide +kernel
theorem dL_472 : decode code 472 = .ok (.iaload, 1) := by decide +kernel
theorem dL_473 : decode code 473 = .ok (.i2l, 1) := by decide +kernel
theorem dL_474 : decode code 474 = .ok (.bipush 32, 2) := by decide +kernel
theorem dL_476 : decode code 476 = .ok (.lshl, 1) := by decide +kernel
theorem dL_477 : decode code 477 = .ok (.aload_n 0, 1) := by decide +kernel
theorem dL_478 : decode code 478 = .ok (.iload_n 3, 1) := by decide +kernel
theorem dL_479 : decode code 479 = .ok (.iconst 3, 1) := by decide +kernel
theorem dL_480 : decode code 480 = .ok (.iadd, 1) := by decide +kernel
theorem dL_481 : decode code 481 = .ok (.iaload, 1) := by decide +kernel
theorem dL_482 : decode code 482 = .ok (.i2l, 1) := by decide +kernel
theorem dL_483 : decode code 483 = .ok (.ldc2_w 56, 3) := by decide +kernel
theorem dL_486 : decode code 486 = .ok (.land, 1) := by decide +kernel
theorem dL_487 : decode code 487 = .ok (.lor, 1) := by decide +kernel
theorem dL_488 : decode code 488 = .ok (.invokevirtual 62, 3) := by decide +kernel
theorem dL_491 : decode code 491 = .ok (.if_icmp .eq 264, 3) := by decide +kernel
theorem dL_494 : decode code 494 = .ok (.iconst 0, 1) := by decide +kernel
theorem dL_495 : decode code 495 = .ok (.ireturn, 1) := by decide +kernel
theorem dL_496 : decode code 496 = .ok (.aload_n 1, 1) := by decide +kernel
theorem dL_497 : decode code 497 = .ok (.aload_n 0, 1) := by decide +kernel
theorem dL_498 : decode code 498 = .ok (.iload_n 3, 1) := by decide +kernel
theorem dL_499 : decode code 499 = .ok (.iconst 1, 1) := by decide +kernel
theorem dL_500 : decode code 500 = .ok (.iadd, 1) := by decide +kernel
theorem dL_501 : decode code 501 = .ok (.iaload, 1) := by decide +kernel
theorem dL_502 : decode code 502 = .ok (.invokevirtual 63, 3) := by decide +kernel
theorem dL_505 : decode code 505 = .ok (.aload_n 2, 1) := by decide +kernel
theorem dL_506 : decode code 506 = .ok (.aload_n 0, 1) := by decide +kernel
theorem dL_507 : decode code 507 = .ok (.iload_n 3, 1) := by decide +kernel
theorem dL_508 : decode code 508 = .ok (.iconst 1, 1) := by decide +kernel
theorem dL_509 : decode code 509 = .ok (.iadd, 1) := by decide +kernel
theorem dL_510 : decode code 510 = .ok (.iaload, 1) := by decide +kernel
theorem dL_511 : decode code 511 = .ok (.invokevirtual 66, 3) := by decide +kernel
theorem dL_514 : decode code 514 = .ok (.if_icmp .eq 241, 3) := by decide +kernel
theorem dL_517 : decode code 517 = .ok (.iconst 0, 1) := by decide +kernel
theorem dL_518 : decode code 518 = .ok (.ireturn, 1) := by decide +kernel
theorem dL_519 : decode code 519 = .ok (.aload_n 1, 1) := by decide +kernel
theorem dL_520 : decode code 520 = .ok (.aload_n 0, 1) := by decide +kernel
theorem dL_521 : decode code 521 = .ok (.iload_n 3, 1) := by decide +kernel
theorem dL_522 : decode code 522 = .ok (.iconst 1, 1) := by decide +kernel
theorem dL_523 : decode code 523 = .ok (.iadd, 1) := by decide +kernel
theorem dL_524 : decode code 524 = .ok (.iaload, 1) := by decide +kernel
theorem dL_525 : decode code 525 = .ok (.invokevirtual 67, 3) := by decide +kernel
theorem dL_528 : decode code 528 = .ok (.aload_n 2, 1) := by decide +kernel
theorem dL_529 : decode code 529 = .ok (.aload_n 0, 1) := by decide +kernel
theorem dL_530 : decode code 530 = .ok (.iload_n 3, 1) := by decide +kernel
theorem dL_531 : decode code 531 = .ok (.iconst 1, 1) := by decide +kernel
theorem dL_532 : decode code 532 = .ok (.iadd, 1) := by decide +kernel
theorem dL_533 : decode code 533 = .ok (.iaload, 1) := by decide +kernel
theorem dL_534 : decode code 534 = .ok (.invokevirtual 71, 3) := by decide +kernel
theorem dL_537 : decode code 537 = .ok (.lcmp, 1) := by decide +kernel
theorem dL_538 : decode code 538 = .ok (.ifCond .eq 217, 3) := by decide +kernel
theorem dL_541 : decode code 541 = .ok (.iconst 0, 1) := by decide +kernel
theorem dL_542 : decode code 542 = .ok (.ireturn, 1) := by decide +kernel
theorem dL_543 : decode code 543 = .ok (.aload_n 1, 1) := by decide +kernel
theorem dL_544 : decode code 544 = .ok (.aload_n 0, 1) := by decide +kernel
theorem dL_545 : decode code 545 = .ok (.iload_n 3, 1) := by decide +kernel
theorem dL_546 : decode code 546 = .ok (.iconst 1, 1) := by decide +kernel
theorem dL_547 : decode code 547 = .ok (.iadd, 1) := by decide +kernel
theorem dL_548 : decode code 548 = .ok (.iaload, 1) := by decide +kernel
theorem dL_549 : decode code 549 = .ok (.aload_n 0, 1) := by decide +kernel
theorem dL_550 : decode code 550 = .ok (.iload_n 3, 1) := by decide +kernel
theorem dL_551 : decode code 551 = .ok (.iconst 2, 1) := by decide +kernel
theorem dL_552 : decode code 552 = .ok (.iadd, 1) := by decide +kernel
theorem dL_553 : decode code 553 = .ok (.iaload, 1) := by decide +kernel
theorem dL_554 : decode code 554 = .ok (.aload_n 0, 1) := by decide +kernel
theorem dL_555 : decode code 555 = .ok (.iload_n 3, 1) := by decide +kernel
theorem dL_556 : decode code 556 = .ok (.iconst 3, 1) := by decide +kernel
theorem dL_557 : decode code 557 = .ok (.iadd, 1) := by decide +kernel
theorem dL_558 : decode code 558 = .ok (.iaload, 1) := by decide +kernel
theorem dL_559 : decode code 559 = .ok (.aload_n 0, 1) := by decide +kernel
theorem dL_560 : decode code 560 = .ok (.iload_n 3, 1) := by decide +kernel
theorem dL_561 : decode code 561 = .ok (.iconst 4, 1) := by decide +kernel
theorem dL_562 : decode code 562 = .ok (.iadd, 1) := by decide +kernel
theorem dL_563 : decode code 563 = .ok (.iaload, 1) := by decide +kernel
theorem dL_564 : decode code 564 = .ok (.invokevirtual 72, 3) := by decide +kernel
theorem dL_567 : decode code 567 = .ok (.aload_n 2, 1) := by decide +kernel
theorem dL_568 : decode code 568 = .ok (.aload_n 0, 1) := by decide +kernel
theorem dL_569 : decode code 569 = .ok (.iload_n 3, 1) := by decide +kernel
theorem dL_570 : decode code 570 = .ok (.iconst 1, 1) := by decide +kernel
theorem dL_571 : decode code 571 = .ok (.iadd, 1) := by decide +kernel
theorem dL_572 : decode code 572 = .ok (.iaload, 1) := by decide +kernel
theorem dL_573 : decode code 573 = .ok (.aload_n 0, 1) := by decide +kernel
theorem dL_574 : decode code 574 = .ok (.iload_n 3, 1) := by decide +kernel
theorem dL_575 : decode code 575 = .ok (.iconst 2, 1) := by decide +kernel
theorem dL_576 : decode code 576 = .ok (.iadd, 1) := by decide +kernel
theorem dL_577 : decode code 577 = .ok (.iaload, 1) := by decide +kernel
theorem dL_578 : decode code 578 = .ok (.aload_n 0, 1) := by decide +kernel
theorem dL_579 : decode code 579 = .ok (.iload_n 3, 1) := by decide +kernel
theorem dL_580 : decode code 580 = .ok (.iconst 3, 1) := by decide +kernel
theorem dL_581 : decode code 581 = .ok (.iadd, 1) := by decide +kernel
theorem dL_582 : decode code 582 = .ok (.iaload, 1) := by decide +kernel
theorem dL_583 : decode code 583 = .ok (.aload_n 0, 1) := by decide +kernel
theorem dL_584 : decode code 584 = .ok (.iload_n 3, 1) := by decide +kernel
theorem dL_585 : decode code 585 = .ok (.iconst 4, 1) := by decide +kernel
theorem dL_586 : decode code 586 = .ok (.iadd, 1) := by decide +kernel
theorem dL_587 : decode code 587 = .ok (.iaload, 1) := by decide +kernel
theorem dL_588 : decode code 588 = .ok (.invokevirtual 76, 3) := by decide +kernel
theorem dL_591 : decode code 591 = .ok (.if_icmp .eq 164, 3) := by decide +kernel
theorem dL_594 : decode code 594 = .ok (.iconst 0, 1) := by decide +kernel
theorem dL_595 : decode code 595 = .ok (.ireturn, 1) := by decide +kernel
theorem dL_596 : decode code 596 = .ok (.aload_n 1, 1) := by decide +kernel
theorem dL_597 : decode code 597 = .ok (.aload_n 0, 1) := by decide +kernel
theorem dL_598 : decode code 598 = .ok (.iload_n 3, 1) := by decide +kernel
theorem dL_599 : decode code 599 = .ok (.iconst 1, 1) := by decide +kernel
theorem dL_600 : decode code 600 = .ok (.iadd, 1) := by decide +kernel
theorem dL_601 : decode code 601 = .ok (.iaload, 1) := by decide +kernel
theorem dL_602 : decode code 602 = .ok (.invokevirtual 77, 3) := by decide +kernel
theorem dL_605 : decode code 605 = .ok (.aload_n 2, 1) := by decide +kernel
theorem dL_606 : decode code 606 = .ok (.aload_n 0, 1) := by decide +kernel
theorem dL_607 : decode code 607 = .ok (.iload_n 3, 1) := by decide +kernel
theorem dL_608 : decode code 608 = .ok (.iconst 1, 1) := by decide +kernel
theorem dL_609 : decode code 609 = .ok (.iadd, 1) := by decide +kernel
theorem dL_610 : decode code 610 = .ok (.iaload, 1) := by decide +kernel
theorem dL_611 : decode code 611 = .ok (.invokevirtual 80, 3) := by decide +kernel
theorem dL_614 : decode code 614 = .ok (.lcmp, 1) := by decide +kernel
theorem dL_615 : decode code 615 = .ok (.ifCond .eq 140, 3) := by decide +kernel
theorem dL_618 : decode code 618 = .ok (.iconst 0, 1) := by decide +kernel
theorem dL_619 : decode code 619 = .ok (.ireturn, 1) := by decide +kernel
theorem dL_620 : decode code 620 = .ok (.aload_n 1, 1) := by decide +kernel
theorem dL_621 : decode code 621 = .ok (.aload_n 0, 1) := by decide +kernel
theorem dL_622 : decode code 622 = .ok (.iload_n 3, 1) := by decide +kernel
theorem dL_623 : decode code 623 = .ok (.iconst 1, 1) := by decide +kernel
theorem dL_624 : decode code 624 = .ok (.iadd, 1) := by decide +kernel
theorem dL_625 : decode code 625 = .ok (.iaload, 1) := by decide +kernel
theorem dL_626 : decode code 626 = .ok (.i2l, 1) := by decide +kernel
theorem dL_627 : decode code 627 = .ok (.bipush 32, 2) := by decide +kernel
theorem dL_629 : decode code 629 = .ok (.lshl, 1) := by decide +kernel
theorem dL_630 : decode code 630 = .ok (.aload_n 0, 1) := by decide +kernel
theorem dL_631 : decode code 631 = .ok (.iload_n 3, 1) := by decide +kernel
theorem dL_632 : decode code 632 = .ok (.iconst 2, 1) := by decide +kernel
theorem dL_633 : decode code 633 = .ok (.iadd, 1) := by decide +kernel
theorem dL_634 : decode code 634 = .ok (.iaload, 1) := by decide +kernel
theorem dL_635 : decode code 635 = .ok (.i2l, 1) := by decide +kernel
theorem dL_636 : decode code 636 = .ok (.ldc2_w 56, 3) := by decide +kernel
theorem dL_639 : decode code 639 = .ok (.land, 1) := by decide +kernel
theorem dL_640 : decode code 640 = .ok (.lor, 1) := by decide +kernel
theorem dL_641 : decode code 641 = .ok (.invokevirtual 81, 3) := by decide +kernel
theorem dL_644 : decode code 644 = .ok (.aload_n 2, 1) := by decide +kernel
theorem dL_645 : decode code 645 = .ok (.aload_n 0, 1) := by decide +kernel
theorem dL_646 : decode code 646 = .ok (.iload_n 3, 1) := by decide +kernel
theorem dL_647 : decode code 647 = .ok (.iconst 1, 1) := by decide +kernel
theorem dL_648 : decode code 648 = .ok (.iadd, 1) := by decide +kernel
theorem dL_649 : decode code 649 = .ok (.iaload, 1) := by decide +kernel
theorem dL_650 : decode code 650 = .ok (.i2l, 1) := by decide +kernel
theorem dL_651 : decode code 651 = .ok (.bipush 32, 2) := by decide +kernel
theorem dL_653 : decode code 653 = .ok (.lshl, 1) := by decide +kernel
theorem dL_654 : decode code 654 = .ok (.aload_n 0, 1) := by decide +kernel
theorem dL_655 : decode code 655 = .ok (.iload_n 3, 1) := by decide +kernel
theorem dL_656 : decode code 656 = .ok (.iconst 2, 1) := by decide +kernel
theorem dL_657 : decode code 657 = .ok (.iadd, 1) := by decide +kernel
theorem dL_658 : decode code 658 = .ok (.iaload, 1) := by decide +kernel
theorem dL_659 : decode code 659 = .ok (.i2l, 1) := by decide +kernel
theorem dL_660 : decode code 660 = .ok (.ldc2_w 56, 3) := by decide +kernel
theorem dL_663 : decode code 663 = .ok (.land, 1) := by decide +kernel
theorem dL_664 : decode code 664 = .ok (.lor, 1) := by decide +kernel
theorem dL_665 : decode code 665 = .ok (.invokevirtual 85, 3) := by decide +kernel
theorem dL_668 : decode code 668 = .ok (.if_icmp .eq 87, 3) := by decide +kernel
theorem dL_671 : decode code 671 = .ok (.iconst 0, 1) := by decide +kernel
theorem dL_672 : decode code 672 = .ok (.ireturn, 1) := by decide +kernel
theorem dL_673 : decode code 673 = .ok (.aload_n 1, 1) := by decide +kernel
theorem dL_674 : decode code 674 = .ok (.aload_n 0, 1) := by decide +kernel
theorem dL_675 : decode code 675 = .ok (.iload_n 3, 1) := by decide +kernel
theorem dL_676 : decode code 676 = .ok (.iconst 1, 1) := by decide +kernel
theorem dL_677 : decode code 677 = .ok (.iadd, 1) := by decide +kernel
theorem dL_678 : decode code 678 = .ok (.iaload, 1) := by decide +kernel
theorem dL_679 : decode code 679 = .ok (.aload_n 0, 1) := by decide +kernel
theorem dL_680 : decode code 680 = .ok (.iload_n 3, 1) := by decide +kernel
theorem dL_681 : decode code 681 = .ok (.iconst 2, 1) := by decide +kernel
theorem dL_682 : decode code 682 = .ok (.iadd, 1) := by decide +kernel
theorem dL_683 : decode code 683 = .ok (.iaload, 1) := by decide +kernel
theorem dL_684 : decode code 684 = .ok (.invokevirtual 86, 3) := by decide +kernel
theorem dL_687 : decode code 687 = .ok (.aload_n 2, 1) := by decide +kernel
theorem dL_688 : decode code 688 = .ok (.aload_n 0, 1) := by decide +kernel
theorem dL_689 : decode code 689 = .ok (.iload_n 3, 1) := by decide +kernel
theorem dL_690 : decode code 690 = .ok (.iconst 1, 1) := by decide +kernel
theorem dL_691 : decode code 691 = .ok (.iadd, 1) := by decide +kernel
theorem dL_692 : decode code 692 = .ok (.iaload, 1) := by decide +kernel
theorem dL_693 : decode code 693 = .ok (.aload_n 0, 1) := by decide +kernel
theorem dL_694 : decode code 694 = .ok (.iload_n 3, 1) := by decide +kernel
theorem dL_695 : decode code 695 = .ok (.iconst 2, 1) := by decide +kernel
theorem dL_696 : decode code 696 = .ok (.iadd, 1) := by decide +kernel
theorem dL_697 : decode code 697 = .ok (.iaload, 1) := by decide +kernel
theorem dL_698 : decode code 698 = .ok (.invokevirtual 89, 3) := by decide +kernel
theorem dL_701 : decode code 701 = .ok (.if_icmp .eq 54, 3) := by decide +kernel
theorem dL_704 : decode code 704 = .ok (.iconst 0, 1) := by decide +kernel
theorem dL_705 : decode code 705 = .ok (.ireturn, 1) := by decide +kernel
theorem dL_706 : decode code 706 = .ok (.aload_n 1, 1) := by decide +kernel
theorem dL_707 : decode code 707 = .ok (.invokevirtual 90, 3) := by decide +kernel
theorem dL_710 : decode code 710 = .ok (.aload_n 2, 1) := by decide +kernel
theorem dL_711 : decode code 711 = .ok (.invokevirtual 93, 3) := by decide +kernel
theorem dL_714 : decode code 714 = .ok (.if_icmp .eq 41, 3) := by decide +kernel
theorem dL_717 : decode code 717 = .ok (.iconst 0, 1) := by decide +kernel
theorem dL_718 : decode code 718 = .ok (.ireturn, 1) := by decide +kernel
theorem dL_719 : decode code 719 = .ok (.aload_n 1, 1) := by decide +kernel
theorem dL_720 : decode code 720 = .ok (.aload_n 0, 1) := by decide +kernel
theorem dL_721 : decode code 721 = .ok (.iload_n 3, 1) := by decide +kernel
theorem dL_722 : decode code 722 = .ok (.iconst 1, 1) := by decide +kernel
theorem dL_723 : decode code 723 = .ok (.iadd, 1) := by decide +kernel
theorem dL_724 : decode code 724 = .ok (.iaload, 1) := by decide +kernel
theorem dL_725 : decode code 725 = .ok (.invokevirtual 94, 3) := by decide +kernel
theorem dL_728 : decode code 728 = .ok (.aload_n 2, 1) := by decide +kernel
theorem dL_729 : decode code 729 = .ok (.aload_n 0, 1) := by decide +kernel
theorem dL_730 : decode code 730 = .ok (.iload_n 3, 1) := by decide +kernel
theorem dL_731 : decode code 731 = .ok (.iconst 1, 1) := by decide +kernel
theorem dL_732 : decode code 732 = .ok (.iadd, 1) := by decide +kernel
theorem dL_733 : decode code 733 = .ok (.iaload, 1) := by decide +kernel
theorem dL_734 : decode code 734 = .ok (.invokevirtual 97, 3) := by decide +kernel
theorem dL_737 : decode code 737 = .ok (.if_icmp .eq 18, 3) := by decide +kernel
theorem dL_740 : decode code 740 = .ok (.iconst 0, 1) := by decide +kernel
theorem dL_741 : decode code 741 = .ok (.ireturn, 1) := by decide +kernel
theorem dL_742 : decode code 742 = .ok (.aload_n 1, 1) := by decide +kernel
theorem dL_743 : decode code 743 = .ok (.invokevirtual 98, 3) := by decide +kernel
theorem dL_746 : decode code 746 = .ok (.aload_n 2, 1) := by decide +kernel
theorem dL_747 : decode code 747 = .ok (.invokevirtual 101, 3) := by decide +kernel
theorem dL_750 : decode code 750 = .ok (.if_icmp .eq 5, 3) := by decide +kernel
theorem dL_753 : decode code 753 = .ok (.iconst 0, 1) := by decide +kernel
theorem dL_754 : decode code 754 = .ok (.ireturn, 1) := by decide +kernel
theorem dL_755 : decode code 755 = .ok (.iinc 3 6, 3) := by decide +kernel
theorem dL_758 : decode code 758 = .ok (.goto (-740), 3) := by decide +kernel
theorem dL_761 : decode code 761 = .ok (.iconst 1, 1) := by decide +kernel
theorem dL_762 : decode code 762 = .ok (.ireturn, 1) := by decide +kernel
theorem lM_13 : (Jvm.Cond.methodLink "UsedUpLaw" (13 : Nat) ({ cls := "UsedUp", name := "name", desc := "(III)I" } : Jvm.MethodName)) ∈ qTB := qw2 84 rfl rfl
theorem lok_13 : qcv "UsedUpLaw" 13 68 3 8 room_1 := qmkv (Nat.le_of_ble_eq_true rfl) (Nat.le_of_ble_eq_true rfl) (by decide +kernel) lkC_68 lkI_UsedUp (Or.inl lM_13) lkM_68 lkE_68 (Or.inr ⟨by decide, _, _, rfl⟩)
theorem lM_17 : (Jvm.Cond.methodLink "UsedUpLaw" (17 : Nat) ({ cls := "UsedUpModel", name := "name", desc := "(III)I" } : Jvm.MethodName)) ∈ qTB := qw5 56 rfl rfl
theorem lok_17 : qcv "UsedUpLaw" 17 109 3 9 room_1 := qmkv (Nat.le_of_ble_eq_true rfl) (Nat.le_of_ble_eq_true rfl) (by decide +kernel) lkC_109 lkI_UsedUpModel (Or.inl lM_17) lkM_109 lkE_109 (Or.inr ⟨by decide, _, _, rfl⟩)
theorem lM_18 : (Jvm.Cond.methodLink "UsedUpLaw" (18 : Nat) ({ cls := "UsedUp", name := "feed", desc := "(IIIII)I" } : Jvm.MethodName)) ∈ qTB := qw2 106 rfl rfl
theorem lok_18 : qcv "UsedUpLaw" 18 69 5 8 room_1 := qmkv (Nat.le_of_ble_eq_true rfl) (Nat.le_of_ble_eq_true rfl) (by decide +kernel) lkC_69 lkI_UsedUp (Or.inl lM_18) lkM_69 lkE_69 (Or.inr ⟨by decide, _, _, rfl⟩)
theorem lM_22 : (Jvm.Cond.methodLink "UsedUpLaw" (22 : Nat) ({ cls := "UsedUpModel", name := "feed", desc := "(IIIII)I" } : Jvm.MethodName)) ∈ qTB := qw5 203 rfl rfl
theorem lok_22 : qcv "UsedUpLaw" 22 144 5 9 room_1 := qmkv (Nat.le_of_ble_eq_true rfl) (Nat.le_of_ble_eq_true rfl) (by decide +kernel) lkC_144 lkI_UsedUpModel (Or.inl lM_22) lkM_144 lkE_144 (Or.inr ⟨by decide, _, _, rfl⟩)
theorem lM_23 : (Jvm.Cond.methodLink "UsedUpLaw" (23 : Nat) ({ cls := "UsedUp", name := "end", desc := "(I)I" } : Jvm.MethodName)) ∈ qTB := qw2 119 rfl rfl
theorem lok_23 : qcv "UsedUpLaw" 23 70 1 8 room_1 := qmkv (Nat.le_of_ble_eq_true rfl) (Nat.le_of_ble_eq_true rfl) (by decide +kernel) lkC_70 lkI_UsedUp (Or.inl lM_23) lkM_70 lkE_70 (Or.inr ⟨by decide, _, _, rfl⟩)
theorem lM_27 : (Jvm.Cond.methodLink "UsedUpLaw" (27 : Nat) ({ cls := "UsedUpModel", name := "end", desc := "(I)I" } : Jvm.MethodName)) ∈ qTB := qw5 211 rfl rfl
theorem lok_27 : qcv "UsedUpLaw" 27 145 1 9 room_1 := qmkv (Nat.le_of_ble_eq_true rfl) (Nat.le_of_ble_eq_true rfl) (by decide +kernel) lkC_145 lkI_UsedUpModel (Or.inl lM_27) lkM_145 lkE_145 (Or.inr ⟨by decide, _, _, rfl⟩)
theorem lM_28 : (Jvm.Cond.methodLink "UsedUpLaw" (28 : Nat) ({ cls := "UsedUp", name := "program", desc := "()I" } : Jvm.MethodName)) ∈ qTB := qw2 123 rfl rfl
theorem lok_28 : qcv "UsedUpLaw" 28 71 0 8 room_1 := qmkv (Nat.le_of_ble_eq_true rfl) (Nat.le_of_ble_eq_true rfl) (by decide +kernel) lkC_71 lkI_UsedUp (Or.inl lM_28) lkM_71 lkE_71 (Or.inr ⟨by decide, _, _, rfl⟩)
theorem lM_32 : (Jvm.Cond.methodLink "UsedUpLaw" (32 : Nat) ({ cls := "UsedUpModel", name := "program", desc := "()I" } : Jvm.MethodName)) ∈ qTB := qw5 215 rfl rfl
theorem lok_32 : qcv "UsedUpLaw" 32 161 0 9 room_1 := qmkv (Nat.le_of_ble_eq_true rfl) (Nat.le_of_ble_eq_true rfl) (by decide +kernel) lkC_161 lkI_UsedUpModel (Or.inl lM_32) lkM_161 lkE_161 (Or.inr ⟨by decide, _, _, rfl⟩)
theorem lM_33 : (Jvm.Cond.methodLink "UsedUpLaw" (33 : Nat) ({ cls := "UsedUp", name := "fault", desc := "()I" } : Jvm.MethodName)) ∈ qTB := qw3 102 rfl rfl
theorem lok_33 : qcv "UsedUpLaw" 33 72 0 8 room_1 := qmkv (Nat.le_of_ble_eq_true rfl) (Nat.le_of_ble_eq_true rfl) (by decide +kernel) lkC_72 lkI_UsedUp (Or.inl lM_33) lkM_72 lkE_72 (Or.inr ⟨by decide, _, _, rfl⟩)
theorem lM_36 : (Jvm.Cond.methodLink "UsedUpLaw" (36 : Nat) ({ cls := "UsedUpModel", name := "fault", desc := "()I" } : Jvm.MethodName)) ∈ qTB := qw6 45 rfl rfl
theorem lok_36 : qcv "UsedUpLaw" 36 163 0 9 room_1 := qmkv (Nat.le_of_ble_eq_true rfl) (Nat.le_of_ble_eq_true rfl) (by decide +kernel) lkC_163 lkI_UsedUpModel (Or.inl lM_36) lkM_163 lkE_163 (Or.inr ⟨by decide, _, _, rfl⟩)
theorem lM_37 : (Jvm.Cond.methodLink "UsedUpLaw" (37 : Nat) ({ cls := "UsedUp", name := "cap", desc := "(II)I" } : Jvm.MethodName)) ∈ qTB := qw3 106 rfl rfl
theorem lok_37 : qcv "UsedUpLaw" 37 73 2 8 room_1 := qmkv (Nat.le_of_ble_eq_true rfl) (Nat.le_of_ble_eq_true rfl) (by decide +kernel) lkC_73 lkI_UsedUp (Or.inl lM_37) lkM_73 lkE_73 (Or.inr ⟨by decide, _, _, rfl⟩)
theorem lM_41 : (Jvm.Cond.methodLink "UsedUpLaw" (41 : Nat) ({ cls := "UsedUpModel", name := "cap", desc := "(II)I" } : Jvm.MethodName)) ∈ qTB := qw5 178 rfl rfl
theorem lok_41 : qcv "UsedUpLaw" 41 137 2 9 room_1 := qmkv (Nat.le_of_ble_eq_true rfl) (Nat.le_of_ble_eq_true rfl) (by decide +kernel) lkC_137 lkI_UsedUpModel (Or.inl lM_41) lkM_137 lkE_137 (Or.inr ⟨by decide, _, _, rfl⟩)
theorem lM_42 : (Jvm.Cond.methodLink "UsedUpLaw" (42 : Nat) ({ cls := "UsedUp", name := "capped", desc := "(I)I" } : Jvm.MethodName)) ∈ qTB := qw3 117 rfl rfl
theorem lok_42 : qcv "UsedUpLaw" 42 74 1 8 room_1 := qmkv (Nat.le_of_ble_eq_true rfl) (Nat.le_of_ble_eq_true rfl) (by decide +kernel) lkC_74 lkI_UsedUp (Or.inl lM_42) lkM_74 lkE_74 (Or.inr ⟨by decide, _, _, rfl⟩)
theorem lM_45 : (Jvm.Cond.methodLink "UsedUpLaw" (45 : Nat) ({ cls := "UsedUpModel", name := "capped", desc := "(I)I" } : Jvm.MethodName)) ∈ qTB := qw5 182 rfl rfl
theorem lok_45 : qcv "UsedUpLaw" 45 138 1 9 room_1 := qmkv (Nat.le_of_ble_eq_true rfl) (Nat.le_of_ble_eq_true rfl) (by decide +kernel) lkC_138 lkI_UsedUpModel (Or.inl lM_45) lkM_138 lkE_138 (Or.inr ⟨by decide, _, _, rfl⟩)
theorem lM_46 : (Jvm.Cond.methodLink "UsedUpLaw" (46 : Nat) ({ cls := "UsedUp", name := "spends", desc := "(IIIII)J" } : Jvm.MethodName)) ∈ qTB := qw3 121 rfl rfl
theorem lok_46 : qcv "UsedUpLaw" 46 75 5 8 room_1 := qmkv (Nat.le_of_ble_eq_true rfl) (Nat.le_of_ble_eq_true rfl) (by decide +kernel) lkC_75 lkI_UsedUp (Or.inl lM_46) lkM_75 lkE_75 (Or.inr ⟨by decide, _, _, rfl⟩)
theorem lM_50 : (Jvm.Cond.methodLink "UsedUpLaw" (50 : Nat) ({ cls := "UsedUpModel", name := "spends", desc := "(IIIII)J" } : Jvm.MethodName)) ∈ qTB := qw5 70 rfl rfl
theorem lok_50 : qcv "UsedUpLaw" 50 119 5 9 room_1 := qmkv (Nat.le_of_ble_eq_true rfl) (Nat.le_of_ble_eq_true rfl) (by decide +kernel) lkC_119 lkI_UsedUpModel (Or.inl lM_50) lkM_119 lkE_119 (Or.inr ⟨by decide, _, _, rfl⟩)
theorem lM_51 : (Jvm.Cond.methodLink "UsedUpLaw" (51 : Nat) ({ cls := "UsedUp", name := "worst", desc := "(II)J" } : Jvm.MethodName)) ∈ qTB := qw3 199 rfl rfl
theorem lok_51 : qcv "UsedUpLaw" 51 76 2 8 room_1 := qmkv (Nat.le_of_ble_eq_true rfl) (Nat.le_of_ble_eq_true rfl) (by decide +kernel) lkC_76 lkI_UsedUp (Or.inl lM_51) lkM_76 lkE_76 (Or.inr ⟨by decide, _, _, rfl⟩)
theorem lM_55 : (Jvm.Cond.methodLink "UsedUpLaw" (55 : Nat) ({ cls := "UsedUpModel", name := "worst", desc := "(II)J" } : Jvm.MethodName)) ∈ qTB := qw5 115 rfl rfl
theorem lok_55 : qcv "UsedUpLaw" 55 124 2 9 room_1 := qmkv (Nat.le_of_ble_eq_true rfl) (Nat.le_of_ble_eq_true rfl) (by decide +kernel) lkC_124 lkI_UsedUpModel (Or.inl lM_55) lkM_124 lkE_124 (Or.inr ⟨by decide, _, _, rfl⟩)
theorem lM_58 : (Jvm.Cond.methodLink "UsedUpLaw" (58 : Nat) ({ cls := "UsedUp", name := "cheapest", desc := "(IJ)I" } : Jvm.MethodName)) ∈ qTB := qw3 223 rfl rfl
theorem lok_58 : qcv "UsedUpLaw" 58 77 2 8 room_1 := qmkv (Nat.le_of_ble_eq_true rfl) (Nat.le_of_ble_eq_true rfl) (by decide +kernel) lkC_77 lkI_UsedUp (Or.inl lM_58) lkM_77 lkE_77 (Or.inr ⟨by decide, _, _, rfl⟩)
theorem lM_62 : (Jvm.Cond.methodLink "UsedUpLaw" (62 : Nat) ({ cls := "UsedUpModel", name := "cheapest", desc := "(IJ)I" } : Jvm.MethodName)) ∈ qTB := qw5 131 rfl rfl
theorem lok_62 : qcv "UsedUpLaw" 62 125 2 9 room_1 := qmkv (Nat.le_of_ble_eq_true rfl) (Nat.le_of_ble_eq_true rfl) (by decide +kernel) lkC_125 lkI_UsedUpModel (Or.inl lM_62) lkM_125 lkE_125 (Or.inr ⟨by decide, _, _, rfl⟩)
theorem lM_63 : (Jvm.Cond.methodLink "UsedUpLaw" (63 : Nat) ({ cls := "UsedUp", name := "ask", desc := "(I)I" } : Jvm.MethodName)) ∈ qTB := qw3 227 rfl rfl
theorem lok_63 : qcv "UsedUpLaw" 63 78 1 8 room_1 := qmkv (Nat.le_of_ble_eq_true rfl) (Nat.le_of_ble_eq_true rfl) (by decide +kernel) lkC_78 lkI_UsedUp (Or.inl lM_63) lkM_78 lkE_78 (Or.inr ⟨by decide, _, _, rfl⟩)
theorem lM_66 : (Jvm.Cond.methodLink "UsedUpLaw" (66 : Nat) ({ cls := "UsedUpModel", name := "ask", desc := "(I)I" } : Jvm.MethodName)) ∈ qTB := qw5 135 rfl rfl
theorem lok_66 : qcv "UsedUpLaw" 66 126 1 9 room_1 := qmkv (Nat.le_of_ble_eq_true rfl) (Nat.le_of_ble_eq_true rfl) (by decide +kernel) lkC_126 lkI_UsedUpModel (Or.inl lM_66) lkM_126 lkE_126 (Or.inr ⟨by decide, _, _, rfl⟩)
theorem lM_67 : (Jvm.Cond.methodLink "UsedUpLaw" (67 : Nat) ({ cls := "UsedUp", name := "where", desc := "(I)J" } : Jvm.MethodName)) ∈ qTB := qw3 231 rfl rfl
theorem lok_67 : qcv "UsedUpLaw" 67 79 1 8 room_1 := qmkv (Nat.le_of_ble_eq_true rfl) (Nat.le_of_ble_eq_true rfl) (by decide +kernel) lkC_79 lkI_UsedUp (Or.inl lM_67) lkM_79 lkE_79 (Or.inr ⟨by decide, _, _, rfl⟩)
theorem lM_71 : (Jvm.Cond.methodLink "UsedUpLaw" (71 : Nat) ({ cls := "UsedUpModel", name := "where", desc := "(I)J" } : Jvm.MethodName)) ∈ qTB := qw5 139 rfl rfl
theorem lok_71 : qcv "UsedUpLaw" 71 128 1 9 room_1 := qmkv (Nat.le_of_ble_eq_true rfl) (Nat.le_of_ble_eq_true rfl) (by decide +kernel) lkC_128 lkI_UsedUpModel (Or.inl lM_71) lkM_128 lkE_128 (Or.inr ⟨by decide, _, _, rfl⟩)
theorem lM_72 : (Jvm.Cond.methodLink "UsedUpLaw" (72 : Nat) ({ cls := "UsedUp", name := "ordinary", desc := "(IIII)I" } : Jvm.MethodName)) ∈ qTB := qw4 11 rfl rfl
theorem lok_72 : qcv "UsedUpLaw" 72 80 4 8 room_1 := qmkv (Nat.le_of_ble_eq_true rfl) (Nat.le_of_ble_eq_true rfl) (by decide +kernel) lkC_80 lkI_UsedUp (Or.inl lM_72) lkM_80 lkE_80 (Or.inr ⟨by decide, _, _, rfl⟩)
theorem lM_76 : (Jvm.Cond.methodLink "UsedUpLaw" (76 : Nat) ({ cls := "UsedUpModel", name := "ordinary", desc := "(IIII)I" } : Jvm.MethodName)) ∈ qTB := qw5 147 rfl rfl
theorem lok_76 : qcv "UsedUpLaw" 76 129 4 9 room_1 := qmkv (Nat.le_of_ble_eq_true rfl) (Nat.le_of_ble_eq_true rfl) (by decide +kernel) lkC_129 lkI_UsedUpModel (Or.inl lM_76) lkM_129 lkE_129 (Or.inr ⟨by decide, _, _, rfl⟩)
theorem lM_77 : (Jvm.Cond.methodLink "UsedUpLaw" (77 : Nat) ({ cls := "UsedUp", name := "need", desc := "(I)J" } : Jvm.MethodName)) ∈ qTB := qw4 20 rfl rfl
theorem lok_77 : qcv "UsedUpLaw" 77 81 1 8 room_1 := qmkv (Nat.le_of_ble_eq_true rfl) (Nat.le_of_ble_eq_true rfl) (by decide +kernel) lkC_81 lkI_UsedUp (Or.inl lM_77) lkM_81 lkE_81 (Or.inr ⟨by decide, _, _, rfl⟩)
theorem lM_80 : (Jvm.Cond.methodLink "UsedUpLaw" (80 : Nat) ({ cls := "UsedUpModel", name := "need", desc := "(I)J" } : Jvm.MethodName)) ∈ qTB := qw5 151 rfl rfl
theorem lok_80 : qcv "UsedUpLaw" 80 131 1 9 room_1 := qmkv (Nat.le_of_ble_eq_true rfl) (Nat.le_of_ble_eq_true rfl) (by decide +kernel) lkC_131 lkI_UsedUpModel (Or.inl lM_80) lkM_131 lkE_131 (Or.inr ⟨by decide, _, _, rfl⟩)
theorem lM_81 : (Jvm.Cond.methodLink "UsedUpLaw" (81 : Nat) ({ cls := "UsedUp", name := "budgets", desc := "(J)I" } : Jvm.MethodName)) ∈ qTB := qw4 32 rfl rfl
theorem lok_81 : qcv "UsedUpLaw" 81 82 1 8 room_1 := qmkv (Nat.le_of_ble_eq_true rfl) (Nat.le_of_ble_eq_true rfl) (by decide +kernel) lkC_82 lkI_UsedUp (Or.inl lM_81) lkM_82 lkE_82 (Or.inr ⟨by decide, _, _, rfl⟩)
theorem lM_85 : (Jvm.Cond.methodLink "UsedUpLaw" (85 : Nat) ({ cls := "UsedUpModel", name := "budgets", desc := "(J)I" } : Jvm.MethodName)) ∈ qTB := qw5 159 rfl rfl
theorem lok_85 : qcv "UsedUpLaw" 85 136 1 9 room_1 := qmkv (Nat.le_of_ble_eq_true rfl) (Nat.le_of_ble_eq_true rfl) (by decide +kernel) lkC_136 lkI_UsedUpModel (Or.inl lM_85) lkM_136 lkE_136 (Or.inr ⟨by decide, _, _, rfl⟩)
theorem lM_86 : (Jvm.Cond.methodLink "UsedUpLaw" (86 : Nat) ({ cls := "UsedUp", name := "ahead", desc := "(II)I" } : Jvm.MethodName)) ∈ qTB := qw4 76 rfl rfl
theorem lok_86 : qcv "UsedUpLaw" 86 83 2 8 room_1 := qmkv (Nat.le_of_ble_eq_true rfl) (Nat.le_of_ble_eq_true rfl) (by decide +kernel) lkC_83 lkI_UsedUp (Or.inl lM_86) lkM_83 lkE_83 (Or.inr ⟨by decide, _, _, rfl⟩)
theorem lM_89 : (Jvm.Cond.methodLink "UsedUpLaw" (89 : Nat) ({ cls := "UsedUpModel", name := "ahead", desc := "(II)I" } : Jvm.MethodName)) ∈ qTB := qw5 186 rfl rfl
theorem lok_89 : qcv "UsedUpLaw" 89 141 2 9 room_1 := qmkv (Nat.le_of_ble_eq_true rfl) (Nat.le_of_ble_eq_true rfl) (by decide +kernel) lkC_141 lkI_UsedUpModel (Or.inl lM_89) lkM_141 lkE_141 (Or.inr ⟨by decide, _, _, rfl⟩)
theorem lM_90 : (Jvm.Cond.methodLink "UsedUpLaw" (90 : Nat) ({ cls := "UsedUp", name := "tangled", desc := "()I" } : Jvm.MethodName)) ∈ qTB := qw4 80 rfl rfl
theorem lok_90 : qcv "UsedUpLaw" 90 84 0 8 room_1 := qmkv (Nat.le_of_ble_eq_true rfl) (Nat.le_of_ble_eq_true rfl) (by decide +kernel) lkC_84 lkI_UsedUp (Or.inl lM_90) lkM_84 lkE_84 (Or.inr ⟨by decide, _, _, rfl⟩)
theorem lM_93 : (Jvm.Cond.methodLink "UsedUpLaw" (93 : Nat) ({ cls := "UsedUpModel", name := "tangled", desc := "()I" } : Jvm.MethodName)) ∈ qTB := qw5 199 rfl rfl
theorem lok_93 : qcv "UsedUpLaw" 93 142 0 9 room_1 := qmkv (Nat.le_of_ble_eq_true rfl) (Nat.le_of_ble_eq_true rfl) (by decide +kernel) lkC_142 lkI_UsedUpModel (Or.inl lM_93) lkM_142 lkE_142 (Or.inr ⟨by decide, _, _, rfl⟩)
theorem lM_94 : (Jvm.Cond.methodLink "UsedUpLaw" (94 : Nat) ({ cls := "UsedUp", name := "count", desc := "(I)I" } : Jvm.MethodName)) ∈ qTB := qw4 84 rfl rfl
theorem lok_94 : qcv "UsedUpLaw" 94 85 1 8 room_1 := qmkv (Nat.le_of_ble_eq_true rfl) (Nat.le_of_ble_eq_true rfl) (by decide +kernel) lkC_85 lkI_UsedUp (Or.inl lM_94) lkM_85 lkE_85 (Or.inr ⟨by decide, _, _, rfl⟩)
theorem lM_97 : (Jvm.Cond.methodLink "UsedUpLaw" (97 : Nat) ({ cls := "UsedUpModel", name := "count", desc := "(I)I" } : Jvm.MethodName)) ∈ qTB := qw6 49 rfl rfl
theorem lok_97 : qcv "UsedUpLaw" 97 164 1 9 room_1 := qmkv (Nat.le_of_ble_eq_true rfl) (Nat.le_of_ble_eq_true rfl) (by decide +kernel) lkC_164 lkI_UsedUpModel (Or.inl lM_97) lkM_164 lkE_164 (Or.inr ⟨by decide, _, _, rfl⟩)
theorem lM_98 : (Jvm.Cond.methodLink "UsedUpLaw" (98 : Nat) ({ cls := "UsedUp", name := "status", desc := "()I" } : Jvm.MethodName)) ∈ qTB := qw4 92 rfl rfl
theorem lok_98 : qcv "UsedUpLaw" 98 86 0 8 room_1 := qmkv (Nat.le_of_ble_eq_true rfl) (Nat.le_of_ble_eq_true rfl) (by decide +kernel) lkC_86 lkI_UsedUp (Or.inl lM_98) lkM_86 lkE_86 (Or.inr ⟨by decide, _, _, rfl⟩)
theorem lM_101 : (Jvm.Cond.methodLink "UsedUpLaw" (101 : Nat) ({ cls := "UsedUpModel", name := "status", desc := "()I" } : Jvm.MethodName)) ∈ qTB := qw6 53 rfl rfl
theorem lok_101 : qcv "UsedUpLaw" 101 165 0 9 room_1 := qmkv (Nat.le_of_ble_eq_true rfl) (Nat.le_of_ble_eq_true rfl) (by decide +kernel) lkC_165 lkI_UsedUpModel (Or.inl lM_101) lkM_165 lkE_165 (Or.inr ⟨by decide, _, _, rfl⟩)
theorem lcl : Jvm.Cond.constantLong "UsedUpLaw" 56 4294967295 ∈ qTB := qw6 57 rfl rfl
/-- what holds while the law runs -/
def lR (p : Program) (s : State) (m : MethodId) (args : Array Value) (c : Code) (A : Nat → Prop) (D : va_G) (cy ad sv : Nat → Nat) (b L : Nat) (xs : Nat → Int32) : Prop :=
  p.tables.exec = Jvm.exec ∧ c.code = code ∧ c.maxLocals = 4 ∧ s.vm.findClass "UsedUpLaw" = some m.cls ∧ (∀ w ∈ qTB, w.before args s = true) ∧ va_K D vwCl (qtys cy) s ∧ qExt ad sv A s s.heap ∧ (∀ q, s.heap.size ≤ q → A q) ∧ va_X b L xs s s.heap ∧ b < s.heap.size ∧ ¬ A b ∧ L ≤ 3072
theorem qTB_goodj {j : Nat} (h : Jvm.Cond.code (qmt j).1 (qmt j).2.1 (qmt j).2.2.1 (qmt j).2.2.2.1 ∈ qTB) : GoodIn qTB (qws j) := by
  intro w hw
  have : w ∈ qTB := by
    rcases List.mem_cons.mp hw with rfl | hw
    · exact h
    · exact hw
  exact ⟨this, good_of_word (List.mem_filter.mp this).2⟩
section LAW
variable {p : Program} {l : Launch} {e : Env} {s : State} {m : MethodId} {args : Array Value} {below : List Frame} {meth : Method} {c : Code} {A : Nat → Prop} {D : va_G} {cy ad sv : Nat → Nat} {Qs : State → Prop} {b L : Nat} {xs : Nat → Int32}
theorem lw_callV {H : Heap} {locs : List Loc} {pc idx a t u o : Nat} {ls : Array Slot} {as rest : List Value} {h : HP} {Q : Option Value → HP → Prop} (F : lR p s m args c A D cy ad sv b L xs) (hok : qcv "UsedUpLaw" idx a t u room_1) (hu6 : ¬ u = 60) (hko : (qkd o).1 = u) (hdg : decode code pc = .ok (.invokevirtual idx, 3)) (has : as.length = t) (hle : (rest.map fun v => v.category).sum ≤ 8) (hC : qC l D cy ad sv a (.ref o :: as) h Q)
    (hls : ls.size = 4) (hP : va_P D vwCl (qwld cy ad h) H) (hD : va_D A (qwld cy ad h)) (hS : va_S A s.heap H locs)
    (kk : ∀ (v : Option Value) (u : HP) (H1 : Heap) (locs1 : List Loc), Q v u → va_P D vwCl (qwld cy ad u) H1 → va_D A (qwld cy ad u) → va_S A s.heap H1 locs1 → W p l e room_1 s m args below meth c H1 locs1 101 7052 Qs (F0 m (pc + 3) ls ((v.map (qmv ad)).toList ++ rest))) : W p l e room_1 s m args below meth c H locs 101 7052 Qs (F0 m pc ls ((as.map (qmv ad)).reverse ++ .ref (ad o) :: rest)) := by
  obtain ⟨hx, hb, hml, hown, hq, hK, hE, hA, -⟩ := F
  obtain ⟨⟨hR, hd, hcode, hini, hlink⟩, hinst, hsel, hcl⟩ := hok
  have hf := qfree (cy := cy) (ad := ad) (h := h) hD hS hA
  have hn : (as.map (qmv ad)).length = t := by simpa using has
  have hrecv : ∃ cellB : Cell, H[ad o]? = some cellB ∧ cellB.vm.isStatics = false ∧ s.vm.findClass (qmt a).1.cls = some cellB.cls := by
    rcases hcl with ⟨hu, -⟩ | ⟨hu, T, N, hcl⟩
    · exact absurd hu hu6
    · obtain ⟨-, -, -, hu10, -⟩ := qcls u _ T N hcl
      obtain ⟨q0, hq, -⟩ := qwld_get (cy := cy) (ad := ad) (h := h) (qkd_in (i := o) (by omega))
      rw [qcel_O (by omega), hko] at hq
      exact va_recv hK hP hcl hq
  have hpre : PreV s H (qmt a).1.cls (ad o) (qPc D cy ad sv h H.size (.ref o :: as)) (as.map (qmv ad)) := ⟨qPc_blind, hrecv, fun U hU hW => ⟨rfl, by rw [hU], by rw [hU]; exact hP, va_K.moved hW.alike hK, hD.weaken (fun _ _ _ _ => trivial), by rw [hU]; exact hE.call hS hf hW⟩⟩
  rcases hlink with hl | ⟨host, hl⟩
  · refine qgoon (va_runV (rest := rest) ⟨hx, hb, hml, hown, hq⟩ (hC H.size) ⟨callB_of t hq (qTB_goodj hcode) rfl rfl rfl (hq _ hini) (hq _ hl) hd hR, hq _ hinst, hq _ hsel⟩ hpre rfl hn hls rfl (lv_room hle) hdg ⟨Nat.le_refl _, Nat.le_refl _⟩) hS hf kk
  · refine qgoon (va_runVN (rest := rest) ⟨hx, hb, hml, hown, hq⟩ (hC H.size) ⟨va_cnB t hq (qTB_goodj hcode) rfl rfl rfl (hE.1 _ hl) (hq _ hini) hd hR, hq _ hinst, hq _ hsel⟩ hpre rfl hn hls rfl (lv_room hle) hdg ⟨Nat.le_refl _, Nat.le_refl _⟩) hS hf kk
/-- a place of the script, pushed -/
theorem lw_arg {H : Heap} {locs : List Loc} {pc i : Nat} {ls : Array Slot} {rest : List Value} {q1 q2 : Nat} (F : lR p s m args c A D cy ad sv b L xs) (hl : lv_has ls 4 [(3, .int (nI i)), (2, .ref q2), (1, .ref q1), (0, .ref b)]) (hS : va_S A s.heap H locs) (k : Nat) (z : Int) (hz : Int32.ofInt z = nI k) (hk : k < 6) (hi : i + 6 ≤ L) (h1 : decode code pc = .ok (.aload_n 0, 1)) (h2 : decode code (pc + 1) = .ok (.iload_n 3, 1)) (h3 : decode code (pc + 2) = .ok (.iconst z, 1)) (h4 : decode code (pc + 3) = .ok (.iadd, 1)) (h5 : decode code (pc + 4) = .ok (.iaload, 1))
    (kk : W p l e room_1 s m args below meth c H locs 101 7052 Qs (F0 m (pc + 5) ls (.int (xs (i + k)) :: rest))) : W p l e room_1 s m args below meth c H locs 101 7052 Qs (F0 m pc ls rest) := by
  obtain ⟨hx, hb, hml, hown, hq, hK, hE, hA, hX, hbl, hbA, hL⟩ := F
  refine lv_aload_n hx hb h1 rfl (lv_at hl 3 rfl) ?_
  refine lv_iload_n hx hb h2 rfl (lv_at hl 0 rfl) ?_
  refine lv_iconst (v := nI k) hx hb h3 hz ?_
  refine lv_iadd hx hb h4 ?_
  rw [nI_add]
  refine va_sld hx hb hX hbl hbA hS (vp_in_nI (by omega) (by omega)) h5 ?_
  rw [nI_clamp (by omega)]
  exact kk
end LAW
