/-! the law's loop: a call of both for each case (mk9i.py) -/
section LAWCASES
variable {p : Program} {l : Launch} {e : Env} {s : State} {m : MethodId} {args : Array Value} {below : List Frame} {meth : Method} {c : Code} {A : Nat → Prop} {D : va_G} {cy ad sv : Nat → Nat} {Qs : State → Prop} {b L : Nat} {xs : Nat → Int32} {H : Heap} {locs : List Loc} {ls : Array Slot} {i : Nat} {h : HP}
/-- behind a case -/
def lNx (p : Program) (l : Launch) (e : Env) (s : State) (m : MethodId) (args : Array Value) (below : List Frame) (meth : Method) (c : Code) (A : Nat → Prop) (D : va_G) (cy ad : Nat → Nat) (Qs : State → Prop) (ls : Array Slot) (pc : Nat) : Prop := ∀ (u : HP) (H : Heap) (locs : List Loc), Rel u → va_P D vwCl (qwld cy ad u) H → va_D A (qwld cy ad u) → va_S A s.heap H locs → W p l e room_1 s m args below meth c H locs 101 7052 Qs (F0 m pc ls [])
set_option maxHeartbeats 400000 in
theorem lcase_0 (F : lR p s m args c A D cy ad sv b L xs) (hl : lv_has ls 4 [(3, .int (nI i)), (2, .ref (ad 0)), (1, .ref (ad 100)), (0, .ref b)]) (hi : i + 6 ≤ L) (nx : lNx p l e s m args below meth c A D cy ad Qs ls 755) : lNx p l e s m args below meth c A D cy ad Qs ls 124 := by
  intro h H locs hr hP hD hS
  have hx := F.1
  have hb := F.2.1
  have hown := F.2.2.2.1
  have hq := F.2.2.2.2.1
  refine lv_aload_n hx hb dL_124 rfl (lv_at hl 2 rfl) ?_
  refine lw_arg F hl hS 1 1 (by decide) (by decide) hi dL_125 dL_126 dL_127 dL_128 dL_129 ?_
  refine lw_arg F hl hS 2 2 (by decide) (by decide) hi dL_130 dL_131 dL_132 dL_133 dL_134 ?_
  refine lw_arg F hl hS 3 3 (by decide) (by decide) hi dL_135 dL_136 dL_137 dL_138 dL_139 ?_
  refine lw_callV (as := [.int (xs (i + 1)), .int (xs (i + 2)), .int (xs (i + 3))]) (o := 100) (rest := []) F lok_13 (by decide) (by decide +kernel) dL_140 rfl (Nat.le_of_ble_eq_true rfl) (st_name hr) hl.1 hP hD hS (fun v h H locs hC hP hD hS => ?_)
  obtain ⟨r, rfl, hC⟩ := hC
  refine W.eq (g2 := F0 m 143 ls [.int r]) rfl ?_
  refine lv_aload_n hx hb dL_143 rfl (lv_at hl 1 rfl) ?_
  refine lw_arg F hl hS 1 1 (by decide) (by decide) hi dL_144 dL_145 dL_146 dL_147 dL_148 ?_
  refine lw_arg F hl hS 2 2 (by decide) (by decide) hi dL_149 dL_150 dL_151 dL_152 dL_153 ?_
  refine lw_arg F hl hS 3 3 (by decide) (by decide) hi dL_154 dL_155 dL_156 dL_157 dL_158 ?_
  refine lw_callV (as := [.int (xs (i + 1)), .int (xs (i + 2)), .int (xs (i + 3))]) (o := 0) (rest := [.int r]) F lok_17 (by decide) (by decide +kernel) dL_159 rfl (Nat.le_of_ble_eq_true rfl) hC hl.1 hP hD hS (fun v h H locs hC hP hD hS => ?_)
  obtain ⟨rfl, hr⟩ := hC
  refine W.eq (g2 := F0 m 162 ls [.int r, .int r]) rfl ?_
  refine lv_icmp_eq (tgt := 755) hx hb dL_162 (by decide) (fun _ => ?_) (fun c1 => absurd rfl c1)
  exact nx _ _ _ hr hP hD hS
set_option maxHeartbeats 400000 in
theorem lcase_1 (F : lR p s m args c A D cy ad sv b L xs) (hl : lv_has ls 4 [(3, .int (nI i)), (2, .ref (ad 0)), (1, .ref (ad 100)), (0, .ref b)]) (hi : i + 6 ≤ L) (nx : lNx p l e s m args below meth c A D cy ad Qs ls 755) : lNx p l e s m args below meth c A D cy ad Qs ls 167 := by
  intro h H locs hr hP hD hS
  have hx := F.1
  have hb := F.2.1
  have hown := F.2.2.2.1
  have hq := F.2.2.2.2.1
  refine lv_aload_n hx hb dL_167 rfl (lv_at hl 2 rfl) ?_
  refine lw_arg F hl hS 1 1 (by decide) (by decide) hi dL_168 dL_169 dL_170 dL_171 dL_172 ?_
  refine lw_arg F hl hS 2 2 (by decide) (by decide) hi dL_173 dL_174 dL_175 dL_176 dL_177 ?_
  refine lw_arg F hl hS 3 3 (by decide) (by decide) hi dL_178 dL_179 dL_180 dL_181 dL_182 ?_
  refine lw_arg F hl hS 4 4 (by decide) (by decide) hi dL_183 dL_184 dL_185 dL_186 dL_187 ?_
  refine lw_arg F hl hS 5 5 (by decide) (by decide) hi dL_188 dL_189 dL_190 dL_191 dL_192 ?_
  refine lw_callV (as := [.int (xs (i + 1)), .int (xs (i + 2)), .int (xs (i + 3)), .int (xs (i + 4)), .int (xs (i + 5))]) (o := 100) (rest := []) F lok_18 (by decide) (by decide +kernel) dL_193 rfl (Nat.le_of_ble_eq_true rfl) (st_feed hr) hl.1 hP hD hS (fun v h H locs hC hP hD hS => ?_)
  obtain ⟨r, rfl, hC⟩ := hC
  refine W.eq (g2 := F0 m 196 ls [.int r]) rfl ?_
  refine lv_aload_n hx hb dL_196 rfl (lv_at hl 1 rfl) ?_
  refine lw_arg F hl hS 1 1 (by decide) (by decide) hi dL_197 dL_198 dL_199 dL_200 dL_201 ?_
  refine lw_arg F hl hS 2 2 (by decide) (by decide) hi dL_202 dL_203 dL_204 dL_205 dL_206 ?_
  refine lw_arg F hl hS 3 3 (by decide) (by decide) hi dL_207 dL_208 dL_209 dL_210 dL_211 ?_
  refine lw_arg F hl hS 4 4 (by decide) (by decide) hi dL_212 dL_213 dL_214 dL_215 dL_216 ?_
  refine lw_arg F hl hS 5 5 (by decide) (by decide) hi dL_217 dL_218 dL_219 dL_220 dL_221 ?_
  refine lw_callV (as := [.int (xs (i + 1)), .int (xs (i + 2)), .int (xs (i + 3)), .int (xs (i + 4)), .int (xs (i + 5))]) (o := 0) (rest := [.int r]) F lok_22 (by decide) (by decide +kernel) dL_222 rfl (Nat.le_of_ble_eq_true rfl) hC hl.1 hP hD hS (fun v h H locs hC hP hD hS => ?_)
  obtain ⟨rfl, hr⟩ := hC
  refine W.eq (g2 := F0 m 225 ls [.int r, .int r]) rfl ?_
  refine lv_icmp_eq (tgt := 755) hx hb dL_225 (by decide) (fun _ => ?_) (fun c1 => absurd rfl c1)
  exact nx _ _ _ hr hP hD hS
set_option maxHeartbeats 400000 in
theorem lcase_2 (F : lR p s m args c A D cy ad sv b L xs) (hl : lv_has ls 4 [(3, .int (nI i)), (2, .ref (ad 0)), (1, .ref (ad 100)), (0, .ref b)]) (hi : i + 6 ≤ L) (nx : lNx p l e s m args below meth c A D cy ad Qs ls 755) : lNx p l e s m args below meth c A D cy ad Qs ls 230 := by
  intro h H locs hr hP hD hS
  have hx := F.1
  have hb := F.2.1
  have hown := F.2.2.2.1
  have hq := F.2.2.2.2.1
  refine lv_aload_n hx hb dL_230 rfl (lv_at hl 2 rfl) ?_
  refine lw_arg F hl hS 1 1 (by decide) (by decide) hi dL_231 dL_232 dL_233 dL_234 dL_235 ?_
  refine lw_callV (as := [.int (xs (i + 1))]) (o := 100) (rest := []) F lok_23 (by decide) (by decide +kernel) dL_236 rfl (Nat.le_of_ble_eq_true rfl) (st_end hr) hl.1 hP hD hS (fun v h H locs hC hP hD hS => ?_)
  obtain ⟨r, rfl, hC⟩ := hC
  refine W.eq (g2 := F0 m 239 ls [.int r]) rfl ?_
  refine lv_aload_n hx hb dL_239 rfl (lv_at hl 1 rfl) ?_
  refine lw_arg F hl hS 1 1 (by decide) (by decide) hi dL_240 dL_241 dL_242 dL_243 dL_244 ?_
  refine lw_callV (as := [.int (xs (i + 1))]) (o := 0) (rest := [.int r]) F lok_27 (by decide) (by decide +kernel) dL_245 rfl (Nat.le_of_ble_eq_true rfl) hC hl.1 hP hD hS (fun v h H locs hC hP hD hS => ?_)
  obtain ⟨rfl, hr⟩ := hC
  refine W.eq (g2 := F0 m 248 ls [.int r, .int r]) rfl ?_
  refine lv_icmp_eq (tgt := 755) hx hb dL_248 (by decide) (fun _ => ?_) (fun c1 => absurd rfl c1)
  exact nx _ _ _ hr hP hD hS
set_option maxHeartbeats 400000 in
theorem lcase_3 (F : lR p s m args c A D cy ad sv b L xs) (hl : lv_has ls 4 [(3, .int (nI i)), (2, .ref (ad 0)), (1, .ref (ad 100)), (0, .ref b)]) (hi : i + 6 ≤ L) (nx : lNx p l e s m args below meth c A D cy ad Qs ls 755) : lNx p l e s m args below meth c A D cy ad Qs ls 253 := by
  intro h H locs hr hP hD hS
  have hx := F.1
  have hb := F.2.1
  have hown := F.2.2.2.1
  have hq := F.2.2.2.2.1
  refine lv_aload_n hx hb dL_253 rfl (lv_at hl 2 rfl) ?_
  refine lw_callV (as := []) (o := 100) (rest := []) F lok_28 (by decide) (by decide +kernel) dL_254 rfl (Nat.le_of_ble_eq_true rfl) (st_program hr) hl.1 hP hD hS (fun v h H locs hC hP hD hS => ?_)
  obtain ⟨r, rfl, hC⟩ := hC
  refine W.eq (g2 := F0 m 257 ls [.int r]) rfl ?_
  refine lv_aload_n hx hb dL_257 rfl (lv_at hl 1 rfl) ?_
  refine lw_callV (as := []) (o := 0) (rest := [.int r]) F lok_32 (by decide) (by decide +kernel) dL_258 rfl (Nat.le_of_ble_eq_true rfl) hC hl.1 hP hD hS (fun v h H locs hC hP hD hS => ?_)
  obtain ⟨rfl, hr⟩ := hC
  refine W.eq (g2 := F0 m 261 ls [.int r, .int r]) rfl ?_
  refine lv_icmp_eq (tgt := 755) hx hb dL_261 (by decide) (fun _ => ?_) (fun c1 => absurd rfl c1)
  exact nx _ _ _ hr hP hD hS
set_option maxHeartbeats 400000 in
theorem lcase_4 (F : lR p s m args c A D cy ad sv b L xs) (hl : lv_has ls 4 [(3, .int (nI i)), (2, .ref (ad 0)), (1, .ref (ad 100)), (0, .ref b)]) (hi : i + 6 ≤ L) (nx : lNx p l e s m args below meth c A D cy ad Qs ls 755) : lNx p l e s m args below meth c A D cy ad Qs ls 266 := by
  intro h H locs hr hP hD hS
  have hx := F.1
  have hb := F.2.1
  have hown := F.2.2.2.1
  have hq := F.2.2.2.2.1
  refine lv_aload_n hx hb dL_266 rfl (lv_at hl 2 rfl) ?_
  refine lw_callV (as := []) (o := 100) (rest := []) F lok_33 (by decide) (by decide +kernel) dL_267 rfl (Nat.le_of_ble_eq_true rfl) (st_fault hr) hl.1 hP hD hS (fun v h H locs hC hP hD hS => ?_)
  obtain ⟨r, rfl, hC⟩ := hC
  refine W.eq (g2 := F0 m 270 ls [.int r]) rfl ?_
  refine lv_aload_n hx hb dL_270 rfl (lv_at hl 1 rfl) ?_
  refine lw_callV (as := []) (o := 0) (rest := [.int r]) F lok_36 (by decide) (by decide +kernel) dL_271 rfl (Nat.le_of_ble_eq_true rfl) hC hl.1 hP hD hS (fun v h H locs hC hP hD hS => ?_)
  obtain ⟨rfl, hr⟩ := hC
  refine W.eq (g2 := F0 m 274 ls [.int r, .int r]) rfl ?_
  refine lv_icmp_eq (tgt := 755) hx hb dL_274 (by decide) (fun _ => ?_) (fun c1 => absurd rfl c1)
  exact nx _ _ _ hr hP hD hS
set_option maxHeartbeats 400000 in
theorem lcase_5 (F : lR p s m args c A D cy ad sv b L xs) (hl : lv_has ls 4 [(3, .int (nI i)), (2, .ref (ad 0)), (1, .ref (ad 100)), (0, .ref b)]) (hi : i + 6 ≤ L) (nx : lNx p l e s m args below meth c A D cy ad Qs ls 755) : lNx p l e s m args below meth c A D cy ad Qs ls 279 := by
  intro h H locs hr hP hD hS
  have hx := F.1
  have hb := F.2.1
  have hown := F.2.2.2.1
  have hq := F.2.2.2.2.1
  refine lv_aload_n hx hb dL_279 rfl (lv_at hl 2 rfl) ?_
  refine lw_arg F hl hS 1 1 (by decide) (by decide) hi dL_280 dL_281 dL_282 dL_283 dL_284 ?_
  refine lw_arg F hl hS 2 2 (by decide) (by decide) hi dL_285 dL_286 dL_287 dL_288 dL_289 ?_
  refine lw_callV (as := [.int (xs (i + 1)), .int (xs (i + 2))]) (o := 100) (rest := []) F lok_37 (by decide) (by decide +kernel) dL_290 rfl (Nat.le_of_ble_eq_true rfl) (st_cap hr) hl.1 hP hD hS (fun v h H locs hC hP hD hS => ?_)
  obtain ⟨r, rfl, hC⟩ := hC
  refine W.eq (g2 := F0 m 293 ls [.int r]) rfl ?_
  refine lv_aload_n hx hb dL_293 rfl (lv_at hl 1 rfl) ?_
  refine lw_arg F hl hS 1 1 (by decide) (by decide) hi dL_294 dL_295 dL_296 dL_297 dL_298 ?_
  refine lw_arg F hl hS 2 2 (by decide) (by decide) hi dL_299 dL_300 dL_301 dL_302 dL_303 ?_
  refine lw_callV (as := [.int (xs (i + 1)), .int (xs (i + 2))]) (o := 0) (rest := [.int r]) F lok_41 (by decide) (by decide +kernel) dL_304 rfl (Nat.le_of_ble_eq_true rfl) hC hl.1 hP hD hS (fun v h H locs hC hP hD hS => ?_)
  obtain ⟨rfl, hr⟩ := hC
  refine W.eq (g2 := F0 m 307 ls [.int r, .int r]) rfl ?_
  refine lv_icmp_eq (tgt := 755) hx hb dL_307 (by decide) (fun _ => ?_) (fun c1 => absurd rfl c1)
  exact nx _ _ _ hr hP hD hS
set_option maxHeartbeats 400000 in
theorem lcase_6 (F : lR p s m args c A D cy ad sv b L xs) (hl : lv_has ls 4 [(3, .int (nI i)), (2, .ref (ad 0)), (1, .ref (ad 100)), (0, .ref b)]) (hi : i + 6 ≤ L) (nx : lNx p l e s m args below meth c A D cy ad Qs ls 755) : lNx p l e s m args below meth c A D cy ad Qs ls 312 := by
  intro h H locs hr hP hD hS
  have hx := F.1
  have hb := F.2.1
  have hown := F.2.2.2.1
  have hq := F.2.2.2.2.1
  refine lv_aload_n hx hb dL_312 rfl (lv_at hl 2 rfl) ?_
  refine lw_arg F hl hS 1 1 (by decide) (by decide) hi dL_313 dL_314 dL_315 dL_316 dL_317 ?_
  refine lw_callV (as := [.int (xs (i + 1))]) (o := 100) (rest := []) F lok_42 (by decide) (by decide +kernel) dL_318 rfl (Nat.le_of_ble_eq_true rfl) (st_capped hr) hl.1 hP hD hS (fun v h H locs hC hP hD hS => ?_)
  obtain ⟨r, rfl, hC⟩ := hC
  refine W.eq (g2 := F0 m 321 ls [.int r]) rfl ?_
  refine lv_aload_n hx hb dL_321 rfl (lv_at hl 1 rfl) ?_
  refine lw_arg F hl hS 1 1 (by decide) (by decide) hi dL_322 dL_323 dL_324 dL_325 dL_326 ?_
  refine lw_callV (as := [.int (xs (i + 1))]) (o := 0) (rest := [.int r]) F lok_45 (by decide) (by decide +kernel) dL_327 rfl (Nat.le_of_ble_eq_true rfl) hC hl.1 hP hD hS (fun v h H locs hC hP hD hS => ?_)
  obtain ⟨rfl, hr⟩ := hC
  refine W.eq (g2 := F0 m 330 ls [.int r, .int r]) rfl ?_
  refine lv_icmp_eq (tgt := 755) hx hb dL_330 (by decide) (fun _ => ?_) (fun c1 => absurd rfl c1)
  exact nx _ _ _ hr hP hD hS
set_option maxHeartbeats 400000 in
theorem lcase_7 (F : lR p s m args c A D cy ad sv b L xs) (hl : lv_has ls 4 [(3, .int (nI i)), (2, .ref (ad 0)), (1, .ref (ad 100)), (0, .ref b)]) (hi : i + 6 ≤ L) (nx : lNx p l e s m args below meth c A D cy ad Qs ls 755) : lNx p l e s m args below meth c A D cy ad Qs ls 335 := by
  intro h H locs hr hP hD hS
  have hx := F.1
  have hb := F.2.1
  have hown := F.2.2.2.1
  have hq := F.2.2.2.2.1
  refine lv_aload_n hx hb dL_335 rfl (lv_at hl 2 rfl) ?_
  refine lw_arg F hl hS 1 1 (by decide) (by decide) hi dL_336 dL_337 dL_338 dL_339 dL_340 ?_
  refine lw_arg F hl hS 2 2 (by decide) (by decide) hi dL_341 dL_342 dL_343 dL_344 dL_345 ?_
  refine lw_arg F hl hS 3 3 (by decide) (by decide) hi dL_346 dL_347 dL_348 dL_349 dL_350 ?_
  refine lw_arg F hl hS 4 4 (by decide) (by decide) hi dL_351 dL_352 dL_353 dL_354 dL_355 ?_
  refine lw_arg F hl hS 5 5 (by decide) (by decide) hi dL_356 dL_357 dL_358 dL_359 dL_360 ?_
  refine lw_callV (as := [.int (xs (i + 1)), .int (xs (i + 2)), .int (xs (i + 3)), .int (xs (i + 4)), .int (xs (i + 5))]) (o := 100) (rest := []) F lok_46 (by decide) (by decide +kernel) dL_361 rfl (Nat.le_of_ble_eq_true rfl) (st_spends hr) hl.1 hP hD hS (fun v h H locs hC hP hD hS => ?_)
  obtain ⟨r, rfl, hC⟩ := hC
  refine W.eq (g2 := F0 m 364 ls [.long r]) rfl ?_
  refine lv_aload_n hx hb dL_364 rfl (lv_at hl 1 rfl) ?_
  refine lw_arg F hl hS 1 1 (by decide) (by decide) hi dL_365 dL_366 dL_367 dL_368 dL_369 ?_
  refine lw_arg F hl hS 2 2 (by decide) (by decide) hi dL_370 dL_371 dL_372 dL_373 dL_374 ?_
  refine lw_arg F hl hS 3 3 (by decide) (by decide) hi dL_375 dL_376 dL_377 dL_378 dL_379 ?_
  refine lw_arg F hl hS 4 4 (by decide) (by decide) hi dL_380 dL_381 dL_382 dL_383 dL_384 ?_
  refine lw_arg F hl hS 5 5 (by decide) (by decide) hi dL_385 dL_386 dL_387 dL_388 dL_389 ?_
  refine lw_callV (as := [.int (xs (i + 1)), .int (xs (i + 2)), .int (xs (i + 3)), .int (xs (i + 4)), .int (xs (i + 5))]) (o := 0) (rest := [.long r]) F lok_50 (by decide) (by decide +kernel) dL_390 rfl (Nat.le_of_ble_eq_true rfl) hC hl.1 hP hD hS (fun v h H locs hC hP hD hS => ?_)
  obtain ⟨rfl, hr⟩ := hC
  refine W.eq (g2 := F0 m 393 ls [.long r, .long r]) rfl ?_
  refine W.lcmp hx hb dL_393 ?_
  refine lv_if_eq (tgt := 755) hx hb dL_394 (by decide) (fun _ => ?_) (fun c1 => absurd ((lg_cmp_eq r r).mpr rfl) c1)
  exact nx _ _ _ hr hP hD hS
set_option maxHeartbeats 400000 in
theorem lcase_8 (F : lR p s m args c A D cy ad sv b L xs) (hl : lv_has ls 4 [(3, .int (nI i)), (2, .ref (ad 0)), (1, .ref (ad 100)), (0, .ref b)]) (hi : i + 6 ≤ L) (nx : lNx p l e s m args below meth c A D cy ad Qs ls 755) : lNx p l e s m args below meth c A D cy ad Qs ls 399 := by
  intro h H locs hr hP hD hS
  have hx := F.1
  have hb := F.2.1
  have hown := F.2.2.2.1
  have hq := F.2.2.2.2.1
  refine lv_aload_n hx hb dL_399 rfl (lv_at hl 2 rfl) ?_
  refine lw_arg F hl hS 1 1 (by decide) (by decide) hi dL_400 dL_401 dL_402 dL_403 dL_404 ?_
  refine lw_arg F hl hS 2 2 (by decide) (by decide) hi dL_405 dL_406 dL_407 dL_408 dL_409 ?_
  refine lw_callV (as := [.int (xs (i + 1)), .int (xs (i + 2))]) (o := 100) (rest := []) F lok_51 (by decide) (by decide +kernel) dL_410 rfl (Nat.le_of_ble_eq_true rfl) (st_worst hr) hl.1 hP hD hS (fun v h H locs hC hP hD hS => ?_)
  obtain ⟨r, rfl, hC⟩ := hC
  refine W.eq (g2 := F0 m 413 ls [.long r]) rfl ?_
  refine lv_aload_n hx hb dL_413 rfl (lv_at hl 1 rfl) ?_
  refine lw_arg F hl hS 1 1 (by decide) (by decide) hi dL_414 dL_415 dL_416 dL_417 dL_418 ?_
  refine lw_arg F hl hS 2 2 (by decide) (by decide) hi dL_419 dL_420 dL_421 dL_422 dL_423 ?_
  refine lw_callV (as := [.int (xs (i + 1)), .int (xs (i + 2))]) (o := 0) (rest := [.long r]) F lok_55 (by decide) (by decide +kernel) dL_424 rfl (Nat.le_of_ble_eq_true rfl) hC hl.1 hP hD hS (fun v h H locs hC hP hD hS => ?_)
  obtain ⟨rfl, hr⟩ := hC
  refine W.eq (g2 := F0 m 427 ls [.long r, .long r]) rfl ?_
  refine W.lcmp hx hb dL_427 ?_
  refine lv_if_eq (tgt := 755) hx hb dL_428 (by decide) (fun _ => ?_) (fun c1 => absurd ((lg_cmp_eq r r).mpr rfl) c1)
  exact nx _ _ _ hr hP hD hS
set_option maxHeartbeats 400000 in
theorem lcase_9 (F : lR p s m args c A D cy ad sv b L xs) (hl : lv_has ls 4 [(3, .int (nI i)), (2, .ref (ad 0)), (1, .ref (ad 100)), (0, .ref b)]) (hi : i + 6 ≤ L) (nx : lNx p l e s m args below meth c A D cy ad Qs ls 755) : lNx p l e s m args below meth c A D cy ad Qs ls 433 := by
  intro h H locs hr hP hD hS
  have hx := F.1
  have hb := F.2.1
  have hown := F.2.2.2.1
  have hq := F.2.2.2.2.1
  refine lv_aload_n hx hb dL_433 rfl (lv_at hl 2 rfl) ?_
  refine lw_arg F hl hS 1 1 (by decide) (by decide) hi dL_434 dL_435 dL_436 dL_437 dL_438 ?_
  refine lw_arg F hl hS 2 2 (by decide) (by decide) hi dL_439 dL_440 dL_441 dL_442 dL_443 ?_
  refine lv_i2l hx hb dL_444 rfl ?_
  refine lv_bipush (v := 32) hx hb dL_445 (by decide) ?_
  refine lv_lshl hx hb dL_447 rfl ?_
  refine lw_arg F hl hS 3 3 (by decide) (by decide) hi dL_448 dL_449 dL_450 dL_451 dL_452 ?_
  refine lv_i2l hx hb dL_453 rfl ?_
  refine lv_ldc2 hx hb hown (hq _ lcl) dL_454 ?_
  refine lv_land hx hb dL_457 ?_
  refine lv_lor hx hb dL_458 ?_
  refine lw_callV (as := [.int (xs (i + 1)), .long (((xs (i + 2)).toInt64 <<< ((32 : Int32).toInt64 &&& 63)) ||| ((xs (i + 3)).toInt64 &&& 4294967295))]) (o := 100) (rest := []) F lok_58 (by decide) (by decide +kernel) dL_459 rfl (Nat.le_of_ble_eq_true rfl) (st_cheapest hr) hl.1 hP hD hS (fun v h H locs hC hP hD hS => ?_)
  obtain ⟨r, rfl, hC⟩ := hC
  refine W.eq (g2 := F0 m 462 ls [.int r]) rfl ?_
  refine lv_aload_n hx hb dL_462 rfl (lv_at hl 1 rfl) ?_
  refine lw_arg F hl hS 1 1 (by decide) (by decide) hi dL_463 dL_464 dL_465 dL_466 dL_467 ?_
  refine lw_arg F hl hS 2 2 (by decide) (by decide) hi dL_468 dL_469 dL_470 dL_471 dL_472 ?_
  refine lv_i2l hx hb dL_473 rfl ?_
  refine lv_bipush (v := 32) hx hb dL_474 (by decide) ?_
  refine lv_lshl hx hb dL_476 rfl ?_
  refine lw_arg F hl hS 3 3 (by decide) (by decide) hi dL_477 dL_478 dL_479 dL_480 dL_481 ?_
  refine lv_i2l hx hb dL_482 rfl ?_
  refine lv_ldc2 hx hb hown (hq _ lcl) dL_483 ?_
  refine lv_land hx hb dL_486 ?_
  refine lv_lor hx hb dL_487 ?_
  refine lw_callV (as := [.int (xs (i + 1)), .long (((xs (i + 2)).toInt64 <<< ((32 : Int32).toInt64 &&& 63)) ||| ((xs (i + 3)).toInt64 &&& 4294967295))]) (o := 0) (rest := [.int r]) F lok_62 (by decide) (by decide +kernel) dL_488 rfl (Nat.le_of_ble_eq_true rfl) hC hl.1 hP hD hS (fun v h H locs hC hP hD hS => ?_)
  obtain ⟨rfl, hr⟩ := hC
  refine W.eq (g2 := F0 m 491 ls [.int r, .int r]) rfl ?_
  refine lv_icmp_eq (tgt := 755) hx hb dL_491 (by decide) (fun _ => ?_) (fun c1 => absurd rfl c1)
  exact nx _ _ _ hr hP hD hS
set_option maxHeartbeats 400000 in
theorem lcase_10 (F : lR p s m args c A D cy ad sv b L xs) (hl : lv_has ls 4 [(3, .int (nI i)), (2, .ref (ad 0)), (1, .ref (ad 100)), (0, .ref b)]) (hi : i + 6 ≤ L) (nx : lNx p l e s m args below meth c A D cy ad Qs ls 755) : lNx p l e s m args below meth c A D cy ad Qs ls 496 := by
  intro h H locs hr hP hD hS
  have hx := F.1
  have hb := F.2.1
  have hown := F.2.2.2.1
  have hq := F.2.2.2.2.1
  refine lv_aload_n hx hb dL_496 rfl (lv_at hl 2 rfl) ?_
  refine lw_arg F hl hS 1 1 (by decide) (by decide) hi dL_497 dL_498 dL_499 dL_500 dL_501 ?_
  refine lw_callV (as := [.int (xs (i + 1))]) (o := 100) (rest := []) F lok_63 (by decide) (by decide +kernel) dL_502 rfl (Nat.le_of_ble_eq_true rfl) (st_ask hr) hl.1 hP hD hS (fun v h H locs hC hP hD hS => ?_)
  obtain ⟨r, rfl, hC⟩ := hC
  refine W.eq (g2 := F0 m 505 ls [.int r]) rfl ?_
  refine lv_aload_n hx hb dL_505 rfl (lv_at hl 1 rfl) ?_
  refine lw_arg F hl hS 1 1 (by decide) (by decide) hi dL_506 dL_507 dL_508 dL_509 dL_510 ?_
  refine lw_callV (as := [.int (xs (i + 1))]) (o := 0) (rest := [.int r]) F lok_66 (by decide) (by decide +kernel) dL_511 rfl (Nat.le_of_ble_eq_true rfl) hC hl.1 hP hD hS (fun v h H locs hC hP hD hS => ?_)
  obtain ⟨rfl, hr⟩ := hC
  refine W.eq (g2 := F0 m 514 ls [.int r, .int r]) rfl ?_
  refine lv_icmp_eq (tgt := 755) hx hb dL_514 (by decide) (fun _ => ?_) (fun c1 => absurd rfl c1)
  exact nx _ _ _ hr hP hD hS
set_option maxHeartbeats 400000 in
theorem lcase_11 (F : lR p s m args c A D cy ad sv b L xs) (hl : lv_has ls 4 [(3, .int (nI i)), (2, .ref (ad 0)), (1, .ref (ad 100)), (0, .ref b)]) (hi : i + 6 ≤ L) (nx : lNx p l e s m args below meth c A D cy ad Qs ls 755) : lNx p l e s m args below meth c A D cy ad Qs ls 519 := by
  intro h H locs hr hP hD hS
  have hx := F.1
  have hb := F.2.1
  have hown := F.2.2.2.1
  have hq := F.2.2.2.2.1
  refine lv_aload_n hx hb dL_519 rfl (lv_at hl 2 rfl) ?_
  refine lw_arg F hl hS 1 1 (by decide) (by decide) hi dL_520 dL_521 dL_522 dL_523 dL_524 ?_
  refine lw_callV (as := [.int (xs (i + 1))]) (o := 100) (rest := []) F lok_67 (by decide) (by decide +kernel) dL_525 rfl (Nat.le_of_ble_eq_true rfl) (st_where hr) hl.1 hP hD hS (fun v h H locs hC hP hD hS => ?_)
  obtain ⟨r, rfl, hC⟩ := hC
  refine W.eq (g2 := F0 m 528 ls [.long r]) rfl ?_
  refine lv_aload_n hx hb dL_528 rfl (lv_at hl 1 rfl) ?_
  refine lw_arg F hl hS 1 1 (by decide) (by decide) hi dL_529 dL_530 dL_531 dL_532 dL_533 ?_
  refine lw_callV (as := [.int (xs (i + 1))]) (o := 0) (rest := [.long r]) F lok_71 (by decide) (by decide +kernel) dL_534 rfl (Nat.le_of_ble_eq_true rfl) hC hl.1 hP hD hS (fun v h H locs hC hP hD hS => ?_)
  obtain ⟨rfl, hr⟩ := hC
  refine W.eq (g2 := F0 m 537 ls [.long r, .long r]) rfl ?_
  refine W.lcmp hx hb dL_537 ?_
  refine lv_if_eq (tgt := 755) hx hb dL_538 (by decide) (fun _ => ?_) (fun c1 => absurd ((lg_cmp_eq r r).mpr rfl) c1)
  exact nx _ _ _ hr hP hD hS
set_option maxHeartbeats 400000 in
theorem lcase_12 (F : lR p s m args c A D cy ad sv b L xs) (hl : lv_has ls 4 [(3, .int (nI i)), (2, .ref (ad 0)), (1, .ref (ad 100)), (0, .ref b)]) (hi : i + 6 ≤ L) (nx : lNx p l e s m args below meth c A D cy ad Qs ls 755) : lNx p l e s m args below meth c A D cy ad Qs ls 543 := by
  intro h H locs hr hP hD hS
  have hx := F.1
  have hb := F.2.1
  have hown := F.2.2.2.1
  have hq := F.2.2.2.2.1
  refine lv_aload_n hx hb dL_543 rfl (lv_at hl 2 rfl) ?_
  refine lw_arg F hl hS 1 1 (by decide) (by decide) hi dL_544 dL_545 dL_546 dL_547 dL_548 ?_
  refine lw_arg F hl hS 2 2 (by decide) (by decide) hi dL_549 dL_550 dL_551 dL_552 dL_553 ?_
  refine lw_arg F hl hS 3 3 (by decide) (by decide) hi dL_554 dL_555 dL_556 dL_557 dL_558 ?_
  refine lw_arg F hl hS 4 4 (by decide) (by decide) hi dL_559 dL_560 dL_561 dL_562 dL_563 ?_
  refine lw_callV (as := [.int (xs (i + 1)), .int (xs (i + 2)), .int (xs (i + 3)), .int (xs (i + 4))]) (o := 100) (rest := []) F lok_72 (by decide) (by decide +kernel) dL_564 rfl (Nat.le_of_ble_eq_true rfl) (st_ordinary hr) hl.1 hP hD hS (fun v h H locs hC hP hD hS => ?_)
  obtain ⟨r, rfl, hC⟩ := hC
  refine W.eq (g2 := F0 m 567 ls [.int r]) rfl ?_
  refine lv_aload_n hx hb dL_567 rfl (lv_at hl 1 rfl) ?_
  refine lw_arg F hl hS 1 1 (by decide) (by decide) hi dL_568 dL_569 dL_570 dL_571 dL_572 ?_
  refine lw_arg F hl hS 2 2 (by decide) (by decide) hi dL_573 dL_574 dL_575 dL_576 dL_577 ?_
  refine lw_arg F hl hS 3 3 (by decide) (by decide) hi dL_578 dL_579 dL_580 dL_581 dL_582 ?_
  refine lw_arg F hl hS 4 4 (by decide) (by decide) hi dL_583 dL_584 dL_585 dL_586 dL_587 ?_
  refine lw_callV (as := [.int (xs (i + 1)), .int (xs (i + 2)), .int (xs (i + 3)), .int (xs (i + 4))]) (o := 0) (rest := [.int r]) F lok_76 (by decide) (by decide +kernel) dL_588 rfl (Nat.le_of_ble_eq_true rfl) hC hl.1 hP hD hS (fun v h H locs hC hP hD hS => ?_)
  obtain ⟨rfl, hr⟩ := hC
  refine W.eq (g2 := F0 m 591 ls [.int r, .int r]) rfl ?_
  refine lv_icmp_eq (tgt := 755) hx hb dL_591 (by decide) (fun _ => ?_) (fun c1 => absurd rfl c1)
  exact nx _ _ _ hr hP hD hS
set_option maxHeartbeats 400000 in
theorem lcase_13 (F : lR p s m args c A D cy ad sv b L xs) (hl : lv_has ls 4 [(3, .int (nI i)), (2, .ref (ad 0)), (1, .ref (ad 100)), (0, .ref b)]) (hi : i + 6 ≤ L) (nx : lNx p l e s m args below meth c A D cy ad Qs ls 755) : lNx p l e s m args below meth c A D cy ad Qs ls 596 := by
  intro h H locs hr hP hD hS
  have hx := F.1
  have hb := F.2.1
  have hown := F.2.2.2.1
  have hq := F.2.2.2.2.1
  refine lv_aload_n hx hb dL_596 rfl (lv_at hl 2 rfl) ?_
  refine lw_arg F hl hS 1 1 (by decide) (by decide) hi dL_597 dL_598 dL_599 dL_600 dL_601 ?_
  refine lw_callV (as := [.int (xs (i + 1))]) (o := 100) (rest := []) F lok_77 (by decide) (by decide +kernel) dL_602 rfl (Nat.le_of_ble_eq_true rfl) (st_need hr) hl.1 hP hD hS (fun v h H locs hC hP hD hS => ?_)
  obtain ⟨r, rfl, hC⟩ := hC
  refine W.eq (g2 := F0 m 605 ls [.long r]) rfl ?_
  refine lv_aload_n hx hb dL_605 rfl (lv_at hl 1 rfl) ?_
  refine lw_arg F hl hS 1 1 (by decide) (by decide) hi dL_606 dL_607 dL_608 dL_609 dL_610 ?_
  refine lw_callV (as := [.int (xs (i + 1))]) (o := 0) (rest := [.long r]) F lok_80 (by decide) (by decide +kernel) dL_611 rfl (Nat.le_of_ble_eq_true rfl) hC hl.1 hP hD hS (fun v h H locs hC hP hD hS => ?_)
  obtain ⟨rfl, hr⟩ := hC
  refine W.eq (g2 := F0 m 614 ls [.long r, .long r]) rfl ?_
  refine W.lcmp hx hb dL_614 ?_
  refine lv_if_eq (tgt := 755) hx hb dL_615 (by decide) (fun _ => ?_) (fun c1 => absurd ((lg_cmp_eq r r).mpr rfl) c1)
  exact nx _ _ _ hr hP hD hS
set_option maxHeartbeats 400000 in
theorem lcase_14 (F : lR p s m args c A D cy ad sv b L xs) (hl : lv_has ls 4 [(3, .int (nI i)), (2, .ref (ad 0)), (1, .ref (ad 100)), (0, .ref b)]) (hi : i + 6 ≤ L) (nx : lNx p l e s m args below meth c A D cy ad Qs ls 755) : lNx p l e s m args below meth c A D cy ad Qs ls 620 := by
  intro h H locs hr hP hD hS
  have hx := F.1
  have hb := F.2.1
  have hown := F.2.2.2.1
  have hq := F.2.2.2.2.1
  refine lv_aload_n hx hb dL_620 rfl (lv_at hl 2 rfl) ?_
  refine lw_arg F hl hS 1 1 (by decide) (by decide) hi dL_621 dL_622 dL_623 dL_624 dL_625 ?_
  refine lv_i2l hx hb dL_626 rfl ?_
  refine lv_bipush (v := 32) hx hb dL_627 (by decide) ?_
  refine lv_lshl hx hb dL_629 rfl ?_
  refine lw_arg F hl hS 2 2 (by decide) (by decide) hi dL_630 dL_631 dL_632 dL_633 dL_634 ?_
  refine lv_i2l hx hb dL_635 rfl ?_
  refine lv_ldc2 hx hb hown (hq _ lcl) dL_636 ?_
  refine lv_land hx hb dL_639 ?_
  refine lv_lor hx hb dL_640 ?_
  refine lw_callV (as := [.long (((xs (i + 1)).toInt64 <<< ((32 : Int32).toInt64 &&& 63)) ||| ((xs (i + 2)).toInt64 &&& 4294967295))]) (o := 100) (rest := []) F lok_81 (by decide) (by decide +kernel) dL_641 rfl (Nat.le_of_ble_eq_true rfl) (st_budgets hr) hl.1 hP hD hS (fun v h H locs hC hP hD hS => ?_)
  obtain ⟨r, rfl, hC⟩ := hC
  refine W.eq (g2 := F0 m 644 ls [.int r]) rfl ?_
  refine lv_aload_n hx hb dL_644 rfl (lv_at hl 1 rfl) ?_
  refine lw_arg F hl hS 1 1 (by decide) (by decide) hi dL_645 dL_646 dL_647 dL_648 dL_649 ?_
  refine lv_i2l hx hb dL_650 rfl ?_
  refine lv_bipush (v := 32) hx hb dL_651 (by decide) ?_
  refine lv_lshl hx hb dL_653 rfl ?_
  refine lw_arg F hl hS 2 2 (by decide) (by decide) hi dL_654 dL_655 dL_656 dL_657 dL_658 ?_
  refine lv_i2l hx hb dL_659 rfl ?_
  refine lv_ldc2 hx hb hown (hq _ lcl) dL_660 ?_
  refine lv_land hx hb dL_663 ?_
  refine lv_lor hx hb dL_664 ?_
  refine lw_callV (as := [.long (((xs (i + 1)).toInt64 <<< ((32 : Int32).toInt64 &&& 63)) ||| ((xs (i + 2)).toInt64 &&& 4294967295))]) (o := 0) (rest := [.int r]) F lok_85 (by decide) (by decide +kernel) dL_665 rfl (Nat.le_of_ble_eq_true rfl) hC hl.1 hP hD hS (fun v h H locs hC hP hD hS => ?_)
  obtain ⟨rfl, hr⟩ := hC
  refine W.eq (g2 := F0 m 668 ls [.int r, .int r]) rfl ?_
  refine lv_icmp_eq (tgt := 755) hx hb dL_668 (by decide) (fun _ => ?_) (fun c1 => absurd rfl c1)
  exact nx _ _ _ hr hP hD hS
set_option maxHeartbeats 400000 in
theorem lcase_15 (F : lR p s m args c A D cy ad sv b L xs) (hl : lv_has ls 4 [(3, .int (nI i)), (2, .ref (ad 0)), (1, .ref (ad 100)), (0, .ref b)]) (hi : i + 6 ≤ L) (nx : lNx p l e s m args below meth c A D cy ad Qs ls 755) : lNx p l e s m args below meth c A D cy ad Qs ls 673 := by
  intro h H locs hr hP hD hS
  have hx := F.1
  have hb := F.2.1
  have hown := F.2.2.2.1
  have hq := F.2.2.2.2.1
  refine lv_aload_n hx hb dL_673 rfl (lv_at hl 2 rfl) ?_
  refine lw_arg F hl hS 1 1 (by decide) (by decide) hi dL_674 dL_675 dL_676 dL_677 dL_678 ?_
  refine lw_arg F hl hS 2 2 (by decide) (by decide) hi dL_679 dL_680 dL_681 dL_682 dL_683 ?_
  refine lw_callV (as := [.int (xs (i + 1)), .int (xs (i + 2))]) (o := 100) (rest := []) F lok_86 (by decide) (by decide +kernel) dL_684 rfl (Nat.le_of_ble_eq_true rfl) (st_ahead hr) hl.1 hP hD hS (fun v h H locs hC hP hD hS => ?_)
  obtain ⟨r, rfl, hC⟩ := hC
  refine W.eq (g2 := F0 m 687 ls [.int r]) rfl ?_
  refine lv_aload_n hx hb dL_687 rfl (lv_at hl 1 rfl) ?_
  refine lw_arg F hl hS 1 1 (by decide) (by decide) hi dL_688 dL_689 dL_690 dL_691 dL_692 ?_
  refine lw_arg F hl hS 2 2 (by decide) (by decide) hi dL_693 dL_694 dL_695 dL_696 dL_697 ?_
  refine lw_callV (as := [.int (xs (i + 1)), .int (xs (i + 2))]) (o := 0) (rest := [.int r]) F lok_89 (by decide) (by decide +kernel) dL_698 rfl (Nat.le_of_ble_eq_true rfl) hC hl.1 hP hD hS (fun v h H locs hC hP hD hS => ?_)
  obtain ⟨rfl, hr⟩ := hC
  refine W.eq (g2 := F0 m 701 ls [.int r, .int r]) rfl ?_
  refine lv_icmp_eq (tgt := 755) hx hb dL_701 (by decide) (fun _ => ?_) (fun c1 => absurd rfl c1)
  exact nx _ _ _ hr hP hD hS
set_option maxHeartbeats 400000 in
theorem lcase_16 (F : lR p s m args c A D cy ad sv b L xs) (hl : lv_has ls 4 [(3, .int (nI i)), (2, .ref (ad 0)), (1, .ref (ad 100)), (0, .ref b)]) (hi : i + 6 ≤ L) (nx : lNx p l e s m args below meth c A D cy ad Qs ls 755) : lNx p l e s m args below meth c A D cy ad Qs ls 706 := by
  intro h H locs hr hP hD hS
  have hx := F.1
  have hb := F.2.1
  have hown := F.2.2.2.1
  have hq := F.2.2.2.2.1
  refine lv_aload_n hx hb dL_706 rfl (lv_at hl 2 rfl) ?_
  refine lw_callV (as := []) (o := 100) (rest := []) F lok_90 (by decide) (by decide +kernel) dL_707 rfl (Nat.le_of_ble_eq_true rfl) (st_tangled hr) hl.1 hP hD hS (fun v h H locs hC hP hD hS => ?_)
  obtain ⟨r, rfl, hC⟩ := hC
  refine W.eq (g2 := F0 m 710 ls [.int r]) rfl ?_
  refine lv_aload_n hx hb dL_710 rfl (lv_at hl 1 rfl) ?_
  refine lw_callV (as := []) (o := 0) (rest := [.int r]) F lok_93 (by decide) (by decide +kernel) dL_711 rfl (Nat.le_of_ble_eq_true rfl) hC hl.1 hP hD hS (fun v h H locs hC hP hD hS => ?_)
  obtain ⟨rfl, hr⟩ := hC
  refine W.eq (g2 := F0 m 714 ls [.int r, .int r]) rfl ?_
  refine lv_icmp_eq (tgt := 755) hx hb dL_714 (by decide) (fun _ => ?_) (fun c1 => absurd rfl c1)
  exact nx _ _ _ hr hP hD hS
set_option maxHeartbeats 400000 in
theorem lcase_17 (F : lR p s m args c A D cy ad sv b L xs) (hl : lv_has ls 4 [(3, .int (nI i)), (2, .ref (ad 0)), (1, .ref (ad 100)), (0, .ref b)]) (hi : i + 6 ≤ L) (nx : lNx p l e s m args below meth c A D cy ad Qs ls 755) : lNx p l e s m args below meth c A D cy ad Qs ls 719 := by
  intro h H locs hr hP hD hS
  have hx := F.1
  have hb := F.2.1
  have hown := F.2.2.2.1
  have hq := F.2.2.2.2.1
  refine lv_aload_n hx hb dL_719 rfl (lv_at hl 2 rfl) ?_
  refine lw_arg F hl hS 1 1 (by decide) (by decide) hi dL_720 dL_721 dL_722 dL_723 dL_724 ?_
  refine lw_callV (as := [.int (xs (i + 1))]) (o := 100) (rest := []) F lok_94 (by decide) (by decide +kernel) dL_725 rfl (Nat.le_of_ble_eq_true rfl) (st_count hr) hl.1 hP hD hS (fun v h H locs hC hP hD hS => ?_)
  obtain ⟨r, rfl, hC⟩ := hC
  refine W.eq (g2 := F0 m 728 ls [.int r]) rfl ?_
  refine lv_aload_n hx hb dL_728 rfl (lv_at hl 1 rfl) ?_
  refine lw_arg F hl hS 1 1 (by decide) (by decide) hi dL_729 dL_730 dL_731 dL_732 dL_733 ?_
  refine lw_callV (as := [.int (xs (i + 1))]) (o := 0) (rest := [.int r]) F lok_97 (by decide) (by decide +kernel) dL_734 rfl (Nat.le_of_ble_eq_true rfl) hC hl.1 hP hD hS (fun v h H locs hC hP hD hS => ?_)
  obtain ⟨rfl, hr⟩ := hC
  refine W.eq (g2 := F0 m 737 ls [.int r, .int r]) rfl ?_
  refine lv_icmp_eq (tgt := 755) hx hb dL_737 (by decide) (fun _ => ?_) (fun c1 => absurd rfl c1)
  exact nx _ _ _ hr hP hD hS
set_option maxHeartbeats 400000 in
theorem lcase_18 (F : lR p s m args c A D cy ad sv b L xs) (hl : lv_has ls 4 [(3, .int (nI i)), (2, .ref (ad 0)), (1, .ref (ad 100)), (0, .ref b)]) (hi : i + 6 ≤ L) (nx : lNx p l e s m args below meth c A D cy ad Qs ls 755) : lNx p l e s m args below meth c A D cy ad Qs ls 742 := by
  intro h H locs hr hP hD hS
  have hx := F.1
  have hb := F.2.1
  have hown := F.2.2.2.1
  have hq := F.2.2.2.2.1
  refine lv_aload_n hx hb dL_742 rfl (lv_at hl 2 rfl) ?_
  refine lw_callV (as := []) (o := 100) (rest := []) F lok_98 (by decide) (by decide +kernel) dL_743 rfl (Nat.le_of_ble_eq_true rfl) (st_status hr) hl.1 hP hD hS (fun v h H locs hC hP hD hS => ?_)
  obtain ⟨r, rfl, hC⟩ := hC
  refine W.eq (g2 := F0 m 746 ls [.int r]) rfl ?_
  refine lv_aload_n hx hb dL_746 rfl (lv_at hl 1 rfl) ?_
  refine lw_callV (as := []) (o := 0) (rest := [.int r]) F lok_101 (by decide) (by decide +kernel) dL_747 rfl (Nat.le_of_ble_eq_true rfl) hC hl.1 hP hD hS (fun v h H locs hC hP hD hS => ?_)
  obtain ⟨rfl, hr⟩ := hC
  refine W.eq (g2 := F0 m 750 ls [.int r, .int r]) rfl ?_
  refine lv_icmp_eq (tgt := 755) hx hb dL_750 (by decide) (fun _ => ?_) (fun c1 => absurd rfl c1)
  exact nx _ _ _ hr hP hD hS
end LAWCASES
