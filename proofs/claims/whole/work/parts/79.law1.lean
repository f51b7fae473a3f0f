section
variable {p : Program} {l : Launch} {e : Env} {s : State} {m : MethodId} {below : List Frame} {meth : Method} {c : Code} {b L : Nat} {xs : Nat → Int32} {D : va_G} {tc : Tc} {ad : Nat → Nat} {K S : Nat} {Q : State → Prop}
set_option maxHeartbeats 4000000 in
set_option maxRecDepth 100000 in
/-- addParticipant -/
theorem k_0 (X : LX p s m c b L xs D tc ad K S) : CS p l e s m below meth c b L xs D tc ad K S Q 204 := by
  intro n i I M H locs ls hl hi hn h hP hS kd
  have hX := X.1
  have hx := hX.1
  have hb := hX.2.1
  have hA := hX.2.2.2.2.2.2
  obtain ⟨r, I1, M1, e1, e2, h1⟩ := s_addParticipant h (xs (i + 1))
  refine lv_aload_n hx hb dL_law_204 rfl (lv_at hl 1 rfl) ?_
  refine k_arg X hl hS 1 kc_i1 (by omega) dL_law_205 dL_law_206 dL_law_207 dL_law_208 dL_law_209 ?_
  refine k_i (k_runV (vals := [.int (xs (i + 1))]) (rest := []) hX hP hl.1 Y_X7_addParticipant cok5 (lt157 sl_145) sk_145 (c_X7_addParticipant hA e1) ⟨rfl, rfl⟩ q296 ⟨Nat.le_of_ble_eq_true rfl, Nat.le_of_ble_eq_true rfl⟩ rfl rfl (Nat.le_of_ble_eq_true rfl) X.2.2.2.2 dL_law_210) hS (fun H locs hP hS => ?_)
  refine lv_aload_n hx hb dL_law_213 rfl (lv_at hl 2 rfl) ?_
  refine k_arg X hl hS 1 kc_i1 (by omega) dL_law_214 dL_law_215 dL_law_216 dL_law_217 dL_law_218 ?_
  refine k_i (k_runV (vals := [.int (xs (i + 1))]) (rest := [.int r]) hX hP hl.1 Y_X8_addParticipant cok6 s157_152 sk_152 (c_X8_addParticipant hA e2) ⟨rfl, rfl⟩ q802 ⟨Nat.le_of_ble_eq_true rfl, Nat.le_of_ble_eq_true rfl⟩ rfl rfl (Nat.le_of_ble_eq_true rfl) X.2.2.2.2 dL_law_219) hS (fun H locs hP hS => ?_)
  refine lv_icmp_eq (tgt := 1252) hx hb dL_law_222 (by decide) (fun _ => kd _ I1 M1 H locs (by omega) h1 hP hS) (fun q => absurd rfl q)
set_option maxHeartbeats 4000000 in
set_option maxRecDepth 100000 in
/-- behave -/
theorem k_1 (X : LX p s m c b L xs D tc ad K S) : CS p l e s m below meth c b L xs D tc ad K S Q 227 := by
  intro n i I M H locs ls hl hi hn h hP hS kd
  have hX := X.1
  have hx := hX.1
  have hb := hX.2.1
  have hA := hX.2.2.2.2.2.2
  obtain ⟨r, I1, M1, e1, e2, h1⟩ := s_behave h (xs (i + 1)) (xs (i + 2))
  refine lv_aload_n hx hb dL_law_227 rfl (lv_at hl 1 rfl) ?_
  refine k_arg X hl hS 1 kc_i1 (by omega) dL_law_228 dL_law_229 dL_law_230 dL_law_231 dL_law_232 ?_
  refine k_arg X hl hS 2 kc_i2 (by omega) dL_law_233 dL_law_234 dL_law_235 dL_law_236 dL_law_237 ?_
  refine k_i (k_runV (vals := [.int (xs (i + 1)), .int (xs (i + 2))]) (rest := []) hX hP hl.1 Y_X7_behave cok5 (lt157 sl_145) sk_145 (c_X7_behave hA e1) ⟨rfl, rfl⟩ q333 ⟨Nat.le_of_ble_eq_true rfl, Nat.le_of_ble_eq_true rfl⟩ rfl rfl (Nat.le_of_ble_eq_true rfl) X.2.2.2.2 dL_law_238) hS (fun H locs hP hS => ?_)
  refine lv_aload_n hx hb dL_law_241 rfl (lv_at hl 2 rfl) ?_
  refine k_arg X hl hS 1 kc_i1 (by omega) dL_law_242 dL_law_243 dL_law_244 dL_law_245 dL_law_246 ?_
  refine k_arg X hl hS 2 kc_i2 (by omega) dL_law_247 dL_law_248 dL_law_249 dL_law_250 dL_law_251 ?_
  refine k_i (k_runV (vals := [.int (xs (i + 1)), .int (xs (i + 2))]) (rest := [.int r]) hX hP hl.1 Y_X8_behave cok6 s157_152 sk_152 (c_X8_behave hA e2) ⟨rfl, rfl⟩ q817 ⟨Nat.le_of_ble_eq_true rfl, Nat.le_of_ble_eq_true rfl⟩ rfl rfl (Nat.le_of_ble_eq_true rfl) X.2.2.2.2 dL_law_252) hS (fun H locs hP hS => ?_)
  refine lv_icmp_eq (tgt := 1252) hx hb dL_law_255 (by decide) (fun _ => kd _ I1 M1 H locs (by omega) h1 hP hS) (fun q => absurd rfl q)
set_option maxHeartbeats 4000000 in
set_option maxRecDepth 100000 in
/-- setMethod -/
theorem k_2 (X : LX p s m c b L xs D tc ad K S) : CS p l e s m below meth c b L xs D tc ad K S Q 260 := by
  intro n i I M H locs ls hl hi hn h hP hS kd
  have hX := X.1
  have hx := hX.1
  have hb := hX.2.1
  have hA := hX.2.2.2.2.2.2
  obtain ⟨r, I1, M1, e1, e2, h1⟩ := s_setMethod h (xs (i + 1))
  refine lv_aload_n hx hb dL_law_260 rfl (lv_at hl 1 rfl) ?_
  refine k_arg X hl hS 1 kc_i1 (by omega) dL_law_261 dL_law_262 dL_law_263 dL_law_264 dL_law_265 ?_
  refine k_i (k_runV (vals := [.int (xs (i + 1))]) (rest := []) hX hP hl.1 Y_X7_setMethod cok5 (lt157 sl_145) sk_145 (c_X7_setMethod hA e1) ⟨rfl, rfl⟩ q341 ⟨Nat.le_of_ble_eq_true rfl, Nat.le_of_ble_eq_true rfl⟩ rfl rfl (Nat.le_of_ble_eq_true rfl) X.2.2.2.2 dL_law_266) hS (fun H locs hP hS => ?_)
  refine lv_aload_n hx hb dL_law_269 rfl (lv_at hl 2 rfl) ?_
  refine k_arg X hl hS 1 kc_i1 (by omega) dL_law_270 dL_law_271 dL_law_272 dL_law_273 dL_law_274 ?_
  refine k_i (k_runV (vals := [.int (xs (i + 1))]) (rest := [.int r]) hX hP hl.1 Y_X8_setMethod cok6 s157_152 sk_152 (c_X8_setMethod hA e2) ⟨rfl, rfl⟩ q829 ⟨Nat.le_of_ble_eq_true rfl, Nat.le_of_ble_eq_true rfl⟩ rfl rfl (Nat.le_of_ble_eq_true rfl) X.2.2.2.2 dL_law_275) hS (fun H locs hP hS => ?_)
  refine lv_icmp_eq (tgt := 1252) hx hb dL_law_278 (by decide) (fun _ => kd _ I1 M1 H locs (by omega) h1 hP hS) (fun q => absurd rfl q)
set_option maxHeartbeats 4000000 in
set_option maxRecDepth 100000 in
/-- setThreshold -/
theorem k_3 (X : LX p s m c b L xs D tc ad K S) : CS p l e s m below meth c b L xs D tc ad K S Q 283 := by
  intro n i I M H locs ls hl hi hn h hP hS kd
  have hX := X.1
  have hx := hX.1
  have hb := hX.2.1
  have hA := hX.2.2.2.2.2.2
  obtain ⟨r, I1, M1, e1, e2, h1⟩ := s_setThreshold h (xs (i + 1))
  refine lv_aload_n hx hb dL_law_283 rfl (lv_at hl 1 rfl) ?_
  refine k_arg X hl hS 1 kc_i1 (by omega) dL_law_284 dL_law_285 dL_law_286 dL_law_287 dL_law_288 ?_
  refine k_i (k_runV (vals := [.int (xs (i + 1))]) (rest := []) hX hP hl.1 Y_X7_setThreshold cok5 (lt157 sl_145) sk_145 (c_X7_setThreshold hA e1) ⟨rfl, rfl⟩ q349 ⟨Nat.le_of_ble_eq_true rfl, Nat.le_of_ble_eq_true rfl⟩ rfl rfl (Nat.le_of_ble_eq_true rfl) X.2.2.2.2 dL_law_289) hS (fun H locs hP hS => ?_)
  refine lv_aload_n hx hb dL_law_292 rfl (lv_at hl 2 rfl) ?_
  refine k_arg X hl hS 1 kc_i1 (by omega) dL_law_293 dL_law_294 dL_law_295 dL_law_296 dL_law_297 ?_
  refine k_i (k_runV (vals := [.int (xs (i + 1))]) (rest := [.int r]) hX hP hl.1 Y_X8_setThreshold cok6 s157_152 sk_152 (c_X8_setThreshold hA e2) ⟨rfl, rfl⟩ q837 ⟨Nat.le_of_ble_eq_true rfl, Nat.le_of_ble_eq_true rfl⟩ rfl rfl (Nat.le_of_ble_eq_true rfl) X.2.2.2.2 dL_law_298) hS (fun H locs hP hS => ?_)
  refine lv_icmp_eq (tgt := 1252) hx hb dL_law_301 (by decide) (fun _ => kd _ I1 M1 H locs (by omega) h1 hP hS) (fun q => absurd rfl q)
set_option maxHeartbeats 4000000 in
set_option maxRecDepth 100000 in
/-- setFine -/
theorem k_4 (X : LX p s m c b L xs D tc ad K S) : CS p l e s m below meth c b L xs D tc ad K S Q 306 := by
  intro n i I M H locs ls hl hi hn h hP hS kd
  have hX := X.1
  have hx := hX.1
  have hb := hX.2.1
  have hA := hX.2.2.2.2.2.2
  obtain ⟨r, I1, M1, e1, e2, h1⟩ := s_setFine h (xs (i + 1))
  refine lv_aload_n hx hb dL_law_306 rfl (lv_at hl 1 rfl) ?_
  refine k_arg X hl hS 1 kc_i1 (by omega) dL_law_307 dL_law_308 dL_law_309 dL_law_310 dL_law_311 ?_
  refine k_i (k_runV (vals := [.int (xs (i + 1))]) (rest := []) hX hP hl.1 Y_X7_setFine cok5 (lt157 sl_145) sk_145 (c_X7_setFine hA e1) ⟨rfl, rfl⟩ q353 ⟨Nat.le_of_ble_eq_true rfl, Nat.le_of_ble_eq_true rfl⟩ rfl rfl (Nat.le_of_ble_eq_true rfl) X.2.2.2.2 dL_law_312) hS (fun H locs hP hS => ?_)
  refine lv_aload_n hx hb dL_law_315 rfl (lv_at hl 2 rfl) ?_
  refine k_arg X hl hS 1 kc_i1 (by omega) dL_law_316 dL_law_317 dL_law_318 dL_law_319 dL_law_320 ?_
  refine k_i (k_runV (vals := [.int (xs (i + 1))]) (rest := [.int r]) hX hP hl.1 Y_X8_setFine cok6 s157_152 sk_152 (c_X8_setFine hA e2) ⟨rfl, rfl⟩ q841 ⟨Nat.le_of_ble_eq_true rfl, Nat.le_of_ble_eq_true rfl⟩ rfl rfl (Nat.le_of_ble_eq_true rfl) X.2.2.2.2 dL_law_321) hS (fun H locs hP hS => ?_)
  refine lv_icmp_eq (tgt := 1252) hx hb dL_law_324 (by decide) (fun _ => kd _ I1 M1 H locs (by omega) h1 hP hS) (fun q => absurd rfl q)
set_option maxHeartbeats 4000000 in
set_option maxRecDepth 100000 in
/-- setDelay -/
theorem k_5 (X : LX p s m c b L xs D tc ad K S) : CS p l e s m below meth c b L xs D tc ad K S Q 329 := by
  intro n i I M H locs ls hl hi hn h hP hS kd
  have hX := X.1
  have hx := hX.1
  have hb := hX.2.1
  have hA := hX.2.2.2.2.2.2
  obtain ⟨r, I1, M1, e1, e2, h1⟩ := s_setDelay h (xs (i + 1))
  refine lv_aload_n hx hb dL_law_329 rfl (lv_at hl 1 rfl) ?_
  refine k_arg X hl hS 1 kc_i1 (by omega) dL_law_330 dL_law_331 dL_law_332 dL_law_333 dL_law_334 ?_
  refine k_i (k_runV (vals := [.int (xs (i + 1))]) (rest := []) hX hP hl.1 Y_X7_setDelay cok5 (lt157 sl_145) sk_145 (c_X7_setDelay hA e1) ⟨rfl, rfl⟩ q357 ⟨Nat.le_of_ble_eq_true rfl, Nat.le_of_ble_eq_true rfl⟩ rfl rfl (Nat.le_of_ble_eq_true rfl) X.2.2.2.2 dL_law_335) hS (fun H locs hP hS => ?_)
  refine lv_aload_n hx hb dL_law_338 rfl (lv_at hl 2 rfl) ?_
  refine k_arg X hl hS 1 kc_i1 (by omega) dL_law_339 dL_law_340 dL_law_341 dL_law_342 dL_law_343 ?_
  refine k_i (k_runV (vals := [.int (xs (i + 1))]) (rest := [.int r]) hX hP hl.1 Y_X8_setDelay cok6 s157_152 sk_152 (c_X8_setDelay hA e2) ⟨rfl, rfl⟩ q845 ⟨Nat.le_of_ble_eq_true rfl, Nat.le_of_ble_eq_true rfl⟩ rfl rfl (Nat.le_of_ble_eq_true rfl) X.2.2.2.2 dL_law_344) hS (fun H locs hP hS => ?_)
  refine lv_icmp_eq (tgt := 1252) hx hb dL_law_347 (by decide) (fun _ => kd _ I1 M1 H locs (by omega) h1 hP hS) (fun q => absurd rfl q)
set_option maxHeartbeats 4000000 in
set_option maxRecDepth 100000 in
/-- begin -/
theorem k_6 (X : LX p s m c b L xs D tc ad K S) : CS p l e s m below meth c b L xs D tc ad K S Q 352 := by
  intro n i I M H locs ls hl hi hn h hP hS kd
  have hX := X.1
  have hx := hX.1
  have hb := hX.2.1
  have hA := hX.2.2.2.2.2.2
  obtain ⟨r, I1, M1, e1, e2, h1⟩ := s_begin h
  refine lv_aload_n hx hb dL_law_352 rfl (lv_at hl 1 rfl) ?_
  refine k_i (k_runV (vals := []) (rest := []) hX hP hl.1 Y_X7_begin cok5 (lt157 sl_145) sk_145 (c_X7_begin hA e1) ⟨rfl, rfl⟩ q361 ⟨Nat.le_of_ble_eq_true rfl, Nat.le_of_ble_eq_true rfl⟩ rfl rfl (Nat.le_of_ble_eq_true rfl) X.2.2.2.2 dL_law_353) hS (fun H locs hP hS => ?_)
  refine lv_aload_n hx hb dL_law_356 rfl (lv_at hl 2 rfl) ?_
  refine k_i (k_runV (vals := []) (rest := [.int r]) hX hP hl.1 Y_X8_begin cok6 s157_152 sk_152 (c_X8_begin hA e2) ⟨rfl, rfl⟩ q849 ⟨Nat.le_of_ble_eq_true rfl, Nat.le_of_ble_eq_true rfl⟩ rfl rfl (Nat.le_of_ble_eq_true rfl) X.2.2.2.2 dL_law_357) hS (fun H locs hP hS => ?_)
  refine lv_icmp_eq (tgt := 1252) hx hb dL_law_360 (by decide) (fun _ => kd _ I1 M1 H locs (by omega) h1 hP hS) (fun q => absurd rfl q)
set_option maxHeartbeats 4000000 in
set_option maxRecDepth 100000 in
/-- commit -/
theorem k_7 (X : LX p s m c b L xs D tc ad K S) : CS p l e s m below meth c b L xs D tc ad K S Q 365 := by
  intro n i I M H locs ls hl hi hn h hP hS kd
  have hX := X.1
  have hx := hX.1
  have hb := hX.2.1
  have hA := hX.2.2.2.2.2.2
  obtain ⟨r, I1, M1, e1, e2, h1⟩ := s_commit h (xs (i + 1)) (xs (i + 2)) (xs (i + 3))
  refine lv_aload_n hx hb dL_law_365 rfl (lv_at hl 1 rfl) ?_
  refine k_arg X hl hS 1 kc_i1 (by omega) dL_law_366 dL_law_367 dL_law_368 dL_law_369 dL_law_370 ?_
  refine k_arg X hl hS 2 kc_i2 (by omega) dL_law_371 dL_law_372 dL_law_373 dL_law_374 dL_law_375 ?_
  refine k_arg X hl hS 3 kc_i3 (by omega) dL_law_376 dL_law_377 dL_law_378 dL_law_379 dL_law_380 ?_
  refine k_i (k_runV (vals := [.int (xs (i + 1)), .int (xs (i + 2)), .int (xs (i + 3))]) (rest := []) hX hP hl.1 Y_X7_commit cok5 (lt157 sl_145) sk_145 (c_X7_commit hA e1) ⟨rfl, rfl⟩ q383 ⟨Nat.le_of_ble_eq_true rfl, Nat.le_of_ble_eq_true rfl⟩ rfl rfl (Nat.le_of_ble_eq_true rfl) X.2.2.2.2 dL_law_381) hS (fun H locs hP hS => ?_)
  refine lv_aload_n hx hb dL_law_384 rfl (lv_at hl 2 rfl) ?_
  refine k_arg X hl hS 1 kc_i1 (by omega) dL_law_385 dL_law_386 dL_law_387 dL_law_388 dL_law_389 ?_
  refine k_arg X hl hS 2 kc_i2 (by omega) dL_law_390 dL_law_391 dL_law_392 dL_law_393 dL_law_394 ?_
  refine k_arg X hl hS 3 kc_i3 (by omega) dL_law_395 dL_law_396 dL_law_397 dL_law_398 dL_law_399 ?_
  refine k_i (k_runV (vals := [.int (xs (i + 1)), .int (xs (i + 2)), .int (xs (i + 3))]) (rest := [.int r]) hX hP hl.1 Y_X8_commit cok6 s157_152 sk_152 (c_X8_commit hA e2) ⟨rfl, rfl⟩ q861 ⟨Nat.le_of_ble_eq_true rfl, Nat.le_of_ble_eq_true rfl⟩ rfl rfl (Nat.le_of_ble_eq_true rfl) X.2.2.2.2 dL_law_400) hS (fun H locs hP hS => ?_)
  refine lv_icmp_eq (tgt := 1252) hx hb dL_law_403 (by decide) (fun _ => kd _ I1 M1 H locs (by omega) h1 hP hS) (fun q => absurd rfl q)
set_option maxHeartbeats 4000000 in
set_option maxRecDepth 100000 in
/-- spoil -/
theorem k_8 (X : LX p s m c b L xs D tc ad K S) : CS p l e s m below meth c b L xs D tc ad K S Q 408 := by
  intro n i I M H locs ls hl hi hn h hP hS kd
  have hX := X.1
  have hx := hX.1
  have hb := hX.2.1
  have hA := hX.2.2.2.2.2.2
  obtain ⟨r, I1, M1, e1, e2, h1⟩ := s_spoil h (xs (i + 1)) (xs (i + 2)) (xs (i + 3))
  refine lv_aload_n hx hb dL_law_408 rfl (lv_at hl 1 rfl) ?_
  refine k_arg X hl hS 1 kc_i1 (by omega) dL_law_409 dL_law_410 dL_law_411 dL_law_412 dL_law_413 ?_
  refine k_arg X hl hS 2 kc_i2 (by omega) dL_law_414 dL_law_415 dL_law_416 dL_law_417 dL_law_418 ?_
  refine k_arg X hl hS 3 kc_i3 (by omega) dL_law_419 dL_law_420 dL_law_421 dL_law_422 dL_law_423 ?_
  refine k_i (k_runV (vals := [.int (xs (i + 1)), .int (xs (i + 2)), .int (xs (i + 3))]) (rest := []) hX hP hl.1 Y_X7_spoil cok5 (lt157 sl_145) sk_145 (c_X7_spoil hA e1) ⟨rfl, rfl⟩ q435 ⟨Nat.le_of_ble_eq_true rfl, Nat.le_of_ble_eq_true rfl⟩ rfl rfl (Nat.le_of_ble_eq_true rfl) X.2.2.2.2 dL_law_424) hS (fun H locs hP hS => ?_)
  refine lv_aload_n hx hb dL_law_427 rfl (lv_at hl 2 rfl) ?_
  refine k_arg X hl hS 1 kc_i1 (by omega) dL_law_428 dL_law_429 dL_law_430 dL_law_431 dL_law_432 ?_
  refine k_arg X hl hS 2 kc_i2 (by omega) dL_law_433 dL_law_434 dL_law_435 dL_law_436 dL_law_437 ?_
  refine k_arg X hl hS 3 kc_i3 (by omega) dL_law_438 dL_law_439 dL_law_440 dL_law_441 dL_law_442 ?_
  refine k_i (k_runV (vals := [.int (xs (i + 1)), .int (xs (i + 2)), .int (xs (i + 3))]) (rest := [.int r]) hX hP hl.1 Y_X8_spoil cok6 s157_152 sk_152 (c_X8_spoil hA e2) ⟨rfl, rfl⟩ q904 ⟨Nat.le_of_ble_eq_true rfl, Nat.le_of_ble_eq_true rfl⟩ rfl rfl (Nat.le_of_ble_eq_true rfl) X.2.2.2.2 dL_law_443) hS (fun H locs hP hS => ?_)
  refine lv_icmp_eq (tgt := 1252) hx hb dL_law_446 (by decide) (fun _ => kd _ I1 M1 H locs (by omega) h1 hP hS) (fun q => absurd rfl q)
set_option maxHeartbeats 4000000 in
set_option maxRecDepth 100000 in
/-- complain -/
theorem k_9 (X : LX p s m c b L xs D tc ad K S) : CS p l e s m below meth c b L xs D tc ad K S Q 451 := by
  intro n i I M H locs ls hl hi hn h hP hS kd
  have hX := X.1
  have hx := hX.1
  have hb := hX.2.1
  have hA := hX.2.2.2.2.2.2
  obtain ⟨r, I1, M1, e1, e2, h1⟩ := s_complain h (xs (i + 1)) (xs (i + 2))
  refine lv_aload_n hx hb dL_law_451 rfl (lv_at hl 1 rfl) ?_
  refine k_arg X hl hS 1 kc_i1 (by omega) dL_law_452 dL_law_453 dL_law_454 dL_law_455 dL_law_456 ?_
  refine k_arg X hl hS 2 kc_i2 (by omega) dL_law_457 dL_law_458 dL_law_459 dL_law_460 dL_law_461 ?_
  refine k_i (k_runV (vals := [.int (xs (i + 1)), .int (xs (i + 2))]) (rest := []) hX hP hl.1 Y_X7_complain cok5 (lt157 sl_145) sk_145 (c_X7_complain hA e1) ⟨rfl, rfl⟩ q460 ⟨Nat.le_of_ble_eq_true rfl, Nat.le_of_ble_eq_true rfl⟩ rfl rfl (Nat.le_of_ble_eq_true rfl) X.2.2.2.2 dL_law_462) hS (fun H locs hP hS => ?_)
  refine lv_aload_n hx hb dL_law_465 rfl (lv_at hl 2 rfl) ?_
  refine k_arg X hl hS 1 kc_i1 (by omega) dL_law_466 dL_law_467 dL_law_468 dL_law_469 dL_law_470 ?_
  refine k_arg X hl hS 2 kc_i2 (by omega) dL_law_471 dL_law_472 dL_law_473 dL_law_474 dL_law_475 ?_
  refine k_i (k_runV (vals := [.int (xs (i + 1)), .int (xs (i + 2))]) (rest := [.int r]) hX hP hl.1 Y_X8_complain cok6 s157_152 sk_152 (c_X8_complain hA e2) ⟨rfl, rfl⟩ q928 ⟨Nat.le_of_ble_eq_true rfl, Nat.le_of_ble_eq_true rfl⟩ rfl rfl (Nat.le_of_ble_eq_true rfl) X.2.2.2.2 dL_law_476) hS (fun H locs hP hS => ?_)
  refine lv_icmp_eq (tgt := 1252) hx hb dL_law_479 (by decide) (fun _ => kd _ I1 M1 H locs (by omega) h1 hP hS) (fun q => absurd rfl q)
set_option maxHeartbeats 4000000 in
set_option maxRecDepth 100000 in
/-- beginOpening -/
theorem k_10 (X : LX p s m c b L xs D tc ad K S) : CS p l e s m below meth c b L xs D tc ad K S Q 484 := by
  intro n i I M H locs ls hl hi hn h hP hS kd
  have hX := X.1
  have hx := hX.1
  have hb := hX.2.1
  have hA := hX.2.2.2.2.2.2
  obtain ⟨r, I1, M1, e1, e2, h1⟩ := s_beginOpening h hn
  refine lv_aload_n hx hb dL_law_484 rfl (lv_at hl 1 rfl) ?_
  refine k_i (k_runV (vals := []) (rest := []) hX hP hl.1 Y_X7_beginOpening cok5 (lt157 sl_145) sk_145 (c_X7_beginOpening hA e1) ⟨rfl, rfl⟩ q476 ⟨Nat.le_of_ble_eq_true rfl, Nat.le_of_ble_eq_true rfl⟩ rfl rfl (Nat.le_of_ble_eq_true rfl) X.2.2.2.2 dL_law_485) hS (fun H locs hP hS => ?_)
  refine lv_aload_n hx hb dL_law_488 rfl (lv_at hl 2 rfl) ?_
  refine k_i (k_runV (vals := []) (rest := [.int r]) hX hP hl.1 Y_X8_beginOpening cok6 s157_152 sk_152 (c_X8_beginOpening hA e2) ⟨rfl, rfl⟩ q944 ⟨Nat.le_of_ble_eq_true rfl, Nat.le_of_ble_eq_true rfl⟩ rfl rfl (Nat.le_of_ble_eq_true rfl) X.2.2.2.2 dL_law_489) hS (fun H locs hP hS => ?_)
  refine lv_icmp_eq (tgt := 1252) hx hb dL_law_492 (by decide) (fun _ => kd _ I1 M1 H locs (by omega) h1 hP hS) (fun q => absurd rfl q)
set_option maxHeartbeats 4000000 in
set_option maxRecDepth 100000 in
/-- open -/
theorem k_11 (X : LX p s m c b L xs D tc ad K S) : CS p l e s m below meth c b L xs D tc ad K S Q 497 := by
  intro n i I M H locs ls hl hi hn h hP hS kd
  have hX := X.1
  have hx := hX.1
  have hb := hX.2.1
  have hA := hX.2.2.2.2.2.2
  obtain ⟨r, I1, M1, e1, e2, h1⟩ := s_open h (xs (i + 1)) (xs (i + 2)) (xs (i + 3))
  refine lv_aload_n hx hb dL_law_497 rfl (lv_at hl 1 rfl) ?_
  refine k_arg X hl hS 1 kc_i1 (by omega) dL_law_498 dL_law_499 dL_law_500 dL_law_501 dL_law_502 ?_
  refine k_arg X hl hS 2 kc_i2 (by omega) dL_law_503 dL_law_504 dL_law_505 dL_law_506 dL_law_507 ?_
  refine k_arg X hl hS 3 kc_i3 (by omega) dL_law_508 dL_law_509 dL_law_510 dL_law_511 dL_law_512 ?_
  refine k_i (k_runV (vals := [.int (xs (i + 1)), .int (xs (i + 2)), .int (xs (i + 3))]) (rest := []) hX hP hl.1 Y_X7_open cok5 (lt157 sl_145) sk_145 (c_X7_open hA e1) ⟨rfl, rfl⟩ q492 ⟨Nat.le_of_ble_eq_true rfl, Nat.le_of_ble_eq_true rfl⟩ rfl rfl (Nat.le_of_ble_eq_true rfl) X.2.2.2.2 dL_law_513) hS (fun H locs hP hS => ?_)
  refine lv_aload_n hx hb dL_law_516 rfl (lv_at hl 2 rfl) ?_
  refine k_arg X hl hS 1 kc_i1 (by omega) dL_law_517 dL_law_518 dL_law_519 dL_law_520 dL_law_521 ?_
  refine k_arg X hl hS 2 kc_i2 (by omega) dL_law_522 dL_law_523 dL_law_524 dL_law_525 dL_law_526 ?_
  refine k_arg X hl hS 3 kc_i3 (by omega) dL_law_527 dL_law_528 dL_law_529 dL_law_530 dL_law_531 ?_
  refine k_i (k_runV (vals := [.int (xs (i + 1)), .int (xs (i + 2)), .int (xs (i + 3))]) (rest := [.int r]) hX hP hl.1 Y_X8_open cok6 s157_152 sk_152 (c_X8_open hA e2) ⟨rfl, rfl⟩ q963 ⟨Nat.le_of_ble_eq_true rfl, Nat.le_of_ble_eq_true rfl⟩ rfl rfl (Nat.le_of_ble_eq_true rfl) X.2.2.2.2 dL_law_532) hS (fun H locs hP hS => ?_)
  refine lv_icmp_eq (tgt := 1252) hx hb dL_law_535 (by decide) (fun _ => kd _ I1 M1 H locs (by omega) h1 hP hS) (fun q => absurd rfl q)
set_option maxHeartbeats 4000000 in
set_option maxRecDepth 100000 in
/-- close -/
theorem k_12 (X : LX p s m c b L xs D tc ad K S) : CS p l e s m below meth c b L xs D tc ad K S Q 540 := by
  intro n i I M H locs ls hl hi hn h hP hS kd
  have hX := X.1
  have hx := hX.1
  have hb := hX.2.1
  have hA := hX.2.2.2.2.2.2
  obtain ⟨r, I1, M1, e1, e2, h1⟩ := s_close h hn
  refine lv_aload_n hx hb dL_law_540 rfl (lv_at hl 1 rfl) ?_
  refine k_i (k_runV (vals := []) (rest := []) hX hP hl.1 Y_X7_close cok5 (lt157 sl_145) sk_145 (c_X7_close hA e1) ⟨rfl, rfl⟩ q496 ⟨Nat.le_of_ble_eq_true rfl, Nat.le_of_ble_eq_true rfl⟩ rfl rfl (Nat.le_of_ble_eq_true rfl) X.2.2.2.2 dL_law_541) hS (fun H locs hP hS => ?_)
  refine lv_aload_n hx hb dL_law_544 rfl (lv_at hl 2 rfl) ?_
  refine k_i (k_runV (vals := []) (rest := [.int r]) hX hP hl.1 Y_X8_close cok6 s157_152 sk_152 (c_X8_close hA e2) ⟨rfl, rfl⟩ q967 ⟨Nat.le_of_ble_eq_true rfl, Nat.le_of_ble_eq_true rfl⟩ rfl rfl (Nat.le_of_ble_eq_true rfl) X.2.2.2.2 dL_law_545) hS (fun H locs hP hS => ?_)
  refine lv_icmp_eq (tgt := 1252) hx hb dL_law_548 (by decide) (fun _ => kd _ I1 M1 H locs (by omega) h1 hP hS) (fun q => absurd rfl q)
end
