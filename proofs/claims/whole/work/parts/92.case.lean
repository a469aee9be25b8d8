section LCASE
variable {p : Program} {l : Launch} {e : Env} {s : State} {m : MethodId} {below : List Frame} {meth : Method} {c : Code} {b L : Nat} {xs : Nat → Int32} {D : va_G} {cA : Nat → ClassId} {ax am tt sK sV : Nat → Nat} {qv : Value} {i : Nat}
theorem l_planks (X : lC p s m meth c b L xs D cA ax am tt sK sV qv) (hi : i + 6 ≤ L) {σ τ : IM} (h : RX σ τ) (nx : ∀ σ' τ' : IM, RX σ' τ' → lG p l e s m below meth c b D cA ax am i (enc σ') (enc τ') 1185 []) : lG p l e s m below meth c b D cA ax am i (enc σ) (enc τ) 172 [] := by
  have q := q_planks (xs (i + 1)).toInt (mI_rng _) h
  simp only [mI_of] at q
  obtain ⟨r, σ', τ', h1, h2, h3⟩ := q
  refine l_aX X dL_law_172 ?_
  refine l_arg X hi 1 (by decide) (by decide) dL_law_173 dL_law_174 dL_law_175 dL_law_176 dL_law_177 ?_
  refine l_callX X (n := 1) (rest := []) (As := [.int (xs (i + 1))]) h1 (tX6_planks X.2.2.2.2.1 (xs (i + 1)) (enc σ)) wc_X6_planks wl_L_13 wi_X6_planks ws_X6_planks rfl (by decide +kernel) ⟨Nat.le_of_ble_eq_true rfl, Nat.le_of_ble_eq_true rfl⟩ ⟨rfl, rfl⟩ rfl rfl (Nat.le_of_ble_eq_true rfl) dL_law_178 ?_
  refine l_aM X dL_law_181 ?_
  refine l_arg X hi 1 (by decide) (by decide) dL_law_182 dL_law_183 dL_law_184 dL_law_185 dL_law_186 ?_
  refine l_callM X (n := 1) (rest := [.int (mI r)]) (As := [.int (xs (i + 1))]) h2 (tX7_planks X.2.2.2.2.2.1 (xs (i + 1)) (enc τ)) wc_X7_planks wl_L_17 wi_X7_planks ws_X7_planks rfl (by decide +kernel) ⟨Nat.le_of_ble_eq_true rfl, Nat.le_of_ble_eq_true rfl⟩ ⟨rfl, rfl⟩ rfl rfl (Nat.le_of_ble_eq_true rfl) dL_law_187 ?_
  exact l_eq X dL_law_190 (by decide) (nx _ _ h3)

theorem l_rule (X : lC p s m meth c b L xs D cA ax am tt sK sV qv) (hi : i + 6 ≤ L) {σ τ : IM} (h : RX σ τ) (nx : ∀ σ' τ' : IM, RX σ' τ' → lG p l e s m below meth c b D cA ax am i (enc σ') (enc τ') 1185 []) : lG p l e s m below meth c b D cA ax am i (enc σ) (enc τ) 195 [] := by
  have q := q_rule (xs (i + 1)).toInt (xs (i + 2)).toInt (mI_rng _) (mI_rng _) h
  simp only [mI_of] at q
  obtain ⟨r, σ', τ', h1, h2, h3⟩ := q
  refine l_aX X dL_law_195 ?_
  refine l_arg X hi 1 (by decide) (by decide) dL_law_196 dL_law_197 dL_law_198 dL_law_199 dL_law_200 ?_
  refine l_arg X hi 2 (by decide) (by decide) dL_law_201 dL_law_202 dL_law_203 dL_law_204 dL_law_205 ?_
  refine l_callX X (n := 2) (rest := []) (As := [.int (xs (i + 1)), .int (xs (i + 2))]) h1 (tX6_rule X.2.2.2.2.1 (xs (i + 1)) (xs (i + 2)) (enc σ)) wc_X6_rule wl_L_18 wi_X6_rule ws_X6_rule rfl (by decide +kernel) ⟨Nat.le_of_ble_eq_true rfl, Nat.le_of_ble_eq_true rfl⟩ ⟨rfl, rfl⟩ rfl rfl (Nat.le_of_ble_eq_true rfl) dL_law_206 ?_
  refine l_aM X dL_law_209 ?_
  refine l_arg X hi 1 (by decide) (by decide) dL_law_210 dL_law_211 dL_law_212 dL_law_213 dL_law_214 ?_
  refine l_arg X hi 2 (by decide) (by decide) dL_law_215 dL_law_216 dL_law_217 dL_law_218 dL_law_219 ?_
  refine l_callM X (n := 2) (rest := [.int (mI r)]) (As := [.int (xs (i + 1)), .int (xs (i + 2))]) h2 (tX7_rule X.2.2.2.2.2.1 (xs (i + 1)) (xs (i + 2)) (enc τ)) wc_X7_rule wl_L_22 wi_X7_rule ws_X7_rule rfl (by decide +kernel) ⟨Nat.le_of_ble_eq_true rfl, Nat.le_of_ble_eq_true rfl⟩ ⟨rfl, rfl⟩ rfl rfl (Nat.le_of_ble_eq_true rfl) dL_law_220 ?_
  exact l_eq X dL_law_223 (by decide) (nx _ _ h3)

theorem l_person (X : lC p s m meth c b L xs D cA ax am tt sK sV qv) (hi : i + 6 ≤ L) {σ τ : IM} (h : RX σ τ) (nx : ∀ σ' τ' : IM, RX σ' τ' → lG p l e s m below meth c b D cA ax am i (enc σ') (enc τ') 1185 []) : lG p l e s m below meth c b D cA ax am i (enc σ) (enc τ) 228 [] := by
  have q := q_person (xs (i + 1)).toInt (xs (i + 2)).toInt (xs (i + 3)).toInt (xs (i + 4)).toInt (xs (i + 5)).toInt (mI_rng _) (mI_rng _) (mI_rng _) (mI_rng _) (mI_rng _) h
  simp only [mI_of] at q
  obtain ⟨r, σ', τ', h1, h2, h3⟩ := q
  refine l_aX X dL_law_228 ?_
  refine l_arg X hi 1 (by decide) (by decide) dL_law_229 dL_law_230 dL_law_231 dL_law_232 dL_law_233 ?_
  refine l_arg X hi 2 (by decide) (by decide) dL_law_234 dL_law_235 dL_law_236 dL_law_237 dL_law_238 ?_
  refine l_arg X hi 3 (by decide) (by decide) dL_law_239 dL_law_240 dL_law_241 dL_law_242 dL_law_243 ?_
  refine l_arg X hi 4 (by decide) (by decide) dL_law_244 dL_law_245 dL_law_246 dL_law_247 dL_law_248 ?_
  refine l_arg X hi 5 (by decide) (by decide) dL_law_249 dL_law_250 dL_law_251 dL_law_252 dL_law_253 ?_
  refine l_callX X (n := 5) (rest := []) (As := [.int (xs (i + 1)), .int (xs (i + 2)), .int (xs (i + 3)), .int (xs (i + 4)), .int (xs (i + 5))]) h1 (tX6_person X.2.2.2.2.1 (xs (i + 1)) (xs (i + 2)) (xs (i + 3)) (xs (i + 4)) (xs (i + 5)) (enc σ)) wc_X6_person wl_L_23 wi_X6_person ws_X6_person rfl (by decide +kernel) ⟨Nat.le_of_ble_eq_true rfl, Nat.le_of_ble_eq_true rfl⟩ ⟨rfl, rfl⟩ rfl rfl (Nat.le_of_ble_eq_true rfl) dL_law_254 ?_
  refine l_aM X dL_law_257 ?_
  refine l_arg X hi 1 (by decide) (by decide) dL_law_258 dL_law_259 dL_law_260 dL_law_261 dL_law_262 ?_
  refine l_arg X hi 2 (by decide) (by decide) dL_law_263 dL_law_264 dL_law_265 dL_law_266 dL_law_267 ?_
  refine l_arg X hi 3 (by decide) (by decide) dL_law_268 dL_law_269 dL_law_270 dL_law_271 dL_law_272 ?_
  refine l_arg X hi 4 (by decide) (by decide) dL_law_273 dL_law_274 dL_law_275 dL_law_276 dL_law_277 ?_
  refine l_arg X hi 5 (by decide) (by decide) dL_law_278 dL_law_279 dL_law_280 dL_law_281 dL_law_282 ?_
  refine l_callM X (n := 5) (rest := [.int (mI r)]) (As := [.int (xs (i + 1)), .int (xs (i + 2)), .int (xs (i + 3)), .int (xs (i + 4)), .int (xs (i + 5))]) h2 (tX7_person X.2.2.2.2.2.1 (xs (i + 1)) (xs (i + 2)) (xs (i + 3)) (xs (i + 4)) (xs (i + 5)) (enc τ)) wc_X7_person wl_L_27 wi_X7_person ws_X7_person rfl (by decide +kernel) ⟨Nat.le_of_ble_eq_true rfl, Nat.le_of_ble_eq_true rfl⟩ ⟨rfl, rfl⟩ rfl rfl (Nat.le_of_ble_eq_true rfl) dL_law_283 ?_
  exact l_eq X dL_law_286 (by decide) (nx _ _ h3)

theorem l_told (X : lC p s m meth c b L xs D cA ax am tt sK sV qv) (hi : i + 6 ≤ L) {σ τ : IM} (h : RX σ τ) (nx : ∀ σ' τ' : IM, RX σ' τ' → lG p l e s m below meth c b D cA ax am i (enc σ') (enc τ') 1185 []) : lG p l e s m below meth c b D cA ax am i (enc σ) (enc τ) 291 [] := by
  have q := q_told (xs (i + 1)).toInt (xs (i + 2)).toInt (mI_rng _) (mI_rng _) h
  simp only [mI_of] at q
  obtain ⟨r, σ', τ', h1, h2, h3⟩ := q
  refine l_aX X dL_law_291 ?_
  refine l_arg X hi 1 (by decide) (by decide) dL_law_292 dL_law_293 dL_law_294 dL_law_295 dL_law_296 ?_
  refine l_arg X hi 2 (by decide) (by decide) dL_law_297 dL_law_298 dL_law_299 dL_law_300 dL_law_301 ?_
  refine l_callX X (n := 2) (rest := []) (As := [.int (xs (i + 1)), .int (xs (i + 2))]) h1 (tX6_told X.2.2.2.2.1 (xs (i + 1)) (xs (i + 2)) (enc σ)) wc_X6_told wl_L_28 wi_X6_told ws_X6_told rfl (by decide +kernel) ⟨Nat.le_of_ble_eq_true rfl, Nat.le_of_ble_eq_true rfl⟩ ⟨rfl, rfl⟩ rfl rfl (Nat.le_of_ble_eq_true rfl) dL_law_302 ?_
  refine l_aM X dL_law_305 ?_
  refine l_arg X hi 1 (by decide) (by decide) dL_law_306 dL_law_307 dL_law_308 dL_law_309 dL_law_310 ?_
  refine l_arg X hi 2 (by decide) (by decide) dL_law_311 dL_law_312 dL_law_313 dL_law_314 dL_law_315 ?_
  refine l_callM X (n := 2) (rest := [.int (mI r)]) (As := [.int (xs (i + 1)), .int (xs (i + 2))]) h2 (tX7_told X.2.2.2.2.2.1 (xs (i + 1)) (xs (i + 2)) (enc τ)) wc_X7_told wl_L_31 wi_X7_told ws_X7_told rfl (by decide +kernel) ⟨Nat.le_of_ble_eq_true rfl, Nat.le_of_ble_eq_true rfl⟩ ⟨rfl, rfl⟩ rfl rfl (Nat.le_of_ble_eq_true rfl) dL_law_316 ?_
  exact l_eq X dL_law_319 (by decide) (nx _ _ h3)

theorem l_stay (X : lC p s m meth c b L xs D cA ax am tt sK sV qv) (hi : i + 6 ≤ L) {σ τ : IM} (h : RX σ τ) (nx : ∀ σ' τ' : IM, RX σ' τ' → lG p l e s m below meth c b D cA ax am i (enc σ') (enc τ') 1185 []) : lG p l e s m below meth c b D cA ax am i (enc σ) (enc τ) 324 [] := by
  have q := q_stay (xs (i + 1)).toInt (xs (i + 2)).toInt (mI_rng _) (mI_rng _) h
  simp only [mI_of] at q
  obtain ⟨r, σ', τ', h1, h2, h3⟩ := q
  refine l_aX X dL_law_324 ?_
  refine l_arg X hi 1 (by decide) (by decide) dL_law_325 dL_law_326 dL_law_327 dL_law_328 dL_law_329 ?_
  refine l_arg X hi 2 (by decide) (by decide) dL_law_330 dL_law_331 dL_law_332 dL_law_333 dL_law_334 ?_
  refine l_callX X (n := 2) (rest := []) (As := [.int (xs (i + 1)), .int (xs (i + 2))]) h1 (tX6_stay X.2.2.2.2.1 (xs (i + 1)) (xs (i + 2)) (enc σ)) wc_X6_stay wl_L_32 wi_X6_stay ws_X6_stay rfl (by decide +kernel) ⟨Nat.le_of_ble_eq_true rfl, Nat.le_of_ble_eq_true rfl⟩ ⟨rfl, rfl⟩ rfl rfl (Nat.le_of_ble_eq_true rfl) dL_law_335 ?_
  refine l_aM X dL_law_338 ?_
  refine l_arg X hi 1 (by decide) (by decide) dL_law_339 dL_law_340 dL_law_341 dL_law_342 dL_law_343 ?_
  refine l_arg X hi 2 (by decide) (by decide) dL_law_344 dL_law_345 dL_law_346 dL_law_347 dL_law_348 ?_
  refine l_callM X (n := 2) (rest := [.int (mI r)]) (As := [.int (xs (i + 1)), .int (xs (i + 2))]) h2 (tX7_stay X.2.2.2.2.2.1 (xs (i + 1)) (xs (i + 2)) (enc τ)) wc_X7_stay wl_L_35 wi_X7_stay ws_X7_stay rfl (by decide +kernel) ⟨Nat.le_of_ble_eq_true rfl, Nat.le_of_ble_eq_true rfl⟩ ⟨rfl, rfl⟩ rfl rfl (Nat.le_of_ble_eq_true rfl) dL_law_349 ?_
  exact l_eq X dL_law_352 (by decide) (nx _ _ h3)

theorem l_hold (X : lC p s m meth c b L xs D cA ax am tt sK sV qv) (hi : i + 6 ≤ L) {σ τ : IM} (h : RX σ τ) (nx : ∀ σ' τ' : IM, RX σ' τ' → lG p l e s m below meth c b D cA ax am i (enc σ') (enc τ') 1185 []) : lG p l e s m below meth c b D cA ax am i (enc σ) (enc τ) 357 [] := by
  have q := q_hold (xs (i + 1)).toInt (xs (i + 2)).toInt (mI_rng _) (mI_rng _) h
  simp only [mI_of] at q
  obtain ⟨r, σ', τ', h1, h2, h3⟩ := q
  refine l_aX X dL_law_357 ?_
  refine l_arg X hi 1 (by decide) (by decide) dL_law_358 dL_law_359 dL_law_360 dL_law_361 dL_law_362 ?_
  refine l_arg X hi 2 (by decide) (by decide) dL_law_363 dL_law_364 dL_law_365 dL_law_366 dL_law_367 ?_
  refine l_callX X (n := 2) (rest := []) (As := [.int (xs (i + 1)), .int (xs (i + 2))]) h1 (tX6_hold X.2.2.2.2.1 (xs (i + 1)) (xs (i + 2)) (enc σ)) wc_X6_hold wl_L_36 wi_X6_hold ws_X6_hold rfl (by decide +kernel) ⟨Nat.le_of_ble_eq_true rfl, Nat.le_of_ble_eq_true rfl⟩ ⟨rfl, rfl⟩ rfl rfl (Nat.le_of_ble_eq_true rfl) dL_law_368 ?_
  refine l_aM X dL_law_371 ?_
  refine l_arg X hi 1 (by decide) (by decide) dL_law_372 dL_law_373 dL_law_374 dL_law_375 dL_law_376 ?_
  refine l_arg X hi 2 (by decide) (by decide) dL_law_377 dL_law_378 dL_law_379 dL_law_380 dL_law_381 ?_
  refine l_callM X (n := 2) (rest := [.int (mI r)]) (As := [.int (xs (i + 1)), .int (xs (i + 2))]) h2 (tX7_hold X.2.2.2.2.2.1 (xs (i + 1)) (xs (i + 2)) (enc τ)) wc_X7_hold wl_L_39 wi_X7_hold ws_X7_hold rfl (by decide +kernel) ⟨Nat.le_of_ble_eq_true rfl, Nat.le_of_ble_eq_true rfl⟩ ⟨rfl, rfl⟩ rfl rfl (Nat.le_of_ble_eq_true rfl) dL_law_382 ?_
  exact l_eq X dL_law_385 (by decide) (nx _ _ h3)

theorem l_clear (X : lC p s m meth c b L xs D cA ax am tt sK sV qv) (hi : i + 6 ≤ L) {σ τ : IM} (h : RX σ τ) (nx : ∀ σ' τ' : IM, RX σ' τ' → lG p l e s m below meth c b D cA ax am i (enc σ') (enc τ') 1185 []) : lG p l e s m below meth c b D cA ax am i (enc σ) (enc τ) 390 [] := by
  have q := q_clear   h
  obtain ⟨r, σ', τ', h1, h2, h3⟩ := q
  refine l_aX X dL_law_390 ?_
  refine l_callX X (n := 0) (rest := []) (As := []) h1 (tX6_clear X.2.2.2.2.1  (enc σ)) wc_X6_clear wl_L_40 wi_X6_clear ws_X6_clear rfl (by decide +kernel) ⟨Nat.le_of_ble_eq_true rfl, Nat.le_of_ble_eq_true rfl⟩ ⟨rfl, rfl⟩ rfl rfl (Nat.le_of_ble_eq_true rfl) dL_law_391 ?_
  refine l_aM X dL_law_394 ?_
  refine l_callM X (n := 0) (rest := [.int (mI r)]) (As := []) h2 (tX7_clear X.2.2.2.2.2.1  (enc τ)) wc_X7_clear wl_L_44 wi_X7_clear ws_X7_clear rfl (by decide +kernel) ⟨Nat.le_of_ble_eq_true rfl, Nat.le_of_ble_eq_true rfl⟩ ⟨rfl, rfl⟩ rfl rfl (Nat.le_of_ble_eq_true rfl) dL_law_395 ?_
  exact l_eq X dL_law_398 (by decide) (nx _ _ h3)

theorem l_type (X : lC p s m meth c b L xs D cA ax am tt sK sV qv) (hi : i + 6 ≤ L) {σ τ : IM} (h : RX σ τ) (nx : ∀ σ' τ' : IM, RX σ' τ' → lG p l e s m below meth c b D cA ax am i (enc σ') (enc τ') 1185 []) : lG p l e s m below meth c b D cA ax am i (enc σ) (enc τ) 403 [] := by
  have q := q_type (((xs (i + 1)).toInt64 <<< ((32 : Int32).toInt64 &&& 63)) ||| ((xs (i + 2)).toInt64 &&& 4294967295)) (xs (i + 3)).toInt (mI_rng _) h
  simp only [mI_of] at q
  obtain ⟨r, σ', τ', h1, h2, h3⟩ := q
  refine l_aX X dL_law_403 ?_
  refine l_arg X hi 1 (by decide) (by decide) dL_law_404 dL_law_405 dL_law_406 dL_law_407 dL_law_408 ?_
  refine l_i2l X dL_law_409 ?_
  refine l_sh X dL_law_410 dL_law_412 ?_
  refine l_arg X hi 2 (by decide) (by decide) dL_law_413 dL_law_414 dL_law_415 dL_law_416 dL_law_417 ?_
  refine l_i2l X dL_law_418 ?_
  refine l_mor X dL_law_419 dL_law_422 dL_law_423 ?_
  refine l_arg X hi 3 (by decide) (by decide) dL_law_424 dL_law_425 dL_law_426 dL_law_427 dL_law_428 ?_
  refine l_callX X (n := 2) (rest := []) (As := [.long (((xs (i + 1)).toInt64 <<< ((32 : Int32).toInt64 &&& 63)) ||| ((xs (i + 2)).toInt64 &&& 4294967295)), .int (xs (i + 3))]) h1 (tX6_type X.2.2.2.2.1 (((xs (i + 1)).toInt64 <<< ((32 : Int32).toInt64 &&& 63)) ||| ((xs (i + 2)).toInt64 &&& 4294967295)) (xs (i + 3)) (enc σ)) wc_X6_type wl_L_47 wi_X6_type ws_X6_type rfl (by decide +kernel) ⟨Nat.le_of_ble_eq_true rfl, Nat.le_of_ble_eq_true rfl⟩ ⟨rfl, rfl⟩ rfl rfl (Nat.le_of_ble_eq_true rfl) dL_law_429 ?_
  refine l_aM X dL_law_432 ?_
  refine l_arg X hi 1 (by decide) (by decide) dL_law_433 dL_law_434 dL_law_435 dL_law_436 dL_law_437 ?_
  refine l_i2l X dL_law_438 ?_
  refine l_sh X dL_law_439 dL_law_441 ?_
  refine l_arg X hi 2 (by decide) (by decide) dL_law_442 dL_law_443 dL_law_444 dL_law_445 dL_law_446 ?_
  refine l_i2l X dL_law_447 ?_
  refine l_mor X dL_law_448 dL_law_451 dL_law_452 ?_
  refine l_arg X hi 3 (by decide) (by decide) dL_law_453 dL_law_454 dL_law_455 dL_law_456 dL_law_457 ?_
  refine l_callM X (n := 2) (rest := [.int (mI r)]) (As := [.long (((xs (i + 1)).toInt64 <<< ((32 : Int32).toInt64 &&& 63)) ||| ((xs (i + 2)).toInt64 &&& 4294967295)), .int (xs (i + 3))]) h2 (tX7_type X.2.2.2.2.2.1 (((xs (i + 1)).toInt64 <<< ((32 : Int32).toInt64 &&& 63)) ||| ((xs (i + 2)).toInt64 &&& 4294967295)) (xs (i + 3)) (enc τ)) wc_X7_type wl_L_51 wi_X7_type ws_X7_type rfl (by decide +kernel) ⟨Nat.le_of_ble_eq_true rfl, Nat.le_of_ble_eq_true rfl⟩ ⟨rfl, rfl⟩ rfl rfl (Nat.le_of_ble_eq_true rfl) dL_law_458 ?_
  exact l_eq X dL_law_461 (by decide) (nx _ _ h3)

theorem l_laws (X : lC p s m meth c b L xs D cA ax am tt sK sV qv) (hi : i + 6 ≤ L) {σ τ : IM} (h : RX σ τ) (nx : ∀ σ' τ' : IM, RX σ' τ' → lG p l e s m below meth c b D cA ax am i (enc σ') (enc τ') 1185 []) : lG p l e s m below meth c b D cA ax am i (enc σ) (enc τ) 466 [] := by
  have q := q_laws   h
  obtain ⟨r, σ', τ', h1, h2, h3⟩ := q
  refine l_aX X dL_law_466 ?_
  refine l_callX X (n := 0) (rest := []) (As := []) h1 (tX6_laws X.2.2.2.2.1  (enc σ)) wc_X6_laws wl_L_52 wi_X6_laws ws_X6_laws rfl (by decide +kernel) ⟨Nat.le_of_ble_eq_true rfl, Nat.le_of_ble_eq_true rfl⟩ ⟨rfl, rfl⟩ rfl rfl (Nat.le_of_ble_eq_true rfl) dL_law_467 ?_
  refine l_aM X dL_law_470 ?_
  refine l_callM X (n := 0) (rest := [.int (mI r)]) (As := []) h2 (tX7_laws X.2.2.2.2.2.1  (enc τ)) wc_X7_laws wl_L_55 wi_X7_laws ws_X7_laws rfl (by decide +kernel) ⟨Nat.le_of_ble_eq_true rfl, Nat.le_of_ble_eq_true rfl⟩ ⟨rfl, rfl⟩ rfl rfl (Nat.le_of_ble_eq_true rfl) dL_law_471 ?_
  exact l_eq X dL_law_474 (by decide) (nx _ _ h3)

theorem l_people (X : lC p s m meth c b L xs D cA ax am tt sK sV qv) (hi : i + 6 ≤ L) {σ τ : IM} (h : RX σ τ) (nx : ∀ σ' τ' : IM, RX σ' τ' → lG p l e s m below meth c b D cA ax am i (enc σ') (enc τ') 1185 []) : lG p l e s m below meth c b D cA ax am i (enc σ) (enc τ) 479 [] := by
  have q := q_people   h
  obtain ⟨r, σ', τ', h1, h2, h3⟩ := q
  refine l_aX X dL_law_479 ?_
  refine l_callX X (n := 0) (rest := []) (As := []) h1 (tX6_people X.2.2.2.2.1  (enc σ)) wc_X6_people wl_L_56 wi_X6_people ws_X6_people rfl (by decide +kernel) ⟨Nat.le_of_ble_eq_true rfl, Nat.le_of_ble_eq_true rfl⟩ ⟨rfl, rfl⟩ rfl rfl (Nat.le_of_ble_eq_true rfl) dL_law_480 ?_
  refine l_aM X dL_law_483 ?_
  refine l_callM X (n := 0) (rest := [.int (mI r)]) (As := []) h2 (tX7_people X.2.2.2.2.2.1  (enc τ)) wc_X7_people wl_L_59 wi_X7_people ws_X7_people rfl (by decide +kernel) ⟨Nat.le_of_ble_eq_true rfl, Nat.le_of_ble_eq_true rfl⟩ ⟨rfl, rfl⟩ rfl rfl (Nat.le_of_ble_eq_true rfl) dL_law_484 ?_
  exact l_eq X dL_law_487 (by decide) (nx _ _ h3)

theorem l_count (X : lC p s m meth c b L xs D cA ax am tt sK sV qv) (hi : i + 6 ≤ L) {σ τ : IM} (h : RX σ τ) (nx : ∀ σ' τ' : IM, RX σ' τ' → lG p l e s m below meth c b D cA ax am i (enc σ') (enc τ') 1185 []) : lG p l e s m below meth c b D cA ax am i (enc σ) (enc τ) 492 [] := by
  have q := q_count (xs (i + 1)).toInt (mI_rng _) h
  simp only [mI_of] at q
  obtain ⟨r, σ', τ', h1, h2, h3⟩ := q
  refine l_aX X dL_law_492 ?_
  refine l_arg X hi 1 (by decide) (by decide) dL_law_493 dL_law_494 dL_law_495 dL_law_496 dL_law_497 ?_
  refine l_callX X (n := 1) (rest := []) (As := [.int (xs (i + 1))]) h1 (tX6_count X.2.2.2.2.1 (xs (i + 1)) (enc σ)) wc_X6_count wl_L_60 wi_X6_count ws_X6_count rfl (by decide +kernel) ⟨Nat.le_of_ble_eq_true rfl, Nat.le_of_ble_eq_true rfl⟩ ⟨rfl, rfl⟩ rfl rfl (Nat.le_of_ble_eq_true rfl) dL_law_498 ?_
  refine l_aM X dL_law_501 ?_
  refine l_arg X hi 1 (by decide) (by decide) dL_law_502 dL_law_503 dL_law_504 dL_law_505 dL_law_506 ?_
  refine l_callM X (n := 1) (rest := [.int (mI r)]) (As := [.int (xs (i + 1))]) h2 (tX7_count X.2.2.2.2.2.1 (xs (i + 1)) (enc τ)) wc_X7_count wl_L_63 wi_X7_count ws_X7_count rfl (by decide +kernel) ⟨Nat.le_of_ble_eq_true rfl, Nat.le_of_ble_eq_true rfl⟩ ⟨rfl, rfl⟩ rfl rfl (Nat.le_of_ble_eq_true rfl) dL_law_507 ?_
  exact l_eq X dL_law_510 (by decide) (nx _ _ h3)

theorem l_fate (X : lC p s m meth c b L xs D cA ax am tt sK sV qv) (hi : i + 6 ≤ L) {σ τ : IM} (h : RX σ τ) (nx : ∀ σ' τ' : IM, RX σ' τ' → lG p l e s m below meth c b D cA ax am i (enc σ') (enc τ') 1185 []) : lG p l e s m below meth c b D cA ax am i (enc σ) (enc τ) 515 [] := by
  have q := q_fate (xs (i + 1)).toInt (xs (i + 2)).toInt (mI_rng _) (mI_rng _) h
  simp only [mI_of] at q
  obtain ⟨r, σ', τ', h1, h2, h3⟩ := q
  refine l_aX X dL_law_515 ?_
  refine l_arg X hi 1 (by decide) (by decide) dL_law_516 dL_law_517 dL_law_518 dL_law_519 dL_law_520 ?_
  refine l_arg X hi 2 (by decide) (by decide) dL_law_521 dL_law_522 dL_law_523 dL_law_524 dL_law_525 ?_
  refine l_callX X (n := 2) (rest := []) (As := [.int (xs (i + 1)), .int (xs (i + 2))]) h1 (tX6_fate X.2.2.2.2.1 (xs (i + 1)) (xs (i + 2)) (enc σ)) wc_X6_fate wl_L_64 wi_X6_fate ws_X6_fate rfl (by decide +kernel) ⟨Nat.le_of_ble_eq_true rfl, Nat.le_of_ble_eq_true rfl⟩ ⟨rfl, rfl⟩ rfl rfl (Nat.le_of_ble_eq_true rfl) dL_law_526 ?_
  refine l_aM X dL_law_529 ?_
  refine l_arg X hi 1 (by decide) (by decide) dL_law_530 dL_law_531 dL_law_532 dL_law_533 dL_law_534 ?_
  refine l_arg X hi 2 (by decide) (by decide) dL_law_535 dL_law_536 dL_law_537 dL_law_538 dL_law_539 ?_
  refine l_callM X (n := 2) (rest := [.int (mI r)]) (As := [.int (xs (i + 1)), .int (xs (i + 2))]) h2 (tX7_fate X.2.2.2.2.2.1 (xs (i + 1)) (xs (i + 2)) (enc τ)) wc_X7_fate wl_L_67 wi_X7_fate ws_X7_fate rfl (by decide +kernel) ⟨Nat.le_of_ble_eq_true rfl, Nat.le_of_ble_eq_true rfl⟩ ⟨rfl, rfl⟩ rfl rfl (Nat.le_of_ble_eq_true rfl) dL_law_540 ?_
  exact l_eq X dL_law_543 (by decide) (nx _ _ h3)

theorem l_at (X : lC p s m meth c b L xs D cA ax am tt sK sV qv) (hi : i + 6 ≤ L) {σ τ : IM} (h : RX σ τ) (nx : ∀ σ' τ' : IM, RX σ' τ' → lG p l e s m below meth c b D cA ax am i (enc σ') (enc τ') 1185 []) : lG p l e s m below meth c b D cA ax am i (enc σ) (enc τ) 548 [] := by
  have q := q_at (xs (i + 1)).toInt (xs (i + 2)).toInt (mI_rng _) (mI_rng _) h
  simp only [mI_of] at q
  obtain ⟨r, σ', τ', h1, h2, h3⟩ := q
  refine l_aX X dL_law_548 ?_
  refine l_arg X hi 1 (by decide) (by decide) dL_law_549 dL_law_550 dL_law_551 dL_law_552 dL_law_553 ?_
  refine l_arg X hi 2 (by decide) (by decide) dL_law_554 dL_law_555 dL_law_556 dL_law_557 dL_law_558 ?_
  refine l_callX X (n := 2) (rest := []) (As := [.int (xs (i + 1)), .int (xs (i + 2))]) h1 (tX6_at X.2.2.2.2.1 (xs (i + 1)) (xs (i + 2)) (enc σ)) wc_X6_at wl_L_68 wi_X6_at ws_X6_at rfl (by decide +kernel) ⟨Nat.le_of_ble_eq_true rfl, Nat.le_of_ble_eq_true rfl⟩ ⟨rfl, rfl⟩ rfl rfl (Nat.le_of_ble_eq_true rfl) dL_law_559 ?_
  refine l_aM X dL_law_562 ?_
  refine l_arg X hi 1 (by decide) (by decide) dL_law_563 dL_law_564 dL_law_565 dL_law_566 dL_law_567 ?_
  refine l_arg X hi 2 (by decide) (by decide) dL_law_568 dL_law_569 dL_law_570 dL_law_571 dL_law_572 ?_
  refine l_callM X (n := 2) (rest := [.int (mI r)]) (As := [.int (xs (i + 1)), .int (xs (i + 2))]) h2 (tX7_at X.2.2.2.2.2.1 (xs (i + 1)) (xs (i + 2)) (enc τ)) wc_X7_at wl_L_71 wi_X7_at ws_X7_at rfl (by decide +kernel) ⟨Nat.le_of_ble_eq_true rfl, Nat.le_of_ble_eq_true rfl⟩ ⟨rfl, rfl⟩ rfl rfl (Nat.le_of_ble_eq_true rfl) dL_law_573 ?_
  exact l_eq X dL_law_576 (by decide) (nx _ _ h3)

theorem l_gone (X : lC p s m meth c b L xs D cA ax am tt sK sV qv) (hi : i + 6 ≤ L) {σ τ : IM} (h : RX σ τ) (nx : ∀ σ' τ' : IM, RX σ' τ' → lG p l e s m below meth c b D cA ax am i (enc σ') (enc τ') 1185 []) : lG p l e s m below meth c b D cA ax am i (enc σ) (enc τ) 581 [] := by
  have q := q_gone (xs (i + 1)).toInt (xs (i + 2)).toInt (mI_rng _) (mI_rng _) h
  simp only [mI_of] at q
  obtain ⟨r, σ', τ', h1, h2, h3⟩ := q
  refine l_aX X dL_law_581 ?_
  refine l_arg X hi 1 (by decide) (by decide) dL_law_582 dL_law_583 dL_law_584 dL_law_585 dL_law_586 ?_
  refine l_arg X hi 2 (by decide) (by decide) dL_law_587 dL_law_588 dL_law_589 dL_law_590 dL_law_591 ?_
  refine l_callX X (n := 2) (rest := []) (As := [.int (xs (i + 1)), .int (xs (i + 2))]) h1 (tX6_gone X.2.2.2.2.1 (xs (i + 1)) (xs (i + 2)) (enc σ)) wc_X6_gone wl_L_72 wi_X6_gone ws_X6_gone rfl (by decide +kernel) ⟨Nat.le_of_ble_eq_true rfl, Nat.le_of_ble_eq_true rfl⟩ ⟨rfl, rfl⟩ rfl rfl (Nat.le_of_ble_eq_true rfl) dL_law_592 ?_
  refine l_aM X dL_law_595 ?_
  refine l_arg X hi 1 (by decide) (by decide) dL_law_596 dL_law_597 dL_law_598 dL_law_599 dL_law_600 ?_
  refine l_arg X hi 2 (by decide) (by decide) dL_law_601 dL_law_602 dL_law_603 dL_law_604 dL_law_605 ?_
  refine l_callM X (n := 2) (rest := [.int (mI r)]) (As := [.int (xs (i + 1)), .int (xs (i + 2))]) h2 (tX7_gone X.2.2.2.2.2.1 (xs (i + 1)) (xs (i + 2)) (enc τ)) wc_X7_gone wl_L_75 wi_X7_gone ws_X7_gone rfl (by decide +kernel) ⟨Nat.le_of_ble_eq_true rfl, Nat.le_of_ble_eq_true rfl⟩ ⟨rfl, rfl⟩ rfl rfl (Nat.le_of_ble_eq_true rfl) dL_law_606 ?_
  exact l_eq X dL_law_609 (by decide) (nx _ _ h3)

theorem l_all (X : lC p s m meth c b L xs D cA ax am tt sK sV qv) (hi : i + 6 ≤ L) {σ τ : IM} (h : RX σ τ) (nx : ∀ σ' τ' : IM, RX σ' τ' → lG p l e s m below meth c b D cA ax am i (enc σ') (enc τ') 1185 []) : lG p l e s m below meth c b D cA ax am i (enc σ) (enc τ) 614 [] := by
  have q := q_all (xs (i + 1)).toInt (mI_rng _) h
  simp only [mI_of] at q
  obtain ⟨r, σ', τ', h1, h2, h3⟩ := q
  refine l_aX X dL_law_614 ?_
  refine l_arg X hi 1 (by decide) (by decide) dL_law_615 dL_law_616 dL_law_617 dL_law_618 dL_law_619 ?_
  refine l_callX X (n := 1) (rest := []) (As := [.int (xs (i + 1))]) h1 (tX6_all X.2.2.2.2.1 (xs (i + 1)) (enc σ)) wc_X6_all wl_L_76 wi_X6_all ws_X6_all rfl (by decide +kernel) ⟨Nat.le_of_ble_eq_true rfl, Nat.le_of_ble_eq_true rfl⟩ ⟨rfl, rfl⟩ rfl rfl (Nat.le_of_ble_eq_true rfl) dL_law_620 ?_
  refine l_aM X dL_law_623 ?_
  refine l_arg X hi 1 (by decide) (by decide) dL_law_624 dL_law_625 dL_law_626 dL_law_627 dL_law_628 ?_
  refine l_callM X (n := 1) (rest := [.int (mI r)]) (As := [.int (xs (i + 1))]) h2 (tX7_all X.2.2.2.2.2.1 (xs (i + 1)) (enc τ)) wc_X7_all wl_L_79 wi_X7_all ws_X7_all rfl (by decide +kernel) ⟨Nat.le_of_ble_eq_true rfl, Nat.le_of_ble_eq_true rfl⟩ ⟨rfl, rfl⟩ rfl rfl (Nat.le_of_ble_eq_true rfl) dL_law_629 ?_
  exact l_eq X dL_law_632 (by decide) (nx _ _ h3)

theorem l_soonest (X : lC p s m meth c b L xs D cA ax am tt sK sV qv) (hi : i + 6 ≤ L) {σ τ : IM} (h : RX σ τ) (nx : ∀ σ' τ' : IM, RX σ' τ' → lG p l e s m below meth c b D cA ax am i (enc σ') (enc τ') 1185 []) : lG p l e s m below meth c b D cA ax am i (enc σ) (enc τ) 637 [] := by
  have q := q_soonest (xs (i + 1)).toInt (xs (i + 2)).toInt (mI_rng _) (mI_rng _) h
  simp only [mI_of] at q
  obtain ⟨r, σ', τ', h1, h2, h3⟩ := q
  refine l_aX X dL_law_637 ?_
  refine l_arg X hi 1 (by decide) (by decide) dL_law_638 dL_law_639 dL_law_640 dL_law_641 dL_law_642 ?_
  refine l_arg X hi 2 (by decide) (by decide) dL_law_643 dL_law_644 dL_law_645 dL_law_646 dL_law_647 ?_
  refine l_callX X (n := 2) (rest := []) (As := [.int (xs (i + 1)), .int (xs (i + 2))]) h1 (tX6_soonest X.2.2.2.2.1 (xs (i + 1)) (xs (i + 2)) (enc σ)) wc_X6_soonest wl_L_80 wi_X6_soonest ws_X6_soonest rfl (by decide +kernel) ⟨Nat.le_of_ble_eq_true rfl, Nat.le_of_ble_eq_true rfl⟩ ⟨rfl, rfl⟩ rfl rfl (Nat.le_of_ble_eq_true rfl) dL_law_648 ?_
  refine l_aM X dL_law_651 ?_
  refine l_arg X hi 1 (by decide) (by decide) dL_law_652 dL_law_653 dL_law_654 dL_law_655 dL_law_656 ?_
  refine l_arg X hi 2 (by decide) (by decide) dL_law_657 dL_law_658 dL_law_659 dL_law_660 dL_law_661 ?_
  refine l_callM X (n := 2) (rest := [.int (mI r)]) (As := [.int (xs (i + 1)), .int (xs (i + 2))]) h2 (tX7_soonest X.2.2.2.2.2.1 (xs (i + 1)) (xs (i + 2)) (enc τ)) wc_X7_soonest wl_L_83 wi_X7_soonest ws_X7_soonest rfl (by decide +kernel) ⟨Nat.le_of_ble_eq_true rfl, Nat.le_of_ble_eq_true rfl⟩ ⟨rfl, rfl⟩ rfl rfl (Nat.le_of_ble_eq_true rfl) dL_law_662 ?_
  exact l_eq X dL_law_665 (by decide) (nx _ _ h3)

theorem l_order (X : lC p s m meth c b L xs D cA ax am tt sK sV qv) (hi : i + 6 ≤ L) {σ τ : IM} (h : RX σ τ) (nx : ∀ σ' τ' : IM, RX σ' τ' → lG p l e s m below meth c b D cA ax am i (enc σ') (enc τ') 1185 []) : lG p l e s m below meth c b D cA ax am i (enc σ) (enc τ) 670 [] := by
  have q := q_order (xs (i + 1)).toInt (xs (i + 2)).toInt (xs (i + 3)).toInt (mI_rng _) (mI_rng _) (mI_rng _) h
  simp only [mI_of] at q
  obtain ⟨r, σ', τ', h1, h2, h3⟩ := q
  refine l_aX X dL_law_670 ?_
  refine l_arg X hi 1 (by decide) (by decide) dL_law_671 dL_law_672 dL_law_673 dL_law_674 dL_law_675 ?_
  refine l_arg X hi 2 (by decide) (by decide) dL_law_676 dL_law_677 dL_law_678 dL_law_679 dL_law_680 ?_
  refine l_arg X hi 3 (by decide) (by decide) dL_law_681 dL_law_682 dL_law_683 dL_law_684 dL_law_685 ?_
  refine l_callX X (n := 3) (rest := []) (As := [.int (xs (i + 1)), .int (xs (i + 2)), .int (xs (i + 3))]) h1 (tX6_order X.2.2.2.2.1 (xs (i + 1)) (xs (i + 2)) (xs (i + 3)) (enc σ)) wc_X6_order wl_L_84 wi_X6_order ws_X6_order rfl (by decide +kernel) ⟨Nat.le_of_ble_eq_true rfl, Nat.le_of_ble_eq_true rfl⟩ ⟨rfl, rfl⟩ rfl rfl (Nat.le_of_ble_eq_true rfl) dL_law_686 ?_
  refine l_aM X dL_law_689 ?_
  refine l_arg X hi 1 (by decide) (by decide) dL_law_690 dL_law_691 dL_law_692 dL_law_693 dL_law_694 ?_
  refine l_arg X hi 2 (by decide) (by decide) dL_law_695 dL_law_696 dL_law_697 dL_law_698 dL_law_699 ?_
  refine l_arg X hi 3 (by decide) (by decide) dL_law_700 dL_law_701 dL_law_702 dL_law_703 dL_law_704 ?_
  refine l_callM X (n := 3) (rest := [.int (mI r)]) (As := [.int (xs (i + 1)), .int (xs (i + 2)), .int (xs (i + 3))]) h2 (tX7_order X.2.2.2.2.2.1 (xs (i + 1)) (xs (i + 2)) (xs (i + 3)) (enc τ)) wc_X7_order wl_L_88 wi_X7_order ws_X7_order rfl (by decide +kernel) ⟨Nat.le_of_ble_eq_true rfl, Nat.le_of_ble_eq_true rfl⟩ ⟨rfl, rfl⟩ rfl rfl (Nat.le_of_ble_eq_true rfl) dL_law_705 ?_
  exact l_eq X dL_law_708 (by decide) (nx _ _ h3)

theorem l_worth (X : lC p s m meth c b L xs D cA ax am tt sK sV qv) (hi : i + 6 ≤ L) {σ τ : IM} (h : RX σ τ) (nx : ∀ σ' τ' : IM, RX σ' τ' → lG p l e s m below meth c b D cA ax am i (enc σ') (enc τ') 1185 []) : lG p l e s m below meth c b D cA ax am i (enc σ) (enc τ) 713 [] := by
  have q := q_worth (xs (i + 1)).toInt (xs (i + 2)).toInt (mI_rng _) (mI_rng _) h
  simp only [mI_of] at q
  obtain ⟨r, σ', τ', h1, h2, h3⟩ := q
  refine l_aX X dL_law_713 ?_
  refine l_arg X hi 1 (by decide) (by decide) dL_law_714 dL_law_715 dL_law_716 dL_law_717 dL_law_718 ?_
  refine l_arg X hi 2 (by decide) (by decide) dL_law_719 dL_law_720 dL_law_721 dL_law_722 dL_law_723 ?_
  refine l_callX X (n := 2) (rest := []) (As := [.int (xs (i + 1)), .int (xs (i + 2))]) h1 (tX6_worth X.2.2.2.2.1 (xs (i + 1)) (xs (i + 2)) (enc σ)) wc_X6_worth wl_L_89 wi_X6_worth ws_X6_worth rfl (by decide +kernel) ⟨Nat.le_of_ble_eq_true rfl, Nat.le_of_ble_eq_true rfl⟩ ⟨rfl, rfl⟩ rfl rfl (Nat.le_of_ble_eq_true rfl) dL_law_724 ?_
  refine l_aM X dL_law_727 ?_
  refine l_arg X hi 1 (by decide) (by decide) dL_law_728 dL_law_729 dL_law_730 dL_law_731 dL_law_732 ?_
  refine l_arg X hi 2 (by decide) (by decide) dL_law_733 dL_law_734 dL_law_735 dL_law_736 dL_law_737 ?_
  refine l_callM X (n := 2) (rest := [.int (mI r)]) (As := [.int (xs (i + 1)), .int (xs (i + 2))]) h2 (tX7_worth X.2.2.2.2.2.1 (xs (i + 1)) (xs (i + 2)) (enc τ)) wc_X7_worth wl_L_92 wi_X7_worth ws_X7_worth rfl (by decide +kernel) ⟨Nat.le_of_ble_eq_true rfl, Nat.le_of_ble_eq_true rfl⟩ ⟨rfl, rfl⟩ rfl rfl (Nat.le_of_ble_eq_true rfl) dL_law_738 ?_
  exact l_eq X dL_law_741 (by decide) (nx _ _ h3)

theorem l_waits (X : lC p s m meth c b L xs D cA ax am tt sK sV qv) (hi : i + 6 ≤ L) {σ τ : IM} (h : RX σ τ) (nx : ∀ σ' τ' : IM, RX σ' τ' → lG p l e s m below meth c b D cA ax am i (enc σ') (enc τ') 1185 []) : lG p l e s m below meth c b D cA ax am i (enc σ) (enc τ) 746 [] := by
  have q := q_waits (xs (i + 1)).toInt (mI_rng _) h
  simp only [mI_of] at q
  obtain ⟨r, σ', τ', h1, h2, h3⟩ := q
  refine l_aX X dL_law_746 ?_
  refine l_arg X hi 1 (by decide) (by decide) dL_law_747 dL_law_748 dL_law_749 dL_law_750 dL_law_751 ?_
  refine l_callX X (n := 1) (rest := []) (As := [.int (xs (i + 1))]) h1 (tX6_waits X.2.2.2.2.1 (xs (i + 1)) (enc σ)) wc_X6_waits wl_L_93 wi_X6_waits ws_X6_waits rfl (by decide +kernel) ⟨Nat.le_of_ble_eq_true rfl, Nat.le_of_ble_eq_true rfl⟩ ⟨rfl, rfl⟩ rfl rfl (Nat.le_of_ble_eq_true rfl) dL_law_752 ?_
  refine l_aM X dL_law_755 ?_
  refine l_arg X hi 1 (by decide) (by decide) dL_law_756 dL_law_757 dL_law_758 dL_law_759 dL_law_760 ?_
  refine l_callM X (n := 1) (rest := [.int (mI r)]) (As := [.int (xs (i + 1))]) h2 (tX7_waits X.2.2.2.2.2.1 (xs (i + 1)) (enc τ)) wc_X7_waits wl_L_96 wi_X7_waits ws_X7_waits rfl (by decide +kernel) ⟨Nat.le_of_ble_eq_true rfl, Nat.le_of_ble_eq_true rfl⟩ ⟨rfl, rfl⟩ rfl rfl (Nat.le_of_ble_eq_true rfl) dL_law_761 ?_
  exact l_eq X dL_law_764 (by decide) (nx _ _ h3)

theorem l_handed (X : lC p s m meth c b L xs D cA ax am tt sK sV qv) (hi : i + 6 ≤ L) {σ τ : IM} (h : RX σ τ) (nx : ∀ σ' τ' : IM, RX σ' τ' → lG p l e s m below meth c b D cA ax am i (enc σ') (enc τ') 1185 []) : lG p l e s m below meth c b D cA ax am i (enc σ) (enc τ) 769 [] := by
  have q := q_handed (xs (i + 1)).toInt (xs (i + 2)).toInt (mI_rng _) (mI_rng _) h
  simp only [mI_of] at q
  obtain ⟨r, σ', τ', h1, h2, h3⟩ := q
  refine l_aX X dL_law_769 ?_
  refine l_arg X hi 1 (by decide) (by decide) dL_law_770 dL_law_771 dL_law_772 dL_law_773 dL_law_774 ?_
  refine l_arg X hi 2 (by decide) (by decide) dL_law_775 dL_law_776 dL_law_777 dL_law_778 dL_law_779 ?_
  refine l_callX X (n := 2) (rest := []) (As := [.int (xs (i + 1)), .int (xs (i + 2))]) h1 (tX6_handed X.2.2.2.2.1 (xs (i + 1)) (xs (i + 2)) (enc σ)) wc_X6_handed wl_L_97 wi_X6_handed ws_X6_handed rfl (by decide +kernel) ⟨Nat.le_of_ble_eq_true rfl, Nat.le_of_ble_eq_true rfl⟩ ⟨rfl, rfl⟩ rfl rfl (Nat.le_of_ble_eq_true rfl) dL_law_780 ?_
  refine l_aM X dL_law_783 ?_
  refine l_arg X hi 1 (by decide) (by decide) dL_law_784 dL_law_785 dL_law_786 dL_law_787 dL_law_788 ?_
  refine l_arg X hi 2 (by decide) (by decide) dL_law_789 dL_law_790 dL_law_791 dL_law_792 dL_law_793 ?_
  refine l_callM X (n := 2) (rest := [.int (mI r)]) (As := [.int (xs (i + 1)), .int (xs (i + 2))]) h2 (tX7_handed X.2.2.2.2.2.1 (xs (i + 1)) (xs (i + 2)) (enc τ)) wc_X7_handed wl_L_100 wi_X7_handed ws_X7_handed rfl (by decide +kernel) ⟨Nat.le_of_ble_eq_true rfl, Nat.le_of_ble_eq_true rfl⟩ ⟨rfl, rfl⟩ rfl rfl (Nat.le_of_ble_eq_true rfl) dL_law_794 ?_
  exact l_eq X dL_law_797 (by decide) (nx _ _ h3)

theorem l_ford (X : lC p s m meth c b L xs D cA ax am tt sK sV qv) (hi : i + 6 ≤ L) {σ τ : IM} (h : RX σ τ) (nx : ∀ σ' τ' : IM, RX σ' τ' → lG p l e s m below meth c b D cA ax am i (enc σ') (enc τ') 1185 []) : lG p l e s m below meth c b D cA ax am i (enc σ) (enc τ) 802 [] := by
  have q := q_ford (xs (i + 1)).toInt (mI_rng _) h
  simp only [mI_of] at q
  obtain ⟨r, σ', τ', h1, h2, h3⟩ := q
  refine l_aX X dL_law_802 ?_
  refine l_arg X hi 1 (by decide) (by decide) dL_law_803 dL_law_804 dL_law_805 dL_law_806 dL_law_807 ?_
  refine l_callX X (n := 1) (rest := []) (As := [.int (xs (i + 1))]) h1 (tX6_ford X.2.2.2.2.1 (xs (i + 1)) (enc σ)) wc_X6_ford wl_L_101 wi_X6_ford ws_X6_ford rfl (by decide +kernel) ⟨Nat.le_of_ble_eq_true rfl, Nat.le_of_ble_eq_true rfl⟩ ⟨rfl, rfl⟩ rfl rfl (Nat.le_of_ble_eq_true rfl) dL_law_808 ?_
  refine l_aM X dL_law_811 ?_
  refine l_arg X hi 1 (by decide) (by decide) dL_law_812 dL_law_813 dL_law_814 dL_law_815 dL_law_816 ?_
  refine l_callM X (n := 1) (rest := [.int (mI r)]) (As := [.int (xs (i + 1))]) h2 (tX7_ford X.2.2.2.2.2.1 (xs (i + 1)) (enc τ)) wc_X7_ford wl_L_104 wi_X7_ford ws_X7_ford rfl (by decide +kernel) ⟨Nat.le_of_ble_eq_true rfl, Nat.le_of_ble_eq_true rfl⟩ ⟨rfl, rfl⟩ rfl rfl (Nat.le_of_ble_eq_true rfl) dL_law_817 ?_
  exact l_eq X dL_law_820 (by decide) (nx _ _ h3)

theorem l_shared (X : lC p s m meth c b L xs D cA ax am tt sK sV qv) (hi : i + 6 ≤ L) {σ τ : IM} (h : RX σ τ) (nx : ∀ σ' τ' : IM, RX σ' τ' → lG p l e s m below meth c b D cA ax am i (enc σ') (enc τ') 1185 []) : lG p l e s m below meth c b D cA ax am i (enc σ) (enc τ) 825 [] := by
  have q := q_shared (xs (i + 1)).toInt (xs (i + 2)).toInt (mI_rng _) (mI_rng _) h
  simp only [mI_of] at q
  obtain ⟨r, σ', τ', h1, h2, h3⟩ := q
  refine l_aX X dL_law_825 ?_
  refine l_arg X hi 1 (by decide) (by decide) dL_law_826 dL_law_827 dL_law_828 dL_law_829 dL_law_830 ?_
  refine l_arg X hi 2 (by decide) (by decide) dL_law_831 dL_law_832 dL_law_833 dL_law_834 dL_law_835 ?_
  refine l_callX X (n := 2) (rest := []) (As := [.int (xs (i + 1)), .int (xs (i + 2))]) h1 (tX6_shared X.2.2.2.2.1 (xs (i + 1)) (xs (i + 2)) (enc σ)) wc_X6_shared wl_L_105 wi_X6_shared ws_X6_shared rfl (by decide +kernel) ⟨Nat.le_of_ble_eq_true rfl, Nat.le_of_ble_eq_true rfl⟩ ⟨rfl, rfl⟩ rfl rfl (Nat.le_of_ble_eq_true rfl) dL_law_836 ?_
  refine l_aM X dL_law_839 ?_
  refine l_arg X hi 1 (by decide) (by decide) dL_law_840 dL_law_841 dL_law_842 dL_law_843 dL_law_844 ?_
  refine l_arg X hi 2 (by decide) (by decide) dL_law_845 dL_law_846 dL_law_847 dL_law_848 dL_law_849 ?_
  refine l_callM X (n := 2) (rest := [.int (mI r)]) (As := [.int (xs (i + 1)), .int (xs (i + 2))]) h2 (tX7_shared X.2.2.2.2.2.1 (xs (i + 1)) (xs (i + 2)) (enc τ)) wc_X7_shared wl_L_108 wi_X7_shared ws_X7_shared rfl (by decide +kernel) ⟨Nat.le_of_ble_eq_true rfl, Nat.le_of_ble_eq_true rfl⟩ ⟨rfl, rfl⟩ rfl rfl (Nat.le_of_ble_eq_true rfl) dL_law_850 ?_
  exact l_eq X dL_law_853 (by decide) (nx _ _ h3)

theorem l_late (X : lC p s m meth c b L xs D cA ax am tt sK sV qv) (hi : i + 6 ≤ L) {σ τ : IM} (h : RX σ τ) (nx : ∀ σ' τ' : IM, RX σ' τ' → lG p l e s m below meth c b D cA ax am i (enc σ') (enc τ') 1185 []) : lG p l e s m below meth c b D cA ax am i (enc σ) (enc τ) 858 [] := by
  have q := q_late (xs (i + 1)).toInt (xs (i + 2)).toInt (xs (i + 3)).toInt (xs (i + 4)).toInt (mI_rng _) (mI_rng _) (mI_rng _) (mI_rng _) h
  simp only [mI_of] at q
  obtain ⟨r, σ', τ', h1, h2, h3⟩ := q
  refine l_aX X dL_law_858 ?_
  refine l_arg X hi 1 (by decide) (by decide) dL_law_859 dL_law_860 dL_law_861 dL_law_862 dL_law_863 ?_
  refine l_arg X hi 2 (by decide) (by decide) dL_law_864 dL_law_865 dL_law_866 dL_law_867 dL_law_868 ?_
  refine l_arg X hi 3 (by decide) (by decide) dL_law_869 dL_law_870 dL_law_871 dL_law_872 dL_law_873 ?_
  refine l_arg X hi 4 (by decide) (by decide) dL_law_874 dL_law_875 dL_law_876 dL_law_877 dL_law_878 ?_
  refine l_callX X (n := 4) (rest := []) (As := [.int (xs (i + 1)), .int (xs (i + 2)), .int (xs (i + 3)), .int (xs (i + 4))]) h1 (tX6_late X.2.2.2.2.1 (xs (i + 1)) (xs (i + 2)) (xs (i + 3)) (xs (i + 4)) (enc σ)) wc_X6_late wl_L_109 wi_X6_late ws_X6_late rfl (by decide +kernel) ⟨Nat.le_of_ble_eq_true rfl, Nat.le_of_ble_eq_true rfl⟩ ⟨rfl, rfl⟩ rfl rfl (Nat.le_of_ble_eq_true rfl) dL_law_879 ?_
  refine l_aM X dL_law_882 ?_
  refine l_arg X hi 1 (by decide) (by decide) dL_law_883 dL_law_884 dL_law_885 dL_law_886 dL_law_887 ?_
  refine l_arg X hi 2 (by decide) (by decide) dL_law_888 dL_law_889 dL_law_890 dL_law_891 dL_law_892 ?_
  refine l_arg X hi 3 (by decide) (by decide) dL_law_893 dL_law_894 dL_law_895 dL_law_896 dL_law_897 ?_
  refine l_arg X hi 4 (by decide) (by decide) dL_law_898 dL_law_899 dL_law_900 dL_law_901 dL_law_902 ?_
  refine l_callM X (n := 4) (rest := [.int (mI r)]) (As := [.int (xs (i + 1)), .int (xs (i + 2)), .int (xs (i + 3)), .int (xs (i + 4))]) h2 (tX7_late X.2.2.2.2.2.1 (xs (i + 1)) (xs (i + 2)) (xs (i + 3)) (xs (i + 4)) (enc τ)) wc_X7_late wl_L_113 wi_X7_late ws_X7_late rfl (by decide +kernel) ⟨Nat.le_of_ble_eq_true rfl, Nat.le_of_ble_eq_true rfl⟩ ⟨rfl, rfl⟩ rfl rfl (Nat.le_of_ble_eq_true rfl) dL_law_903 ?_
  exact l_eq X dL_law_906 (by decide) (nx _ _ h3)

theorem l_other (X : lC p s m meth c b L xs D cA ax am tt sK sV qv) (hi : i + 6 ≤ L) {σ τ : IM} (h : RX σ τ) (nx : ∀ σ' τ' : IM, RX σ' τ' → lG p l e s m below meth c b D cA ax am i (enc σ') (enc τ') 1185 []) : lG p l e s m below meth c b D cA ax am i (enc σ) (enc τ) 911 [] := by
  have q := q_other (xs (i + 1)).toInt (xs (i + 2)).toInt (mI_rng _) (mI_rng _) h
  simp only [mI_of] at q
  obtain ⟨r, σ', τ', h1, h2, h3⟩ := q
  refine l_aX X dL_law_911 ?_
  refine l_arg X hi 1 (by decide) (by decide) dL_law_912 dL_law_913 dL_law_914 dL_law_915 dL_law_916 ?_
  refine l_arg X hi 2 (by decide) (by decide) dL_law_917 dL_law_918 dL_law_919 dL_law_920 dL_law_921 ?_
  refine l_callX X (n := 2) (rest := []) (As := [.int (xs (i + 1)), .int (xs (i + 2))]) h1 (tX6_other X.2.2.2.2.1 (xs (i + 1)) (xs (i + 2)) (enc σ)) wc_X6_other wl_L_114 wi_X6_other ws_X6_other rfl (by decide +kernel) ⟨Nat.le_of_ble_eq_true rfl, Nat.le_of_ble_eq_true rfl⟩ ⟨rfl, rfl⟩ rfl rfl (Nat.le_of_ble_eq_true rfl) dL_law_922 ?_
  refine l_aM X dL_law_925 ?_
  refine l_arg X hi 1 (by decide) (by decide) dL_law_926 dL_law_927 dL_law_928 dL_law_929 dL_law_930 ?_
  refine l_arg X hi 2 (by decide) (by decide) dL_law_931 dL_law_932 dL_law_933 dL_law_934 dL_law_935 ?_
  refine l_callM X (n := 2) (rest := [.int (mI r)]) (As := [.int (xs (i + 1)), .int (xs (i + 2))]) h2 (tX7_other X.2.2.2.2.2.1 (xs (i + 1)) (xs (i + 2)) (enc τ)) wc_X7_other wl_L_117 wi_X7_other ws_X7_other rfl (by decide +kernel) ⟨Nat.le_of_ble_eq_true rfl, Nat.le_of_ble_eq_true rfl⟩ ⟨rfl, rfl⟩ rfl rfl (Nat.le_of_ble_eq_true rfl) dL_law_936 ?_
  exact l_eq X dL_law_939 (by decide) (nx _ _ h3)

theorem l_image (X : lC p s m meth c b L xs D cA ax am tt sK sV qv) (hi : i + 6 ≤ L) {σ τ : IM} (h : RX σ τ) (nx : ∀ σ' τ' : IM, RX σ' τ' → lG p l e s m below meth c b D cA ax am i (enc σ') (enc τ') 1185 []) : lG p l e s m below meth c b D cA ax am i (enc σ) (enc τ) 944 [] := by
  have q := q_image   h
  obtain ⟨r, σ', τ', h1, h2, h3⟩ := q
  refine l_aX X dL_law_944 ?_
  refine l_callX X (n := 0) (rest := []) (As := []) h1 (tX6_image X.2.2.2.2.1  (enc σ)) wc_X6_image wl_L_118 wi_X6_image ws_X6_image rfl (by decide +kernel) ⟨Nat.le_of_ble_eq_true rfl, Nat.le_of_ble_eq_true rfl⟩ ⟨rfl, rfl⟩ rfl rfl (Nat.le_of_ble_eq_true rfl) dL_law_945 ?_
  refine l_aM X dL_law_948 ?_
  refine l_callM X (n := 0) (rest := [.int (mI r)]) (As := []) h2 (tX7_image X.2.2.2.2.2.1  (enc τ)) wc_X7_image wl_L_121 wi_X7_image ws_X7_image rfl (by decide +kernel) ⟨Nat.le_of_ble_eq_true rfl, Nat.le_of_ble_eq_true rfl⟩ ⟨rfl, rfl⟩ rfl rfl (Nat.le_of_ble_eq_true rfl) dL_law_949 ?_
  exact l_eq X dL_law_952 (by decide) (nx _ _ h3)

theorem l_restore (X : lC p s m meth c b L xs D cA ax am tt sK sV qv) (hi : i + 6 ≤ L) {σ τ : IM} (h : RX σ τ) (nx : ∀ σ' τ' : IM, RX σ' τ' → lG p l e s m below meth c b D cA ax am i (enc σ') (enc τ') 1185 []) : lG p l e s m below meth c b D cA ax am i (enc σ) (enc τ) 957 [] := by
  have q := q_restore   h
  obtain ⟨r, σ', τ', h1, h2, h3⟩ := q
  refine l_aX X dL_law_957 ?_
  refine l_callX X (n := 0) (rest := []) (As := []) h1 (tX6_restore X.2.2.2.2.1  (enc σ)) wc_X6_restore wl_L_122 wi_X6_restore ws_X6_restore rfl (by decide +kernel) ⟨Nat.le_of_ble_eq_true rfl, Nat.le_of_ble_eq_true rfl⟩ ⟨rfl, rfl⟩ rfl rfl (Nat.le_of_ble_eq_true rfl) dL_law_958 ?_
  refine l_aM X dL_law_961 ?_
  refine l_callM X (n := 0) (rest := [.int (mI r)]) (As := []) h2 (tX7_restore X.2.2.2.2.2.1  (enc τ)) wc_X7_restore wl_L_125 wi_X7_restore ws_X7_restore rfl (by decide +kernel) ⟨Nat.le_of_ble_eq_true rfl, Nat.le_of_ble_eq_true rfl⟩ ⟨rfl, rfl⟩ rfl rfl (Nat.le_of_ble_eq_true rfl) dL_law_962 ?_
  exact l_eq X dL_law_965 (by decide) (nx _ _ h3)

theorem l_crowd (X : lC p s m meth c b L xs D cA ax am tt sK sV qv) (hi : i + 6 ≤ L) {σ τ : IM} (h : RX σ τ) (nx : ∀ σ' τ' : IM, RX σ' τ' → lG p l e s m below meth c b D cA ax am i (enc σ') (enc τ') 1185 []) : lG p l e s m below meth c b D cA ax am i (enc σ) (enc τ) 970 [] := by
  have q := q_crowd (xs (i + 1)).toInt (xs (i + 2)).toInt (xs (i + 3)).toInt (xs (i + 4)).toInt (mI_rng _) (mI_rng _) (mI_rng _) (mI_rng _) h
  simp only [mI_of] at q
  obtain ⟨r, σ', τ', h1, h2, h3⟩ := q
  refine l_aX X dL_law_970 ?_
  refine l_arg X hi 1 (by decide) (by decide) dL_law_971 dL_law_972 dL_law_973 dL_law_974 dL_law_975 ?_
  refine l_arg X hi 2 (by decide) (by decide) dL_law_976 dL_law_977 dL_law_978 dL_law_979 dL_law_980 ?_
  refine l_arg X hi 3 (by decide) (by decide) dL_law_981 dL_law_982 dL_law_983 dL_law_984 dL_law_985 ?_
  refine l_arg X hi 4 (by decide) (by decide) dL_law_986 dL_law_987 dL_law_988 dL_law_989 dL_law_990 ?_
  refine l_callX X (n := 4) (rest := []) (As := [.int (xs (i + 1)), .int (xs (i + 2)), .int (xs (i + 3)), .int (xs (i + 4))]) h1 (tX6_crowd X.2.2.2.2.1 (xs (i + 1)) (xs (i + 2)) (xs (i + 3)) (xs (i + 4)) (enc σ)) wc_X6_crowd wl_L_126 wi_X6_crowd ws_X6_crowd rfl (by decide +kernel) ⟨Nat.le_of_ble_eq_true rfl, Nat.le_of_ble_eq_true rfl⟩ ⟨rfl, rfl⟩ rfl rfl (Nat.le_of_ble_eq_true rfl) dL_law_991 ?_
  refine l_aM X dL_law_994 ?_
  refine l_arg X hi 1 (by decide) (by decide) dL_law_995 dL_law_996 dL_law_997 dL_law_998 dL_law_999 ?_
  refine l_arg X hi 2 (by decide) (by decide) dL_law_1000 dL_law_1001 dL_law_1002 dL_law_1003 dL_law_1004 ?_
  refine l_arg X hi 3 (by decide) (by decide) dL_law_1005 dL_law_1006 dL_law_1007 dL_law_1008 dL_law_1009 ?_
  refine l_arg X hi 4 (by decide) (by decide) dL_law_1010 dL_law_1011 dL_law_1012 dL_law_1013 dL_law_1014 ?_
  refine l_callM X (n := 4) (rest := [.int (mI r)]) (As := [.int (xs (i + 1)), .int (xs (i + 2)), .int (xs (i + 3)), .int (xs (i + 4))]) h2 (tX7_crowd X.2.2.2.2.2.1 (xs (i + 1)) (xs (i + 2)) (xs (i + 3)) (xs (i + 4)) (enc τ)) wc_X7_crowd wl_L_129 wi_X7_crowd ws_X7_crowd rfl (by decide +kernel) ⟨Nat.le_of_ble_eq_true rfl, Nat.le_of_ble_eq_true rfl⟩ ⟨rfl, rfl⟩ rfl rfl (Nat.le_of_ble_eq_true rfl) dL_law_1015 ?_
  exact l_eq X dL_law_1018 (by decide) (nx _ _ h3)

theorem l_sheet (X : lC p s m meth c b L xs D cA ax am tt sK sV qv) (hi : i + 6 ≤ L) {σ τ : IM} (h : RX σ τ) (nx : ∀ σ' τ' : IM, RX σ' τ' → lG p l e s m below meth c b D cA ax am i (enc σ') (enc τ') 1185 []) : lG p l e s m below meth c b D cA ax am i (enc σ) (enc τ) 1023 [] := by
  have q := q_sheet (xs (i + 1)).toInt (xs (i + 2)).toInt (xs (i + 3)).toInt (mI_rng _) (mI_rng _) (mI_rng _) h
  simp only [mI_of] at q
  obtain ⟨r, σ', τ', h1, h2, h3⟩ := q
  refine l_aX X dL_law_1023 ?_
  refine l_arg X hi 1 (by decide) (by decide) dL_law_1024 dL_law_1025 dL_law_1026 dL_law_1027 dL_law_1028 ?_
  refine l_arg X hi 2 (by decide) (by decide) dL_law_1029 dL_law_1030 dL_law_1031 dL_law_1032 dL_law_1033 ?_
  refine l_arg X hi 3 (by decide) (by decide) dL_law_1034 dL_law_1035 dL_law_1036 dL_law_1037 dL_law_1038 ?_
  refine l_callX X (n := 3) (rest := []) (As := [.int (xs (i + 1)), .int (xs (i + 2)), .int (xs (i + 3))]) h1 (tX6_sheet X.2.2.2.2.1 (xs (i + 1)) (xs (i + 2)) (xs (i + 3)) (enc σ)) wc_X6_sheet wl_L_130 wi_X6_sheet ws_X6_sheet rfl (by decide +kernel) ⟨Nat.le_of_ble_eq_true rfl, Nat.le_of_ble_eq_true rfl⟩ ⟨rfl, rfl⟩ rfl rfl (Nat.le_of_ble_eq_true rfl) dL_law_1039 ?_
  refine l_aM X dL_law_1042 ?_
  refine l_arg X hi 1 (by decide) (by decide) dL_law_1043 dL_law_1044 dL_law_1045 dL_law_1046 dL_law_1047 ?_
  refine l_arg X hi 2 (by decide) (by decide) dL_law_1048 dL_law_1049 dL_law_1050 dL_law_1051 dL_law_1052 ?_
  refine l_arg X hi 3 (by decide) (by decide) dL_law_1053 dL_law_1054 dL_law_1055 dL_law_1056 dL_law_1057 ?_
  refine l_callM X (n := 3) (rest := [.int (mI r)]) (As := [.int (xs (i + 1)), .int (xs (i + 2)), .int (xs (i + 3))]) h2 (tX7_sheet X.2.2.2.2.2.1 (xs (i + 1)) (xs (i + 2)) (xs (i + 3)) (enc τ)) wc_X7_sheet wl_L_133 wi_X7_sheet ws_X7_sheet rfl (by decide +kernel) ⟨Nat.le_of_ble_eq_true rfl, Nat.le_of_ble_eq_true rfl⟩ ⟨rfl, rfl⟩ rfl rfl (Nat.le_of_ble_eq_true rfl) dL_law_1058 ?_
  exact l_eq X dL_law_1061 (by decide) (nx _ _ h3)

theorem l_drop (X : lC p s m meth c b L xs D cA ax am tt sK sV qv) (hi : i + 6 ≤ L) {σ τ : IM} (h : RX σ τ) (nx : ∀ σ' τ' : IM, RX σ' τ' → lG p l e s m below meth c b D cA ax am i (enc σ') (enc τ') 1185 []) : lG p l e s m below meth c b D cA ax am i (enc σ) (enc τ) 1066 [] := by
  have q := q_drop (xs (i + 1)).toInt (mI_rng _) h
  simp only [mI_of] at q
  obtain ⟨r, σ', τ', h1, h2, h3⟩ := q
  refine l_aX X dL_law_1066 ?_
  refine l_arg X hi 1 (by decide) (by decide) dL_law_1067 dL_law_1068 dL_law_1069 dL_law_1070 dL_law_1071 ?_
  refine l_callX X (n := 1) (rest := []) (As := [.int (xs (i + 1))]) h1 (tX6_drop X.2.2.2.2.1 (xs (i + 1)) (enc σ)) wc_X6_drop wl_L_134 wi_X6_drop ws_X6_drop rfl (by decide +kernel) ⟨Nat.le_of_ble_eq_true rfl, Nat.le_of_ble_eq_true rfl⟩ ⟨rfl, rfl⟩ rfl rfl (Nat.le_of_ble_eq_true rfl) dL_law_1072 ?_
  refine l_aM X dL_law_1075 ?_
  refine l_arg X hi 1 (by decide) (by decide) dL_law_1076 dL_law_1077 dL_law_1078 dL_law_1079 dL_law_1080 ?_
  refine l_callM X (n := 1) (rest := [.int (mI r)]) (As := [.int (xs (i + 1))]) h2 (tX7_drop X.2.2.2.2.2.1 (xs (i + 1)) (enc τ)) wc_X7_drop wl_L_137 wi_X7_drop ws_X7_drop rfl (by decide +kernel) ⟨Nat.le_of_ble_eq_true rfl, Nat.le_of_ble_eq_true rfl⟩ ⟨rfl, rfl⟩ rfl rfl (Nat.le_of_ble_eq_true rfl) dL_law_1081 ?_
  exact l_eq X dL_law_1084 (by decide) (nx _ _ h3)

theorem l_item (X : lC p s m meth c b L xs D cA ax am tt sK sV qv) (hi : i + 6 ≤ L) {σ τ : IM} (h : RX σ τ) (nx : ∀ σ' τ' : IM, RX σ' τ' → lG p l e s m below meth c b D cA ax am i (enc σ') (enc τ') 1185 []) : lG p l e s m below meth c b D cA ax am i (enc σ) (enc τ) 1089 [] := by
  have q := q_item (xs (i + 1)).toInt (xs (i + 2)).toInt (xs (i + 3)).toInt (xs (i + 4)).toInt (mI_rng _) (mI_rng _) (mI_rng _) (mI_rng _) h
  simp only [mI_of] at q
  obtain ⟨r, σ', τ', h1, h2, h3⟩ := q
  refine l_aX X dL_law_1089 ?_
  refine l_arg X hi 1 (by decide) (by decide) dL_law_1090 dL_law_1091 dL_law_1092 dL_law_1093 dL_law_1094 ?_
  refine l_arg X hi 2 (by decide) (by decide) dL_law_1095 dL_law_1096 dL_law_1097 dL_law_1098 dL_law_1099 ?_
  refine l_arg X hi 3 (by decide) (by decide) dL_law_1100 dL_law_1101 dL_law_1102 dL_law_1103 dL_law_1104 ?_
  refine l_arg X hi 4 (by decide) (by decide) dL_law_1105 dL_law_1106 dL_law_1107 dL_law_1108 dL_law_1109 ?_
  refine l_callX X (n := 4) (rest := []) (As := [.int (xs (i + 1)), .int (xs (i + 2)), .int (xs (i + 3)), .int (xs (i + 4))]) h1 (tX6_item X.2.2.2.2.1 (xs (i + 1)) (xs (i + 2)) (xs (i + 3)) (xs (i + 4)) (enc σ)) wc_X6_item wl_L_138 wi_X6_item ws_X6_item rfl (by decide +kernel) ⟨Nat.le_of_ble_eq_true rfl, Nat.le_of_ble_eq_true rfl⟩ ⟨rfl, rfl⟩ rfl rfl (Nat.le_of_ble_eq_true rfl) dL_law_1110 ?_
  refine l_aM X dL_law_1113 ?_
  refine l_arg X hi 1 (by decide) (by decide) dL_law_1114 dL_law_1115 dL_law_1116 dL_law_1117 dL_law_1118 ?_
  refine l_arg X hi 2 (by decide) (by decide) dL_law_1119 dL_law_1120 dL_law_1121 dL_law_1122 dL_law_1123 ?_
  refine l_arg X hi 3 (by decide) (by decide) dL_law_1124 dL_law_1125 dL_law_1126 dL_law_1127 dL_law_1128 ?_
  refine l_arg X hi 4 (by decide) (by decide) dL_law_1129 dL_law_1130 dL_law_1131 dL_law_1132 dL_law_1133 ?_
  refine l_callM X (n := 4) (rest := [.int (mI r)]) (As := [.int (xs (i + 1)), .int (xs (i + 2)), .int (xs (i + 3)), .int (xs (i + 4))]) h2 (tX7_item X.2.2.2.2.2.1 (xs (i + 1)) (xs (i + 2)) (xs (i + 3)) (xs (i + 4)) (enc τ)) wc_X7_item wl_L_141 wi_X7_item ws_X7_item rfl (by decide +kernel) ⟨Nat.le_of_ble_eq_true rfl, Nat.le_of_ble_eq_true rfl⟩ ⟨rfl, rfl⟩ rfl rfl (Nat.le_of_ble_eq_true rfl) dL_law_1134 ?_
  exact l_eq X dL_law_1137 (by decide) (nx _ _ h3)

theorem l_film (X : lC p s m meth c b L xs D cA ax am tt sK sV qv) (hi : i + 6 ≤ L) {σ τ : IM} (h : RX σ τ) (nx : ∀ σ' τ' : IM, RX σ' τ' → lG p l e s m below meth c b D cA ax am i (enc σ') (enc τ') 1185 []) : lG p l e s m below meth c b D cA ax am i (enc σ) (enc τ) 1142 [] := by
  have q := q_film (xs (i + 1)).toInt (xs (i + 2)).toInt (xs (i + 3)).toInt (mI_rng _) (mI_rng _) (mI_rng _) h
  simp only [mI_of] at q
  obtain ⟨r, σ', τ', h1, h2, h3⟩ := q
  refine l_aX X dL_law_1142 ?_
  refine l_arg X hi 1 (by decide) (by decide) dL_law_1143 dL_law_1144 dL_law_1145 dL_law_1146 dL_law_1147 ?_
  refine l_arg X hi 2 (by decide) (by decide) dL_law_1148 dL_law_1149 dL_law_1150 dL_law_1151 dL_law_1152 ?_
  refine l_arg X hi 3 (by decide) (by decide) dL_law_1153 dL_law_1154 dL_law_1155 dL_law_1156 dL_law_1157 ?_
  refine l_callX X (n := 3) (rest := []) (As := [.int (xs (i + 1)), .int (xs (i + 2)), .int (xs (i + 3))]) h1 (tX6_film X.2.2.2.2.1 (xs (i + 1)) (xs (i + 2)) (xs (i + 3)) (enc σ)) wc_X6_film wl_L_142 wi_X6_film ws_X6_film rfl (by decide +kernel) ⟨Nat.le_of_ble_eq_true rfl, Nat.le_of_ble_eq_true rfl⟩ ⟨rfl, rfl⟩ rfl rfl (Nat.le_of_ble_eq_true rfl) dL_law_1158 ?_
  refine l_aM X dL_law_1161 ?_
  refine l_arg X hi 1 (by decide) (by decide) dL_law_1162 dL_law_1163 dL_law_1164 dL_law_1165 dL_law_1166 ?_
  refine l_arg X hi 2 (by decide) (by decide) dL_law_1167 dL_law_1168 dL_law_1169 dL_law_1170 dL_law_1171 ?_
  refine l_arg X hi 3 (by decide) (by decide) dL_law_1172 dL_law_1173 dL_law_1174 dL_law_1175 dL_law_1176 ?_
  refine l_callM X (n := 3) (rest := [.int (mI r)]) (As := [.int (xs (i + 1)), .int (xs (i + 2)), .int (xs (i + 3))]) h2 (tX7_film X.2.2.2.2.2.1 (xs (i + 1)) (xs (i + 2)) (xs (i + 3)) (enc τ)) wc_X7_film wl_L_145 wi_X7_film ws_X7_film rfl (by decide +kernel) ⟨Nat.le_of_ble_eq_true rfl, Nat.le_of_ble_eq_true rfl⟩ ⟨rfl, rfl⟩ rfl rfl (Nat.le_of_ble_eq_true rfl) dL_law_1177 ?_
  exact l_eq X dL_law_1180 (by decide) (nx _ _ h3)

end LCASE
