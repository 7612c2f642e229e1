/-! THE LAW: call by call -/
theorem lc_state {E : EL} {V : VL} {σ τ : St} {i : Nat} (X : CxL E V) (hi : i + 6 ≤ V.2.1) (h : Rl σ τ) (k : ∀ σ1 τ1, Rl σ1 τ1 → AtL E V σ1 τ1 1548 (LL V i) []) : AtL E V σ τ 216 (LL V i) [] := by
  obtain ⟨r, σ1, τ1, e1, e2, hr1⟩ : ∃ r σ1 τ1, fX11_state (xV V (i + 1)) σ = some (r, σ1) ∧ fX12_state (xV V (i + 1)) τ = some (r, τ1) ∧ Rl σ1 τ1 := by
    have hs : Sim (fX11_state (xV V (i + 1)) σ) (fX12_state (xV V (i + 1)) τ) := s_state h 
    obtain ⟨r, σ1, e1, r2, τ1, e2, er, hr1⟩ := hs
    exact ⟨r, σ1, τ1, e1, by rw [e2, er], hr1⟩
  refine l_aload X 1 dL_law_216 rfl ?_
  refine l_arg X 1 (by decide) hi dL_law_217 dL_law_218 dL_law_219 dL_law_220 dL_law_221 ?_
  refine l_callX X dL_law_222 q_669 wX11_state sx_0 rfl ⟨Nat.le_of_ble_eq_true rfl, Nat.le_of_ble_eq_true rfl⟩ [.int (pI (xV V (i + 1)))] [] rfl rfl (Nat.le_of_ble_eq_true rfl) (ct_X11_state (xV V (i + 1)) (int_rg _) (gX V) _ _ _ e1) ?_
  refine l_aload X 2 dL_law_225 rfl ?_
  refine l_arg X 1 (by decide) hi dL_law_226 dL_law_227 dL_law_228 dL_law_229 dL_law_230 ?_
  refine l_callM X dL_law_231 q_1814 wX12_state sm_0 rfl ⟨Nat.le_of_ble_eq_true rfl, Nat.le_of_ble_eq_true rfl⟩ [.int (pI (xV V (i + 1)))] [.int (pI r)] rfl rfl (Nat.le_of_ble_eq_true rfl) (ct_X12_state (xV V (i + 1)) (int_rg _) (gM V) _ _ _ e2) ?_
  refine l_eq (tgt := 1548) X dL_law_234 (by decide) ?_
  exact k σ1 τ1 hr1
theorem lc_porch {E : EL} {V : VL} {σ τ : St} {i : Nat} (X : CxL E V) (hi : i + 6 ≤ V.2.1) (h : Rl σ τ) (k : ∀ σ1 τ1, Rl σ1 τ1 → AtL E V σ1 τ1 1548 (LL V i) []) : AtL E V σ τ 239 (LL V i) [] := by
  obtain ⟨r, σ1, τ1, e1, e2, hr1⟩ : ∃ r σ1 τ1, fX11_porch (xV V (i + 1)) (xV V (i + 2)) σ = some (r, σ1) ∧ fX12_porch (xV V (i + 1)) (xV V (i + 2)) τ = some (r, τ1) ∧ Rl σ1 τ1 := by
    have hs : Sim (fX11_porch (xV V (i + 1)) (xV V (i + 2)) σ) (fX12_porch (xV V (i + 1)) (xV V (i + 2)) τ) := s_porch h 
    obtain ⟨r, σ1, e1, r2, τ1, e2, er, hr1⟩ := hs
    exact ⟨r, σ1, τ1, e1, by rw [e2, er], hr1⟩
  refine l_aload X 1 dL_law_239 rfl ?_
  refine l_arg X 1 (by decide) hi dL_law_240 dL_law_241 dL_law_242 dL_law_243 dL_law_244 ?_
  refine l_arg X 2 (by decide) hi dL_law_245 dL_law_246 dL_law_247 dL_law_248 dL_law_249 ?_
  refine l_callX X dL_law_250 q_677 wX11_porch sx_0 rfl ⟨Nat.le_of_ble_eq_true rfl, Nat.le_of_ble_eq_true rfl⟩ [.int (pI (xV V (i + 1))), .int (pI (xV V (i + 2)))] [] rfl rfl (Nat.le_of_ble_eq_true rfl) (ct_X11_porch (xV V (i + 1)) (xV V (i + 2)) (int_rg _) (int_rg _) (gX V) _ _ _ e1) ?_
  refine l_aload X 2 dL_law_253 rfl ?_
  refine l_arg X 1 (by decide) hi dL_law_254 dL_law_255 dL_law_256 dL_law_257 dL_law_258 ?_
  refine l_arg X 2 (by decide) hi dL_law_259 dL_law_260 dL_law_261 dL_law_262 dL_law_263 ?_
  refine l_callM X dL_law_264 q_1818 wX12_porch sm_0 rfl ⟨Nat.le_of_ble_eq_true rfl, Nat.le_of_ble_eq_true rfl⟩ [.int (pI (xV V (i + 1))), .int (pI (xV V (i + 2)))] [.int (pI r)] rfl rfl (Nat.le_of_ble_eq_true rfl) (ct_X12_porch (xV V (i + 1)) (xV V (i + 2)) (int_rg _) (int_rg _) (gM V) _ _ _ e2) ?_
  refine l_eq (tgt := 1548) X dL_law_267 (by decide) ?_
  exact k σ1 τ1 hr1
theorem lc_person {E : EL} {V : VL} {σ τ : St} {i : Nat} (X : CxL E V) (hi : i + 6 ≤ V.2.1) (h : Rl σ τ) (k : ∀ σ1 τ1, Rl σ1 τ1 → AtL E V σ1 τ1 1548 (LL V i) []) : AtL E V σ τ 272 (LL V i) [] := by
  obtain ⟨r, σ1, τ1, e1, e2, hr1⟩ : ∃ r σ1 τ1, fX11_person (xV V (i + 1)) (xV V (i + 2)) σ = some (r, σ1) ∧ fX12_person (xV V (i + 1)) (xV V (i + 2)) τ = some (r, τ1) ∧ Rl σ1 τ1 := by
    have hs : Sim (fX11_person (xV V (i + 1)) (xV V (i + 2)) σ) (fX12_person (xV V (i + 1)) (xV V (i + 2)) τ) := s_person h 
    obtain ⟨r, σ1, e1, r2, τ1, e2, er, hr1⟩ := hs
    exact ⟨r, σ1, τ1, e1, by rw [e2, er], hr1⟩
  refine l_aload X 1 dL_law_272 rfl ?_
  refine l_arg X 1 (by decide) hi dL_law_273 dL_law_274 dL_law_275 dL_law_276 dL_law_277 ?_
  refine l_arg X 2 (by decide) hi dL_law_278 dL_law_279 dL_law_280 dL_law_281 dL_law_282 ?_
  refine l_callX X dL_law_283 q_688 wX11_person sx_0 rfl ⟨Nat.le_of_ble_eq_true rfl, Nat.le_of_ble_eq_true rfl⟩ [.int (pI (xV V (i + 1))), .int (pI (xV V (i + 2)))] [] rfl rfl (Nat.le_of_ble_eq_true rfl) (ct_X11_person (xV V (i + 1)) (xV V (i + 2)) (int_rg _) (int_rg _) (gX V) _ _ _ e1) ?_
  refine l_aload X 2 dL_law_286 rfl ?_
  refine l_arg X 1 (by decide) hi dL_law_287 dL_law_288 dL_law_289 dL_law_290 dL_law_291 ?_
  refine l_arg X 2 (by decide) hi dL_law_292 dL_law_293 dL_law_294 dL_law_295 dL_law_296 ?_
  refine l_callM X dL_law_297 q_1826 wX12_person sm_0 rfl ⟨Nat.le_of_ble_eq_true rfl, Nat.le_of_ble_eq_true rfl⟩ [.int (pI (xV V (i + 1))), .int (pI (xV V (i + 2)))] [.int (pI r)] rfl rfl (Nat.le_of_ble_eq_true rfl) (ct_X12_person (xV V (i + 1)) (xV V (i + 2)) (int_rg _) (int_rg _) (gM V) _ _ _ e2) ?_
  refine l_eq (tgt := 1548) X dL_law_300 (by decide) ?_
  exact k σ1 τ1 hr1
theorem lc_set {E : EL} {V : VL} {σ τ : St} {i : Nat} (X : CxL E V) (hi : i + 6 ≤ V.2.1) (h : Rl σ τ) (k : ∀ σ1 τ1, Rl σ1 τ1 → AtL E V σ1 τ1 1548 (LL V i) []) : AtL E V σ τ 305 (LL V i) [] := by
  obtain ⟨r, σ1, τ1, e1, e2, hr1⟩ : ∃ r σ1 τ1, fX11_set (xV V (i + 1)) (xV V (i + 2)) (xV V (i + 3)) σ = some (r, σ1) ∧ fX12_set (xV V (i + 1)) (xV V (i + 2)) (xV V (i + 3)) τ = some (r, τ1) ∧ Rl σ1 τ1 := by
    have hs : Sim (fX11_set (xV V (i + 1)) (xV V (i + 2)) (xV V (i + 3)) σ) (fX12_set (xV V (i + 1)) (xV V (i + 2)) (xV V (i + 3)) τ) := s_set h (int_rg _)
    obtain ⟨r, σ1, e1, r2, τ1, e2, er, hr1⟩ := hs
    exact ⟨r, σ1, τ1, e1, by rw [e2, er], hr1⟩
  refine l_aload X 1 dL_law_305 rfl ?_
  refine l_arg X 1 (by decide) hi dL_law_306 dL_law_307 dL_law_308 dL_law_309 dL_law_310 ?_
  refine l_arg X 2 (by decide) hi dL_law_311 dL_law_312 dL_law_313 dL_law_314 dL_law_315 ?_
  refine l_arg X 3 (by decide) hi dL_law_316 dL_law_317 dL_law_318 dL_law_319 dL_law_320 ?_
  refine l_callX X dL_law_321 q_696 wX11_set sx_0 rfl ⟨Nat.le_of_ble_eq_true rfl, Nat.le_of_ble_eq_true rfl⟩ [.int (pI (xV V (i + 1))), .int (pI (xV V (i + 2))), .int (pI (xV V (i + 3)))] [] rfl rfl (Nat.le_of_ble_eq_true rfl) (ct_X11_set (xV V (i + 1)) (xV V (i + 2)) (xV V (i + 3)) (int_rg _) (int_rg _) (int_rg _) (gX V) _ _ _ e1) ?_
  refine l_aload X 2 dL_law_324 rfl ?_
  refine l_arg X 1 (by decide) hi dL_law_325 dL_law_326 dL_law_327 dL_law_328 dL_law_329 ?_
  refine l_arg X 2 (by decide) hi dL_law_330 dL_law_331 dL_law_332 dL_law_333 dL_law_334 ?_
  refine l_arg X 3 (by decide) hi dL_law_335 dL_law_336 dL_law_337 dL_law_338 dL_law_339 ?_
  refine l_callM X dL_law_340 q_1830 wX12_set sm_0 rfl ⟨Nat.le_of_ble_eq_true rfl, Nat.le_of_ble_eq_true rfl⟩ [.int (pI (xV V (i + 1))), .int (pI (xV V (i + 2))), .int (pI (xV V (i + 3)))] [.int (pI r)] rfl rfl (Nat.le_of_ble_eq_true rfl) (ct_X12_set (xV V (i + 1)) (xV V (i + 2)) (xV V (i + 3)) (int_rg _) (int_rg _) (int_rg _) (gM V) _ _ _ e2) ?_
  refine l_eq (tgt := 1548) X dL_law_343 (by decide) ?_
  exact k σ1 τ1 hr1
theorem lc_act {E : EL} {V : VL} {σ τ : St} {i : Nat} (X : CxL E V) (hi : i + 6 ≤ V.2.1) (h : Rl σ τ) (k : ∀ σ1 τ1, Rl σ1 τ1 → AtL E V σ1 τ1 1548 (LL V i) []) : AtL E V σ τ 348 (LL V i) [] := by
  obtain ⟨r, σ1, τ1, e1, e2, hr1⟩ : ∃ r σ1 τ1, fX11_act (xV V (i + 1)) (xV V (i + 2)) (xV V (i + 3)) σ = some (r, σ1) ∧ fX12_act (xV V (i + 1)) (xV V (i + 2)) (xV V (i + 3)) τ = some (r, τ1) ∧ Rl σ1 τ1 := by
    have hs : Sim (fX11_act (xV V (i + 1)) (xV V (i + 2)) (xV V (i + 3)) σ) (fX12_act (xV V (i + 1)) (xV V (i + 2)) (xV V (i + 3)) τ) := s_act h 
    obtain ⟨r, σ1, e1, r2, τ1, e2, er, hr1⟩ := hs
    exact ⟨r, σ1, τ1, e1, by rw [e2, er], hr1⟩
  refine l_aload X 1 dL_law_348 rfl ?_
  refine l_arg X 1 (by decide) hi dL_law_349 dL_law_350 dL_law_351 dL_law_352 dL_law_353 ?_
  refine l_arg X 2 (by decide) hi dL_law_354 dL_law_355 dL_law_356 dL_law_357 dL_law_358 ?_
  refine l_arg X 3 (by decide) hi dL_law_359 dL_law_360 dL_law_361 dL_law_362 dL_law_363 ?_
  refine l_callX X dL_law_364 q_716 wX11_act sx_0 rfl ⟨Nat.le_of_ble_eq_true rfl, Nat.le_of_ble_eq_true rfl⟩ [.int (pI (xV V (i + 1))), .int (pI (xV V (i + 2))), .int (pI (xV V (i + 3)))] [] rfl rfl (Nat.le_of_ble_eq_true rfl) (ct_X11_act (xV V (i + 1)) (xV V (i + 2)) (xV V (i + 3)) (int_rg _) (int_rg _) (int_rg _) (gX V) _ _ _ e1) ?_
  refine l_aload X 2 dL_law_367 rfl ?_
  refine l_arg X 1 (by decide) hi dL_law_368 dL_law_369 dL_law_370 dL_law_371 dL_law_372 ?_
  refine l_arg X 2 (by decide) hi dL_law_373 dL_law_374 dL_law_375 dL_law_376 dL_law_377 ?_
  refine l_arg X 3 (by decide) hi dL_law_378 dL_law_379 dL_law_380 dL_law_381 dL_law_382 ?_
  refine l_callM X dL_law_383 q_1998 wX12_act sm_0 rfl ⟨Nat.le_of_ble_eq_true rfl, Nat.le_of_ble_eq_true rfl⟩ [.int (pI (xV V (i + 1))), .int (pI (xV V (i + 2))), .int (pI (xV V (i + 3)))] [.int (pI r)] rfl rfl (Nat.le_of_ble_eq_true rfl) (ct_X12_act (xV V (i + 1)) (xV V (i + 2)) (xV V (i + 3)) (int_rg _) (int_rg _) (int_rg _) (gM V) _ _ _ e2) ?_
  refine l_eq (tgt := 1548) X dL_law_386 (by decide) ?_
  exact k σ1 τ1 hr1
theorem lc_minutes {E : EL} {V : VL} {σ τ : St} {i : Nat} (X : CxL E V) (hi : i + 6 ≤ V.2.1) (h : Rl σ τ) (k : ∀ σ1 τ1, Rl σ1 τ1 → AtL E V σ1 τ1 1548 (LL V i) []) : AtL E V σ τ 391 (LL V i) [] := by
  obtain ⟨r, σ1, τ1, e1, e2, hr1⟩ : ∃ r σ1 τ1, fX11_minutes (xV V (i + 1)) σ = some (r, σ1) ∧ fX12_minutes (xV V (i + 1)) τ = some (r, τ1) ∧ Rl σ1 τ1 := by
    have hs : Sim (fX11_minutes (xV V (i + 1)) σ) (fX12_minutes (xV V (i + 1)) τ) := s_minutes h 
    obtain ⟨r, σ1, e1, r2, τ1, e2, er, hr1⟩ := hs
    exact ⟨r, σ1, τ1, e1, by rw [e2, er], hr1⟩
  refine l_aload X 1 dL_law_391 rfl ?_
  refine l_arg X 1 (by decide) hi dL_law_392 dL_law_393 dL_law_394 dL_law_395 dL_law_396 ?_
  refine l_callX X dL_law_397 q_779 wX11_minutes sx_0 rfl ⟨Nat.le_of_ble_eq_true rfl, Nat.le_of_ble_eq_true rfl⟩ [.int (pI (xV V (i + 1)))] [] rfl rfl (Nat.le_of_ble_eq_true rfl) (ct_X11_minutes (xV V (i + 1)) (int_rg _) (gX V) _ _ _ e1) ?_
  refine l_aload X 2 dL_law_400 rfl ?_
  refine l_arg X 1 (by decide) hi dL_law_401 dL_law_402 dL_law_403 dL_law_404 dL_law_405 ?_
  refine l_callM X dL_law_406 q_2046 wX12_minutes sm_0 rfl ⟨Nat.le_of_ble_eq_true rfl, Nat.le_of_ble_eq_true rfl⟩ [.int (pI (xV V (i + 1)))] [.int (pI r)] rfl rfl (Nat.le_of_ble_eq_true rfl) (ct_X12_minutes (xV V (i + 1)) (int_rg _) (gM V) _ _ _ e2) ?_
  refine l_eq (tgt := 1548) X dL_law_409 (by decide) ?_
  exact k σ1 τ1 hr1
theorem lc_feed {E : EL} {V : VL} {σ τ : St} {i : Nat} (X : CxL E V) (hi : i + 6 ≤ V.2.1) (h : Rl σ τ) (k : ∀ σ1 τ1, Rl σ1 τ1 → AtL E V σ1 τ1 1548 (LL V i) []) : AtL E V σ τ 414 (LL V i) [] := by
  obtain ⟨r, σ1, τ1, e1, e2, hr1⟩ : ∃ r σ1 τ1, fX11_feed (xV V (i + 1)) (xV V (i + 2)) (xV V (i + 3)) (xV V (i + 4)) (xV V (i + 5)) σ = some (r, σ1) ∧ fX12_feed (xV V (i + 1)) (xV V (i + 2)) (xV V (i + 3)) (xV V (i + 4)) (xV V (i + 5)) τ = some (r, τ1) ∧ Rl σ1 τ1 := by
    have hs : Sim (fX11_feed (xV V (i + 1)) (xV V (i + 2)) (xV V (i + 3)) (xV V (i + 4)) (xV V (i + 5)) σ) (fX12_feed (xV V (i + 1)) (xV V (i + 2)) (xV V (i + 3)) (xV V (i + 4)) (xV V (i + 5)) τ) := s_feed h 
    obtain ⟨r, σ1, e1, r2, τ1, e2, er, hr1⟩ := hs
    exact ⟨r, σ1, τ1, e1, by rw [e2, er], hr1⟩
  refine l_aload X 1 dL_law_414 rfl ?_
  refine l_arg X 1 (by decide) hi dL_law_415 dL_law_416 dL_law_417 dL_law_418 dL_law_419 ?_
  refine l_arg X 2 (by decide) hi dL_law_420 dL_law_421 dL_law_422 dL_law_423 dL_law_424 ?_
  refine l_arg X 3 (by decide) hi dL_law_425 dL_law_426 dL_law_427 dL_law_428 dL_law_429 ?_
  refine l_arg X 4 (by decide) hi dL_law_430 dL_law_431 dL_law_432 dL_law_433 dL_law_434 ?_
  refine l_arg X 5 (by decide) hi dL_law_435 dL_law_436 dL_law_437 dL_law_438 dL_law_439 ?_
  refine l_callX X dL_law_440 q_883 wX11_feed sx_0 rfl ⟨Nat.le_of_ble_eq_true rfl, Nat.le_of_ble_eq_true rfl⟩ [.int (pI (xV V (i + 1))), .int (pI (xV V (i + 2))), .int (pI (xV V (i + 3))), .int (pI (xV V (i + 4))), .int (pI (xV V (i + 5)))] [] rfl rfl (Nat.le_of_ble_eq_true rfl) (ct_X11_feed (xV V (i + 1)) (xV V (i + 2)) (xV V (i + 3)) (xV V (i + 4)) (xV V (i + 5)) (int_rg _) (int_rg _) (int_rg _) (int_rg _) (int_rg _) (gX V) _ _ _ e1) ?_
  refine l_aload X 2 dL_law_443 rfl ?_
  refine l_arg X 1 (by decide) hi dL_law_444 dL_law_445 dL_law_446 dL_law_447 dL_law_448 ?_
  refine l_arg X 2 (by decide) hi dL_law_449 dL_law_450 dL_law_451 dL_law_452 dL_law_453 ?_
  refine l_arg X 3 (by decide) hi dL_law_454 dL_law_455 dL_law_456 dL_law_457 dL_law_458 ?_
  refine l_arg X 4 (by decide) hi dL_law_459 dL_law_460 dL_law_461 dL_law_462 dL_law_463 ?_
  refine l_arg X 5 (by decide) hi dL_law_464 dL_law_465 dL_law_466 dL_law_467 dL_law_468 ?_
  refine l_callM X dL_law_469 q_1846 wX12_feed sm_0 rfl ⟨Nat.le_of_ble_eq_true rfl, Nat.le_of_ble_eq_true rfl⟩ [.int (pI (xV V (i + 1))), .int (pI (xV V (i + 2))), .int (pI (xV V (i + 3))), .int (pI (xV V (i + 4))), .int (pI (xV V (i + 5)))] [.int (pI r)] rfl rfl (Nat.le_of_ble_eq_true rfl) (ct_X12_feed (xV V (i + 1)) (xV V (i + 2)) (xV V (i + 3)) (xV V (i + 4)) (xV V (i + 5)) (int_rg _) (int_rg _) (int_rg _) (int_rg _) (int_rg _) (gM V) _ _ _ e2) ?_
  refine l_eq (tgt := 1548) X dL_law_472 (by decide) ?_
  exact k σ1 τ1 hr1
theorem lc_end {E : EL} {V : VL} {σ τ : St} {i : Nat} (X : CxL E V) (hi : i + 6 ≤ V.2.1) (h : Rl σ τ) (k : ∀ σ1 τ1, Rl σ1 τ1 → AtL E V σ1 τ1 1548 (LL V i) []) : AtL E V σ τ 477 (LL V i) [] := by
  obtain ⟨r, σ1, τ1, e1, e2, hr1⟩ : ∃ r σ1 τ1, fX11_end (xV V (i + 1)) σ = some (r, σ1) ∧ fX12_end (xV V (i + 1)) τ = some (r, τ1) ∧ Rl σ1 τ1 := by
    have hs : Sim (fX11_end (xV V (i + 1)) σ) (fX12_end (xV V (i + 1)) τ) := s_end h 
    obtain ⟨r, σ1, e1, r2, τ1, e2, er, hr1⟩ := hs
    exact ⟨r, σ1, τ1, e1, by rw [e2, er], hr1⟩
  refine l_aload X 1 dL_law_477 rfl ?_
  refine l_arg X 1 (by decide) hi dL_law_478 dL_law_479 dL_law_480 dL_law_481 dL_law_482 ?_
  refine l_callX X dL_law_483 q_900 wX11_end sx_0 rfl ⟨Nat.le_of_ble_eq_true rfl, Nat.le_of_ble_eq_true rfl⟩ [.int (pI (xV V (i + 1)))] [] rfl rfl (Nat.le_of_ble_eq_true rfl) (ct_X11_end (xV V (i + 1)) (int_rg _) (gX V) _ _ _ e1) ?_
  refine l_aload X 2 dL_law_486 rfl ?_
  refine l_arg X 1 (by decide) hi dL_law_487 dL_law_488 dL_law_489 dL_law_490 dL_law_491 ?_
  refine l_callM X dL_law_492 q_1854 wX12_end sm_0 rfl ⟨Nat.le_of_ble_eq_true rfl, Nat.le_of_ble_eq_true rfl⟩ [.int (pI (xV V (i + 1)))] [.int (pI r)] rfl rfl (Nat.le_of_ble_eq_true rfl) (ct_X12_end (xV V (i + 1)) (int_rg _) (gM V) _ _ _ e2) ?_
  refine l_eq (tgt := 1548) X dL_law_495 (by decide) ?_
  exact k σ1 τ1 hr1
theorem lc_text {E : EL} {V : VL} {σ τ : St} {i : Nat} (X : CxL E V) (hi : i + 6 ≤ V.2.1) (h : Rl σ τ) (k : ∀ σ1 τ1, Rl σ1 τ1 → AtL E V σ1 τ1 1548 (LL V i) []) : AtL E V σ τ 500 (LL V i) [] := by
  obtain ⟨r, σ1, τ1, e1, e2, hr1⟩ : ∃ r σ1 τ1, fX11_text (xV V (i + 1)) σ = some (r, σ1) ∧ fX12_text (xV V (i + 1)) τ = some (r, τ1) ∧ Rl σ1 τ1 := by
    have hs : Sim (fX11_text (xV V (i + 1)) σ) (fX12_text (xV V (i + 1)) τ) := s_text h 
    obtain ⟨r, σ1, e1, r2, τ1, e2, er, hr1⟩ := hs
    exact ⟨r, σ1, τ1, e1, by rw [e2, er], hr1⟩
  refine l_aload X 1 dL_law_500 rfl ?_
  refine l_arg X 1 (by decide) hi dL_law_501 dL_law_502 dL_law_503 dL_law_504 dL_law_505 ?_
  refine l_callX X dL_law_506 q_908 wX11_text sx_0 rfl ⟨Nat.le_of_ble_eq_true rfl, Nat.le_of_ble_eq_true rfl⟩ [.int (pI (xV V (i + 1)))] [] rfl rfl (Nat.le_of_ble_eq_true rfl) (ct_X11_text (xV V (i + 1)) (int_rg _) (gX V) _ _ _ e1) ?_
  refine l_aload X 2 dL_law_509 rfl ?_
  refine l_arg X 1 (by decide) hi dL_law_510 dL_law_511 dL_law_512 dL_law_513 dL_law_514 ?_
  refine l_callM X dL_law_515 q_1858 wX12_text sm_0 rfl ⟨Nat.le_of_ble_eq_true rfl, Nat.le_of_ble_eq_true rfl⟩ [.int (pI (xV V (i + 1)))] [.int (pI r)] rfl rfl (Nat.le_of_ble_eq_true rfl) (ct_X12_text (xV V (i + 1)) (int_rg _) (gM V) _ _ _ e2) ?_
  refine l_eq (tgt := 1548) X dL_law_518 (by decide) ?_
  exact k σ1 τ1 hr1
theorem lc_fault {E : EL} {V : VL} {σ τ : St} {i : Nat} (X : CxL E V) (hi : i + 6 ≤ V.2.1) (h : Rl σ τ) (k : ∀ σ1 τ1, Rl σ1 τ1 → AtL E V σ1 τ1 1548 (LL V i) []) : AtL E V σ τ 523 (LL V i) [] := by
  obtain ⟨r, σ1, τ1, e1, e2, hr1⟩ : ∃ r σ1 τ1, fX11_fault (xV V (i + 1)) σ = some (r, σ1) ∧ fX12_fault (xV V (i + 1)) τ = some (r, τ1) ∧ Rl σ1 τ1 := by
    have hs : Sim (fX11_fault (xV V (i + 1)) σ) (fX12_fault (xV V (i + 1)) τ) := s_fault h 
    obtain ⟨r, σ1, e1, r2, τ1, e2, er, hr1⟩ := hs
    exact ⟨r, σ1, τ1, e1, by rw [e2, er], hr1⟩
  refine l_aload X 1 dL_law_523 rfl ?_
  refine l_arg X 1 (by decide) hi dL_law_524 dL_law_525 dL_law_526 dL_law_527 dL_law_528 ?_
  refine l_callX X dL_law_529 q_1151 wX11_fault sx_0 rfl ⟨Nat.le_of_ble_eq_true rfl, Nat.le_of_ble_eq_true rfl⟩ [.int (pI (xV V (i + 1)))] [] rfl rfl (Nat.le_of_ble_eq_true rfl) (ct_X11_fault (xV V (i + 1)) (int_rg _) (gX V) _ _ _ e1) ?_
  refine l_aload X 2 dL_law_532 rfl ?_
  refine l_arg X 1 (by decide) hi dL_law_533 dL_law_534 dL_law_535 dL_law_536 dL_law_537 ?_
  refine l_callM X dL_law_538 q_1994 wX12_fault sm_0 rfl ⟨Nat.le_of_ble_eq_true rfl, Nat.le_of_ble_eq_true rfl⟩ [.int (pI (xV V (i + 1)))] [.int (pI r)] rfl rfl (Nat.le_of_ble_eq_true rfl) (ct_X12_fault (xV V (i + 1)) (int_rg _) (gM V) _ _ _ e2) ?_
  refine l_eq (tgt := 1548) X dL_law_541 (by decide) ?_
  exact k σ1 τ1 hr1
theorem lc_porchOf {E : EL} {V : VL} {σ τ : St} {i : Nat} (X : CxL E V) (hi : i + 6 ≤ V.2.1) (h : Rl σ τ) (k : ∀ σ1 τ1, Rl σ1 τ1 → AtL E V σ1 τ1 1548 (LL V i) []) : AtL E V σ τ 546 (LL V i) [] := by
  obtain ⟨r, σ1, τ1, e1, e2, hr1⟩ : ∃ r σ1 τ1, fX11_porchOf (xV V (i + 1)) (xV V (i + 2)) σ = some (r, σ1) ∧ fX12_porchOf (xV V (i + 1)) (xV V (i + 2)) τ = some (r, τ1) ∧ Rl σ1 τ1 := by
    have hs : Sim (fX11_porchOf (xV V (i + 1)) (xV V (i + 2)) σ) (fX12_porchOf (xV V (i + 1)) (xV V (i + 2)) τ) := s_porchOf h (int_rg _)
    obtain ⟨r, σ1, e1, r2, τ1, e2, er, hr1⟩ := hs
    exact ⟨r, σ1, τ1, e1, by rw [e2, er], hr1⟩
  refine l_aload X 1 dL_law_546 rfl ?_
  refine l_arg X 1 (by decide) hi dL_law_547 dL_law_548 dL_law_549 dL_law_550 dL_law_551 ?_
  refine l_arg X 2 (by decide) hi dL_law_552 dL_law_553 dL_law_554 dL_law_555 dL_law_556 ?_
  refine l_callX X dL_law_557 q_1163 wX11_porchOf sx_0 rfl ⟨Nat.le_of_ble_eq_true rfl, Nat.le_of_ble_eq_true rfl⟩ [.int (pI (xV V (i + 1))), .int (pI (xV V (i + 2)))] [] rfl rfl (Nat.le_of_ble_eq_true rfl) (ct_X11_porchOf (xV V (i + 1)) (xV V (i + 2)) (int_rg _) (int_rg _) (gX V) _ _ _ e1) ?_
  refine l_aload X 2 dL_law_560 rfl ?_
  refine l_arg X 1 (by decide) hi dL_law_561 dL_law_562 dL_law_563 dL_law_564 dL_law_565 ?_
  refine l_arg X 2 (by decide) hi dL_law_566 dL_law_567 dL_law_568 dL_law_569 dL_law_570 ?_
  refine l_callM X dL_law_571 q_2124 wX12_porchOf sm_0 rfl ⟨Nat.le_of_ble_eq_true rfl, Nat.le_of_ble_eq_true rfl⟩ [.int (pI (xV V (i + 1))), .int (pI (xV V (i + 2)))] [.int (pI r)] rfl rfl (Nat.le_of_ble_eq_true rfl) (ct_X12_porchOf (xV V (i + 1)) (xV V (i + 2)) (int_rg _) (int_rg _) (gM V) _ _ _ e2) ?_
  refine l_eq (tgt := 1548) X dL_law_574 (by decide) ?_
  exact k σ1 τ1 hr1
theorem lc_of {E : EL} {V : VL} {σ τ : St} {i : Nat} (X : CxL E V) (hi : i + 6 ≤ V.2.1) (h : Rl σ τ) (k : ∀ σ1 τ1, Rl σ1 τ1 → AtL E V σ1 τ1 1548 (LL V i) []) : AtL E V σ τ 579 (LL V i) [] := by
  obtain ⟨r, σ1, τ1, e1, e2, hr1⟩ : ∃ r σ1 τ1, fX11_of (xV V (i + 1)) (xV V (i + 2)) σ = some (r, σ1) ∧ fX12_of (xV V (i + 1)) (xV V (i + 2)) τ = some (r, τ1) ∧ Rl σ1 τ1 := by
    have hs : Sim (fX11_of (xV V (i + 1)) (xV V (i + 2)) σ) (fX12_of (xV V (i + 1)) (xV V (i + 2)) τ) := s_of h 
    obtain ⟨r, σ1, e1, r2, τ1, e2, er, hr1⟩ := hs
    exact ⟨r, σ1, τ1, e1, by rw [e2, er], hr1⟩
  refine l_aload X 1 dL_law_579 rfl ?_
  refine l_arg X 1 (by decide) hi dL_law_580 dL_law_581 dL_law_582 dL_law_583 dL_law_584 ?_
  refine l_arg X 2 (by decide) hi dL_law_585 dL_law_586 dL_law_587 dL_law_588 dL_law_589 ?_
  refine l_callX X dL_law_590 q_1173 wX11_of sx_0 rfl ⟨Nat.le_of_ble_eq_true rfl, Nat.le_of_ble_eq_true rfl⟩ [.int (pI (xV V (i + 1))), .int (pI (xV V (i + 2)))] [] rfl rfl (Nat.le_of_ble_eq_true rfl) (ct_X11_of (xV V (i + 1)) (xV V (i + 2)) (int_rg _) (int_rg _) (gX V) _ _ _ e1) ?_
  refine l_aload X 2 dL_law_593 rfl ?_
  refine l_arg X 1 (by decide) hi dL_law_594 dL_law_595 dL_law_596 dL_law_597 dL_law_598 ?_
  refine l_arg X 2 (by decide) hi dL_law_599 dL_law_600 dL_law_601 dL_law_602 dL_law_603 ?_
  refine l_callM X dL_law_604 q_2128 wX12_of sm_0 rfl ⟨Nat.le_of_ble_eq_true rfl, Nat.le_of_ble_eq_true rfl⟩ [.int (pI (xV V (i + 1))), .int (pI (xV V (i + 2)))] [.int (pI r)] rfl rfl (Nat.le_of_ble_eq_true rfl) (ct_X12_of (xV V (i + 1)) (xV V (i + 2)) (int_rg _) (int_rg _) (gM V) _ _ _ e2) ?_
  refine l_eq (tgt := 1548) X dL_law_607 (by decide) ?_
  exact k σ1 τ1 hr1
theorem lc_hears {E : EL} {V : VL} {σ τ : St} {i : Nat} (X : CxL E V) (hi : i + 6 ≤ V.2.1) (h : Rl σ τ) (k : ∀ σ1 τ1, Rl σ1 τ1 → AtL E V σ1 τ1 1548 (LL V i) []) : AtL E V σ τ 612 (LL V i) [] := by
  obtain ⟨r, σ1, τ1, e1, e2, hr1⟩ : ∃ r σ1 τ1, fX11_hears (xV V (i + 1)) (xV V (i + 2)) σ = some (r, σ1) ∧ fX12_hears (xV V (i + 1)) (xV V (i + 2)) τ = some (r, τ1) ∧ Rl σ1 τ1 := by
    have hs : Sim (fX11_hears (xV V (i + 1)) (xV V (i + 2)) σ) (fX12_hears (xV V (i + 1)) (xV V (i + 2)) τ) := s_hears h 
    obtain ⟨r, σ1, e1, r2, τ1, e2, er, hr1⟩ := hs
    exact ⟨r, σ1, τ1, e1, by rw [e2, er], hr1⟩
  refine l_aload X 1 dL_law_612 rfl ?_
  refine l_arg X 1 (by decide) hi dL_law_613 dL_law_614 dL_law_615 dL_law_616 dL_law_617 ?_
  refine l_arg X 2 (by decide) hi dL_law_618 dL_law_619 dL_law_620 dL_law_621 dL_law_622 ?_
  refine l_callX X dL_law_623 q_1177 wX11_hears sx_0 rfl ⟨Nat.le_of_ble_eq_true rfl, Nat.le_of_ble_eq_true rfl⟩ [.int (pI (xV V (i + 1))), .int (pI (xV V (i + 2)))] [] rfl rfl (Nat.le_of_ble_eq_true rfl) (ct_X11_hears (xV V (i + 1)) (xV V (i + 2)) (int_rg _) (int_rg _) (gX V) _ _ _ e1) ?_
  refine l_aload X 2 dL_law_626 rfl ?_
  refine l_arg X 1 (by decide) hi dL_law_627 dL_law_628 dL_law_629 dL_law_630 dL_law_631 ?_
  refine l_arg X 2 (by decide) hi dL_law_632 dL_law_633 dL_law_634 dL_law_635 dL_law_636 ?_
  refine l_callM X dL_law_637 q_2132 wX12_hears sm_0 rfl ⟨Nat.le_of_ble_eq_true rfl, Nat.le_of_ble_eq_true rfl⟩ [.int (pI (xV V (i + 1))), .int (pI (xV V (i + 2)))] [.int (pI r)] rfl rfl (Nat.le_of_ble_eq_true rfl) (ct_X12_hears (xV V (i + 1)) (xV V (i + 2)) (int_rg _) (int_rg _) (gM V) _ _ _ e2) ?_
  refine l_eq (tgt := 1548) X dL_law_640 (by decide) ?_
  exact k σ1 τ1 hr1
theorem lc_book {E : EL} {V : VL} {σ τ : St} {i : Nat} (X : CxL E V) (hi : i + 6 ≤ V.2.1) (h : Rl σ τ) (k : ∀ σ1 τ1, Rl σ1 τ1 → AtL E V σ1 τ1 1548 (LL V i) []) : AtL E V σ τ 645 (LL V i) [] := by
  obtain ⟨r, σ1, τ1, e1, e2, hr1⟩ : ∃ r σ1 τ1, fX11_book (xV V (i + 1)) (xV V (i + 2)) σ = some (r, σ1) ∧ fX12_book (xV V (i + 1)) (xV V (i + 2)) τ = some (r, τ1) ∧ Rl σ1 τ1 := by
    have hs : Sim (fX11_book (xV V (i + 1)) (xV V (i + 2)) σ) (fX12_book (xV V (i + 1)) (xV V (i + 2)) τ) := s_book h 
    obtain ⟨r, σ1, e1, r2, τ1, e2, er, hr1⟩ := hs
    exact ⟨r, σ1, τ1, e1, by rw [e2, er], hr1⟩
  refine l_aload X 1 dL_law_645 rfl ?_
  refine l_arg X 1 (by decide) hi dL_law_646 dL_law_647 dL_law_648 dL_law_649 dL_law_650 ?_
  refine l_arg X 2 (by decide) hi dL_law_651 dL_law_652 dL_law_653 dL_law_654 dL_law_655 ?_
  refine l_callX X dL_law_656 q_1181 wX11_book sx_0 rfl ⟨Nat.le_of_ble_eq_true rfl, Nat.le_of_ble_eq_true rfl⟩ [.int (pI (xV V (i + 1))), .int (pI (xV V (i + 2)))] [] rfl rfl (Nat.le_of_ble_eq_true rfl) (ct_X11_book (xV V (i + 1)) (xV V (i + 2)) (int_rg _) (int_rg _) (gX V) _ _ _ e1) ?_
  refine l_aload X 2 dL_law_659 rfl ?_
  refine l_arg X 1 (by decide) hi dL_law_660 dL_law_661 dL_law_662 dL_law_663 dL_law_664 ?_
  refine l_arg X 2 (by decide) hi dL_law_665 dL_law_666 dL_law_667 dL_law_668 dL_law_669 ?_
  refine l_callM X dL_law_670 q_2136 wX12_book sm_0 rfl ⟨Nat.le_of_ble_eq_true rfl, Nat.le_of_ble_eq_true rfl⟩ [.int (pI (xV V (i + 1))), .int (pI (xV V (i + 2)))] [.int (pI r)] rfl rfl (Nat.le_of_ble_eq_true rfl) (ct_X12_book (xV V (i + 1)) (xV V (i + 2)) (int_rg _) (int_rg _) (gM V) _ _ _ e2) ?_
  refine l_eq (tgt := 1548) X dL_law_673 (by decide) ?_
  exact k σ1 τ1 hr1
theorem lc_goes {E : EL} {V : VL} {σ τ : St} {i : Nat} (X : CxL E V) (hi : i + 6 ≤ V.2.1) (h : Rl σ τ) (k : ∀ σ1 τ1, Rl σ1 τ1 → AtL E V σ1 τ1 1548 (LL V i) []) : AtL E V σ τ 678 (LL V i) [] := by
  obtain ⟨r, σ1, τ1, e1, e2, hr1⟩ : ∃ r σ1 τ1, fX11_goes (xV V (i + 1)) (xV V (i + 2)) σ = some (r, σ1) ∧ fX12_goes (xV V (i + 1)) (xV V (i + 2)) τ = some (r, τ1) ∧ Rl σ1 τ1 := by
    have hs : Sim (fX11_goes (xV V (i + 1)) (xV V (i + 2)) σ) (fX12_goes (xV V (i + 1)) (xV V (i + 2)) τ) := s_goes h 
    obtain ⟨r, σ1, e1, r2, τ1, e2, er, hr1⟩ := hs
    exact ⟨r, σ1, τ1, e1, by rw [e2, er], hr1⟩
  refine l_aload X 1 dL_law_678 rfl ?_
  refine l_arg X 1 (by decide) hi dL_law_679 dL_law_680 dL_law_681 dL_law_682 dL_law_683 ?_
  refine l_arg X 2 (by decide) hi dL_law_684 dL_law_685 dL_law_686 dL_law_687 dL_law_688 ?_
  refine l_callX X dL_law_689 q_1186 wX11_goes sx_0 rfl ⟨Nat.le_of_ble_eq_true rfl, Nat.le_of_ble_eq_true rfl⟩ [.int (pI (xV V (i + 1))), .int (pI (xV V (i + 2)))] [] rfl rfl (Nat.le_of_ble_eq_true rfl) (ct_X11_goes (xV V (i + 1)) (xV V (i + 2)) (int_rg _) (int_rg _) (gX V) _ _ _ e1) ?_
  refine l_aload X 2 dL_law_692 rfl ?_
  refine l_arg X 1 (by decide) hi dL_law_693 dL_law_694 dL_law_695 dL_law_696 dL_law_697 ?_
  refine l_arg X 2 (by decide) hi dL_law_698 dL_law_699 dL_law_700 dL_law_701 dL_law_702 ?_
  refine l_callM X dL_law_703 q_2140 wX12_goes sm_0 rfl ⟨Nat.le_of_ble_eq_true rfl, Nat.le_of_ble_eq_true rfl⟩ [.int (pI (xV V (i + 1))), .int (pI (xV V (i + 2)))] [.int (pI r)] rfl rfl (Nat.le_of_ble_eq_true rfl) (ct_X12_goes (xV V (i + 1)) (xV V (i + 2)) (int_rg _) (int_rg _) (gM V) _ _ _ e2) ?_
  refine l_eq (tgt := 1548) X dL_law_706 (by decide) ?_
  exact k σ1 τ1 hr1
theorem lc_soonest {E : EL} {V : VL} {σ τ : St} {i : Nat} (X : CxL E V) (hi : i + 6 ≤ V.2.1) (h : Rl σ τ) (k : ∀ σ1 τ1, Rl σ1 τ1 → AtL E V σ1 τ1 1548 (LL V i) []) : AtL E V σ τ 711 (LL V i) [] := by
  obtain ⟨r, σ1, τ1, e1, e2, hr1⟩ : ∃ r σ1 τ1, fX11_soonest (xV V (i + 1)) σ = some (r, σ1) ∧ fX12_soonest (xV V (i + 1)) τ = some (r, τ1) ∧ Rl σ1 τ1 := by
    have hs : Sim (fX11_soonest (xV V (i + 1)) σ) (fX12_soonest (xV V (i + 1)) τ) := s_soonest h 
    obtain ⟨r, σ1, e1, r2, τ1, e2, er, hr1⟩ := hs
    exact ⟨r, σ1, τ1, e1, by rw [e2, er], hr1⟩
  refine l_aload X 1 dL_law_711 rfl ?_
  refine l_arg X 1 (by decide) hi dL_law_712 dL_law_713 dL_law_714 dL_law_715 dL_law_716 ?_
  refine l_callX X dL_law_717 q_1195 wX11_soonest sx_0 rfl ⟨Nat.le_of_ble_eq_true rfl, Nat.le_of_ble_eq_true rfl⟩ [.int (pI (xV V (i + 1)))] [] rfl rfl (Nat.le_of_ble_eq_true rfl) (ct_X11_soonest (xV V (i + 1)) (int_rg _) (gX V) _ _ _ e1) ?_
  refine l_aload X 2 dL_law_720 rfl ?_
  refine l_arg X 1 (by decide) hi dL_law_721 dL_law_722 dL_law_723 dL_law_724 dL_law_725 ?_
  refine l_callM X dL_law_726 q_2156 wX12_soonest sm_0 rfl ⟨Nat.le_of_ble_eq_true rfl, Nat.le_of_ble_eq_true rfl⟩ [.int (pI (xV V (i + 1)))] [.int (pI r)] rfl rfl (Nat.le_of_ble_eq_true rfl) (ct_X12_soonest (xV V (i + 1)) (int_rg _) (gM V) _ _ _ e2) ?_
  refine l_eq (tgt := 1548) X dL_law_729 (by decide) ?_
  exact k σ1 τ1 hr1
theorem lc_wishes {E : EL} {V : VL} {σ τ : St} {i : Nat} (X : CxL E V) (hi : i + 6 ≤ V.2.1) (h : Rl σ τ) (k : ∀ σ1 τ1, Rl σ1 τ1 → AtL E V σ1 τ1 1548 (LL V i) []) : AtL E V σ τ 734 (LL V i) [] := by
  obtain ⟨r, σ1, τ1, e1, e2, hr1⟩ : ∃ r σ1 τ1, fX11_wishes (xV V (i + 1)) (xV V (i + 2)) (xV V (i + 3)) σ = some (r, σ1) ∧ fX12_wishes (xV V (i + 1)) (xV V (i + 2)) (xV V (i + 3)) τ = some (r, τ1) ∧ Rl σ1 τ1 := by
    have hs : Sim (fX11_wishes (xV V (i + 1)) (xV V (i + 2)) (xV V (i + 3)) σ) (fX12_wishes (xV V (i + 1)) (xV V (i + 2)) (xV V (i + 3)) τ) := s_wishes h 
    obtain ⟨r, σ1, e1, r2, τ1, e2, er, hr1⟩ := hs
    exact ⟨r, σ1, τ1, e1, by rw [e2, er], hr1⟩
  refine l_aload X 1 dL_law_734 rfl ?_
  refine l_arg X 1 (by decide) hi dL_law_735 dL_law_736 dL_law_737 dL_law_738 dL_law_739 ?_
  refine l_arg X 2 (by decide) hi dL_law_740 dL_law_741 dL_law_742 dL_law_743 dL_law_744 ?_
  refine l_arg X 3 (by decide) hi dL_law_745 dL_law_746 dL_law_747 dL_law_748 dL_law_749 ?_
  refine l_callX X dL_law_750 q_1199 wX11_wishes sx_0 rfl ⟨Nat.le_of_ble_eq_true rfl, Nat.le_of_ble_eq_true rfl⟩ [.int (pI (xV V (i + 1))), .int (pI (xV V (i + 2))), .int (pI (xV V (i + 3)))] [] rfl rfl (Nat.le_of_ble_eq_true rfl) (ct_X11_wishes (xV V (i + 1)) (xV V (i + 2)) (xV V (i + 3)) (int_rg _) (int_rg _) (int_rg _) (gX V) _ _ _ e1) ?_
  refine l_aload X 2 dL_law_753 rfl ?_
  refine l_arg X 1 (by decide) hi dL_law_754 dL_law_755 dL_law_756 dL_law_757 dL_law_758 ?_
  refine l_arg X 2 (by decide) hi dL_law_759 dL_law_760 dL_law_761 dL_law_762 dL_law_763 ?_
  refine l_arg X 3 (by decide) hi dL_law_764 dL_law_765 dL_law_766 dL_law_767 dL_law_768 ?_
  refine l_callM X dL_law_769 q_2160 wX12_wishes sm_0 rfl ⟨Nat.le_of_ble_eq_true rfl, Nat.le_of_ble_eq_true rfl⟩ [.int (pI (xV V (i + 1))), .int (pI (xV V (i + 2))), .int (pI (xV V (i + 3)))] [.int (pI r)] rfl rfl (Nat.le_of_ble_eq_true rfl) (ct_X12_wishes (xV V (i + 1)) (xV V (i + 2)) (xV V (i + 3)) (int_rg _) (int_rg _) (int_rg _) (gM V) _ _ _ e2) ?_
  refine l_eq (tgt := 1548) X dL_law_772 (by decide) ?_
  exact k σ1 τ1 hr1
theorem lc_matched {E : EL} {V : VL} {σ τ : St} {i : Nat} (X : CxL E V) (hi : i + 6 ≤ V.2.1) (h : Rl σ τ) (k : ∀ σ1 τ1, Rl σ1 τ1 → AtL E V σ1 τ1 1548 (LL V i) []) : AtL E V σ τ 777 (LL V i) [] := by
  obtain ⟨r, σ1, τ1, e1, e2, hr1⟩ : ∃ r σ1 τ1, fX11_matched (xV V (i + 1)) (xV V (i + 2)) (xV V (i + 3)) σ = some (r, σ1) ∧ fX12_matched (xV V (i + 1)) (xV V (i + 2)) (xV V (i + 3)) τ = some (r, τ1) ∧ Rl σ1 τ1 := by
    have hs : Sim (fX11_matched (xV V (i + 1)) (xV V (i + 2)) (xV V (i + 3)) σ) (fX12_matched (xV V (i + 1)) (xV V (i + 2)) (xV V (i + 3)) τ) := s_matched h 
    obtain ⟨r, σ1, e1, r2, τ1, e2, er, hr1⟩ := hs
    exact ⟨r, σ1, τ1, e1, by rw [e2, er], hr1⟩
  refine l_aload X 1 dL_law_777 rfl ?_
  refine l_arg X 1 (by decide) hi dL_law_778 dL_law_779 dL_law_780 dL_law_781 dL_law_782 ?_
  refine l_arg X 2 (by decide) hi dL_law_783 dL_law_784 dL_law_785 dL_law_786 dL_law_787 ?_
  refine l_arg X 3 (by decide) hi dL_law_788 dL_law_789 dL_law_790 dL_law_791 dL_law_792 ?_
  refine l_callX X dL_law_793 q_1209 wX11_matched sx_0 rfl ⟨Nat.le_of_ble_eq_true rfl, Nat.le_of_ble_eq_true rfl⟩ [.int (pI (xV V (i + 1))), .int (pI (xV V (i + 2))), .int (pI (xV V (i + 3)))] [] rfl rfl (Nat.le_of_ble_eq_true rfl) (ct_X11_matched (xV V (i + 1)) (xV V (i + 2)) (xV V (i + 3)) (int_rg _) (int_rg _) (int_rg _) (gX V) _ _ _ e1) ?_
  refine l_aload X 2 dL_law_796 rfl ?_
  refine l_arg X 1 (by decide) hi dL_law_797 dL_law_798 dL_law_799 dL_law_800 dL_law_801 ?_
  refine l_arg X 2 (by decide) hi dL_law_802 dL_law_803 dL_law_804 dL_law_805 dL_law_806 ?_
  refine l_arg X 3 (by decide) hi dL_law_807 dL_law_808 dL_law_809 dL_law_810 dL_law_811 ?_
  refine l_callM X dL_law_812 q_2165 wX12_matched sm_0 rfl ⟨Nat.le_of_ble_eq_true rfl, Nat.le_of_ble_eq_true rfl⟩ [.int (pI (xV V (i + 1))), .int (pI (xV V (i + 2))), .int (pI (xV V (i + 3)))] [.int (pI r)] rfl rfl (Nat.le_of_ble_eq_true rfl) (ct_X12_matched (xV V (i + 1)) (xV V (i + 2)) (xV V (i + 3)) (int_rg _) (int_rg _) (int_rg _) (gM V) _ _ _ e2) ?_
  refine l_eq (tgt := 1548) X dL_law_815 (by decide) ?_
  exact k σ1 τ1 hr1
theorem lc_chair {E : EL} {V : VL} {σ τ : St} {i : Nat} (X : CxL E V) (hi : i + 6 ≤ V.2.1) (h : Rl σ τ) (k : ∀ σ1 τ1, Rl σ1 τ1 → AtL E V σ1 τ1 1548 (LL V i) []) : AtL E V σ τ 820 (LL V i) [] := by
  obtain ⟨r, σ1, τ1, e1, e2, hr1⟩ : ∃ r σ1 τ1, fX11_chair (xV V (i + 1)) (xV V (i + 2)) σ = some (r, σ1) ∧ fX12_chair (xV V (i + 1)) (xV V (i + 2)) τ = some (r, τ1) ∧ Rl σ1 τ1 := by
    have hs : Sim (fX11_chair (xV V (i + 1)) (xV V (i + 2)) σ) (fX12_chair (xV V (i + 1)) (xV V (i + 2)) τ) := s_chair h 
    obtain ⟨r, σ1, e1, r2, τ1, e2, er, hr1⟩ := hs
    exact ⟨r, σ1, τ1, e1, by rw [e2, er], hr1⟩
  refine l_aload X 1 dL_law_820 rfl ?_
  refine l_arg X 1 (by decide) hi dL_law_821 dL_law_822 dL_law_823 dL_law_824 dL_law_825 ?_
  refine l_arg X 2 (by decide) hi dL_law_826 dL_law_827 dL_law_828 dL_law_829 dL_law_830 ?_
  refine l_callX X dL_law_831 q_1251 wX11_chair sx_0 rfl ⟨Nat.le_of_ble_eq_true rfl, Nat.le_of_ble_eq_true rfl⟩ [.int (pI (xV V (i + 1))), .int (pI (xV V (i + 2)))] [] rfl rfl (Nat.le_of_ble_eq_true rfl) (ct_X11_chair (xV V (i + 1)) (xV V (i + 2)) (int_rg _) (int_rg _) (gX V) _ _ _ e1) ?_
  refine l_aload X 2 dL_law_834 rfl ?_
  refine l_arg X 1 (by decide) hi dL_law_835 dL_law_836 dL_law_837 dL_law_838 dL_law_839 ?_
  refine l_arg X 2 (by decide) hi dL_law_840 dL_law_841 dL_law_842 dL_law_843 dL_law_844 ?_
  refine l_callM X dL_law_845 q_2193 wX12_chair sm_0 rfl ⟨Nat.le_of_ble_eq_true rfl, Nat.le_of_ble_eq_true rfl⟩ [.int (pI (xV V (i + 1))), .int (pI (xV V (i + 2)))] [.int (pI r)] rfl rfl (Nat.le_of_ble_eq_true rfl) (ct_X12_chair (xV V (i + 1)) (xV V (i + 2)) (int_rg _) (int_rg _) (gM V) _ _ _ e2) ?_
  refine l_eq (tgt := 1548) X dL_law_848 (by decide) ?_
  exact k σ1 τ1 hr1
theorem lc_rocks {E : EL} {V : VL} {σ τ : St} {i : Nat} (X : CxL E V) (hi : i + 6 ≤ V.2.1) (h : Rl σ τ) (k : ∀ σ1 τ1, Rl σ1 τ1 → AtL E V σ1 τ1 1548 (LL V i) []) : AtL E V σ τ 853 (LL V i) [] := by
  obtain ⟨r, σ1, τ1, e1, e2, hr1⟩ : ∃ r σ1 τ1, fX11_rocks (xV V (i + 1)) σ = some (r, σ1) ∧ fX12_rocks (xV V (i + 1)) τ = some (r, τ1) ∧ Rl σ1 τ1 := by
    have hs : Sim (fX11_rocks (xV V (i + 1)) σ) (fX12_rocks (xV V (i + 1)) τ) := s_rocks h 
    obtain ⟨r, σ1, e1, r2, τ1, e2, er, hr1⟩ := hs
    exact ⟨r, σ1, τ1, e1, by rw [e2, er], hr1⟩
  refine l_aload X 1 dL_law_853 rfl ?_
  refine l_arg X 1 (by decide) hi dL_law_854 dL_law_855 dL_law_856 dL_law_857 dL_law_858 ?_
  refine l_callX X dL_law_859 q_1257 wX11_rocks sx_0 rfl ⟨Nat.le_of_ble_eq_true rfl, Nat.le_of_ble_eq_true rfl⟩ [.int (pI (xV V (i + 1)))] [] rfl rfl (Nat.le_of_ble_eq_true rfl) (ct_X11_rocks (xV V (i + 1)) (int_rg _) (gX V) _ _ _ e1) ?_
  refine l_aload X 2 dL_law_862 rfl ?_
  refine l_arg X 1 (by decide) hi dL_law_863 dL_law_864 dL_law_865 dL_law_866 dL_law_867 ?_
  refine l_callM X dL_law_868 q_2197 wX12_rocks sm_0 rfl ⟨Nat.le_of_ble_eq_true rfl, Nat.le_of_ble_eq_true rfl⟩ [.int (pI (xV V (i + 1)))] [.int (pI r)] rfl rfl (Nat.le_of_ble_eq_true rfl) (ct_X12_rocks (xV V (i + 1)) (int_rg _) (gM V) _ _ _ e2) ?_
  refine l_eq (tgt := 1548) X dL_law_871 (by decide) ?_
  exact k σ1 τ1 hr1
theorem lc_cat {E : EL} {V : VL} {σ τ : St} {i : Nat} (X : CxL E V) (hi : i + 6 ≤ V.2.1) (h : Rl σ τ) (k : ∀ σ1 τ1, Rl σ1 τ1 → AtL E V σ1 τ1 1548 (LL V i) []) : AtL E V σ τ 876 (LL V i) [] := by
  obtain ⟨r, σ1, τ1, e1, e2, hr1⟩ : ∃ r σ1 τ1, fX11_cat (xV V (i + 1)) (xV V (i + 2)) (xV V (i + 3)) σ = some (r, σ1) ∧ fX12_cat (xV V (i + 1)) (xV V (i + 2)) (xV V (i + 3)) τ = some (r, τ1) ∧ Rl σ1 τ1 := by
    have hs : Sim (fX11_cat (xV V (i + 1)) (xV V (i + 2)) (xV V (i + 3)) σ) (fX12_cat (xV V (i + 1)) (xV V (i + 2)) (xV V (i + 3)) τ) := s_cat h 
    obtain ⟨r, σ1, e1, r2, τ1, e2, er, hr1⟩ := hs
    exact ⟨r, σ1, τ1, e1, by rw [e2, er], hr1⟩
  refine l_aload X 1 dL_law_876 rfl ?_
  refine l_arg X 1 (by decide) hi dL_law_877 dL_law_878 dL_law_879 dL_law_880 dL_law_881 ?_
  refine l_arg X 2 (by decide) hi dL_law_882 dL_law_883 dL_law_884 dL_law_885 dL_law_886 ?_
  refine l_arg X 3 (by decide) hi dL_law_887 dL_law_888 dL_law_889 dL_law_890 dL_law_891 ?_
  refine l_callX X dL_law_892 q_1275 wX11_cat sx_0 rfl ⟨Nat.le_of_ble_eq_true rfl, Nat.le_of_ble_eq_true rfl⟩ [.int (pI (xV V (i + 1))), .int (pI (xV V (i + 2))), .int (pI (xV V (i + 3)))] [] rfl rfl (Nat.le_of_ble_eq_true rfl) (ct_X11_cat (xV V (i + 1)) (xV V (i + 2)) (xV V (i + 3)) (int_rg _) (int_rg _) (int_rg _) (gX V) _ _ _ e1) ?_
  refine l_aload X 2 dL_law_895 rfl ?_
  refine l_arg X 1 (by decide) hi dL_law_896 dL_law_897 dL_law_898 dL_law_899 dL_law_900 ?_
  refine l_arg X 2 (by decide) hi dL_law_901 dL_law_902 dL_law_903 dL_law_904 dL_law_905 ?_
  refine l_arg X 3 (by decide) hi dL_law_906 dL_law_907 dL_law_908 dL_law_909 dL_law_910 ?_
  refine l_callM X dL_law_911 q_2209 wX12_cat sm_0 rfl ⟨Nat.le_of_ble_eq_true rfl, Nat.le_of_ble_eq_true rfl⟩ [.int (pI (xV V (i + 1))), .int (pI (xV V (i + 2))), .int (pI (xV V (i + 3)))] [.int (pI r)] rfl rfl (Nat.le_of_ble_eq_true rfl) (ct_X12_cat (xV V (i + 1)) (xV V (i + 2)) (xV V (i + 3)) (int_rg _) (int_rg _) (int_rg _) (gM V) _ _ _ e2) ?_
  refine l_eq (tgt := 1548) X dL_law_914 (by decide) ?_
  exact k σ1 τ1 hr1
