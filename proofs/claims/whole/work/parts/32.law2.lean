/-! THE LAW: its cases -/
section LAWC
variable {p : Program} {l : Launch} {e : Env} {s : State} {m : MethodId} {below : List Frame} {meth : Method} {c : Code} {D : va_G} {ac : Nat → ClassId} {bs L : Nat} {xs : Nat → Int32} {cs sl pc q N : Nat} {lv : List (Nat × Value)} {st : List Value} {M : Mem} {X : RAM}
theorem lc_row (C0 : lw_At p s m meth c bs L xs) (hK : Kx D ac s) (hL : L ≤ 3584) {i : Nat} (hi : i + 7 ≤ L) (hI : Inv X) (hcs : cs ≤ 600000 ∧ sl ≤ 7302250) (K : ∀ X2, Inv X2 → J p l e s m below meth c D ac bs cs sl 1083 (LV s bs i) [] 144 (mk X2)) : J p l e s m below meth c D ac bs cs sl 140 (LV s bs i) [] 144 (mk X) := by
  obtain ⟨rv, X1, X2, h1, h2, h3⟩ := st_row (l := l) (D := D) (ac := ac) (b := s.heap.size) hI (xs (i + 1)) (xs (i + 2)) (xs (i + 3)) (xs (i + 4)) (xs (i + 5))
  refine j_ald C0 d_L_law_140 rfl rfl 2 rfl ?_
  refine j_arg (k := 1) C0 hL d_L_law_141 d_L_law_142 d_L_law_143 (by decide) d_L_law_144 d_L_law_145 rfl (by omega) ?_
  refine j_arg (k := 2) C0 hL d_L_law_146 d_L_law_147 d_L_law_148 (by decide) d_L_law_149 d_L_law_150 rfl (by omega) ?_
  refine j_arg (k := 3) C0 hL d_L_law_151 d_L_law_152 d_L_law_153 (by decide) d_L_law_154 d_L_law_155 rfl (by omega) ?_
  refine j_arg (k := 4) C0 hL d_L_law_156 d_L_law_157 d_L_law_158 (by decide) d_L_law_159 d_L_law_160 rfl (by omega) ?_
  refine j_arg (k := 5) C0 hL d_L_law_161 d_L_law_162 d_L_law_163 (by decide) d_L_law_164 d_L_law_165 rfl (by omega) ?_
  refine j_callV C0 hK d_L_law_166 rfl ml_L_13 mx_C_row mv_C_row h1 rfl rfl rfl (Nat.le_of_ble_eq_true rfl) ⟨Nat.le_of_ble_eq_true rfl, Nat.le_of_ble_eq_true rfl⟩ hcs ?_
  refine j_ald C0 d_L_law_169 rfl rfl 1 rfl ?_
  refine j_arg (k := 1) C0 hL d_L_law_170 d_L_law_171 d_L_law_172 (by decide) d_L_law_173 d_L_law_174 rfl (by omega) ?_
  refine j_arg (k := 2) C0 hL d_L_law_175 d_L_law_176 d_L_law_177 (by decide) d_L_law_178 d_L_law_179 rfl (by omega) ?_
  refine j_arg (k := 3) C0 hL d_L_law_180 d_L_law_181 d_L_law_182 (by decide) d_L_law_183 d_L_law_184 rfl (by omega) ?_
  refine j_arg (k := 4) C0 hL d_L_law_185 d_L_law_186 d_L_law_187 (by decide) d_L_law_188 d_L_law_189 rfl (by omega) ?_
  refine j_arg (k := 5) C0 hL d_L_law_190 d_L_law_191 d_L_law_192 (by decide) d_L_law_193 d_L_law_194 rfl (by omega) ?_
  refine j_callV C0 hK d_L_law_195 rfl ml_L_17 mx_M_row mv_M_row h2 rfl rfl rfl (Nat.le_of_ble_eq_true rfl) ⟨Nat.le_of_ble_eq_true rfl, Nat.le_of_ble_eq_true rfl⟩ hcs ?_
  exact j_eq C0 d_L_law_198 (by decide) (K X2 h3)
theorem lc_load (C0 : lw_At p s m meth c bs L xs) (hK : Kx D ac s) (hL : L ≤ 3584) {i : Nat} (hi : i + 7 ≤ L) (hI : Inv X) (hcs : cs ≤ 600000 ∧ sl ≤ 7302250) (K : ∀ X2, Inv X2 → J p l e s m below meth c D ac bs cs sl 1083 (LV s bs i) [] 144 (mk X2)) : J p l e s m below meth c D ac bs cs sl 203 (LV s bs i) [] 144 (mk X) := by
  obtain ⟨rv, X1, X2, h1, h2, h3⟩ := st_load (l := l) (D := D) (ac := ac) (b := s.heap.size) hI (xs (i + 1)) (xs (i + 2)) (xs (i + 3)) (xs (i + 4)) (xs (i + 5)) (xs (i + 6))
  refine j_ald C0 d_L_law_203 rfl rfl 2 rfl ?_
  refine j_arg (k := 1) C0 hL d_L_law_204 d_L_law_205 d_L_law_206 (by decide) d_L_law_207 d_L_law_208 rfl (by omega) ?_
  refine j_arg (k := 2) C0 hL d_L_law_209 d_L_law_210 d_L_law_211 (by decide) d_L_law_212 d_L_law_213 rfl (by omega) ?_
  refine j_arg (k := 3) C0 hL d_L_law_214 d_L_law_215 d_L_law_216 (by decide) d_L_law_217 d_L_law_218 rfl (by omega) ?_
  refine j_arg (k := 4) C0 hL d_L_law_219 d_L_law_220 d_L_law_221 (by decide) d_L_law_222 d_L_law_223 rfl (by omega) ?_
  refine j_arg (k := 5) C0 hL d_L_law_224 d_L_law_225 d_L_law_226 (by decide) d_L_law_227 d_L_law_228 rfl (by omega) ?_
  refine j_arg6 (k := 6) C0 hL d_L_law_229 d_L_law_230 d_L_law_231 (by decide) d_L_law_233 d_L_law_234 rfl (by omega) ?_
  refine j_callV C0 hK d_L_law_235 rfl ml_L_18 mx_C_load mv_C_load h1 rfl rfl rfl (Nat.le_of_ble_eq_true rfl) ⟨Nat.le_of_ble_eq_true rfl, Nat.le_of_ble_eq_true rfl⟩ hcs ?_
  refine j_ald C0 d_L_law_238 rfl rfl 1 rfl ?_
  refine j_arg (k := 1) C0 hL d_L_law_239 d_L_law_240 d_L_law_241 (by decide) d_L_law_242 d_L_law_243 rfl (by omega) ?_
  refine j_arg (k := 2) C0 hL d_L_law_244 d_L_law_245 d_L_law_246 (by decide) d_L_law_247 d_L_law_248 rfl (by omega) ?_
  refine j_arg (k := 3) C0 hL d_L_law_249 d_L_law_250 d_L_law_251 (by decide) d_L_law_252 d_L_law_253 rfl (by omega) ?_
  refine j_arg (k := 4) C0 hL d_L_law_254 d_L_law_255 d_L_law_256 (by decide) d_L_law_257 d_L_law_258 rfl (by omega) ?_
  refine j_arg (k := 5) C0 hL d_L_law_259 d_L_law_260 d_L_law_261 (by decide) d_L_law_262 d_L_law_263 rfl (by omega) ?_
  refine j_arg6 (k := 6) C0 hL d_L_law_264 d_L_law_265 d_L_law_266 (by decide) d_L_law_268 d_L_law_269 rfl (by omega) ?_
  refine j_callV C0 hK d_L_law_270 rfl ml_L_22 mx_M_load mv_M_load h2 rfl rfl rfl (Nat.le_of_ble_eq_true rfl) ⟨Nat.le_of_ble_eq_true rfl, Nat.le_of_ble_eq_true rfl⟩ hcs ?_
  exact j_eq C0 d_L_law_273 (by decide) (K X2 h3)
theorem lc_keeper (C0 : lw_At p s m meth c bs L xs) (hK : Kx D ac s) (hL : L ≤ 3584) {i : Nat} (hi : i + 7 ≤ L) (hI : Inv X) (hcs : cs ≤ 600000 ∧ sl ≤ 7302250) (K : ∀ X2, Inv X2 → J p l e s m below meth c D ac bs cs sl 1083 (LV s bs i) [] 144 (mk X2)) : J p l e s m below meth c D ac bs cs sl 278 (LV s bs i) [] 144 (mk X) := by
  obtain ⟨rv, X1, X2, h1, h2, h3⟩ := st_keeper (l := l) (D := D) (ac := ac) (b := s.heap.size) hI (xs (i + 1)) (xs (i + 2)) (xs (i + 3)) (xs (i + 4))
  refine j_ald C0 d_L_law_278 rfl rfl 2 rfl ?_
  refine j_arg (k := 1) C0 hL d_L_law_279 d_L_law_280 d_L_law_281 (by decide) d_L_law_282 d_L_law_283 rfl (by omega) ?_
  refine j_arg (k := 2) C0 hL d_L_law_284 d_L_law_285 d_L_law_286 (by decide) d_L_law_287 d_L_law_288 rfl (by omega) ?_
  refine j_arg (k := 3) C0 hL d_L_law_289 d_L_law_290 d_L_law_291 (by decide) d_L_law_292 d_L_law_293 rfl (by omega) ?_
  refine j_arg (k := 4) C0 hL d_L_law_294 d_L_law_295 d_L_law_296 (by decide) d_L_law_297 d_L_law_298 rfl (by omega) ?_
  refine j_callV C0 hK d_L_law_299 rfl ml_L_23 mx_C_keeper mv_C_keeper h1 rfl rfl rfl (Nat.le_of_ble_eq_true rfl) ⟨Nat.le_of_ble_eq_true rfl, Nat.le_of_ble_eq_true rfl⟩ hcs ?_
  refine j_ald C0 d_L_law_302 rfl rfl 1 rfl ?_
  refine j_arg (k := 1) C0 hL d_L_law_303 d_L_law_304 d_L_law_305 (by decide) d_L_law_306 d_L_law_307 rfl (by omega) ?_
  refine j_arg (k := 2) C0 hL d_L_law_308 d_L_law_309 d_L_law_310 (by decide) d_L_law_311 d_L_law_312 rfl (by omega) ?_
  refine j_arg (k := 3) C0 hL d_L_law_313 d_L_law_314 d_L_law_315 (by decide) d_L_law_316 d_L_law_317 rfl (by omega) ?_
  refine j_arg (k := 4) C0 hL d_L_law_318 d_L_law_319 d_L_law_320 (by decide) d_L_law_321 d_L_law_322 rfl (by omega) ?_
  refine j_callV C0 hK d_L_law_323 rfl ml_L_27 mx_M_keeper mv_M_keeper h2 rfl rfl rfl (Nat.le_of_ble_eq_true rfl) ⟨Nat.le_of_ble_eq_true rfl, Nat.le_of_ble_eq_true rfl⟩ hcs ?_
  exact j_eq C0 d_L_law_326 (by decide) (K X2 h3)
theorem lc_seal (C0 : lw_At p s m meth c bs L xs) (hK : Kx D ac s) (hL : L ≤ 3584) {i : Nat} (hi : i + 7 ≤ L) (hI : Inv X) (hcs : cs ≤ 600000 ∧ sl ≤ 7302250) (K : ∀ X2, Inv X2 → J p l e s m below meth c D ac bs cs sl 1083 (LV s bs i) [] 144 (mk X2)) : J p l e s m below meth c D ac bs cs sl 331 (LV s bs i) [] 144 (mk X) := by
  obtain ⟨rv, X1, X2, h1, h2, h3⟩ := st_seal (l := l) (D := D) (ac := ac) (b := s.heap.size) hI (xs (i + 1))
  refine j_ald C0 d_L_law_331 rfl rfl 2 rfl ?_
  refine j_arg (k := 1) C0 hL d_L_law_332 d_L_law_333 d_L_law_334 (by decide) d_L_law_335 d_L_law_336 rfl (by omega) ?_
  refine j_callV C0 hK d_L_law_337 rfl ml_L_28 mx_C_seal mv_C_seal h1 rfl rfl rfl (Nat.le_of_ble_eq_true rfl) ⟨Nat.le_of_ble_eq_true rfl, Nat.le_of_ble_eq_true rfl⟩ hcs ?_
  refine j_ald C0 d_L_law_340 rfl rfl 1 rfl ?_
  refine j_arg (k := 1) C0 hL d_L_law_341 d_L_law_342 d_L_law_343 (by decide) d_L_law_344 d_L_law_345 rfl (by omega) ?_
  refine j_callV C0 hK d_L_law_346 rfl ml_L_32 mx_M_seal mv_M_seal h2 rfl rfl rfl (Nat.le_of_ble_eq_true rfl) ⟨Nat.le_of_ble_eq_true rfl, Nat.le_of_ble_eq_true rfl⟩ hcs ?_
  exact j_eq C0 d_L_law_349 (by decide) (K X2 h3)
theorem lc_clear (C0 : lw_At p s m meth c bs L xs) (hK : Kx D ac s) (hL : L ≤ 3584) {i : Nat} (hi : i + 7 ≤ L) (hI : Inv X) (hcs : cs ≤ 600000 ∧ sl ≤ 7302250) (K : ∀ X2, Inv X2 → J p l e s m below meth c D ac bs cs sl 1083 (LV s bs i) [] 144 (mk X2)) : J p l e s m below meth c D ac bs cs sl 354 (LV s bs i) [] 144 (mk X) := by
  obtain ⟨rv, X1, X2, h1, h2, h3⟩ := st_clear (l := l) (D := D) (ac := ac) (b := s.heap.size) hI (xs (i + 1))
  refine j_ald C0 d_L_law_354 rfl rfl 2 rfl ?_
  refine j_arg (k := 1) C0 hL d_L_law_355 d_L_law_356 d_L_law_357 (by decide) d_L_law_358 d_L_law_359 rfl (by omega) ?_
  refine j_callV C0 hK d_L_law_360 rfl ml_L_33 mx_C_clear mv_C_clear h1 rfl rfl rfl (Nat.le_of_ble_eq_true rfl) ⟨Nat.le_of_ble_eq_true rfl, Nat.le_of_ble_eq_true rfl⟩ hcs ?_
  refine j_ald C0 d_L_law_363 rfl rfl 1 rfl ?_
  refine j_arg (k := 1) C0 hL d_L_law_364 d_L_law_365 d_L_law_366 (by decide) d_L_law_367 d_L_law_368 rfl (by omega) ?_
  refine j_callV C0 hK d_L_law_369 rfl ml_L_36 mx_M_clear mv_M_clear h2 rfl rfl rfl (Nat.le_of_ble_eq_true rfl) ⟨Nat.le_of_ble_eq_true rfl, Nat.le_of_ble_eq_true rfl⟩ hcs ?_
  exact j_eq C0 d_L_law_372 (by decide) (K X2 h3)
theorem lc_read (C0 : lw_At p s m meth c bs L xs) (hK : Kx D ac s) (hL : L ≤ 3584) {i : Nat} (hi : i + 7 ≤ L) (hI : Inv X) (hcs : cs ≤ 600000 ∧ sl ≤ 7302250) (K : ∀ X2, Inv X2 → J p l e s m below meth c D ac bs cs sl 1083 (LV s bs i) [] 144 (mk X2)) : J p l e s m below meth c D ac bs cs sl 377 (LV s bs i) [] 144 (mk X) := by
  obtain ⟨rv, X1, X2, h1, h2, h3⟩ := st_read (l := l) (D := D) (ac := ac) (b := s.heap.size) hI (xs (i + 1)) (xs (i + 2))
  refine j_ald C0 d_L_law_377 rfl rfl 2 rfl ?_
  refine j_arg (k := 1) C0 hL d_L_law_378 d_L_law_379 d_L_law_380 (by decide) d_L_law_381 d_L_law_382 rfl (by omega) ?_
  refine j_arg (k := 2) C0 hL d_L_law_383 d_L_law_384 d_L_law_385 (by decide) d_L_law_386 d_L_law_387 rfl (by omega) ?_
  refine j_callV C0 hK d_L_law_388 rfl ml_L_37 mx_C_read mv_C_read h1 rfl rfl rfl (Nat.le_of_ble_eq_true rfl) ⟨Nat.le_of_ble_eq_true rfl, Nat.le_of_ble_eq_true rfl⟩ hcs ?_
  refine j_ald C0 d_L_law_391 rfl rfl 1 rfl ?_
  refine j_arg (k := 1) C0 hL d_L_law_392 d_L_law_393 d_L_law_394 (by decide) d_L_law_395 d_L_law_396 rfl (by omega) ?_
  refine j_arg (k := 2) C0 hL d_L_law_397 d_L_law_398 d_L_law_399 (by decide) d_L_law_400 d_L_law_401 rfl (by omega) ?_
  refine j_callV C0 hK d_L_law_402 rfl ml_L_41 mx_M_read mv_M_read h2 rfl rfl rfl (Nat.le_of_ble_eq_true rfl) ⟨Nat.le_of_ble_eq_true rfl, Nat.le_of_ble_eq_true rfl⟩ hcs ?_
  exact j_eq C0 d_L_law_405 (by decide) (K X2 h3)
theorem lc_change (C0 : lw_At p s m meth c bs L xs) (hK : Kx D ac s) (hL : L ≤ 3584) {i : Nat} (hi : i + 7 ≤ L) (hI : Inv X) (hcs : cs ≤ 600000 ∧ sl ≤ 7302250) (K : ∀ X2, Inv X2 → J p l e s m below meth c D ac bs cs sl 1083 (LV s bs i) [] 144 (mk X2)) : J p l e s m below meth c D ac bs cs sl 410 (LV s bs i) [] 144 (mk X) := by
  obtain ⟨rv, X1, X2, h1, h2, h3⟩ := st_change (l := l) (D := D) (ac := ac) (b := s.heap.size) hI (xs (i + 1)) (xs (i + 2)) (xs (i + 3)) (xs (i + 4))
  refine j_ald C0 d_L_law_410 rfl rfl 2 rfl ?_
  refine j_arg (k := 1) C0 hL d_L_law_411 d_L_law_412 d_L_law_413 (by decide) d_L_law_414 d_L_law_415 rfl (by omega) ?_
  refine j_arg (k := 2) C0 hL d_L_law_416 d_L_law_417 d_L_law_418 (by decide) d_L_law_419 d_L_law_420 rfl (by omega) ?_
  refine j_arg (k := 3) C0 hL d_L_law_421 d_L_law_422 d_L_law_423 (by decide) d_L_law_424 d_L_law_425 rfl (by omega) ?_
  refine j_arg (k := 4) C0 hL d_L_law_426 d_L_law_427 d_L_law_428 (by decide) d_L_law_429 d_L_law_430 rfl (by omega) ?_
  refine j_callV C0 hK d_L_law_431 rfl ml_L_42 mx_C_change mv_C_change h1 rfl rfl rfl (Nat.le_of_ble_eq_true rfl) ⟨Nat.le_of_ble_eq_true rfl, Nat.le_of_ble_eq_true rfl⟩ hcs ?_
  refine j_ald C0 d_L_law_434 rfl rfl 1 rfl ?_
  refine j_arg (k := 1) C0 hL d_L_law_435 d_L_law_436 d_L_law_437 (by decide) d_L_law_438 d_L_law_439 rfl (by omega) ?_
  refine j_arg (k := 2) C0 hL d_L_law_440 d_L_law_441 d_L_law_442 (by decide) d_L_law_443 d_L_law_444 rfl (by omega) ?_
  refine j_arg (k := 3) C0 hL d_L_law_445 d_L_law_446 d_L_law_447 (by decide) d_L_law_448 d_L_law_449 rfl (by omega) ?_
  refine j_arg (k := 4) C0 hL d_L_law_450 d_L_law_451 d_L_law_452 (by decide) d_L_law_453 d_L_law_454 rfl (by omega) ?_
  refine j_callV C0 hK d_L_law_455 rfl ml_L_45 mx_M_change mv_M_change h2 rfl rfl rfl (Nat.le_of_ble_eq_true rfl) ⟨Nat.le_of_ble_eq_true rfl, Nat.le_of_ble_eq_true rfl⟩ hcs ?_
  exact j_eq C0 d_L_law_458 (by decide) (K X2 h3)
theorem lc_value (C0 : lw_At p s m meth c bs L xs) (hK : Kx D ac s) (hL : L ≤ 3584) {i : Nat} (hi : i + 7 ≤ L) (hI : Inv X) (hcs : cs ≤ 600000 ∧ sl ≤ 7302250) (K : ∀ X2, Inv X2 → J p l e s m below meth c D ac bs cs sl 1083 (LV s bs i) [] 144 (mk X2)) : J p l e s m below meth c D ac bs cs sl 463 (LV s bs i) [] 144 (mk X) := by
  obtain ⟨rv, X1, X2, h1, h2, h3⟩ := st_value (l := l) (D := D) (ac := ac) (b := s.heap.size) hI (xs (i + 1)) (xs (i + 2)) (xs (i + 3))
  refine j_ald C0 d_L_law_463 rfl rfl 2 rfl ?_
  refine j_arg (k := 1) C0 hL d_L_law_464 d_L_law_465 d_L_law_466 (by decide) d_L_law_467 d_L_law_468 rfl (by omega) ?_
  refine j_arg (k := 2) C0 hL d_L_law_469 d_L_law_470 d_L_law_471 (by decide) d_L_law_472 d_L_law_473 rfl (by omega) ?_
  refine j_arg (k := 3) C0 hL d_L_law_474 d_L_law_475 d_L_law_476 (by decide) d_L_law_477 d_L_law_478 rfl (by omega) ?_
  refine j_callV C0 hK d_L_law_479 rfl ml_L_46 mx_C_value mv_C_value h1 rfl rfl rfl (Nat.le_of_ble_eq_true rfl) ⟨Nat.le_of_ble_eq_true rfl, Nat.le_of_ble_eq_true rfl⟩ hcs ?_
  refine j_ald C0 d_L_law_482 rfl rfl 1 rfl ?_
  refine j_arg (k := 1) C0 hL d_L_law_483 d_L_law_484 d_L_law_485 (by decide) d_L_law_486 d_L_law_487 rfl (by omega) ?_
  refine j_arg (k := 2) C0 hL d_L_law_488 d_L_law_489 d_L_law_490 (by decide) d_L_law_491 d_L_law_492 rfl (by omega) ?_
  refine j_arg (k := 3) C0 hL d_L_law_493 d_L_law_494 d_L_law_495 (by decide) d_L_law_496 d_L_law_497 rfl (by omega) ?_
  refine j_callV C0 hK d_L_law_498 rfl ml_L_50 mx_M_value mv_M_value h2 rfl rfl rfl (Nat.le_of_ble_eq_true rfl) ⟨Nat.le_of_ble_eq_true rfl, Nat.le_of_ble_eq_true rfl⟩ hcs ?_
  exact j_eq C0 d_L_law_501 (by decide) (K X2 h3)
theorem lc_about (C0 : lw_At p s m meth c bs L xs) (hK : Kx D ac s) (hL : L ≤ 3584) {i : Nat} (hi : i + 7 ≤ L) (hI : Inv X) (hcs : cs ≤ 600000 ∧ sl ≤ 7302250) (K : ∀ X2, Inv X2 → J p l e s m below meth c D ac bs cs sl 1083 (LV s bs i) [] 144 (mk X2)) : J p l e s m below meth c D ac bs cs sl 506 (LV s bs i) [] 144 (mk X) := by
  obtain ⟨rv, X1, X2, h1, h2, h3⟩ := st_about (l := l) (D := D) (ac := ac) (b := s.heap.size) hI (xs (i + 1)) (xs (i + 2)) (xs (i + 3))
  refine j_ald C0 d_L_law_506 rfl rfl 2 rfl ?_
  refine j_arg (k := 1) C0 hL d_L_law_507 d_L_law_508 d_L_law_509 (by decide) d_L_law_510 d_L_law_511 rfl (by omega) ?_
  refine j_arg (k := 2) C0 hL d_L_law_512 d_L_law_513 d_L_law_514 (by decide) d_L_law_515 d_L_law_516 rfl (by omega) ?_
  refine j_arg (k := 3) C0 hL d_L_law_517 d_L_law_518 d_L_law_519 (by decide) d_L_law_520 d_L_law_521 rfl (by omega) ?_
  refine j_callV C0 hK d_L_law_522 rfl ml_L_51 mx_C_about mv_C_about h1 rfl rfl rfl (Nat.le_of_ble_eq_true rfl) ⟨Nat.le_of_ble_eq_true rfl, Nat.le_of_ble_eq_true rfl⟩ hcs ?_
  refine j_ald C0 d_L_law_525 rfl rfl 1 rfl ?_
  refine j_arg (k := 1) C0 hL d_L_law_526 d_L_law_527 d_L_law_528 (by decide) d_L_law_529 d_L_law_530 rfl (by omega) ?_
  refine j_arg (k := 2) C0 hL d_L_law_531 d_L_law_532 d_L_law_533 (by decide) d_L_law_534 d_L_law_535 rfl (by omega) ?_
  refine j_arg (k := 3) C0 hL d_L_law_536 d_L_law_537 d_L_law_538 (by decide) d_L_law_539 d_L_law_540 rfl (by omega) ?_
  refine j_callV C0 hK d_L_law_541 rfl ml_L_54 mx_M_about mv_M_about h2 rfl rfl rfl (Nat.le_of_ble_eq_true rfl) ⟨Nat.le_of_ble_eq_true rfl, Nat.le_of_ble_eq_true rfl⟩ hcs ?_
  exact j_eq C0 d_L_law_544 (by decide) (K X2 h3)
theorem lc_sum (C0 : lw_At p s m meth c bs L xs) (hK : Kx D ac s) (hL : L ≤ 3584) {i : Nat} (hi : i + 7 ≤ L) (hI : Inv X) (hcs : cs ≤ 600000 ∧ sl ≤ 7302250) (K : ∀ X2, Inv X2 → J p l e s m below meth c D ac bs cs sl 1083 (LV s bs i) [] 144 (mk X2)) : J p l e s m below meth c D ac bs cs sl 549 (LV s bs i) [] 144 (mk X) := by
  obtain ⟨rv, X1, X2, h1, h2, h3⟩ := st_sum (l := l) (D := D) (ac := ac) (b := s.heap.size) hI (xs (i + 1)) (xs (i + 2)) (xs (i + 3))
  refine j_ald C0 d_L_law_549 rfl rfl 2 rfl ?_
  refine j_arg (k := 1) C0 hL d_L_law_550 d_L_law_551 d_L_law_552 (by decide) d_L_law_553 d_L_law_554 rfl (by omega) ?_
  refine j_arg (k := 2) C0 hL d_L_law_555 d_L_law_556 d_L_law_557 (by decide) d_L_law_558 d_L_law_559 rfl (by omega) ?_
  refine j_arg (k := 3) C0 hL d_L_law_560 d_L_law_561 d_L_law_562 (by decide) d_L_law_563 d_L_law_564 rfl (by omega) ?_
  refine j_callV C0 hK d_L_law_565 rfl ml_L_55 mx_C_sum mv_C_sum h1 rfl rfl rfl (Nat.le_of_ble_eq_true rfl) ⟨Nat.le_of_ble_eq_true rfl, Nat.le_of_ble_eq_true rfl⟩ hcs ?_
  refine j_ald C0 d_L_law_568 rfl rfl 1 rfl ?_
  refine j_arg (k := 1) C0 hL d_L_law_569 d_L_law_570 d_L_law_571 (by decide) d_L_law_572 d_L_law_573 rfl (by omega) ?_
  refine j_arg (k := 2) C0 hL d_L_law_574 d_L_law_575 d_L_law_576 (by decide) d_L_law_577 d_L_law_578 rfl (by omega) ?_
  refine j_arg (k := 3) C0 hL d_L_law_579 d_L_law_580 d_L_law_581 (by decide) d_L_law_582 d_L_law_583 rfl (by omega) ?_
  refine j_callV C0 hK d_L_law_584 rfl ml_L_59 mx_M_sum mv_M_sum h2 rfl rfl rfl (Nat.le_of_ble_eq_true rfl) ⟨Nat.le_of_ble_eq_true rfl, Nat.le_of_ble_eq_true rfl⟩ hcs ?_
  exact j_leq C0 d_L_law_587 d_L_law_588 (by decide) (K X2 h3)
theorem lc_count (C0 : lw_At p s m meth c bs L xs) (hK : Kx D ac s) (hL : L ≤ 3584) {i : Nat} (hi : i + 7 ≤ L) (hI : Inv X) (hcs : cs ≤ 600000 ∧ sl ≤ 7302250) (K : ∀ X2, Inv X2 → J p l e s m below meth c D ac bs cs sl 1083 (LV s bs i) [] 144 (mk X2)) : J p l e s m below meth c D ac bs cs sl 593 (LV s bs i) [] 144 (mk X) := by
  obtain ⟨rv, X1, X2, h1, h2, h3⟩ := st_count (l := l) (D := D) (ac := ac) (b := s.heap.size) hI (xs (i + 1)) (xs (i + 2)) (xs (i + 3))
  refine j_ald C0 d_L_law_593 rfl rfl 2 rfl ?_
  refine j_arg (k := 1) C0 hL d_L_law_594 d_L_law_595 d_L_law_596 (by decide) d_L_law_597 d_L_law_598 rfl (by omega) ?_
  refine j_arg (k := 2) C0 hL d_L_law_599 d_L_law_600 d_L_law_601 (by decide) d_L_law_602 d_L_law_603 rfl (by omega) ?_
  refine j_arg (k := 3) C0 hL d_L_law_604 d_L_law_605 d_L_law_606 (by decide) d_L_law_607 d_L_law_608 rfl (by omega) ?_
  refine j_callV C0 hK d_L_law_609 rfl ml_L_60 mx_C_count mv_C_count h1 rfl rfl rfl (Nat.le_of_ble_eq_true rfl) ⟨Nat.le_of_ble_eq_true rfl, Nat.le_of_ble_eq_true rfl⟩ hcs ?_
  refine j_ald C0 d_L_law_612 rfl rfl 1 rfl ?_
  refine j_arg (k := 1) C0 hL d_L_law_613 d_L_law_614 d_L_law_615 (by decide) d_L_law_616 d_L_law_617 rfl (by omega) ?_
  refine j_arg (k := 2) C0 hL d_L_law_618 d_L_law_619 d_L_law_620 (by decide) d_L_law_621 d_L_law_622 rfl (by omega) ?_
  refine j_arg (k := 3) C0 hL d_L_law_623 d_L_law_624 d_L_law_625 (by decide) d_L_law_626 d_L_law_627 rfl (by omega) ?_
  refine j_callV C0 hK d_L_law_628 rfl ml_L_63 mx_M_count mv_M_count h2 rfl rfl rfl (Nat.le_of_ble_eq_true rfl) ⟨Nat.le_of_ble_eq_true rfl, Nat.le_of_ble_eq_true rfl⟩ hcs ?_
  exact j_eq C0 d_L_law_631 (by decide) (K X2 h3)
theorem lc_join (C0 : lw_At p s m meth c bs L xs) (hK : Kx D ac s) (hL : L ≤ 3584) {i : Nat} (hi : i + 7 ≤ L) (hI : Inv X) (hcs : cs ≤ 600000 ∧ sl ≤ 7302250) (K : ∀ X2, Inv X2 → J p l e s m below meth c D ac bs cs sl 1083 (LV s bs i) [] 144 (mk X2)) : J p l e s m below meth c D ac bs cs sl 636 (LV s bs i) [] 144 (mk X) := by
  obtain ⟨rv, X1, X2, h1, h2, h3⟩ := st_join (l := l) (D := D) (ac := ac) (b := s.heap.size) hI (xs (i + 1))
  refine j_ald C0 d_L_law_636 rfl rfl 2 rfl ?_
  refine j_arg (k := 1) C0 hL d_L_law_637 d_L_law_638 d_L_law_639 (by decide) d_L_law_640 d_L_law_641 rfl (by omega) ?_
  refine j_callV C0 hK d_L_law_642 rfl ml_L_64 mx_C_join mv_C_join h1 rfl rfl rfl (Nat.le_of_ble_eq_true rfl) ⟨Nat.le_of_ble_eq_true rfl, Nat.le_of_ble_eq_true rfl⟩ hcs ?_
  refine j_ald C0 d_L_law_645 rfl rfl 1 rfl ?_
  refine j_arg (k := 1) C0 hL d_L_law_646 d_L_law_647 d_L_law_648 (by decide) d_L_law_649 d_L_law_650 rfl (by omega) ?_
  refine j_callV C0 hK d_L_law_651 rfl ml_L_67 mx_M_join mv_M_join h2 rfl rfl rfl (Nat.le_of_ble_eq_true rfl) ⟨Nat.le_of_ble_eq_true rfl, Nat.le_of_ble_eq_true rfl⟩ hcs ?_
  exact j_eq C0 d_L_law_654 (by decide) (K X2 h3)
theorem lc_part (C0 : lw_At p s m meth c bs L xs) (hK : Kx D ac s) (hL : L ≤ 3584) {i : Nat} (hi : i + 7 ≤ L) (hI : Inv X) (hcs : cs ≤ 600000 ∧ sl ≤ 7302250) (K : ∀ X2, Inv X2 → J p l e s m below meth c D ac bs cs sl 1083 (LV s bs i) [] 144 (mk X2)) : J p l e s m below meth c D ac bs cs sl 659 (LV s bs i) [] 144 (mk X) := by
  obtain ⟨rv, X1, X2, h1, h2, h3⟩ := st_part (l := l) (D := D) (ac := ac) (b := s.heap.size) hI (xs (i + 1)) (xs (i + 2))
  refine j_ald C0 d_L_law_659 rfl rfl 2 rfl ?_
  refine j_arg (k := 1) C0 hL d_L_law_660 d_L_law_661 d_L_law_662 (by decide) d_L_law_663 d_L_law_664 rfl (by omega) ?_
  refine j_arg (k := 2) C0 hL d_L_law_665 d_L_law_666 d_L_law_667 (by decide) d_L_law_668 d_L_law_669 rfl (by omega) ?_
  refine j_callV C0 hK d_L_law_670 rfl ml_L_68 mx_C_part mv_C_part h1 rfl rfl rfl (Nat.le_of_ble_eq_true rfl) ⟨Nat.le_of_ble_eq_true rfl, Nat.le_of_ble_eq_true rfl⟩ hcs ?_
  refine j_ald C0 d_L_law_673 rfl rfl 1 rfl ?_
  refine j_arg (k := 1) C0 hL d_L_law_674 d_L_law_675 d_L_law_676 (by decide) d_L_law_677 d_L_law_678 rfl (by omega) ?_
  refine j_arg (k := 2) C0 hL d_L_law_679 d_L_law_680 d_L_law_681 (by decide) d_L_law_682 d_L_law_683 rfl (by omega) ?_
  refine j_callV C0 hK d_L_law_684 rfl ml_L_71 mx_M_part mv_M_part h2 rfl rfl rfl (Nat.le_of_ble_eq_true rfl) ⟨Nat.le_of_ble_eq_true rfl, Nat.le_of_ble_eq_true rfl⟩ hcs ?_
  exact j_eq C0 d_L_law_687 (by decide) (K X2 h3)
theorem lc_next (C0 : lw_At p s m meth c bs L xs) (hK : Kx D ac s) (hL : L ≤ 3584) {i : Nat} (hi : i + 7 ≤ L) (hI : Inv X) (hcs : cs ≤ 600000 ∧ sl ≤ 7302250) (K : ∀ X2, Inv X2 → J p l e s m below meth c D ac bs cs sl 1083 (LV s bs i) [] 144 (mk X2)) : J p l e s m below meth c D ac bs cs sl 692 (LV s bs i) [] 144 (mk X) := by
  obtain ⟨rv, X1, X2, h1, h2, h3⟩ := st_next (l := l) (D := D) (ac := ac) (b := s.heap.size) hI (xs (i + 1)) (xs (i + 2))
  refine j_ald C0 d_L_law_692 rfl rfl 2 rfl ?_
  refine j_arg (k := 1) C0 hL d_L_law_693 d_L_law_694 d_L_law_695 (by decide) d_L_law_696 d_L_law_697 rfl (by omega) ?_
  refine j_arg (k := 2) C0 hL d_L_law_698 d_L_law_699 d_L_law_700 (by decide) d_L_law_701 d_L_law_702 rfl (by omega) ?_
  refine j_callV C0 hK d_L_law_703 rfl ml_L_72 mx_C_next mv_C_next h1 rfl rfl rfl (Nat.le_of_ble_eq_true rfl) ⟨Nat.le_of_ble_eq_true rfl, Nat.le_of_ble_eq_true rfl⟩ hcs ?_
  refine j_ald C0 d_L_law_706 rfl rfl 1 rfl ?_
  refine j_arg (k := 1) C0 hL d_L_law_707 d_L_law_708 d_L_law_709 (by decide) d_L_law_710 d_L_law_711 rfl (by omega) ?_
  refine j_arg (k := 2) C0 hL d_L_law_712 d_L_law_713 d_L_law_714 (by decide) d_L_law_715 d_L_law_716 rfl (by omega) ?_
  refine j_callV C0 hK d_L_law_717 rfl ml_L_75 mx_M_next mv_M_next h2 rfl rfl rfl (Nat.le_of_ble_eq_true rfl) ⟨Nat.le_of_ble_eq_true rfl, Nat.le_of_ble_eq_true rfl⟩ hcs ?_
  exact j_eq C0 d_L_law_720 (by decide) (K X2 h3)
theorem lc_refine (C0 : lw_At p s m meth c bs L xs) (hK : Kx D ac s) (hL : L ≤ 3584) {i : Nat} (hi : i + 7 ≤ L) (hI : Inv X) (hcs : cs ≤ 600000 ∧ sl ≤ 7302250) (K : ∀ X2, Inv X2 → J p l e s m below meth c D ac bs cs sl 1083 (LV s bs i) [] 144 (mk X2)) : J p l e s m below meth c D ac bs cs sl 725 (LV s bs i) [] 144 (mk X) := by
  obtain ⟨rv, X1, X2, h1, h2, h3⟩ := st_refine (l := l) (D := D) (ac := ac) (b := s.heap.size) hI (xs (i + 1)) (xs (i + 2)) (xs (i + 3))
  refine j_ald C0 d_L_law_725 rfl rfl 2 rfl ?_
  refine j_arg (k := 1) C0 hL d_L_law_726 d_L_law_727 d_L_law_728 (by decide) d_L_law_729 d_L_law_730 rfl (by omega) ?_
  refine j_arg (k := 2) C0 hL d_L_law_731 d_L_law_732 d_L_law_733 (by decide) d_L_law_734 d_L_law_735 rfl (by omega) ?_
  refine j_arg (k := 3) C0 hL d_L_law_736 d_L_law_737 d_L_law_738 (by decide) d_L_law_739 d_L_law_740 rfl (by omega) ?_
  refine j_callV C0 hK d_L_law_741 rfl ml_L_76 mx_C_refine mv_C_refine h1 rfl rfl rfl (Nat.le_of_ble_eq_true rfl) ⟨Nat.le_of_ble_eq_true rfl, Nat.le_of_ble_eq_true rfl⟩ hcs ?_
  refine j_ald C0 d_L_law_744 rfl rfl 1 rfl ?_
  refine j_arg (k := 1) C0 hL d_L_law_745 d_L_law_746 d_L_law_747 (by decide) d_L_law_748 d_L_law_749 rfl (by omega) ?_
  refine j_arg (k := 2) C0 hL d_L_law_750 d_L_law_751 d_L_law_752 (by decide) d_L_law_753 d_L_law_754 rfl (by omega) ?_
  refine j_arg (k := 3) C0 hL d_L_law_755 d_L_law_756 d_L_law_757 (by decide) d_L_law_758 d_L_law_759 rfl (by omega) ?_
  refine j_callV C0 hK d_L_law_760 rfl ml_L_79 mx_M_refine mv_M_refine h2 rfl rfl rfl (Nat.le_of_ble_eq_true rfl) ⟨Nat.le_of_ble_eq_true rfl, Nat.le_of_ble_eq_true rfl⟩ hcs ?_
  exact j_eq C0 d_L_law_763 (by decide) (K X2 h3)
theorem lc_sheet (C0 : lw_At p s m meth c bs L xs) (hK : Kx D ac s) (hL : L ≤ 3584) {i : Nat} (hi : i + 7 ≤ L) (hI : Inv X) (hcs : cs ≤ 600000 ∧ sl ≤ 7302250) (K : ∀ X2, Inv X2 → J p l e s m below meth c D ac bs cs sl 1083 (LV s bs i) [] 144 (mk X2)) : J p l e s m below meth c D ac bs cs sl 768 (LV s bs i) [] 144 (mk X) := by
  obtain ⟨rv, X1, X2, h1, h2, h3⟩ := st_sheet (l := l) (D := D) (ac := ac) (b := s.heap.size) hI (xs (i + 1)) (xs (i + 2)) (xs (i + 3))
  refine j_ald C0 d_L_law_768 rfl rfl 2 rfl ?_
  refine j_arg (k := 1) C0 hL d_L_law_769 d_L_law_770 d_L_law_771 (by decide) d_L_law_772 d_L_law_773 rfl (by omega) ?_
  refine j_arg (k := 2) C0 hL d_L_law_774 d_L_law_775 d_L_law_776 (by decide) d_L_law_777 d_L_law_778 rfl (by omega) ?_
  refine j_arg (k := 3) C0 hL d_L_law_779 d_L_law_780 d_L_law_781 (by decide) d_L_law_782 d_L_law_783 rfl (by omega) ?_
  refine j_callV C0 hK d_L_law_784 rfl ml_L_80 mx_C_sheet mv_C_sheet h1 rfl rfl rfl (Nat.le_of_ble_eq_true rfl) ⟨Nat.le_of_ble_eq_true rfl, Nat.le_of_ble_eq_true rfl⟩ hcs ?_
  refine j_ald C0 d_L_law_787 rfl rfl 1 rfl ?_
  refine j_arg (k := 1) C0 hL d_L_law_788 d_L_law_789 d_L_law_790 (by decide) d_L_law_791 d_L_law_792 rfl (by omega) ?_
  refine j_arg (k := 2) C0 hL d_L_law_793 d_L_law_794 d_L_law_795 (by decide) d_L_law_796 d_L_law_797 rfl (by omega) ?_
  refine j_arg (k := 3) C0 hL d_L_law_798 d_L_law_799 d_L_law_800 (by decide) d_L_law_801 d_L_law_802 rfl (by omega) ?_
  refine j_callV C0 hK d_L_law_803 rfl ml_L_83 mx_M_sheet mv_M_sheet h2 rfl rfl rfl (Nat.le_of_ble_eq_true rfl) ⟨Nat.le_of_ble_eq_true rfl, Nat.le_of_ble_eq_true rfl⟩ hcs ?_
  exact j_eq C0 d_L_law_806 (by decide) (K X2 h3)
theorem lc_lose (C0 : lw_At p s m meth c bs L xs) (hK : Kx D ac s) (hL : L ≤ 3584) {i : Nat} (hi : i + 7 ≤ L) (hI : Inv X) (hcs : cs ≤ 600000 ∧ sl ≤ 7302250) (K : ∀ X2, Inv X2 → J p l e s m below meth c D ac bs cs sl 1083 (LV s bs i) [] 144 (mk X2)) : J p l e s m below meth c D ac bs cs sl 811 (LV s bs i) [] 144 (mk X) := by
  obtain ⟨rv, X1, X2, h1, h2, h3⟩ := st_lose (l := l) (D := D) (ac := ac) (b := s.heap.size) hI (xs (i + 1))
  refine j_ald C0 d_L_law_811 rfl rfl 2 rfl ?_
  refine j_arg (k := 1) C0 hL d_L_law_812 d_L_law_813 d_L_law_814 (by decide) d_L_law_815 d_L_law_816 rfl (by omega) ?_
  refine j_callV C0 hK d_L_law_817 rfl ml_L_84 mx_C_lose mv_C_lose h1 rfl rfl rfl (Nat.le_of_ble_eq_true rfl) ⟨Nat.le_of_ble_eq_true rfl, Nat.le_of_ble_eq_true rfl⟩ hcs ?_
  refine j_ald C0 d_L_law_820 rfl rfl 1 rfl ?_
  refine j_arg (k := 1) C0 hL d_L_law_821 d_L_law_822 d_L_law_823 (by decide) d_L_law_824 d_L_law_825 rfl (by omega) ?_
  refine j_callV C0 hK d_L_law_826 rfl ml_L_87 mx_M_lose mv_M_lose h2 rfl rfl rfl (Nat.le_of_ble_eq_true rfl) ⟨Nat.le_of_ble_eq_true rfl, Nat.le_of_ble_eq_true rfl⟩ hcs ?_
  exact j_eq C0 d_L_law_829 (by decide) (K X2 h3)
theorem lc_put (C0 : lw_At p s m meth c bs L xs) (hK : Kx D ac s) (hL : L ≤ 3584) {i : Nat} (hi : i + 7 ≤ L) (hI : Inv X) (hcs : cs ≤ 600000 ∧ sl ≤ 7302250) (K : ∀ X2, Inv X2 → J p l e s m below meth c D ac bs cs sl 1083 (LV s bs i) [] 144 (mk X2)) : J p l e s m below meth c D ac bs cs sl 834 (LV s bs i) [] 144 (mk X) := by
  obtain ⟨rv, X1, X2, h1, h2, h3⟩ := st_put (l := l) (D := D) (ac := ac) (b := s.heap.size) hI (xs (i + 1)) (xs (i + 2)) (xs (i + 3)) (xs (i + 4))
  refine j_ald C0 d_L_law_834 rfl rfl 2 rfl ?_
  refine j_arg (k := 1) C0 hL d_L_law_835 d_L_law_836 d_L_law_837 (by decide) d_L_law_838 d_L_law_839 rfl (by omega) ?_
  refine j_arg (k := 2) C0 hL d_L_law_840 d_L_law_841 d_L_law_842 (by decide) d_L_law_843 d_L_law_844 rfl (by omega) ?_
  refine j_arg (k := 3) C0 hL d_L_law_845 d_L_law_846 d_L_law_847 (by decide) d_L_law_848 d_L_law_849 rfl (by omega) ?_
  refine j_arg (k := 4) C0 hL d_L_law_850 d_L_law_851 d_L_law_852 (by decide) d_L_law_853 d_L_law_854 rfl (by omega) ?_
  refine j_callV C0 hK d_L_law_855 rfl ml_L_88 mx_C_put mv_C_put h1 rfl rfl rfl (Nat.le_of_ble_eq_true rfl) ⟨Nat.le_of_ble_eq_true rfl, Nat.le_of_ble_eq_true rfl⟩ hcs ?_
  refine j_ald C0 d_L_law_858 rfl rfl 1 rfl ?_
  refine j_arg (k := 1) C0 hL d_L_law_859 d_L_law_860 d_L_law_861 (by decide) d_L_law_862 d_L_law_863 rfl (by omega) ?_
  refine j_arg (k := 2) C0 hL d_L_law_864 d_L_law_865 d_L_law_866 (by decide) d_L_law_867 d_L_law_868 rfl (by omega) ?_
  refine j_arg (k := 3) C0 hL d_L_law_869 d_L_law_870 d_L_law_871 (by decide) d_L_law_872 d_L_law_873 rfl (by omega) ?_
  refine j_arg (k := 4) C0 hL d_L_law_874 d_L_law_875 d_L_law_876 (by decide) d_L_law_877 d_L_law_878 rfl (by omega) ?_
  refine j_callV C0 hK d_L_law_879 rfl ml_L_91 mx_M_put mv_M_put h2 rfl rfl rfl (Nat.le_of_ble_eq_true rfl) ⟨Nat.le_of_ble_eq_true rfl, Nat.le_of_ble_eq_true rfl⟩ hcs ?_
  exact j_eq C0 d_L_law_882 (by decide) (K X2 h3)
theorem lc_get (C0 : lw_At p s m meth c bs L xs) (hK : Kx D ac s) (hL : L ≤ 3584) {i : Nat} (hi : i + 7 ≤ L) (hI : Inv X) (hcs : cs ≤ 600000 ∧ sl ≤ 7302250) (K : ∀ X2, Inv X2 → J p l e s m below meth c D ac bs cs sl 1083 (LV s bs i) [] 144 (mk X2)) : J p l e s m below meth c D ac bs cs sl 887 (LV s bs i) [] 144 (mk X) := by
  obtain ⟨rv, X1, X2, h1, h2, h3⟩ := st_get (l := l) (D := D) (ac := ac) (b := s.heap.size) hI (xs (i + 1)) (xs (i + 2)) (xs (i + 3))
  refine j_ald C0 d_L_law_887 rfl rfl 2 rfl ?_
  refine j_arg (k := 1) C0 hL d_L_law_888 d_L_law_889 d_L_law_890 (by decide) d_L_law_891 d_L_law_892 rfl (by omega) ?_
  refine j_arg (k := 2) C0 hL d_L_law_893 d_L_law_894 d_L_law_895 (by decide) d_L_law_896 d_L_law_897 rfl (by omega) ?_
  refine j_arg (k := 3) C0 hL d_L_law_898 d_L_law_899 d_L_law_900 (by decide) d_L_law_901 d_L_law_902 rfl (by omega) ?_
  refine j_callV C0 hK d_L_law_903 rfl ml_L_92 mx_C_get mv_C_get h1 rfl rfl rfl (Nat.le_of_ble_eq_true rfl) ⟨Nat.le_of_ble_eq_true rfl, Nat.le_of_ble_eq_true rfl⟩ hcs ?_
  refine j_ald C0 d_L_law_906 rfl rfl 1 rfl ?_
  refine j_arg (k := 1) C0 hL d_L_law_907 d_L_law_908 d_L_law_909 (by decide) d_L_law_910 d_L_law_911 rfl (by omega) ?_
  refine j_arg (k := 2) C0 hL d_L_law_912 d_L_law_913 d_L_law_914 (by decide) d_L_law_915 d_L_law_916 rfl (by omega) ?_
  refine j_arg (k := 3) C0 hL d_L_law_917 d_L_law_918 d_L_law_919 (by decide) d_L_law_920 d_L_law_921 rfl (by omega) ?_
  refine j_callV C0 hK d_L_law_922 rfl ml_L_95 mx_M_get mv_M_get h2 rfl rfl rfl (Nat.le_of_ble_eq_true rfl) ⟨Nat.le_of_ble_eq_true rfl, Nat.le_of_ble_eq_true rfl⟩ hcs ?_
  exact j_eq C0 d_L_law_925 (by decide) (K X2 h3)
theorem lc_copy (C0 : lw_At p s m meth c bs L xs) (hK : Kx D ac s) (hL : L ≤ 3584) {i : Nat} (hi : i + 7 ≤ L) (hI : Inv X) (hcs : cs ≤ 600000 ∧ sl ≤ 7302250) (K : ∀ X2, Inv X2 → J p l e s m below meth c D ac bs cs sl 1083 (LV s bs i) [] 144 (mk X2)) : J p l e s m below meth c D ac bs cs sl 930 (LV s bs i) [] 144 (mk X) := by
  obtain ⟨rv, X1, X2, h1, h2, h3⟩ := st_copy (l := l) (D := D) (ac := ac) (b := s.heap.size) hI (xs (i + 1)) (xs (i + 2)) (xs (i + 3)) (xs (i + 4)) (xs (i + 5))
  refine j_ald C0 d_L_law_930 rfl rfl 2 rfl ?_
  refine j_arg (k := 1) C0 hL d_L_law_931 d_L_law_932 d_L_law_933 (by decide) d_L_law_934 d_L_law_935 rfl (by omega) ?_
  refine j_arg (k := 2) C0 hL d_L_law_936 d_L_law_937 d_L_law_938 (by decide) d_L_law_939 d_L_law_940 rfl (by omega) ?_
  refine j_arg (k := 3) C0 hL d_L_law_941 d_L_law_942 d_L_law_943 (by decide) d_L_law_944 d_L_law_945 rfl (by omega) ?_
  refine j_arg (k := 4) C0 hL d_L_law_946 d_L_law_947 d_L_law_948 (by decide) d_L_law_949 d_L_law_950 rfl (by omega) ?_
  refine j_arg (k := 5) C0 hL d_L_law_951 d_L_law_952 d_L_law_953 (by decide) d_L_law_954 d_L_law_955 rfl (by omega) ?_
  refine j_callV C0 hK d_L_law_956 rfl ml_L_96 mx_C_copy mv_C_copy h1 rfl rfl rfl (Nat.le_of_ble_eq_true rfl) ⟨Nat.le_of_ble_eq_true rfl, Nat.le_of_ble_eq_true rfl⟩ hcs ?_
  refine j_ald C0 d_L_law_959 rfl rfl 1 rfl ?_
  refine j_arg (k := 1) C0 hL d_L_law_960 d_L_law_961 d_L_law_962 (by decide) d_L_law_963 d_L_law_964 rfl (by omega) ?_
  refine j_arg (k := 2) C0 hL d_L_law_965 d_L_law_966 d_L_law_967 (by decide) d_L_law_968 d_L_law_969 rfl (by omega) ?_
  refine j_arg (k := 3) C0 hL d_L_law_970 d_L_law_971 d_L_law_972 (by decide) d_L_law_973 d_L_law_974 rfl (by omega) ?_
  refine j_arg (k := 4) C0 hL d_L_law_975 d_L_law_976 d_L_law_977 (by decide) d_L_law_978 d_L_law_979 rfl (by omega) ?_
  refine j_arg (k := 5) C0 hL d_L_law_980 d_L_law_981 d_L_law_982 (by decide) d_L_law_983 d_L_law_984 rfl (by omega) ?_
  refine j_callV C0 hK d_L_law_985 rfl ml_L_99 mx_M_copy mv_M_copy h2 rfl rfl rfl (Nat.le_of_ble_eq_true rfl) ⟨Nat.le_of_ble_eq_true rfl, Nat.le_of_ble_eq_true rfl⟩ hcs ?_
  exact j_eq C0 d_L_law_988 (by decide) (K X2 h3)
theorem lc_write (C0 : lw_At p s m meth c bs L xs) (hK : Kx D ac s) (hL : L ≤ 3584) {i : Nat} (hi : i + 7 ≤ L) (hI : Inv X) (hcs : cs ≤ 600000 ∧ sl ≤ 7302250) (K : ∀ X2, Inv X2 → J p l e s m below meth c D ac bs cs sl 1083 (LV s bs i) [] 144 (mk X2)) : J p l e s m below meth c D ac bs cs sl 993 (LV s bs i) [] 144 (mk X) := by
  obtain ⟨rv, X1, X2, h1, h2, h3⟩ := st_write (l := l) (D := D) (ac := ac) (b := s.heap.size) hI (xs (i + 1)) (xs (i + 2)) (xs (i + 3)) (xs (i + 4))
  refine j_ald C0 d_L_law_993 rfl rfl 2 rfl ?_
  refine j_arg (k := 1) C0 hL d_L_law_994 d_L_law_995 d_L_law_996 (by decide) d_L_law_997 d_L_law_998 rfl (by omega) ?_
  refine j_arg (k := 2) C0 hL d_L_law_999 d_L_law_1000 d_L_law_1001 (by decide) d_L_law_1002 d_L_law_1003 rfl (by omega) ?_
  refine j_arg (k := 3) C0 hL d_L_law_1004 d_L_law_1005 d_L_law_1006 (by decide) d_L_law_1007 d_L_law_1008 rfl (by omega) ?_
  refine j_arg (k := 4) C0 hL d_L_law_1009 d_L_law_1010 d_L_law_1011 (by decide) d_L_law_1012 d_L_law_1013 rfl (by omega) ?_
  refine j_callV C0 hK d_L_law_1014 rfl ml_L_100 mx_C_write mv_C_write h1 rfl rfl rfl (Nat.le_of_ble_eq_true rfl) ⟨Nat.le_of_ble_eq_true rfl, Nat.le_of_ble_eq_true rfl⟩ hcs ?_
  refine j_ald C0 d_L_law_1017 rfl rfl 1 rfl ?_
  refine j_arg (k := 1) C0 hL d_L_law_1018 d_L_law_1019 d_L_law_1020 (by decide) d_L_law_1021 d_L_law_1022 rfl (by omega) ?_
  refine j_arg (k := 2) C0 hL d_L_law_1023 d_L_law_1024 d_L_law_1025 (by decide) d_L_law_1026 d_L_law_1027 rfl (by omega) ?_
  refine j_arg (k := 3) C0 hL d_L_law_1028 d_L_law_1029 d_L_law_1030 (by decide) d_L_law_1031 d_L_law_1032 rfl (by omega) ?_
  refine j_arg (k := 4) C0 hL d_L_law_1033 d_L_law_1034 d_L_law_1035 (by decide) d_L_law_1036 d_L_law_1037 rfl (by omega) ?_
  refine j_callV C0 hK d_L_law_1038 rfl ml_L_103 mx_M_write mv_M_write h2 rfl rfl rfl (Nat.le_of_ble_eq_true rfl) ⟨Nat.le_of_ble_eq_true rfl, Nat.le_of_ble_eq_true rfl⟩ hcs ?_
  exact j_eq C0 d_L_law_1041 (by decide) (K X2 h3)
theorem lc_told (C0 : lw_At p s m meth c bs L xs) (hK : Kx D ac s) (hL : L ≤ 3584) {i : Nat} (hi : i + 7 ≤ L) (hI : Inv X) (hcs : cs ≤ 600000 ∧ sl ≤ 7302250) (K : ∀ X2, Inv X2 → J p l e s m below meth c D ac bs cs sl 1083 (LV s bs i) [] 144 (mk X2)) : J p l e s m below meth c D ac bs cs sl 1046 (LV s bs i) [] 144 (mk X) := by
  obtain ⟨rv, X1, X2, h1, h2, h3⟩ := st_told (l := l) (D := D) (ac := ac) (b := s.heap.size) hI (xs (i + 1))
  refine j_ald C0 d_L_law_1046 rfl rfl 2 rfl ?_
  refine j_arg (k := 1) C0 hL d_L_law_1047 d_L_law_1048 d_L_law_1049 (by decide) d_L_law_1050 d_L_law_1051 rfl (by omega) ?_
  refine j_callV C0 hK d_L_law_1052 rfl ml_L_104 mx_C_told mv_C_told h1 rfl rfl rfl (Nat.le_of_ble_eq_true rfl) ⟨Nat.le_of_ble_eq_true rfl, Nat.le_of_ble_eq_true rfl⟩ hcs ?_
  refine j_ald C0 d_L_law_1055 rfl rfl 1 rfl ?_
  refine j_arg (k := 1) C0 hL d_L_law_1056 d_L_law_1057 d_L_law_1058 (by decide) d_L_law_1059 d_L_law_1060 rfl (by omega) ?_
  refine j_callV C0 hK d_L_law_1061 rfl ml_L_107 mx_M_told mv_M_told h2 rfl rfl rfl (Nat.le_of_ble_eq_true rfl) ⟨Nat.le_of_ble_eq_true rfl, Nat.le_of_ble_eq_true rfl⟩ hcs ?_
  exact j_eq C0 d_L_law_1064 (by decide) (K X2 h3)
theorem lc_digest (C0 : lw_At p s m meth c bs L xs) (hK : Kx D ac s) (hL : L ≤ 3584) {i : Nat} (hi : i + 7 ≤ L) (hI : Inv X) (hcs : cs ≤ 600000 ∧ sl ≤ 7302250) (K : ∀ X2, Inv X2 → J p l e s m below meth c D ac bs cs sl 1083 (LV s bs i) [] 144 (mk X2)) : J p l e s m below meth c D ac bs cs sl 1069 (LV s bs i) [] 144 (mk X) := by
  obtain ⟨rv, X1, X2, h1, h2, h3⟩ := st_digest (l := l) (D := D) (ac := ac) (b := s.heap.size) hI 
  refine j_ald C0 d_L_law_1069 rfl rfl 2 rfl ?_
  refine j_callV C0 hK d_L_law_1070 rfl ml_L_108 mx_C_digest mv_C_digest h1 rfl rfl rfl (Nat.le_of_ble_eq_true rfl) ⟨Nat.le_of_ble_eq_true rfl, Nat.le_of_ble_eq_true rfl⟩ hcs ?_
  refine j_ald C0 d_L_law_1073 rfl rfl 1 rfl ?_
  refine j_callV C0 hK d_L_law_1074 rfl ml_L_112 mx_M_digest mv_M_digest h2 rfl rfl rfl (Nat.le_of_ble_eq_true rfl) ⟨Nat.le_of_ble_eq_true rfl, Nat.le_of_ble_eq_true rfl⟩ hcs ?_
  exact j_leq C0 d_L_law_1077 d_L_law_1078 (by decide) (K X2 h3)
theorem law_cases (C0 : lw_At p s m meth c bs L xs) (hK : Kx D ac s) (hL : L ≤ 3584) {i w : Nat} (hi : i + 7 ≤ L) (hI : Inv X) (hcs : cs ≤ 600000 ∧ sl ≤ 7302250) (hw : w < 32) (K : ∀ X2, Inv X2 → J p l e s m below meth c D ac bs cs sl 1083 (LV s bs i) [] 144 (mk X2)) : J p l e s m below meth c D ac bs cs sl 33 (LV s bs i) [.int (nI w)] 144 (mk X) := by
  intro H locs ls hR hC hS hl
  by_cases h22 : w ≤ 22
  · rcases (show w = 0 ∨ w = 1 ∨ w = 2 ∨ w = 3 ∨ w = 4 ∨ w = 5 ∨ w = 6 ∨ w = 7 ∨ w = 8 ∨ w = 9 ∨ w = 10 ∨ w = 11 ∨ w = 12 ∨ w = 13 ∨ w = 14 ∨ w = 15 ∨ w = 16 ∨ w = 17 ∨ w = 18 ∨ w = 19 ∨ w = 20 ∨ w = 21 ∨ w = 22 by omega) with rfl | rfl | rfl | rfl | rfl | rfl | rfl | rfl | rfl | rfl | rfl | rfl | rfl | rfl | rfl | rfl | rfl | rfl | rfl | rfl | rfl | rfl | rfl
    · exact lv_tableIn (off := 107) (tgt := 140) C0.1 C0.2.1 d_L_law_33 (by decide) (by decide) (by decide) (by decide) (lc_row C0 hK hL hi hI hcs K H locs ls hR hC hS hl)
    · exact lv_tableIn (off := 170) (tgt := 203) C0.1 C0.2.1 d_L_law_33 (by decide) (by decide) (by decide) (by decide) (lc_load C0 hK hL hi hI hcs K H locs ls hR hC hS hl)
    · exact lv_tableIn (off := 245) (tgt := 278) C0.1 C0.2.1 d_L_law_33 (by decide) (by decide) (by decide) (by decide) (lc_keeper C0 hK hL hi hI hcs K H locs ls hR hC hS hl)
    · exact lv_tableIn (off := 298) (tgt := 331) C0.1 C0.2.1 d_L_law_33 (by decide) (by decide) (by decide) (by decide) (lc_seal C0 hK hL hi hI hcs K H locs ls hR hC hS hl)
    · exact lv_tableIn (off := 321) (tgt := 354) C0.1 C0.2.1 d_L_law_33 (by decide) (by decide) (by decide) (by decide) (lc_clear C0 hK hL hi hI hcs K H locs ls hR hC hS hl)
    · exact lv_tableIn (off := 344) (tgt := 377) C0.1 C0.2.1 d_L_law_33 (by decide) (by decide) (by decide) (by decide) (lc_read C0 hK hL hi hI hcs K H locs ls hR hC hS hl)
    · exact lv_tableIn (off := 377) (tgt := 410) C0.1 C0.2.1 d_L_law_33 (by decide) (by decide) (by decide) (by decide) (lc_change C0 hK hL hi hI hcs K H locs ls hR hC hS hl)
    · exact lv_tableIn (off := 430) (tgt := 463) C0.1 C0.2.1 d_L_law_33 (by decide) (by decide) (by decide) (by decide) (lc_value C0 hK hL hi hI hcs K H locs ls hR hC hS hl)
    · exact lv_tableIn (off := 473) (tgt := 506) C0.1 C0.2.1 d_L_law_33 (by decide) (by decide) (by decide) (by decide) (lc_about C0 hK hL hi hI hcs K H locs ls hR hC hS hl)
    · exact lv_tableIn (off := 516) (tgt := 549) C0.1 C0.2.1 d_L_law_33 (by decide) (by decide) (by decide) (by decide) (lc_sum C0 hK hL hi hI hcs K H locs ls hR hC hS hl)
    · exact lv_tableIn (off := 560) (tgt := 593) C0.1 C0.2.1 d_L_law_33 (by decide) (by decide) (by decide) (by decide) (lc_count C0 hK hL hi hI hcs K H locs ls hR hC hS hl)
    · exact lv_tableIn (off := 603) (tgt := 636) C0.1 C0.2.1 d_L_law_33 (by decide) (by decide) (by decide) (by decide) (lc_join C0 hK hL hi hI hcs K H locs ls hR hC hS hl)
    · exact lv_tableIn (off := 626) (tgt := 659) C0.1 C0.2.1 d_L_law_33 (by decide) (by decide) (by decide) (by decide) (lc_part C0 hK hL hi hI hcs K H locs ls hR hC hS hl)
    · exact lv_tableIn (off := 659) (tgt := 692) C0.1 C0.2.1 d_L_law_33 (by decide) (by decide) (by decide) (by decide) (lc_next C0 hK hL hi hI hcs K H locs ls hR hC hS hl)
    · exact lv_tableIn (off := 692) (tgt := 725) C0.1 C0.2.1 d_L_law_33 (by decide) (by decide) (by decide) (by decide) (lc_refine C0 hK hL hi hI hcs K H locs ls hR hC hS hl)
    · exact lv_tableIn (off := 735) (tgt := 768) C0.1 C0.2.1 d_L_law_33 (by decide) (by decide) (by decide) (by decide) (lc_sheet C0 hK hL hi hI hcs K H locs ls hR hC hS hl)
    · exact lv_tableIn (off := 778) (tgt := 811) C0.1 C0.2.1 d_L_law_33 (by decide) (by decide) (by decide) (by decide) (lc_lose C0 hK hL hi hI hcs K H locs ls hR hC hS hl)
    · exact lv_tableIn (off := 801) (tgt := 834) C0.1 C0.2.1 d_L_law_33 (by decide) (by decide) (by decide) (by decide) (lc_put C0 hK hL hi hI hcs K H locs ls hR hC hS hl)
    · exact lv_tableIn (off := 854) (tgt := 887) C0.1 C0.2.1 d_L_law_33 (by decide) (by decide) (by decide) (by decide) (lc_get C0 hK hL hi hI hcs K H locs ls hR hC hS hl)
    · exact lv_tableIn (off := 897) (tgt := 930) C0.1 C0.2.1 d_L_law_33 (by decide) (by decide) (by decide) (by decide) (lc_copy C0 hK hL hi hI hcs K H locs ls hR hC hS hl)
    · exact lv_tableIn (off := 960) (tgt := 993) C0.1 C0.2.1 d_L_law_33 (by decide) (by decide) (by decide) (by decide) (lc_write C0 hK hL hi hI hcs K H locs ls hR hC hS hl)
    · exact lv_tableIn (off := 1013) (tgt := 1046) C0.1 C0.2.1 d_L_law_33 (by decide) (by decide) (by decide) (by decide) (lc_told C0 hK hL hi hI hcs K H locs ls hR hC hS hl)
    · exact lv_tableIn (off := 1036) (tgt := 1069) C0.1 C0.2.1 d_L_law_33 (by decide) (by decide) (by decide) (by decide) (lc_digest C0 hK hL hi hI hcs K H locs ls hR hC hS hl)
  · exact lv_tableOut (tgt := 1083) C0.1 C0.2.1 d_L_law_33 (Or.inr (by rw [nI_toInt (by omega)]; omega)) (by decide) (K X hI H locs ls hR hC hS hl)
end LAWC
