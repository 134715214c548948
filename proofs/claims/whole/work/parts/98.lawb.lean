theorem lc_tell {nm : String} {b L : Nat} {xs : Nat → Int32} {K : zKT} (Z : zLC nm b L xs K) (hL : L ≤ 2560) {i : Int} (hi : 0 ≤ i ∧ i + 5 ≤ L) {σ : zS} (R : zAll σ 155) (k : ∀ σ2 : zS, zAll σ2 155 → K 928 (zlo i) [] 155 σ2 28132) : K 144 (zlo i) [] 155 σ 28132 := by
  have C := Z.C
  obtain ⟨vs5, hv5⟩ := R.vs
  obtain ⟨h1, h2, r, σ1, σ2, ⟨hh, vs6, hv6⟩, c5, c6, R2⟩ := pr_tell R (zxs xs (i + 1)) (zxs_in _ _)
  refine x_aload_n C dL_law_144 rfl ?_
  refine x_arg Z hL hi 1 (by decide) dL_law_145 dL_law_146 dL_law_147 dL_law_148 dL_law_149 ?_
  refine x_callV C dL_law_150 c5 okX5_tell lkL_13 ⟨⟨hv5, rfl, rfl⟩, by decide, by decide⟩ ⟨by omega, rfl, rfl, Nat.le_of_ble_eq_true rfl⟩ rfl (Or.inl ⟨rfl, rfl⟩) ?_
  refine x_aload_n C dL_law_153 rfl ?_
  refine x_arg Z hL hi 1 (by decide) dL_law_154 dL_law_155 dL_law_156 dL_law_157 dL_law_158 ?_
  refine x_callV C dL_law_159 c6 okX6_tell lkL_17 ⟨⟨hv6, rfl, rfl⟩, by decide, by decide⟩ ⟨by omega, rfl, rfl, Nat.le_of_ble_eq_true rfl⟩ rfl (Or.inl ⟨rfl, rfl⟩) ?_
  exact x_icmp_eqr (tgt := 928) C dL_law_162 (by decide) rfl (k _ R2)
theorem lc_entry {nm : String} {b L : Nat} {xs : Nat → Int32} {K : zKT} (Z : zLC nm b L xs K) (hL : L ≤ 2560) {i : Int} (hi : 0 ≤ i ∧ i + 5 ≤ L) {σ : zS} (R : zAll σ 155) (k : ∀ σ2 : zS, zAll σ2 155 → K 928 (zlo i) [] 155 σ2 28132) : K 167 (zlo i) [] 155 σ 28132 := by
  have C := Z.C
  obtain ⟨vs5, hv5⟩ := R.vs
  obtain ⟨h1, h2, r, σ1, σ2, ⟨hh, vs6, hv6⟩, c5, c6, R2⟩ := pr_entry R (zxs xs (i + 1)) (zxs xs (i + 2)) (zxs xs (i + 3)) (zxs xs (i + 4)) (zxs_in _ _) (zxs_in _ _) (zxs_in _ _) (zxs_in _ _)
  refine x_aload_n C dL_law_167 rfl ?_
  refine x_arg Z hL hi 1 (by decide) dL_law_168 dL_law_169 dL_law_170 dL_law_171 dL_law_172 ?_
  refine x_arg Z hL hi 2 (by decide) dL_law_173 dL_law_174 dL_law_175 dL_law_176 dL_law_177 ?_
  refine x_arg Z hL hi 3 (by decide) dL_law_178 dL_law_179 dL_law_180 dL_law_181 dL_law_182 ?_
  refine x_arg Z hL hi 4 (by decide) dL_law_183 dL_law_184 dL_law_185 dL_law_186 dL_law_187 ?_
  refine x_callV C dL_law_188 c5 okX5_entry lkL_18 ⟨⟨hv5, rfl, rfl⟩, by decide, by decide⟩ ⟨by omega, rfl, rfl, Nat.le_of_ble_eq_true rfl⟩ rfl (Or.inl ⟨rfl, rfl⟩) ?_
  refine x_aload_n C dL_law_191 rfl ?_
  refine x_arg Z hL hi 1 (by decide) dL_law_192 dL_law_193 dL_law_194 dL_law_195 dL_law_196 ?_
  refine x_arg Z hL hi 2 (by decide) dL_law_197 dL_law_198 dL_law_199 dL_law_200 dL_law_201 ?_
  refine x_arg Z hL hi 3 (by decide) dL_law_202 dL_law_203 dL_law_204 dL_law_205 dL_law_206 ?_
  refine x_arg Z hL hi 4 (by decide) dL_law_207 dL_law_208 dL_law_209 dL_law_210 dL_law_211 ?_
  refine x_callV C dL_law_212 c6 okX6_entry lkL_22 ⟨⟨hv6, rfl, rfl⟩, by decide, by decide⟩ ⟨by omega, rfl, rfl, Nat.le_of_ble_eq_true rfl⟩ rfl (Or.inl ⟨rfl, rfl⟩) ?_
  exact x_icmp_eqr (tgt := 928) C dL_law_215 (by decide) rfl (k _ R2)
theorem lc_shrink {nm : String} {b L : Nat} {xs : Nat → Int32} {K : zKT} (Z : zLC nm b L xs K) (hL : L ≤ 2560) {i : Int} (hi : 0 ≤ i ∧ i + 5 ≤ L) {σ : zS} (R : zAll σ 155) (k : ∀ σ2 : zS, zAll σ2 155 → K 928 (zlo i) [] 155 σ2 28132) : K 220 (zlo i) [] 155 σ 28132 := by
  have C := Z.C
  obtain ⟨vs5, hv5⟩ := R.vs
  obtain ⟨h1, h2, r, σ1, σ2, ⟨hh, vs6, hv6⟩, c5, c6, R2⟩ := pr_shrink R (zxs xs (i + 1)) (zxs_in _ _)
  refine x_aload_n C dL_law_220 rfl ?_
  refine x_arg Z hL hi 1 (by decide) dL_law_221 dL_law_222 dL_law_223 dL_law_224 dL_law_225 ?_
  refine x_callV C dL_law_226 c5 okX5_shrink lkL_23 ⟨⟨hv5, rfl, rfl⟩, by decide, by decide⟩ ⟨by omega, rfl, rfl, Nat.le_of_ble_eq_true rfl⟩ rfl (Or.inl ⟨rfl, rfl⟩) ?_
  refine x_aload_n C dL_law_229 rfl ?_
  refine x_arg Z hL hi 1 (by decide) dL_law_230 dL_law_231 dL_law_232 dL_law_233 dL_law_234 ?_
  refine x_callV C dL_law_235 c6 okX6_shrink lkL_26 ⟨⟨hv6, rfl, rfl⟩, by decide, by decide⟩ ⟨by omega, rfl, rfl, Nat.le_of_ble_eq_true rfl⟩ rfl (Or.inl ⟨rfl, rfl⟩) ?_
  exact x_icmp_eqr (tgt := 928) C dL_law_238 (by decide) rfl (k _ R2)
theorem lc_add {nm : String} {b L : Nat} {xs : Nat → Int32} {K : zKT} (Z : zLC nm b L xs K) (hL : L ≤ 2560) {i : Int} (hi : 0 ≤ i ∧ i + 5 ≤ L) {σ : zS} (R : zAll σ 155) (k : ∀ σ2 : zS, zAll σ2 155 → K 928 (zlo i) [] 155 σ2 28132) : K 243 (zlo i) [] 155 σ 28132 := by
  have C := Z.C
  obtain ⟨vs5, hv5⟩ := R.vs
  obtain ⟨h1, h2, r, σ1, σ2, ⟨hh, vs6, hv6⟩, c5, c6, R2⟩ := pr_add R (zxs xs (i + 1)) (zxs xs (i + 2)) (zxs xs (i + 3)) (zxs_in _ _) (zxs_in _ _) (zxs_in _ _)
  refine x_aload_n C dL_law_243 rfl ?_
  refine x_arg Z hL hi 1 (by decide) dL_law_244 dL_law_245 dL_law_246 dL_law_247 dL_law_248 ?_
  refine x_arg Z hL hi 2 (by decide) dL_law_249 dL_law_250 dL_law_251 dL_law_252 dL_law_253 ?_
  refine x_arg Z hL hi 3 (by decide) dL_law_254 dL_law_255 dL_law_256 dL_law_257 dL_law_258 ?_
  refine x_callV C dL_law_259 c5 okX5_add lkL_27 ⟨⟨hv5, rfl, rfl⟩, by decide, by decide⟩ ⟨by omega, rfl, rfl, Nat.le_of_ble_eq_true rfl⟩ rfl (Or.inl ⟨rfl, rfl⟩) ?_
  refine x_aload_n C dL_law_262 rfl ?_
  refine x_arg Z hL hi 1 (by decide) dL_law_263 dL_law_264 dL_law_265 dL_law_266 dL_law_267 ?_
  refine x_arg Z hL hi 2 (by decide) dL_law_268 dL_law_269 dL_law_270 dL_law_271 dL_law_272 ?_
  refine x_arg Z hL hi 3 (by decide) dL_law_273 dL_law_274 dL_law_275 dL_law_276 dL_law_277 ?_
  refine x_callV C dL_law_278 c6 okX6_add lkL_31 ⟨⟨hv6, rfl, rfl⟩, by decide, by decide⟩ ⟨by omega, rfl, rfl, Nat.le_of_ble_eq_true rfl⟩ rfl (Or.inl ⟨rfl, rfl⟩) ?_
  exact x_icmp_eqr (tgt := 928) C dL_law_281 (by decide) rfl (k _ R2)
theorem lc_turn {nm : String} {b L : Nat} {xs : Nat → Int32} {K : zKT} (Z : zLC nm b L xs K) (hL : L ≤ 2560) {i : Int} (hi : 0 ≤ i ∧ i + 5 ≤ L) {σ : zS} (R : zAll σ 155) (k : ∀ σ2 : zS, zAll σ2 155 → K 928 (zlo i) [] 155 σ2 28132) : K 286 (zlo i) [] 155 σ 28132 := by
  have C := Z.C
  obtain ⟨vs5, hv5⟩ := R.vs
  obtain ⟨h1, h2, r, σ1, σ2, ⟨hh, vs6, hv6⟩, c5, c6, R2⟩ := pr_turn R (zxs xs (i + 1)) (zxs_in _ _)
  refine x_aload_n C dL_law_286 rfl ?_
  refine x_arg Z hL hi 1 (by decide) dL_law_287 dL_law_288 dL_law_289 dL_law_290 dL_law_291 ?_
  refine x_callV C dL_law_292 c5 okX5_turn lkL_32 ⟨⟨hv5, rfl, rfl⟩, by decide, by decide⟩ ⟨by omega, rfl, rfl, Nat.le_of_ble_eq_true rfl⟩ rfl (Or.inl ⟨rfl, rfl⟩) ?_
  refine x_aload_n C dL_law_295 rfl ?_
  refine x_arg Z hL hi 1 (by decide) dL_law_296 dL_law_297 dL_law_298 dL_law_299 dL_law_300 ?_
  refine x_callV C dL_law_301 c6 okX6_turn lkL_35 ⟨⟨hv6, rfl, rfl⟩, by decide, by decide⟩ ⟨by omega, rfl, rfl, Nat.le_of_ble_eq_true rfl⟩ rfl (Or.inl ⟨rfl, rfl⟩) ?_
  exact x_icmp_eqr (tgt := 928) C dL_law_304 (by decide) rfl (k _ R2)
theorem lc_copy {nm : String} {b L : Nat} {xs : Nat → Int32} {K : zKT} (Z : zLC nm b L xs K) (hL : L ≤ 2560) {i : Int} (hi : 0 ≤ i ∧ i + 5 ≤ L) {σ : zS} (R : zAll σ 155) (k : ∀ σ2 : zS, zAll σ2 155 → K 928 (zlo i) [] 155 σ2 28132) : K 309 (zlo i) [] 155 σ 28132 := by
  have C := Z.C
  obtain ⟨vs5, hv5⟩ := R.vs
  obtain ⟨h1, h2, r, σ1, σ2, ⟨hh, vs6, hv6⟩, c5, c6, R2⟩ := pr_copy R (zxs xs (i + 1)) (zxs xs (i + 2)) (zxs_in _ _) (zxs_in _ _)
  refine x_aload_n C dL_law_309 rfl ?_
  refine x_arg Z hL hi 1 (by decide) dL_law_310 dL_law_311 dL_law_312 dL_law_313 dL_law_314 ?_
  refine x_arg Z hL hi 2 (by decide) dL_law_315 dL_law_316 dL_law_317 dL_law_318 dL_law_319 ?_
  refine x_callV C dL_law_320 c5 okX5_copy lkL_36 ⟨⟨hv5, rfl, rfl⟩, by decide, by decide⟩ ⟨by omega, rfl, rfl, Nat.le_of_ble_eq_true rfl⟩ rfl (Or.inl ⟨rfl, rfl⟩) ?_
  refine x_aload_n C dL_law_323 rfl ?_
  refine x_arg Z hL hi 1 (by decide) dL_law_324 dL_law_325 dL_law_326 dL_law_327 dL_law_328 ?_
  refine x_arg Z hL hi 2 (by decide) dL_law_329 dL_law_330 dL_law_331 dL_law_332 dL_law_333 ?_
  refine x_callV C dL_law_334 c6 okX6_copy lkL_40 ⟨⟨hv6, rfl, rfl⟩, by decide, by decide⟩ ⟨by omega, rfl, rfl, Nat.le_of_ble_eq_true rfl⟩ rfl (Or.inl ⟨rfl, rfl⟩) ?_
  exact x_icmp_eqr (tgt := 928) C dL_law_337 (by decide) rfl (k _ R2)
theorem lc_clear {nm : String} {b L : Nat} {xs : Nat → Int32} {K : zKT} (Z : zLC nm b L xs K) (hL : L ≤ 2560) {i : Int} (hi : 0 ≤ i ∧ i + 5 ≤ L) {σ : zS} (R : zAll σ 155) (k : ∀ σ2 : zS, zAll σ2 155 → K 928 (zlo i) [] 155 σ2 28132) : K 342 (zlo i) [] 155 σ 28132 := by
  have C := Z.C
  obtain ⟨vs5, hv5⟩ := R.vs
  obtain ⟨h1, h2, r, σ1, σ2, ⟨hh, vs6, hv6⟩, c5, c6, R2⟩ := pr_clear R (zxs xs (i + 1)) (zxs xs (i + 2)) (zxs xs (i + 3)) (zxs_in _ _) (zxs_in _ _) (zxs_in _ _)
  refine x_aload_n C dL_law_342 rfl ?_
  refine x_arg Z hL hi 1 (by decide) dL_law_343 dL_law_344 dL_law_345 dL_law_346 dL_law_347 ?_
  refine x_arg Z hL hi 2 (by decide) dL_law_348 dL_law_349 dL_law_350 dL_law_351 dL_law_352 ?_
  refine x_arg Z hL hi 3 (by decide) dL_law_353 dL_law_354 dL_law_355 dL_law_356 dL_law_357 ?_
  refine x_callV C dL_law_358 c5 okX5_clear lkL_41 ⟨⟨hv5, rfl, rfl⟩, by decide, by decide⟩ ⟨by omega, rfl, rfl, Nat.le_of_ble_eq_true rfl⟩ rfl (Or.inl ⟨rfl, rfl⟩) ?_
  refine x_aload_n C dL_law_361 rfl ?_
  refine x_arg Z hL hi 1 (by decide) dL_law_362 dL_law_363 dL_law_364 dL_law_365 dL_law_366 ?_
  refine x_arg Z hL hi 2 (by decide) dL_law_367 dL_law_368 dL_law_369 dL_law_370 dL_law_371 ?_
  refine x_arg Z hL hi 3 (by decide) dL_law_372 dL_law_373 dL_law_374 dL_law_375 dL_law_376 ?_
  refine x_callV C dL_law_377 c6 okX6_clear lkL_44 ⟨⟨hv6, rfl, rfl⟩, by decide, by decide⟩ ⟨by omega, rfl, rfl, Nat.le_of_ble_eq_true rfl⟩ rfl (Or.inl ⟨rfl, rfl⟩) ?_
  exact x_icmp_eqr (tgt := 928) C dL_law_380 (by decide) rfl (k _ R2)
theorem lc_at {nm : String} {b L : Nat} {xs : Nat → Int32} {K : zKT} (Z : zLC nm b L xs K) (hL : L ≤ 2560) {i : Int} (hi : 0 ≤ i ∧ i + 5 ≤ L) {σ : zS} (R : zAll σ 155) (k : ∀ σ2 : zS, zAll σ2 155 → K 928 (zlo i) [] 155 σ2 28132) : K 385 (zlo i) [] 155 σ 28132 := by
  have C := Z.C
  obtain ⟨vs5, hv5⟩ := R.vs
  obtain ⟨h1, h2, r, σ1, σ2, ⟨hh, vs6, hv6⟩, c5, c6, R2⟩ := pr_at R (zxs xs (i + 1)) (zxs xs (i + 2)) (zxs xs (i + 3)) (zxs_in _ _) (zxs_in _ _) (zxs_in _ _)
  refine x_aload_n C dL_law_385 rfl ?_
  refine x_arg Z hL hi 1 (by decide) dL_law_386 dL_law_387 dL_law_388 dL_law_389 dL_law_390 ?_
  refine x_arg Z hL hi 2 (by decide) dL_law_391 dL_law_392 dL_law_393 dL_law_394 dL_law_395 ?_
  refine x_arg Z hL hi 3 (by decide) dL_law_396 dL_law_397 dL_law_398 dL_law_399 dL_law_400 ?_
  refine x_callV C dL_law_401 c5 okX5_at lkL_45 ⟨⟨hv5, rfl, rfl⟩, by decide, by decide⟩ ⟨by omega, rfl, rfl, Nat.le_of_ble_eq_true rfl⟩ rfl (Or.inl ⟨rfl, rfl⟩) ?_
  refine x_aload_n C dL_law_404 rfl ?_
  refine x_arg Z hL hi 1 (by decide) dL_law_405 dL_law_406 dL_law_407 dL_law_408 dL_law_409 ?_
  refine x_arg Z hL hi 2 (by decide) dL_law_410 dL_law_411 dL_law_412 dL_law_413 dL_law_414 ?_
  refine x_arg Z hL hi 3 (by decide) dL_law_415 dL_law_416 dL_law_417 dL_law_418 dL_law_419 ?_
  refine x_callV C dL_law_420 c6 okX6_at lkL_48 ⟨⟨hv6, rfl, rfl⟩, by decide, by decide⟩ ⟨by omega, rfl, rfl, Nat.le_of_ble_eq_true rfl⟩ rfl (Or.inl ⟨rfl, rfl⟩) ?_
  exact x_icmp_eqr (tgt := 928) C dL_law_423 (by decide) rfl (k _ R2)
theorem lc_block {nm : String} {b L : Nat} {xs : Nat → Int32} {K : zKT} (Z : zLC nm b L xs K) (hL : L ≤ 2560) {i : Int} (hi : 0 ≤ i ∧ i + 5 ≤ L) {σ : zS} (R : zAll σ 155) (k : ∀ σ2 : zS, zAll σ2 155 → K 928 (zlo i) [] 155 σ2 28132) : K 428 (zlo i) [] 155 σ 28132 := by
  have C := Z.C
  obtain ⟨vs5, hv5⟩ := R.vs
  obtain ⟨h1, h2, r, σ1, σ2, ⟨hh, vs6, hv6⟩, c5, c6, R2⟩ := pr_block R (zxs xs (i + 1)) (zxs xs (i + 2)) (zxs xs (i + 3)) (zxs xs (i + 4)) (zxs_in _ _) (zxs_in _ _) (zxs_in _ _) (zxs_in _ _)
  refine x_aload_n C dL_law_428 rfl ?_
  refine x_arg Z hL hi 1 (by decide) dL_law_429 dL_law_430 dL_law_431 dL_law_432 dL_law_433 ?_
  refine x_arg Z hL hi 2 (by decide) dL_law_434 dL_law_435 dL_law_436 dL_law_437 dL_law_438 ?_
  refine x_arg Z hL hi 3 (by decide) dL_law_439 dL_law_440 dL_law_441 dL_law_442 dL_law_443 ?_
  refine x_arg Z hL hi 4 (by decide) dL_law_444 dL_law_445 dL_law_446 dL_law_447 dL_law_448 ?_
  refine x_callV C dL_law_449 c5 okX5_block lkL_49 ⟨⟨hv5, rfl, rfl⟩, by decide, by decide⟩ ⟨by omega, rfl, rfl, Nat.le_of_ble_eq_true rfl⟩ rfl (Or.inl ⟨rfl, rfl⟩) ?_
  refine x_aload_n C dL_law_452 rfl ?_
  refine x_arg Z hL hi 1 (by decide) dL_law_453 dL_law_454 dL_law_455 dL_law_456 dL_law_457 ?_
  refine x_arg Z hL hi 2 (by decide) dL_law_458 dL_law_459 dL_law_460 dL_law_461 dL_law_462 ?_
  refine x_arg Z hL hi 3 (by decide) dL_law_463 dL_law_464 dL_law_465 dL_law_466 dL_law_467 ?_
  refine x_arg Z hL hi 4 (by decide) dL_law_468 dL_law_469 dL_law_470 dL_law_471 dL_law_472 ?_
  refine x_callV C dL_law_473 c6 okX6_block lkL_52 ⟨⟨hv6, rfl, rfl⟩, by decide, by decide⟩ ⟨by omega, rfl, rfl, Nat.le_of_ble_eq_true rfl⟩ rfl (Or.inl ⟨rfl, rfl⟩) ?_
  exact x_icmp_eqr (tgt := 928) C dL_law_476 (by decide) rfl (k _ R2)
theorem lc_of {nm : String} {b L : Nat} {xs : Nat → Int32} {K : zKT} (Z : zLC nm b L xs K) (hL : L ≤ 2560) {i : Int} (hi : 0 ≤ i ∧ i + 5 ≤ L) {σ : zS} (R : zAll σ 155) (k : ∀ σ2 : zS, zAll σ2 155 → K 928 (zlo i) [] 155 σ2 28132) : K 481 (zlo i) [] 155 σ 28132 := by
  have C := Z.C
  obtain ⟨vs5, hv5⟩ := R.vs
  obtain ⟨h1, h2, r, σ1, σ2, ⟨hh, vs6, hv6⟩, c5, c6, R2⟩ := pr_of R (zxs xs (i + 1)) (zxs xs (i + 2)) (zxs_in _ _) (zxs_in _ _)
  refine x_aload_n C dL_law_481 rfl ?_
  refine x_arg Z hL hi 1 (by decide) dL_law_482 dL_law_483 dL_law_484 dL_law_485 dL_law_486 ?_
  refine x_arg Z hL hi 2 (by decide) dL_law_487 dL_law_488 dL_law_489 dL_law_490 dL_law_491 ?_
  refine x_callV C dL_law_492 c5 okX5_of lkL_53 ⟨⟨hv5, rfl, rfl⟩, by decide, by decide⟩ ⟨by omega, rfl, rfl, Nat.le_of_ble_eq_true rfl⟩ rfl (Or.inl ⟨rfl, rfl⟩) ?_
  refine x_aload_n C dL_law_495 rfl ?_
  refine x_arg Z hL hi 1 (by decide) dL_law_496 dL_law_497 dL_law_498 dL_law_499 dL_law_500 ?_
  refine x_arg Z hL hi 2 (by decide) dL_law_501 dL_law_502 dL_law_503 dL_law_504 dL_law_505 ?_
  refine x_callV C dL_law_506 c6 okX6_of lkL_56 ⟨⟨hv6, rfl, rfl⟩, by decide, by decide⟩ ⟨by omega, rfl, rfl, Nat.le_of_ble_eq_true rfl⟩ rfl (Or.inl ⟨rfl, rfl⟩) ?_
  exact x_icmp_eqr (tgt := 928) C dL_law_509 (by decide) rfl (k _ R2)
theorem lc_product {nm : String} {b L : Nat} {xs : Nat → Int32} {K : zKT} (Z : zLC nm b L xs K) (hL : L ≤ 2560) {i : Int} (hi : 0 ≤ i ∧ i + 5 ≤ L) {σ : zS} (R : zAll σ 155) (k : ∀ σ2 : zS, zAll σ2 155 → K 928 (zlo i) [] 155 σ2 28132) : K 514 (zlo i) [] 155 σ 28132 := by
  have C := Z.C
  obtain ⟨vs5, hv5⟩ := R.vs
  obtain ⟨h1, h2, r, σ1, σ2, ⟨hh, vs6, hv6⟩, c5, c6, R2⟩ := pr_product R (zxs xs (i + 1)) (zxs xs (i + 2)) (zxs xs (i + 3)) (zxs xs (i + 4)) (zxs_in _ _) (zxs_in _ _) (zxs_in _ _) (zxs_in _ _)
  refine x_aload_n C dL_law_514 rfl ?_
  refine x_arg Z hL hi 1 (by decide) dL_law_515 dL_law_516 dL_law_517 dL_law_518 dL_law_519 ?_
  refine x_arg Z hL hi 2 (by decide) dL_law_520 dL_law_521 dL_law_522 dL_law_523 dL_law_524 ?_
  refine x_arg Z hL hi 3 (by decide) dL_law_525 dL_law_526 dL_law_527 dL_law_528 dL_law_529 ?_
  refine x_arg Z hL hi 4 (by decide) dL_law_530 dL_law_531 dL_law_532 dL_law_533 dL_law_534 ?_
  refine x_callV C dL_law_535 c5 okX5_product lkL_57 ⟨⟨hv5, rfl, rfl⟩, by decide, by decide⟩ ⟨by omega, rfl, rfl, Nat.le_of_ble_eq_true rfl⟩ rfl (Or.inl ⟨rfl, rfl⟩) ?_
  refine x_aload_n C dL_law_538 rfl ?_
  refine x_arg Z hL hi 1 (by decide) dL_law_539 dL_law_540 dL_law_541 dL_law_542 dL_law_543 ?_
  refine x_arg Z hL hi 2 (by decide) dL_law_544 dL_law_545 dL_law_546 dL_law_547 dL_law_548 ?_
  refine x_arg Z hL hi 3 (by decide) dL_law_549 dL_law_550 dL_law_551 dL_law_552 dL_law_553 ?_
  refine x_arg Z hL hi 4 (by decide) dL_law_554 dL_law_555 dL_law_556 dL_law_557 dL_law_558 ?_
  refine x_callV C dL_law_559 c6 okX6_product lkL_61 ⟨⟨hv6, rfl, rfl⟩, by decide, by decide⟩ ⟨by omega, rfl, rfl, Nat.le_of_ble_eq_true rfl⟩ rfl (Or.inl ⟨rfl, rfl⟩) ?_
  refine x_lcmpr C dL_law_562 ?_
  exact x_if_eq (tgt := 928) C dL_law_563 (by decide) (by decide) (fun _ => k _ R2) (fun q => absurd rfl q)
theorem lc_mean {nm : String} {b L : Nat} {xs : Nat → Int32} {K : zKT} (Z : zLC nm b L xs K) (hL : L ≤ 2560) {i : Int} (hi : 0 ≤ i ∧ i + 5 ≤ L) {σ : zS} (R : zAll σ 155) (k : ∀ σ2 : zS, zAll σ2 155 → K 928 (zlo i) [] 155 σ2 28132) : K 568 (zlo i) [] 155 σ 28132 := by
  have C := Z.C
  obtain ⟨vs5, hv5⟩ := R.vs
  obtain ⟨h1, h2, r, σ1, σ2, ⟨hh, vs6, hv6⟩, c5, c6, R2⟩ := pr_mean R (zxs xs (i + 1)) (zxs_in _ _)
  refine x_aload_n C dL_law_568 rfl ?_
  refine x_arg Z hL hi 1 (by decide) dL_law_569 dL_law_570 dL_law_571 dL_law_572 dL_law_573 ?_
  refine x_callV C dL_law_574 c5 okX5_mean lkL_62 ⟨⟨hv5, rfl, rfl⟩, by decide, by decide⟩ ⟨by omega, rfl, rfl, Nat.le_of_ble_eq_true rfl⟩ rfl (Or.inl ⟨rfl, rfl⟩) ?_
  refine x_aload_n C dL_law_577 rfl ?_
  refine x_arg Z hL hi 1 (by decide) dL_law_578 dL_law_579 dL_law_580 dL_law_581 dL_law_582 ?_
  refine x_callV C dL_law_583 c6 okX6_mean lkL_66 ⟨⟨hv6, rfl, rfl⟩, by decide, by decide⟩ ⟨by omega, rfl, rfl, Nat.le_of_ble_eq_true rfl⟩ rfl (Or.inl ⟨rfl, rfl⟩) ?_
  refine x_lcmpr C dL_law_586 ?_
  exact x_if_eq (tgt := 928) C dL_law_587 (by decide) (by decide) (fun _ => k _ R2) (fun q => absurd rfl q)
theorem lc_share {nm : String} {b L : Nat} {xs : Nat → Int32} {K : zKT} (Z : zLC nm b L xs K) (hL : L ≤ 2560) {i : Int} (hi : 0 ≤ i ∧ i + 5 ≤ L) {σ : zS} (R : zAll σ 155) (k : ∀ σ2 : zS, zAll σ2 155 → K 928 (zlo i) [] 155 σ2 28132) : K 592 (zlo i) [] 155 σ 28132 := by
  have C := Z.C
  obtain ⟨vs5, hv5⟩ := R.vs
  obtain ⟨h1, h2, r, σ1, σ2, ⟨hh, vs6, hv6⟩, c5, c6, R2⟩ := pr_share R (zxs xs (i + 1)) (zxs_in _ _)
  refine x_aload_n C dL_law_592 rfl ?_
  refine x_arg Z hL hi 1 (by decide) dL_law_593 dL_law_594 dL_law_595 dL_law_596 dL_law_597 ?_
  refine x_callV C dL_law_598 c5 okX5_share lkL_67 ⟨⟨hv5, rfl, rfl⟩, by decide, by decide⟩ ⟨by omega, rfl, rfl, Nat.le_of_ble_eq_true rfl⟩ rfl (Or.inl ⟨rfl, rfl⟩) ?_
  refine x_aload_n C dL_law_601 rfl ?_
  refine x_arg Z hL hi 1 (by decide) dL_law_602 dL_law_603 dL_law_604 dL_law_605 dL_law_606 ?_
  refine x_callV C dL_law_607 c6 okX6_share lkL_70 ⟨⟨hv6, rfl, rfl⟩, by decide, by decide⟩ ⟨by omega, rfl, rfl, Nat.le_of_ble_eq_true rfl⟩ rfl (Or.inl ⟨rfl, rfl⟩) ?_
  exact x_icmp_eqr (tgt := 928) C dL_law_610 (by decide) rfl (k _ R2)
theorem lc_count {nm : String} {b L : Nat} {xs : Nat → Int32} {K : zKT} (Z : zLC nm b L xs K) (hL : L ≤ 2560) {i : Int} (hi : 0 ≤ i ∧ i + 5 ≤ L) {σ : zS} (R : zAll σ 155) (k : ∀ σ2 : zS, zAll σ2 155 → K 928 (zlo i) [] 155 σ2 28132) : K 615 (zlo i) [] 155 σ 28132 := by
  have C := Z.C
  obtain ⟨vs5, hv5⟩ := R.vs
  obtain ⟨h1, h2, r, σ1, σ2, ⟨hh, vs6, hv6⟩, c5, c6, R2⟩ := pr_count R (zxs xs (i + 1)) (zxs_in _ _)
  refine x_aload_n C dL_law_615 rfl ?_
  refine x_arg Z hL hi 1 (by decide) dL_law_616 dL_law_617 dL_law_618 dL_law_619 dL_law_620 ?_
  refine x_callV C dL_law_621 c5 okX5_count lkL_71 ⟨⟨hv5, rfl, rfl⟩, by decide, by decide⟩ ⟨by omega, rfl, rfl, Nat.le_of_ble_eq_true rfl⟩ rfl (Or.inl ⟨rfl, rfl⟩) ?_
  refine x_aload_n C dL_law_624 rfl ?_
  refine x_arg Z hL hi 1 (by decide) dL_law_625 dL_law_626 dL_law_627 dL_law_628 dL_law_629 ?_
  refine x_callV C dL_law_630 c6 okX6_count lkL_74 ⟨⟨hv6, rfl, rfl⟩, by decide, by decide⟩ ⟨by omega, rfl, rfl, Nat.le_of_ble_eq_true rfl⟩ rfl (Or.inl ⟨rfl, rfl⟩) ?_
  exact x_icmp_eqr (tgt := 928) C dL_law_633 (by decide) rfl (k _ R2)
theorem lc_far {nm : String} {b L : Nat} {xs : Nat → Int32} {K : zKT} (Z : zLC nm b L xs K) (hL : L ≤ 2560) {i : Int} (hi : 0 ≤ i ∧ i + 5 ≤ L) {σ : zS} (R : zAll σ 155) (k : ∀ σ2 : zS, zAll σ2 155 → K 928 (zlo i) [] 155 σ2 28132) : K 638 (zlo i) [] 155 σ 28132 := by
  have C := Z.C
  obtain ⟨vs5, hv5⟩ := R.vs
  obtain ⟨h1, h2, r, σ1, σ2, ⟨hh, vs6, hv6⟩, c5, c6, R2⟩ := pr_far R (zxs xs (i + 1)) (zxs xs (i + 2)) (zxs_in _ _) (zxs_in _ _)
  refine x_aload_n C dL_law_638 rfl ?_
  refine x_arg Z hL hi 1 (by decide) dL_law_639 dL_law_640 dL_law_641 dL_law_642 dL_law_643 ?_
  refine x_arg Z hL hi 2 (by decide) dL_law_644 dL_law_645 dL_law_646 dL_law_647 dL_law_648 ?_
  refine x_callV C dL_law_649 c5 okX5_far lkL_75 ⟨⟨hv5, rfl, rfl⟩, by decide, by decide⟩ ⟨by omega, rfl, rfl, Nat.le_of_ble_eq_true rfl⟩ rfl (Or.inl ⟨rfl, rfl⟩) ?_
  refine x_aload_n C dL_law_652 rfl ?_
  refine x_arg Z hL hi 1 (by decide) dL_law_653 dL_law_654 dL_law_655 dL_law_656 dL_law_657 ?_
  refine x_arg Z hL hi 2 (by decide) dL_law_658 dL_law_659 dL_law_660 dL_law_661 dL_law_662 ?_
  refine x_callV C dL_law_663 c6 okX6_far lkL_78 ⟨⟨hv6, rfl, rfl⟩, by decide, by decide⟩ ⟨by omega, rfl, rfl, Nat.le_of_ble_eq_true rfl⟩ rfl (Or.inl ⟨rfl, rfl⟩) ?_
  exact x_icmp_eqr (tgt := 928) C dL_law_666 (by decide) rfl (k _ R2)
theorem lc_wouldTake {nm : String} {b L : Nat} {xs : Nat → Int32} {K : zKT} (Z : zLC nm b L xs K) (hL : L ≤ 2560) {i : Int} (hi : 0 ≤ i ∧ i + 5 ≤ L) {σ : zS} (R : zAll σ 155) (k : ∀ σ2 : zS, zAll σ2 155 → K 928 (zlo i) [] 155 σ2 28132) : K 671 (zlo i) [] 155 σ 28132 := by
  have C := Z.C
  obtain ⟨vs5, hv5⟩ := R.vs
  obtain ⟨h1, h2, r, σ1, σ2, ⟨hh, vs6, hv6⟩, c5, c6, R2⟩ := pr_wouldTake R (zxs xs (i + 1)) (zxs_in _ _)
  refine x_aload_n C dL_law_671 rfl ?_
  refine x_arg Z hL hi 1 (by decide) dL_law_672 dL_law_673 dL_law_674 dL_law_675 dL_law_676 ?_
  refine x_callV C dL_law_677 c5 okX5_wouldTake lkL_79 ⟨⟨hv5, rfl, rfl⟩, by decide, by decide⟩ ⟨by omega, rfl, rfl, Nat.le_of_ble_eq_true rfl⟩ rfl (Or.inl ⟨rfl, rfl⟩) ?_
  refine x_aload_n C dL_law_680 rfl ?_
  refine x_arg Z hL hi 1 (by decide) dL_law_681 dL_law_682 dL_law_683 dL_law_684 dL_law_685 ?_
  refine x_callV C dL_law_686 c6 okX6_wouldTake lkL_82 ⟨⟨hv6, rfl, rfl⟩, by decide, by decide⟩ ⟨by omega, rfl, rfl, Nat.le_of_ble_eq_true rfl⟩ rfl (Or.inl ⟨rfl, rfl⟩) ?_
  exact x_icmp_eqr (tgt := 928) C dL_law_689 (by decide) rfl (k _ R2)
theorem lc_isOne {nm : String} {b L : Nat} {xs : Nat → Int32} {K : zKT} (Z : zLC nm b L xs K) (hL : L ≤ 2560) {i : Int} (hi : 0 ≤ i ∧ i + 5 ≤ L) {σ : zS} (R : zAll σ 155) (k : ∀ σ2 : zS, zAll σ2 155 → K 928 (zlo i) [] 155 σ2 28132) : K 694 (zlo i) [] 155 σ 28132 := by
  have C := Z.C
  obtain ⟨vs5, hv5⟩ := R.vs
  obtain ⟨h1, h2, r, σ1, σ2, ⟨hh, vs6, hv6⟩, c5, c6, R2⟩ := pr_isOne R (zxs xs (i + 1)) (zxs xs (i + 2)) (zxs xs (i + 3)) (zxs xs (i + 4)) (zxs_in _ _) (zxs_in _ _) (zxs_in _ _) (zxs_in _ _)
  refine x_aload_n C dL_law_694 rfl ?_
  refine x_arg Z hL hi 1 (by decide) dL_law_695 dL_law_696 dL_law_697 dL_law_698 dL_law_699 ?_
  refine x_arg Z hL hi 2 (by decide) dL_law_700 dL_law_701 dL_law_702 dL_law_703 dL_law_704 ?_
  refine x_arg Z hL hi 3 (by decide) dL_law_705 dL_law_706 dL_law_707 dL_law_708 dL_law_709 ?_
  refine x_arg Z hL hi 4 (by decide) dL_law_710 dL_law_711 dL_law_712 dL_law_713 dL_law_714 ?_
  refine x_callV C dL_law_715 c5 okX5_isOne lkL_83 ⟨⟨hv5, rfl, rfl⟩, by decide, by decide⟩ ⟨by omega, rfl, rfl, Nat.le_of_ble_eq_true rfl⟩ rfl (Or.inl ⟨rfl, rfl⟩) ?_
  refine x_aload_n C dL_law_718 rfl ?_
  refine x_arg Z hL hi 1 (by decide) dL_law_719 dL_law_720 dL_law_721 dL_law_722 dL_law_723 ?_
  refine x_arg Z hL hi 2 (by decide) dL_law_724 dL_law_725 dL_law_726 dL_law_727 dL_law_728 ?_
  refine x_arg Z hL hi 3 (by decide) dL_law_729 dL_law_730 dL_law_731 dL_law_732 dL_law_733 ?_
  refine x_arg Z hL hi 4 (by decide) dL_law_734 dL_law_735 dL_law_736 dL_law_737 dL_law_738 ?_
  refine x_callV C dL_law_739 c6 okX6_isOne lkL_86 ⟨⟨hv6, rfl, rfl⟩, by decide, by decide⟩ ⟨by omega, rfl, rfl, Nat.le_of_ble_eq_true rfl⟩ rfl (Or.inl ⟨rfl, rfl⟩) ?_
  exact x_icmp_eqr (tgt := 928) C dL_law_742 (by decide) rfl (k _ R2)
theorem lc_bestTimes {nm : String} {b L : Nat} {xs : Nat → Int32} {K : zKT} (Z : zLC nm b L xs K) (hL : L ≤ 2560) {i : Int} (hi : 0 ≤ i ∧ i + 5 ≤ L) {σ : zS} (R : zAll σ 155) (k : ∀ σ2 : zS, zAll σ2 155 → K 928 (zlo i) [] 155 σ2 28132) : K 747 (zlo i) [] 155 σ 28132 := by
  have C := Z.C
  obtain ⟨vs5, hv5⟩ := R.vs
  obtain ⟨h1, h2, r, σ1, σ2, ⟨hh, vs6, hv6⟩, c5, c6, R2⟩ := pr_bestTimes R (zxs xs (i + 1)) (zxs xs (i + 2)) (zxs xs (i + 3)) (zxs_in _ _) (zxs_in _ _) (zxs_in _ _)
  refine x_aload_n C dL_law_747 rfl ?_
  refine x_arg Z hL hi 1 (by decide) dL_law_748 dL_law_749 dL_law_750 dL_law_751 dL_law_752 ?_
  refine x_arg Z hL hi 2 (by decide) dL_law_753 dL_law_754 dL_law_755 dL_law_756 dL_law_757 ?_
  refine x_arg Z hL hi 3 (by decide) dL_law_758 dL_law_759 dL_law_760 dL_law_761 dL_law_762 ?_
  refine x_callV C dL_law_763 c5 okX5_bestTimes lkL_87 ⟨⟨hv5, rfl, rfl⟩, by decide, by decide⟩ ⟨by omega, rfl, rfl, Nat.le_of_ble_eq_true rfl⟩ rfl (Or.inl ⟨rfl, rfl⟩) ?_
  refine x_aload_n C dL_law_766 rfl ?_
  refine x_arg Z hL hi 1 (by decide) dL_law_767 dL_law_768 dL_law_769 dL_law_770 dL_law_771 ?_
  refine x_arg Z hL hi 2 (by decide) dL_law_772 dL_law_773 dL_law_774 dL_law_775 dL_law_776 ?_
  refine x_arg Z hL hi 3 (by decide) dL_law_777 dL_law_778 dL_law_779 dL_law_780 dL_law_781 ?_
  refine x_callV C dL_law_782 c6 okX6_bestTimes lkL_90 ⟨⟨hv6, rfl, rfl⟩, by decide, by decide⟩ ⟨by omega, rfl, rfl, Nat.le_of_ble_eq_true rfl⟩ rfl (Or.inl ⟨rfl, rfl⟩) ?_
  exact x_icmp_eqr (tgt := 928) C dL_law_785 (by decide) rfl (k _ R2)
theorem lc_put {nm : String} {b L : Nat} {xs : Nat → Int32} {K : zKT} (Z : zLC nm b L xs K) (hL : L ≤ 2560) {i : Int} (hi : 0 ≤ i ∧ i + 5 ≤ L) {σ : zS} (R : zAll σ 155) (k : ∀ σ2 : zS, zAll σ2 155 → K 928 (zlo i) [] 155 σ2 28132) : K 790 (zlo i) [] 155 σ 28132 := by
  have C := Z.C
  obtain ⟨vs5, hv5⟩ := R.vs
  obtain ⟨h1, h2, r, σ1, σ2, ⟨hh, vs6, hv6⟩, c5, c6, R2⟩ := pr_put R (zorl (zxs xs (i + 1) * 2 ^ (32 : Int).toNat) (zandl (zxs xs (i + 2)) 4294967295)) (zorl_in _ _)
  refine x_aload_n C dL_law_790 rfl ?_
  refine x_arg Z hL hi 1 (by decide) dL_law_791 dL_law_792 dL_law_793 dL_law_794 dL_law_795 ?_
  refine x_i2l C dL_law_796 (zxs_in _ _) ?_
  refine x_bipush C dL_law_797 (by decide) ?_
  refine x_lshl C dL_law_799 (by decide) ?_
  refine x_arg Z hL hi 2 (by decide) dL_law_800 dL_law_801 dL_law_802 dL_law_803 dL_law_804 ?_
  refine x_i2l C dL_law_805 (zxs_in _ _) ?_
  refine x_ldc2 (v := 4294967295) C dL_law_806 kcL_91 (by decide) ?_
  refine x_land C dL_law_809 ?_
  refine x_lor C dL_law_810 ?_
  refine x_callV C dL_law_811 c5 okX5_put lkL_93 ⟨⟨hv5, rfl, rfl⟩, by decide, by decide⟩ ⟨by omega, rfl, rfl, Nat.le_of_ble_eq_true rfl⟩ rfl (Or.inl ⟨rfl, rfl⟩) ?_
  refine x_aload_n C dL_law_814 rfl ?_
  refine x_arg Z hL hi 1 (by decide) dL_law_815 dL_law_816 dL_law_817 dL_law_818 dL_law_819 ?_
  refine x_i2l C dL_law_820 (zxs_in _ _) ?_
  refine x_bipush C dL_law_821 (by decide) ?_
  refine x_lshl C dL_law_823 (by decide) ?_
  refine x_arg Z hL hi 2 (by decide) dL_law_824 dL_law_825 dL_law_826 dL_law_827 dL_law_828 ?_
  refine x_i2l C dL_law_829 (zxs_in _ _) ?_
  refine x_ldc2 (v := 4294967295) C dL_law_830 kcL_91 (by decide) ?_
  refine x_land C dL_law_833 ?_
  refine x_lor C dL_law_834 ?_
  refine x_callV C dL_law_835 c6 okX6_put lkL_97 ⟨⟨hv6, rfl, rfl⟩, by decide, by decide⟩ ⟨by omega, rfl, rfl, Nat.le_of_ble_eq_true rfl⟩ rfl (Or.inl ⟨rfl, rfl⟩) ?_
  exact x_icmp_eqr (tgt := 928) C dL_law_838 (by decide) rfl (k _ R2)
theorem lc_wipe {nm : String} {b L : Nat} {xs : Nat → Int32} {K : zKT} (Z : zLC nm b L xs K) (hL : L ≤ 2560) {i : Int} (hi : 0 ≤ i ∧ i + 5 ≤ L) {σ : zS} (R : zAll σ 155) (k : ∀ σ2 : zS, zAll σ2 155 → K 928 (zlo i) [] 155 σ2 28132) : K 843 (zlo i) [] 155 σ 28132 := by
  have C := Z.C
  obtain ⟨vs5, hv5⟩ := R.vs
  obtain ⟨h1, h2, r, σ1, σ2, ⟨hh, vs6, hv6⟩, c5, c6, R2⟩ := pr_wipe R
  refine x_aload_n C dL_law_843 rfl ?_
  refine x_callV C dL_law_844 c5 okX5_wipe lkL_98 ⟨⟨hv5, rfl, rfl⟩, by decide, by decide⟩ ⟨by omega, rfl, rfl, Nat.le_of_ble_eq_true rfl⟩ rfl (Or.inl ⟨rfl, rfl⟩) ?_
  refine x_aload_n C dL_law_847 rfl ?_
  refine x_callV C dL_law_848 c6 okX6_wipe lkL_102 ⟨⟨hv6, rfl, rfl⟩, by decide, by decide⟩ ⟨by omega, rfl, rfl, Nat.le_of_ble_eq_true rfl⟩ rfl (Or.inl ⟨rfl, rfl⟩) ?_
  exact x_icmp_eqr (tgt := 928) C dL_law_851 (by decide) rfl (k _ R2)
theorem lc_fault {nm : String} {b L : Nat} {xs : Nat → Int32} {K : zKT} (Z : zLC nm b L xs K) (hL : L ≤ 2560) {i : Int} (hi : 0 ≤ i ∧ i + 5 ≤ L) {σ : zS} (R : zAll σ 155) (k : ∀ σ2 : zS, zAll σ2 155 → K 928 (zlo i) [] 155 σ2 28132) : K 856 (zlo i) [] 155 σ 28132 := by
  have C := Z.C
  obtain ⟨vs5, hv5⟩ := R.vs
  obtain ⟨h1, h2, r, σ1, σ2, ⟨hh, vs6, hv6⟩, c5, c6, R2⟩ := pr_fault R
  refine x_aload_n C dL_law_856 rfl ?_
  refine x_callV C dL_law_857 c5 okX5_fault lkL_103 ⟨⟨hv5, rfl, rfl⟩, by decide, by decide⟩ ⟨by omega, rfl, rfl, Nat.le_of_ble_eq_true rfl⟩ rfl (Or.inl ⟨rfl, rfl⟩) ?_
  refine x_aload_n C dL_law_860 rfl ?_
  refine x_callV C dL_law_861 c6 okX6_fault lkL_106 ⟨⟨hv6, rfl, rfl⟩, by decide, by decide⟩ ⟨by omega, rfl, rfl, Nat.le_of_ble_eq_true rfl⟩ rfl (Or.inl ⟨rfl, rfl⟩) ?_
  exact x_icmp_eqr (tgt := 928) C dL_law_864 (by decide) rfl (k _ R2)
theorem lc_undo {nm : String} {b L : Nat} {xs : Nat → Int32} {K : zKT} (Z : zLC nm b L xs K) (hL : L ≤ 2560) {i : Int} (hi : 0 ≤ i ∧ i + 5 ≤ L) {σ : zS} (R : zAll σ 155) (k : ∀ σ2 : zS, zAll σ2 155 → K 928 (zlo i) [] 155 σ2 28132) : K 869 (zlo i) [] 155 σ 28132 := by
  have C := Z.C
  obtain ⟨vs5, hv5⟩ := R.vs
  obtain ⟨h1, h2, r, σ1, σ2, ⟨hh, vs6, hv6⟩, c5, c6, R2⟩ := pr_undo R
  refine x_aload_n C dL_law_869 rfl ?_
  refine x_callV C dL_law_870 c5 okX5_undo lkL_107 ⟨⟨hv5, rfl, rfl⟩, by decide, by decide⟩ ⟨by omega, rfl, rfl, Nat.le_of_ble_eq_true rfl⟩ rfl (Or.inl ⟨rfl, rfl⟩) ?_
  refine x_aload_n C dL_law_873 rfl ?_
  refine x_callV C dL_law_874 c6 okX6_undo lkL_110 ⟨⟨hv6, rfl, rfl⟩, by decide, by decide⟩ ⟨by omega, rfl, rfl, Nat.le_of_ble_eq_true rfl⟩ rfl (Or.inl ⟨rfl, rfl⟩) ?_
  exact x_icmp_eqr (tgt := 928) C dL_law_877 (by decide) rfl (k _ R2)
theorem lc_save {nm : String} {b L : Nat} {xs : Nat → Int32} {K : zKT} (Z : zLC nm b L xs K) (hL : L ≤ 2560) {i : Int} (hi : 0 ≤ i ∧ i + 5 ≤ L) {σ : zS} (R : zAll σ 155) (k : ∀ σ2 : zS, zAll σ2 155 → K 928 (zlo i) [] 155 σ2 28132) : K 882 (zlo i) [] 155 σ 28132 := by
  have C := Z.C
  obtain ⟨vs5, hv5⟩ := R.vs
  obtain ⟨h1, h2, r, σ1, σ2, ⟨hh, vs6, hv6⟩, c5, c6, R2⟩ := pr_save R (zxs xs (i + 1)) (zxs_in _ _)
  refine x_aload_n C dL_law_882 rfl ?_
  refine x_arg Z hL hi 1 (by decide) dL_law_883 dL_law_884 dL_law_885 dL_law_886 dL_law_887 ?_
  refine x_callV C dL_law_888 c5 okX5_save lkL_111 ⟨⟨hv5, rfl, rfl⟩, by decide, by decide⟩ ⟨by omega, rfl, rfl, Nat.le_of_ble_eq_true rfl⟩ rfl (Or.inl ⟨rfl, rfl⟩) ?_
  refine x_aload_n C dL_law_891 rfl ?_
  refine x_arg Z hL hi 1 (by decide) dL_law_892 dL_law_893 dL_law_894 dL_law_895 dL_law_896 ?_
  refine x_callV C dL_law_897 c6 okX6_save lkL_114 ⟨⟨hv6, rfl, rfl⟩, by decide, by decide⟩ ⟨by omega, rfl, rfl, Nat.le_of_ble_eq_true rfl⟩ rfl (Or.inl ⟨rfl, rfl⟩) ?_
  exact x_icmp_eqr (tgt := 928) C dL_law_900 (by decide) rfl (k _ R2)
theorem lc_restore {nm : String} {b L : Nat} {xs : Nat → Int32} {K : zKT} (Z : zLC nm b L xs K) (hL : L ≤ 2560) {i : Int} (hi : 0 ≤ i ∧ i + 5 ≤ L) {σ : zS} (R : zAll σ 155) (k : ∀ σ2 : zS, zAll σ2 155 → K 928 (zlo i) [] 155 σ2 28132) : K 905 (zlo i) [] 155 σ 28132 := by
  have C := Z.C
  obtain ⟨vs5, hv5⟩ := R.vs
  obtain ⟨h1, h2, r, σ1, σ2, ⟨hh, vs6, hv6⟩, c5, c6, R2⟩ := pr_restore R (zxs xs (i + 1)) (zxs_in _ _)
  refine x_aload_n C dL_law_905 rfl ?_
  refine x_arg Z hL hi 1 (by decide) dL_law_906 dL_law_907 dL_law_908 dL_law_909 dL_law_910 ?_
  refine x_callV C dL_law_911 c5 okX5_restore lkL_115 ⟨⟨hv5, rfl, rfl⟩, by decide, by decide⟩ ⟨by omega, rfl, rfl, Nat.le_of_ble_eq_true rfl⟩ rfl (Or.inl ⟨rfl, rfl⟩) ?_
  refine x_aload_n C dL_law_914 rfl ?_
  refine x_arg Z hL hi 1 (by decide) dL_law_915 dL_law_916 dL_law_917 dL_law_918 dL_law_919 ?_
  refine x_callV C dL_law_920 c6 okX6_restore lkL_118 ⟨⟨hv6, rfl, rfl⟩, by decide, by decide⟩ ⟨by omega, rfl, rfl, Nat.le_of_ble_eq_true rfl⟩ rfl (Or.inl ⟨rfl, rfl⟩) ?_
  exact x_icmp_eqr (tgt := 928) C dL_law_923 (by decide) rfl (k _ R2)
