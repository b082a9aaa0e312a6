set_option maxHeartbeats 4000000 in
set_option maxRecDepth 100000 in
theorem law_0 {E : wE} {g : wG} {b L : Nat} {xs : Nat → Int32} (hC : Cx E g cL_law RL wsL_law 4 room_1) (hX : Lx E b L xs) (hL : L < 2147483648) {i : Int} (i0 : 0 ≤ i) (i1 : i + 6 ≤ L) (hD : wD g) {S : wSt} {x : aS} {y : aL} (hI : LI S x y) (hfin : ∀ S2 x2 y2, LI S2 x2 y2 → Wk E g 4 S2 1476 (lvI g b i) []) : Wk E g 4 S 192 (lvI g b i) [] := by
  refine kw_aload_n hC dL_law_192 rfl 2 rfl ?_
  refine kw_argI (n := 1) hC hX hL (by omega) (by omega) dL_law_193 dL_law_194 dL_law_195 dL_law_196 dL_law_197 ?_
  refine kw_callV hC (d_X7_mirror hD (sv_r xs _) hI.1) gL_law_X7_mirror ⟨_, rfl⟩ rfl (by decide) (by decide) rfl ⟨rfl, rfl⟩ 1 (by decide +kernel) ⟨by decide, by decide⟩ rfl rfl (Nat.le_of_ble_eq_true rfl) dL_law_198 rfl (kd_i ?_)
  rintro r1 S1 ⟨q1, q2, q3⟩
  obtain ⟨q4, e1⟩ := q3 x hI.2.2.1
  have hH := hI.cs q1 q2 q4
  refine kw_pop hC dL_law_201 rfl rfl ?_
  refine kw_aload_n hC dL_law_202 rfl 1 rfl ?_
  refine kw_argI (n := 1) hC hX hL (by omega) (by omega) dL_law_203 dL_law_204 dL_law_205 dL_law_206 dL_law_207 ?_
  refine kw_callV hC (d_X8_mirror hD (sv_r xs _) hH.2.1) gL_law_X8_mirror ⟨_, rfl⟩ rfl (by decide) (by decide) rfl ⟨rfl, rfl⟩ 1 (by decide +kernel) ⟨by decide, by decide⟩ rfl rfl (Nat.le_of_ble_eq_true rfl) dL_law_208 rfl (kd_i ?_)
  rintro r2 S2 ⟨p1, p2, p3⟩
  obtain ⟨p4, e2⟩ := p3 x hH.2.2.2.1
  have hI2 := hH.rs p1 p2 p4
  refine kw_pop hC dL_law_211 rfl rfl ?_
  exact kw_goto (tgt := 1476) hC dL_law_212 rfl (by decide) (hfin S2 _ _ hI2)
set_option maxHeartbeats 4000000 in
set_option maxRecDepth 100000 in
theorem law_1 {E : wE} {g : wG} {b L : Nat} {xs : Nat → Int32} (hC : Cx E g cL_law RL wsL_law 4 room_1) (hX : Lx E b L xs) (hL : L < 2147483648) {i : Int} (i0 : 0 ≤ i) (i1 : i + 6 ≤ L) (hD : wD g) {S : wSt} {x : aS} {y : aL} (hI : LI S x y) (hfin : ∀ S2 x2 y2, LI S2 x2 y2 → Wk E g 4 S2 1476 (lvI g b i) []) : Wk E g 4 S 215 (lvI g b i) [] := by
  refine kw_aload_n hC dL_law_215 rfl 2 rfl ?_
  refine kw_argI (n := 1) hC hX hL (by omega) (by omega) dL_law_216 dL_law_217 dL_law_218 dL_law_219 dL_law_220 ?_
  refine kw_argI (n := 2) hC hX hL (by omega) (by omega) dL_law_221 dL_law_222 dL_law_223 dL_law_224 dL_law_225 ?_
  refine kw_argI (n := 3) hC hX hL (by omega) (by omega) dL_law_226 dL_law_227 dL_law_228 dL_law_229 dL_law_230 ?_
  refine kw_argI (n := 4) hC hX hL (by omega) (by omega) dL_law_231 dL_law_232 dL_law_233 dL_law_234 dL_law_235 ?_
  refine kw_callV hC (d_X7_meet hD (sv_r xs _) (sv_r xs _) (sv_r xs _) (sv_r xs _) hI.1) gL_law_X7_meet ⟨_, rfl⟩ rfl (by decide) (by decide) rfl ⟨rfl, rfl⟩ 4 (by decide +kernel) ⟨by decide, by decide⟩ rfl rfl (Nat.le_of_ble_eq_true rfl) dL_law_236 rfl (kd_i ?_)
  rintro r1 S1 ⟨q1, q2, q3⟩
  obtain ⟨q4, e1⟩ := q3 x hI.2.2.1
  have hH := hI.cs q1 q2 q4
  refine kw_pop hC dL_law_239 rfl rfl ?_
  refine kw_aload_n hC dL_law_240 rfl 1 rfl ?_
  refine kw_argI (n := 1) hC hX hL (by omega) (by omega) dL_law_241 dL_law_242 dL_law_243 dL_law_244 dL_law_245 ?_
  refine kw_argI (n := 2) hC hX hL (by omega) (by omega) dL_law_246 dL_law_247 dL_law_248 dL_law_249 dL_law_250 ?_
  refine kw_argI (n := 3) hC hX hL (by omega) (by omega) dL_law_251 dL_law_252 dL_law_253 dL_law_254 dL_law_255 ?_
  refine kw_argI (n := 4) hC hX hL (by omega) (by omega) dL_law_256 dL_law_257 dL_law_258 dL_law_259 dL_law_260 ?_
  refine kw_callV hC (d_X8_meet hD (sv_r xs _) (sv_r xs _) (sv_r xs _) (sv_r xs _) hH.2.1) gL_law_X8_meet ⟨_, rfl⟩ rfl (by decide) (by decide) rfl ⟨rfl, rfl⟩ 4 (by decide +kernel) ⟨by decide, by decide⟩ rfl rfl (Nat.le_of_ble_eq_true rfl) dL_law_261 rfl (kd_i ?_)
  rintro r2 S2 ⟨p1, p2, p3⟩
  obtain ⟨p4, e2⟩ := p3 x hH.2.2.2.1
  have hI2 := hH.rs p1 p2 p4
  refine kw_pop hC dL_law_264 rfl rfl ?_
  exact kw_goto (tgt := 1476) hC dL_law_265 rfl (by decide) (hfin S2 _ _ hI2)
set_option maxHeartbeats 4000000 in
set_option maxRecDepth 100000 in
theorem law_2 {E : wE} {g : wG} {b L : Nat} {xs : Nat → Int32} (hC : Cx E g cL_law RL wsL_law 4 room_1) (hX : Lx E b L xs) (hL : L < 2147483648) {i : Int} (i0 : 0 ≤ i) (i1 : i + 6 ≤ L) (hD : wD g) {S : wSt} {x : aS} {y : aL} (hI : LI S x y) (hfin : ∀ S2 x2 y2, LI S2 x2 y2 → Wk E g 4 S2 1476 (lvI g b i) []) : Wk E g 4 S 268 (lvI g b i) [] := by
  refine kw_aload_n hC dL_law_268 rfl 2 rfl ?_
  refine kw_callV hC (d_X7_less hD  hI.1) gL_law_X7_less ⟨_, rfl⟩ rfl (by decide) (by decide) rfl ⟨rfl, rfl⟩ 0 (by decide +kernel) ⟨by decide, by decide⟩ rfl rfl (Nat.le_of_ble_eq_true rfl) dL_law_269 rfl (kd_i ?_)
  rintro r1 S1 ⟨q1, q2, q3⟩
  obtain ⟨q4, e1⟩ := q3 x hI.2.2.1
  have hH := hI.cs q1 q2 q4
  refine kw_pop hC dL_law_272 rfl rfl ?_
  refine kw_aload_n hC dL_law_273 rfl 1 rfl ?_
  refine kw_callV hC (d_X8_less hD  hH.2.1) gL_law_X8_less ⟨_, rfl⟩ rfl (by decide) (by decide) rfl ⟨rfl, rfl⟩ 0 (by decide +kernel) ⟨by decide, by decide⟩ rfl rfl (Nat.le_of_ble_eq_true rfl) dL_law_274 rfl (kd_i ?_)
  rintro r2 S2 ⟨p1, p2, p3⟩
  obtain ⟨p4, e2⟩ := p3 x hH.2.2.2.1
  have hI2 := hH.rs p1 p2 p4
  refine kw_pop hC dL_law_277 rfl rfl ?_
  exact kw_goto (tgt := 1476) hC dL_law_278 rfl (by decide) (hfin S2 _ _ hI2)
set_option maxHeartbeats 4000000 in
set_option maxRecDepth 100000 in
theorem law_3 {E : wE} {g : wG} {b L : Nat} {xs : Nat → Int32} (hC : Cx E g cL_law RL wsL_law 4 room_1) (hX : Lx E b L xs) (hL : L < 2147483648) {i : Int} (i0 : 0 ≤ i) (i1 : i + 6 ≤ L) (hD : wD g) {S : wSt} {x : aS} {y : aL} (hI : LI S x y) (hfin : ∀ S2 x2 y2, LI S2 x2 y2 → Wk E g 4 S2 1476 (lvI g b i) []) : Wk E g 4 S 281 (lvI g b i) [] := by
  refine kw_aload_n hC dL_law_281 rfl 2 rfl ?_
  refine kw_argI (n := 1) hC hX hL (by omega) (by omega) dL_law_282 dL_law_283 dL_law_284 dL_law_285 dL_law_286 ?_
  refine kw_argI (n := 2) hC hX hL (by omega) (by omega) dL_law_287 dL_law_288 dL_law_289 dL_law_290 dL_law_291 ?_
  refine kw_callV hC (d_X7_kind hD (sv_r xs _) (sv_r xs _) hI.1) gL_law_X7_kind ⟨_, rfl⟩ rfl (by decide) (by decide) rfl ⟨rfl, rfl⟩ 2 (by decide +kernel) ⟨by decide, by decide⟩ rfl rfl (Nat.le_of_ble_eq_true rfl) dL_law_292 rfl (kd_i ?_)
  rintro r1 S1 ⟨q1, q2, q3⟩
  obtain ⟨q4, e1⟩ := q3 x hI.2.2.1
  have hH := hI.cs q1 q2 q4
  refine kw_pop hC dL_law_295 rfl rfl ?_
  refine kw_aload_n hC dL_law_296 rfl 1 rfl ?_
  refine kw_argI (n := 1) hC hX hL (by omega) (by omega) dL_law_297 dL_law_298 dL_law_299 dL_law_300 dL_law_301 ?_
  refine kw_argI (n := 2) hC hX hL (by omega) (by omega) dL_law_302 dL_law_303 dL_law_304 dL_law_305 dL_law_306 ?_
  refine kw_callV hC (d_X8_kind hD (sv_r xs _) (sv_r xs _) hH.2.1) gL_law_X8_kind ⟨_, rfl⟩ rfl (by decide) (by decide) rfl ⟨rfl, rfl⟩ 2 (by decide +kernel) ⟨by decide, by decide⟩ rfl rfl (Nat.le_of_ble_eq_true rfl) dL_law_307 rfl (kd_i ?_)
  rintro r2 S2 ⟨p1, p2, p3⟩
  obtain ⟨p4, e2⟩ := p3 x hH.2.2.2.1
  have hI2 := hH.rs p1 p2 p4
  refine kw_pop hC dL_law_310 rfl rfl ?_
  exact kw_goto (tgt := 1476) hC dL_law_311 rfl (by decide) (hfin S2 _ _ hI2)
set_option maxHeartbeats 4000000 in
set_option maxRecDepth 100000 in
theorem law_4 {E : wE} {g : wG} {b L : Nat} {xs : Nat → Int32} (hC : Cx E g cL_law RL wsL_law 4 room_1) (hX : Lx E b L xs) (hL : L < 2147483648) {i : Int} (i0 : 0 ≤ i) (i1 : i + 6 ≤ L) (hD : wD g) {S : wSt} {x : aS} {y : aL} (hI : LI S x y) (hfin : ∀ S2 x2 y2, LI S2 x2 y2 → Wk E g 4 S2 1476 (lvI g b i) []) : Wk E g 4 S 314 (lvI g b i) [] := by
  refine kw_aload_n hC dL_law_314 rfl 2 rfl ?_
  refine kw_callV hC (d_X7_undo hD  hI.1) gL_law_X7_undo ⟨_, rfl⟩ rfl (by decide) (by decide) rfl ⟨rfl, rfl⟩ 0 (by decide +kernel) ⟨by decide, by decide⟩ rfl rfl (Nat.le_of_ble_eq_true rfl) dL_law_315 rfl (kd_i ?_)
  rintro r1 S1 ⟨q1, q2, q3⟩
  obtain ⟨q4, e1⟩ := q3 x hI.2.2.1
  have hH := hI.cs q1 q2 q4
  refine kw_pop hC dL_law_318 rfl rfl ?_
  refine kw_aload_n hC dL_law_319 rfl 1 rfl ?_
  refine kw_callV hC (d_X8_undo hD  hH.2.1) gL_law_X8_undo ⟨_, rfl⟩ rfl (by decide) (by decide) rfl ⟨rfl, rfl⟩ 0 (by decide +kernel) ⟨by decide, by decide⟩ rfl rfl (Nat.le_of_ble_eq_true rfl) dL_law_320 rfl (kd_i ?_)
  rintro r2 S2 ⟨p1, p2, p3⟩
  obtain ⟨p4, e2⟩ := p3 x hH.2.2.2.1
  have hI2 := hH.rs p1 p2 p4
  refine kw_pop hC dL_law_323 rfl rfl ?_
  exact kw_goto (tgt := 1476) hC dL_law_324 rfl (by decide) (hfin S2 _ _ hI2)
set_option maxHeartbeats 4000000 in
set_option maxRecDepth 100000 in
theorem law_5 {E : wE} {g : wG} {b L : Nat} {xs : Nat → Int32} (hC : Cx E g cL_law RL wsL_law 4 room_1) (hX : Lx E b L xs) (hL : L < 2147483648) {i : Int} (i0 : 0 ≤ i) (i1 : i + 6 ≤ L) (hD : wD g) {S : wSt} {x : aS} {y : aL} (hI : LI S x y) (hfin : ∀ S2 x2 y2, LI S2 x2 y2 → Wk E g 4 S2 1476 (lvI g b i) []) : Wk E g 4 S 327 (lvI g b i) [] := by
  refine kw_aload_n hC dL_law_327 rfl 2 rfl ?_
  refine kw_argI (n := 1) hC hX hL (by omega) (by omega) dL_law_328 dL_law_329 dL_law_330 dL_law_331 dL_law_332 ?_
  refine kw_argI (n := 2) hC hX hL (by omega) (by omega) dL_law_333 dL_law_334 dL_law_335 dL_law_336 dL_law_337 ?_
  refine kw_argI (n := 3) hC hX hL (by omega) (by omega) dL_law_338 dL_law_339 dL_law_340 dL_law_341 dL_law_342 ?_
  refine kw_callV hC (d_X7_told hD (sv_r xs _) (sv_r xs _) (sv_r xs _) hI.1) gL_law_X7_told ⟨_, rfl⟩ rfl (by decide) (by decide) rfl ⟨rfl, rfl⟩ 3 (by decide +kernel) ⟨by decide, by decide⟩ rfl rfl (Nat.le_of_ble_eq_true rfl) dL_law_343 rfl (kd_i ?_)
  rintro r1 S1 ⟨rfl, q3⟩
  have e1 := q3 x hI.2.2.1
  have hH := hI.cn
  refine kw_pop hC dL_law_346 rfl rfl ?_
  refine kw_aload_n hC dL_law_347 rfl 1 rfl ?_
  refine kw_argI (n := 1) hC hX hL (by omega) (by omega) dL_law_348 dL_law_349 dL_law_350 dL_law_351 dL_law_352 ?_
  refine kw_argI (n := 2) hC hX hL (by omega) (by omega) dL_law_353 dL_law_354 dL_law_355 dL_law_356 dL_law_357 ?_
  refine kw_argI (n := 3) hC hX hL (by omega) (by omega) dL_law_358 dL_law_359 dL_law_360 dL_law_361 dL_law_362 ?_
  refine kw_callV hC (d_X8_told hD (sv_r xs _) (sv_r xs _) (sv_r xs _) hH.2.1) gL_law_X8_told ⟨_, rfl⟩ rfl (by decide) (by decide) rfl ⟨rfl, rfl⟩ 3 (by decide +kernel) ⟨by decide, by decide⟩ rfl rfl (Nat.le_of_ble_eq_true rfl) dL_law_363 rfl (kd_i ?_)
  rintro r2 S2 ⟨rfl, p3⟩
  have e2 := p3 x hH.2.2.2.1
  have hI2 : LI S2 x y := hH
  refine kw_pop hC dL_law_366 rfl rfl ?_
  exact kw_goto (tgt := 1476) hC dL_law_367 rfl (by decide) (hfin S2 _ _ hI2)
set_option maxHeartbeats 4000000 in
set_option maxRecDepth 100000 in
theorem law_6 {E : wE} {g : wG} {b L : Nat} {xs : Nat → Int32} (hC : Cx E g cL_law RL wsL_law 4 room_1) (hX : Lx E b L xs) (hL : L < 2147483648) {i : Int} (i0 : 0 ≤ i) (i1 : i + 6 ≤ L) (hD : wD g) {S : wSt} {x : aS} {y : aL} (hI : LI S x y) (hfin : ∀ S2 x2 y2, LI S2 x2 y2 → Wk E g 4 S2 1476 (lvI g b i) []) : Wk E g 4 S 370 (lvI g b i) [] := by
  refine kw_aload_n hC dL_law_370 rfl 2 rfl ?_
  refine kw_argI (n := 1) hC hX hL (by omega) (by omega) dL_law_371 dL_law_372 dL_law_373 dL_law_374 dL_law_375 ?_
  refine kw_callV hC (d_X7_clear hD (sv_r xs _) hI.1) gL_law_X7_clear ⟨_, rfl⟩ rfl (by decide) (by decide) rfl ⟨rfl, rfl⟩ 1 (by decide +kernel) ⟨by decide, by decide⟩ rfl rfl (Nat.le_of_ble_eq_true rfl) dL_law_376 rfl (kd_i ?_)
  rintro r1 S1 ⟨q1, q2⟩
  have hH := hI.cw q1 q2
  refine kw_pop hC dL_law_379 rfl rfl ?_
  refine kw_aload_n hC dL_law_380 rfl 1 rfl ?_
  refine kw_argI (n := 1) hC hX hL (by omega) (by omega) dL_law_381 dL_law_382 dL_law_383 dL_law_384 dL_law_385 ?_
  refine kw_callV hC (d_X8_clear hD (sv_r xs _) hH.2.1) gL_law_X8_clear ⟨_, rfl⟩ rfl (by decide) (by decide) rfl ⟨rfl, rfl⟩ 1 (by decide +kernel) ⟨by decide, by decide⟩ rfl rfl (Nat.le_of_ble_eq_true rfl) dL_law_386 rfl (kd_i ?_)
  rintro r2 S2 ⟨p1, p2⟩
  have hI2 := hH.rw' p1 p2
  refine kw_pop hC dL_law_389 rfl rfl ?_
  exact kw_goto (tgt := 1476) hC dL_law_390 rfl (by decide) (hfin S2 _ _ hI2)
set_option maxHeartbeats 4000000 in
set_option maxRecDepth 100000 in
theorem law_7 {E : wE} {g : wG} {b L : Nat} {xs : Nat → Int32} (hC : Cx E g cL_law RL wsL_law 4 room_1) (hX : Lx E b L xs) (hL : L < 2147483648) {i : Int} (i0 : 0 ≤ i) (i1 : i + 6 ≤ L) (hD : wD g) {S : wSt} {x : aS} {y : aL} (hI : LI S x y) (hfin : ∀ S2 x2 y2, LI S2 x2 y2 → Wk E g 4 S2 1476 (lvI g b i) []) : Wk E g 4 S 393 (lvI g b i) [] := by
  refine kw_aload_n hC dL_law_393 rfl 2 rfl ?_
  refine kw_argI (n := 1) hC hX hL (by omega) (by omega) dL_law_394 dL_law_395 dL_law_396 dL_law_397 dL_law_398 ?_
  refine kw_argI (n := 2) hC hX hL (by omega) (by omega) dL_law_399 dL_law_400 dL_law_401 dL_law_402 dL_law_403 ?_
  refine kw_callV hC (d_X7_put hD (sv_r xs _) (sv_r xs _) hI.1) gL_law_X7_put ⟨_, rfl⟩ rfl (by decide) (by decide) rfl ⟨rfl, rfl⟩ 2 (by decide +kernel) ⟨by decide, by decide⟩ rfl rfl (Nat.le_of_ble_eq_true rfl) dL_law_404 rfl (kd_i ?_)
  rintro r1 S1 ⟨q1, q2⟩
  have hH := hI.cw q1 q2
  refine kw_pop hC dL_law_407 rfl rfl ?_
  refine kw_aload_n hC dL_law_408 rfl 1 rfl ?_
  refine kw_argI (n := 1) hC hX hL (by omega) (by omega) dL_law_409 dL_law_410 dL_law_411 dL_law_412 dL_law_413 ?_
  refine kw_argI (n := 2) hC hX hL (by omega) (by omega) dL_law_414 dL_law_415 dL_law_416 dL_law_417 dL_law_418 ?_
  refine kw_callV hC (d_X8_put hD (sv_r xs _) (sv_r xs _) hH.2.1) gL_law_X8_put ⟨_, rfl⟩ rfl (by decide) (by decide) rfl ⟨rfl, rfl⟩ 2 (by decide +kernel) ⟨by decide, by decide⟩ rfl rfl (Nat.le_of_ble_eq_true rfl) dL_law_419 rfl (kd_i ?_)
  rintro r2 S2 ⟨p1, p2⟩
  have hI2 := hH.rw' p1 p2
  refine kw_pop hC dL_law_422 rfl rfl ?_
  exact kw_goto (tgt := 1476) hC dL_law_423 rfl (by decide) (hfin S2 _ _ hI2)
set_option maxHeartbeats 4000000 in
set_option maxRecDepth 100000 in
theorem law_8 {E : wE} {g : wG} {b L : Nat} {xs : Nat → Int32} (hC : Cx E g cL_law RL wsL_law 4 room_1) (hX : Lx E b L xs) (hL : L < 2147483648) {i : Int} (i0 : 0 ≤ i) (i1 : i + 6 ≤ L) (hD : wD g) {S : wSt} {x : aS} {y : aL} (hI : LI S x y) (hfin : ∀ S2 x2 y2, LI S2 x2 y2 → Wk E g 4 S2 1476 (lvI g b i) []) : Wk E g 4 S 426 (lvI g b i) [] := by
  refine kw_aload_n hC dL_law_426 rfl 2 rfl ?_
  refine kw_argI (n := 1) hC hX hL (by omega) (by omega) dL_law_427 dL_law_428 dL_law_429 dL_law_430 dL_law_431 ?_
  refine kw_argI (n := 2) hC hX hL (by omega) (by omega) dL_law_432 dL_law_433 dL_law_434 dL_law_435 dL_law_436 ?_
  refine kw_argI (n := 3) hC hX hL (by omega) (by omega) dL_law_437 dL_law_438 dL_law_439 dL_law_440 dL_law_441 ?_
  refine kw_argI (n := 4) hC hX hL (by omega) (by omega) dL_law_442 dL_law_443 dL_law_444 dL_law_445 dL_law_446 ?_
  refine kw_argI (n := 5) hC hX hL (by omega) (by omega) dL_law_447 dL_law_448 dL_law_449 dL_law_450 dL_law_451 ?_
  refine kw_callV hC (d_X7_word hD (sv_r xs _) (sv_r xs _) (sv_r xs _) (sv_r xs _) (sv_r xs _) hI.1) gL_law_X7_word ⟨_, rfl⟩ rfl (by decide) (by decide) rfl ⟨rfl, rfl⟩ 5 (by decide +kernel) ⟨by decide, by decide⟩ rfl rfl (Nat.le_of_ble_eq_true rfl) dL_law_452 rfl (kd_i ?_)
  rintro r1 S1 ⟨q1, q2, q3⟩
  have e1 := q3 x y hI.2.2.1 hI.2.2.2.2.1
  have hH := hI.cw q1 q2
  refine kw_pop hC dL_law_455 rfl rfl ?_
  refine kw_aload_n hC dL_law_456 rfl 1 rfl ?_
  refine kw_argI (n := 1) hC hX hL (by omega) (by omega) dL_law_457 dL_law_458 dL_law_459 dL_law_460 dL_law_461 ?_
  refine kw_argI (n := 2) hC hX hL (by omega) (by omega) dL_law_462 dL_law_463 dL_law_464 dL_law_465 dL_law_466 ?_
  refine kw_argI (n := 3) hC hX hL (by omega) (by omega) dL_law_467 dL_law_468 dL_law_469 dL_law_470 dL_law_471 ?_
  refine kw_argI (n := 4) hC hX hL (by omega) (by omega) dL_law_472 dL_law_473 dL_law_474 dL_law_475 dL_law_476 ?_
  refine kw_argI (n := 5) hC hX hL (by omega) (by omega) dL_law_477 dL_law_478 dL_law_479 dL_law_480 dL_law_481 ?_
  refine kw_callV hC (d_X8_word hD (sv_r xs _) (sv_r xs _) (sv_r xs _) (sv_r xs _) (sv_r xs _) hH.2.1) gL_law_X8_word ⟨_, rfl⟩ rfl (by decide) (by decide) rfl ⟨rfl, rfl⟩ 5 (by decide +kernel) ⟨by decide, by decide⟩ rfl rfl (Nat.le_of_ble_eq_true rfl) dL_law_482 rfl (kd_i ?_)
  rintro r2 S2 ⟨p1, p2, p3⟩
  have e2 := p3 x y hH.2.2.2.1 hH.2.2.2.2.2
  have hI2 := hH.rw' p1 p2
  refine kw_pop hC dL_law_485 rfl rfl ?_
  exact kw_goto (tgt := 1476) hC dL_law_486 rfl (by decide) (hfin S2 _ _ hI2)
set_option maxHeartbeats 4000000 in
set_option maxRecDepth 100000 in
theorem law_9 {E : wE} {g : wG} {b L : Nat} {xs : Nat → Int32} (hC : Cx E g cL_law RL wsL_law 4 room_1) (hX : Lx E b L xs) (hL : L < 2147483648) {i : Int} (i0 : 0 ≤ i) (i1 : i + 6 ≤ L) (hD : wD g) {S : wSt} {x : aS} {y : aL} (hI : LI S x y) (hfin : ∀ S2 x2 y2, LI S2 x2 y2 → Wk E g 4 S2 1476 (lvI g b i) []) : Wk E g 4 S 489 (lvI g b i) [] := by
  refine kw_aload_n hC dL_law_489 rfl 2 rfl ?_
  refine kw_argI (n := 1) hC hX hL (by omega) (by omega) dL_law_490 dL_law_491 dL_law_492 dL_law_493 dL_law_494 ?_
  refine kw_argI (n := 2) hC hX hL (by omega) (by omega) dL_law_495 dL_law_496 dL_law_497 dL_law_498 dL_law_499 ?_
  refine kw_callV hC (d_X7_at hD (sv_r xs _) (sv_r xs _) hI.1) gL_law_X7_at ⟨_, rfl⟩ rfl (by decide) (by decide) rfl ⟨rfl, rfl⟩ 2 (by decide +kernel) ⟨by decide, by decide⟩ rfl rfl (Nat.le_of_ble_eq_true rfl) dL_law_500 rfl (kd_i ?_)
  rintro r1 S1 ⟨q1, q2⟩
  have hH := hI.cw q1 q2
  refine kw_pop hC dL_law_503 rfl rfl ?_
  refine kw_aload_n hC dL_law_504 rfl 1 rfl ?_
  refine kw_argI (n := 1) hC hX hL (by omega) (by omega) dL_law_505 dL_law_506 dL_law_507 dL_law_508 dL_law_509 ?_
  refine kw_argI (n := 2) hC hX hL (by omega) (by omega) dL_law_510 dL_law_511 dL_law_512 dL_law_513 dL_law_514 ?_
  refine kw_callV hC (d_X8_at hD (sv_r xs _) (sv_r xs _) hH.2.1) gL_law_X8_at ⟨_, rfl⟩ rfl (by decide) (by decide) rfl ⟨rfl, rfl⟩ 2 (by decide +kernel) ⟨by decide, by decide⟩ rfl rfl (Nat.le_of_ble_eq_true rfl) dL_law_515 rfl (kd_i ?_)
  rintro r2 S2 ⟨p1, p2⟩
  have hI2 := hH.rw' p1 p2
  refine kw_pop hC dL_law_518 rfl rfl ?_
  exact kw_goto (tgt := 1476) hC dL_law_519 rfl (by decide) (hfin S2 _ _ hI2)
set_option maxHeartbeats 4000000 in
set_option maxRecDepth 100000 in
theorem law_10 {E : wE} {g : wG} {b L : Nat} {xs : Nat → Int32} (hC : Cx E g cL_law RL wsL_law 4 room_1) (hX : Lx E b L xs) (hL : L < 2147483648) {i : Int} (i0 : 0 ≤ i) (i1 : i + 6 ≤ L) (hD : wD g) {S : wSt} {x : aS} {y : aL} (hI : LI S x y) (hfin : ∀ S2 x2 y2, LI S2 x2 y2 → Wk E g 4 S2 1476 (lvI g b i) []) : Wk E g 4 S 522 (lvI g b i) [] := by
  refine kw_aload_n hC dL_law_522 rfl 2 rfl ?_
  refine kw_argI (n := 1) hC hX hL (by omega) (by omega) dL_law_523 dL_law_524 dL_law_525 dL_law_526 dL_law_527 ?_
  refine kw_argI (n := 2) hC hX hL (by omega) (by omega) dL_law_528 dL_law_529 dL_law_530 dL_law_531 dL_law_532 ?_
  refine kw_argI (n := 3) hC hX hL (by omega) (by omega) dL_law_533 dL_law_534 dL_law_535 dL_law_536 dL_law_537 ?_
  refine kw_callV hC (d_X7_times hD (sv_r xs _) (sv_r xs _) (sv_r xs _) hI.1) gL_law_X7_times ⟨_, rfl⟩ rfl (by decide) (by decide) rfl ⟨rfl, rfl⟩ 3 (by decide +kernel) ⟨by decide, by decide⟩ rfl rfl (Nat.le_of_ble_eq_true rfl) dL_law_538 rfl (kd_i ?_)
  rintro r1 S1 ⟨q1, q2⟩
  have hH := hI.cw q1 q2
  refine kw_pop hC dL_law_541 rfl rfl ?_
  refine kw_aload_n hC dL_law_542 rfl 1 rfl ?_
  refine kw_argI (n := 1) hC hX hL (by omega) (by omega) dL_law_543 dL_law_544 dL_law_545 dL_law_546 dL_law_547 ?_
  refine kw_argI (n := 2) hC hX hL (by omega) (by omega) dL_law_548 dL_law_549 dL_law_550 dL_law_551 dL_law_552 ?_
  refine kw_argI (n := 3) hC hX hL (by omega) (by omega) dL_law_553 dL_law_554 dL_law_555 dL_law_556 dL_law_557 ?_
  refine kw_callV hC (d_X8_times hD (sv_r xs _) (sv_r xs _) (sv_r xs _) hH.2.1) gL_law_X8_times ⟨_, rfl⟩ rfl (by decide) (by decide) rfl ⟨rfl, rfl⟩ 3 (by decide +kernel) ⟨by decide, by decide⟩ rfl rfl (Nat.le_of_ble_eq_true rfl) dL_law_558 rfl (kd_i ?_)
  rintro r2 S2 ⟨p1, p2⟩
  have hI2 := hH.rw' p1 p2
  refine kw_pop hC dL_law_561 rfl rfl ?_
  exact kw_goto (tgt := 1476) hC dL_law_562 rfl (by decide) (hfin S2 _ _ hI2)
set_option maxHeartbeats 4000000 in
set_option maxRecDepth 100000 in
theorem law_11 {E : wE} {g : wG} {b L : Nat} {xs : Nat → Int32} (hC : Cx E g cL_law RL wsL_law 4 room_1) (hX : Lx E b L xs) (hL : L < 2147483648) {i : Int} (i0 : 0 ≤ i) (i1 : i + 6 ≤ L) (hD : wD g) {S : wSt} {x : aS} {y : aL} (hI : LI S x y) (hfin : ∀ S2 x2 y2, LI S2 x2 y2 → Wk E g 4 S2 1476 (lvI g b i) []) : Wk E g 4 S 565 (lvI g b i) [] := by
  refine kw_aload_n hC dL_law_565 rfl 2 rfl ?_
  refine kw_argI (n := 1) hC hX hL (by omega) (by omega) dL_law_566 dL_law_567 dL_law_568 dL_law_569 dL_law_570 ?_
  refine kw_argI (n := 2) hC hX hL (by omega) (by omega) dL_law_571 dL_law_572 dL_law_573 dL_law_574 dL_law_575 ?_
  refine kw_callV hC (d_X7_back hD (sv_r xs _) (sv_r xs _) hI.1) gL_law_X7_back ⟨_, rfl⟩ rfl (by decide) (by decide) rfl ⟨rfl, rfl⟩ 2 (by decide +kernel) ⟨by decide, by decide⟩ rfl rfl (Nat.le_of_ble_eq_true rfl) dL_law_576 rfl (kd_i ?_)
  rintro r1 S1 ⟨q1, q2⟩
  have hH := hI.cw q1 q2
  refine kw_pop hC dL_law_579 rfl rfl ?_
  refine kw_aload_n hC dL_law_580 rfl 1 rfl ?_
  refine kw_argI (n := 1) hC hX hL (by omega) (by omega) dL_law_581 dL_law_582 dL_law_583 dL_law_584 dL_law_585 ?_
  refine kw_argI (n := 2) hC hX hL (by omega) (by omega) dL_law_586 dL_law_587 dL_law_588 dL_law_589 dL_law_590 ?_
  refine kw_callV hC (d_X8_back hD (sv_r xs _) (sv_r xs _) hH.2.1) gL_law_X8_back ⟨_, rfl⟩ rfl (by decide) (by decide) rfl ⟨rfl, rfl⟩ 2 (by decide +kernel) ⟨by decide, by decide⟩ rfl rfl (Nat.le_of_ble_eq_true rfl) dL_law_591 rfl (kd_i ?_)
  rintro r2 S2 ⟨p1, p2⟩
  have hI2 := hH.rw' p1 p2
  refine kw_pop hC dL_law_594 rfl rfl ?_
  exact kw_goto (tgt := 1476) hC dL_law_595 rfl (by decide) (hfin S2 _ _ hI2)
set_option maxHeartbeats 4000000 in
set_option maxRecDepth 100000 in
theorem law_12 {E : wE} {g : wG} {b L : Nat} {xs : Nat → Int32} (hC : Cx E g cL_law RL wsL_law 4 room_1) (hX : Lx E b L xs) (hL : L < 2147483648) {i : Int} (i0 : 0 ≤ i) (i1 : i + 6 ≤ L) (hD : wD g) {S : wSt} {x : aS} {y : aL} (hI : LI S x y) (hfin : ∀ S2 x2 y2, LI S2 x2 y2 → Wk E g 4 S2 1476 (lvI g b i) []) : Wk E g 4 S 598 (lvI g b i) [] := by
  refine kw_aload_n hC dL_law_598 rfl 2 rfl ?_
  refine kw_argI (n := 1) hC hX hL (by omega) (by omega) dL_law_599 dL_law_600 dL_law_601 dL_law_602 dL_law_603 ?_
  refine kw_argI (n := 2) hC hX hL (by omega) (by omega) dL_law_604 dL_law_605 dL_law_606 dL_law_607 dL_law_608 ?_
  refine kw_callV hC (d_X7_without hD (sv_r xs _) (sv_r xs _) hI.1) gL_law_X7_without ⟨_, rfl⟩ rfl (by decide) (by decide) rfl ⟨rfl, rfl⟩ 2 (by decide +kernel) ⟨by decide, by decide⟩ rfl rfl (Nat.le_of_ble_eq_true rfl) dL_law_609 rfl (kd_i ?_)
  rintro r1 S1 ⟨q1, q2⟩
  have hH := hI.cw q1 q2
  refine kw_pop hC dL_law_612 rfl rfl ?_
  refine kw_aload_n hC dL_law_613 rfl 1 rfl ?_
  refine kw_argI (n := 1) hC hX hL (by omega) (by omega) dL_law_614 dL_law_615 dL_law_616 dL_law_617 dL_law_618 ?_
  refine kw_argI (n := 2) hC hX hL (by omega) (by omega) dL_law_619 dL_law_620 dL_law_621 dL_law_622 dL_law_623 ?_
  refine kw_callV hC (d_X8_without hD (sv_r xs _) (sv_r xs _) hH.2.1) gL_law_X8_without ⟨_, rfl⟩ rfl (by decide) (by decide) rfl ⟨rfl, rfl⟩ 2 (by decide +kernel) ⟨by decide, by decide⟩ rfl rfl (Nat.le_of_ble_eq_true rfl) dL_law_624 rfl (kd_i ?_)
  rintro r2 S2 ⟨p1, p2⟩
  have hI2 := hH.rw' p1 p2
  refine kw_pop hC dL_law_627 rfl rfl ?_
  exact kw_goto (tgt := 1476) hC dL_law_628 rfl (by decide) (hfin S2 _ _ hI2)
set_option maxHeartbeats 4000000 in
set_option maxRecDepth 100000 in
theorem law_13 {E : wE} {g : wG} {b L : Nat} {xs : Nat → Int32} (hC : Cx E g cL_law RL wsL_law 4 room_1) (hX : Lx E b L xs) (hL : L < 2147483648) {i : Int} (i0 : 0 ≤ i) (i1 : i + 6 ≤ L) (hD : wD g) {S : wSt} {x : aS} {y : aL} (hI : LI S x y) (hfin : ∀ S2 x2 y2, LI S2 x2 y2 → Wk E g 4 S2 1476 (lvI g b i) []) : Wk E g 4 S 631 (lvI g b i) [] := by
  refine kw_aload_n hC dL_law_631 rfl 2 rfl ?_
  refine kw_argI (n := 1) hC hX hL (by omega) (by omega) dL_law_632 dL_law_633 dL_law_634 dL_law_635 dL_law_636 ?_
  refine kw_argI (n := 2) hC hX hL (by omega) (by omega) dL_law_637 dL_law_638 dL_law_639 dL_law_640 dL_law_641 ?_
  refine kw_callV hC (d_X7_cut hD (sv_r xs _) (sv_r xs _) hI.1) gL_law_X7_cut ⟨_, rfl⟩ rfl (by decide) (by decide) rfl ⟨rfl, rfl⟩ 2 (by decide +kernel) ⟨by decide, by decide⟩ rfl rfl (Nat.le_of_ble_eq_true rfl) dL_law_642 rfl (kd_i ?_)
  rintro r1 S1 ⟨q1, q2⟩
  have hH := hI.cw q1 q2
  refine kw_pop hC dL_law_645 rfl rfl ?_
  refine kw_aload_n hC dL_law_646 rfl 1 rfl ?_
  refine kw_argI (n := 1) hC hX hL (by omega) (by omega) dL_law_647 dL_law_648 dL_law_649 dL_law_650 dL_law_651 ?_
  refine kw_argI (n := 2) hC hX hL (by omega) (by omega) dL_law_652 dL_law_653 dL_law_654 dL_law_655 dL_law_656 ?_
  refine kw_callV hC (d_X8_cut hD (sv_r xs _) (sv_r xs _) hH.2.1) gL_law_X8_cut ⟨_, rfl⟩ rfl (by decide) (by decide) rfl ⟨rfl, rfl⟩ 2 (by decide +kernel) ⟨by decide, by decide⟩ rfl rfl (Nat.le_of_ble_eq_true rfl) dL_law_657 rfl (kd_i ?_)
  rintro r2 S2 ⟨p1, p2⟩
  have hI2 := hH.rw' p1 p2
  refine kw_pop hC dL_law_660 rfl rfl ?_
  exact kw_goto (tgt := 1476) hC dL_law_661 rfl (by decide) (hfin S2 _ _ hI2)
set_option maxHeartbeats 4000000 in
set_option maxRecDepth 100000 in
theorem law_14 {E : wE} {g : wG} {b L : Nat} {xs : Nat → Int32} (hC : Cx E g cL_law RL wsL_law 4 room_1) (hX : Lx E b L xs) (hL : L < 2147483648) {i : Int} (i0 : 0 ≤ i) (i1 : i + 6 ≤ L) (hD : wD g) {S : wSt} {x : aS} {y : aL} (hI : LI S x y) (hfin : ∀ S2 x2 y2, LI S2 x2 y2 → Wk E g 4 S2 1476 (lvI g b i) []) : Wk E g 4 S 664 (lvI g b i) [] := by
  refine kw_aload_n hC dL_law_664 rfl 2 rfl ?_
  refine kw_argI (n := 1) hC hX hL (by omega) (by omega) dL_law_665 dL_law_666 dL_law_667 dL_law_668 dL_law_669 ?_
  refine kw_argI (n := 2) hC hX hL (by omega) (by omega) dL_law_670 dL_law_671 dL_law_672 dL_law_673 dL_law_674 ?_
  refine kw_callV hC (d_X7_change hD (sv_r xs _) (sv_r xs _) hI.1) gL_law_X7_change ⟨_, rfl⟩ rfl (by decide) (by decide) rfl ⟨rfl, rfl⟩ 2 (by decide +kernel) ⟨by decide, by decide⟩ rfl rfl (Nat.le_of_ble_eq_true rfl) dL_law_675 rfl (kd_i ?_)
  rintro r1 S1 ⟨q1, q2⟩
  have hH := hI.cw q1 q2
  refine kw_pop hC dL_law_678 rfl rfl ?_
  refine kw_aload_n hC dL_law_679 rfl 1 rfl ?_
  refine kw_argI (n := 1) hC hX hL (by omega) (by omega) dL_law_680 dL_law_681 dL_law_682 dL_law_683 dL_law_684 ?_
  refine kw_argI (n := 2) hC hX hL (by omega) (by omega) dL_law_685 dL_law_686 dL_law_687 dL_law_688 dL_law_689 ?_
  refine kw_callV hC (d_X8_change hD (sv_r xs _) (sv_r xs _) hH.2.1) gL_law_X8_change ⟨_, rfl⟩ rfl (by decide) (by decide) rfl ⟨rfl, rfl⟩ 2 (by decide +kernel) ⟨by decide, by decide⟩ rfl rfl (Nat.le_of_ble_eq_true rfl) dL_law_690 rfl (kd_i ?_)
  rintro r2 S2 ⟨p1, p2⟩
  have hI2 := hH.rw' p1 p2
  refine kw_pop hC dL_law_693 rfl rfl ?_
  exact kw_goto (tgt := 1476) hC dL_law_694 rfl (by decide) (hfin S2 _ _ hI2)
set_option maxHeartbeats 4000000 in
set_option maxRecDepth 100000 in
theorem law_15 {E : wE} {g : wG} {b L : Nat} {xs : Nat → Int32} (hC : Cx E g cL_law RL wsL_law 4 room_1) (hX : Lx E b L xs) (hL : L < 2147483648) {i : Int} (i0 : 0 ≤ i) (i1 : i + 6 ≤ L) (hD : wD g) {S : wSt} {x : aS} {y : aL} (hI : LI S x y) (hfin : ∀ S2 x2 y2, LI S2 x2 y2 → Wk E g 4 S2 1476 (lvI g b i) []) : Wk E g 4 S 697 (lvI g b i) [] := by
  refine kw_aload_n hC dL_law_697 rfl 2 rfl ?_
  refine kw_argI (n := 1) hC hX hL (by omega) (by omega) dL_law_698 dL_law_699 dL_law_700 dL_law_701 dL_law_702 ?_
  refine kw_argI (n := 2) hC hX hL (by omega) (by omega) dL_law_703 dL_law_704 dL_law_705 dL_law_706 dL_law_707 ?_
  refine kw_callV hC (d_X7_shorten hD (sv_r xs _) (sv_r xs _) hI.1) gL_law_X7_shorten ⟨_, rfl⟩ rfl (by decide) (by decide) rfl ⟨rfl, rfl⟩ 2 (by decide +kernel) ⟨by decide, by decide⟩ rfl rfl (Nat.le_of_ble_eq_true rfl) dL_law_708 rfl (kd_i ?_)
  rintro r1 S1 ⟨q1, q2⟩
  have hH := hI.cw q1 q2
  refine kw_pop hC dL_law_711 rfl rfl ?_
  refine kw_aload_n hC dL_law_712 rfl 1 rfl ?_
  refine kw_argI (n := 1) hC hX hL (by omega) (by omega) dL_law_713 dL_law_714 dL_law_715 dL_law_716 dL_law_717 ?_
  refine kw_argI (n := 2) hC hX hL (by omega) (by omega) dL_law_718 dL_law_719 dL_law_720 dL_law_721 dL_law_722 ?_
  refine kw_callV hC (d_X8_shorten hD (sv_r xs _) (sv_r xs _) hH.2.1) gL_law_X8_shorten ⟨_, rfl⟩ rfl (by decide) (by decide) rfl ⟨rfl, rfl⟩ 2 (by decide +kernel) ⟨by decide, by decide⟩ rfl rfl (Nat.le_of_ble_eq_true rfl) dL_law_723 rfl (kd_i ?_)
  rintro r2 S2 ⟨p1, p2⟩
  have hI2 := hH.rw' p1 p2
  refine kw_pop hC dL_law_726 rfl rfl ?_
  exact kw_goto (tgt := 1476) hC dL_law_727 rfl (by decide) (hfin S2 _ _ hI2)
set_option maxHeartbeats 4000000 in
set_option maxRecDepth 100000 in
theorem law_16 {E : wE} {g : wG} {b L : Nat} {xs : Nat → Int32} (hC : Cx E g cL_law RL wsL_law 4 room_1) (hX : Lx E b L xs) (hL : L < 2147483648) {i : Int} (i0 : 0 ≤ i) (i1 : i + 6 ≤ L) (hD : wD g) {S : wSt} {x : aS} {y : aL} (hI : LI S x y) (hfin : ∀ S2 x2 y2, LI S2 x2 y2 → Wk E g 4 S2 1476 (lvI g b i) []) : Wk E g 4 S 730 (lvI g b i) [] := by
  refine kw_aload_n hC dL_law_730 rfl 2 rfl ?_
  refine kw_argI (n := 1) hC hX hL (by omega) (by omega) dL_law_731 dL_law_732 dL_law_733 dL_law_734 dL_law_735 ?_
  refine kw_argI (n := 2) hC hX hL (by omega) (by omega) dL_law_736 dL_law_737 dL_law_738 dL_law_739 dL_law_740 ?_
  refine kw_callV hC (d_X7_form hD (sv_r xs _) (sv_r xs _) hI.1) gL_law_X7_form ⟨_, rfl⟩ rfl (by decide) (by decide) rfl ⟨rfl, rfl⟩ 2 (by decide +kernel) ⟨by decide, by decide⟩ rfl rfl (Nat.le_of_ble_eq_true rfl) dL_law_741 rfl (kd_i ?_)
  rintro r1 S1 ⟨q1, q2⟩
  have hH := hI.cw q1 q2
  refine kw_pop hC dL_law_744 rfl rfl ?_
  refine kw_aload_n hC dL_law_745 rfl 1 rfl ?_
  refine kw_argI (n := 1) hC hX hL (by omega) (by omega) dL_law_746 dL_law_747 dL_law_748 dL_law_749 dL_law_750 ?_
  refine kw_argI (n := 2) hC hX hL (by omega) (by omega) dL_law_751 dL_law_752 dL_law_753 dL_law_754 dL_law_755 ?_
  refine kw_callV hC (d_X8_form hD (sv_r xs _) (sv_r xs _) hH.2.1) gL_law_X8_form ⟨_, rfl⟩ rfl (by decide) (by decide) rfl ⟨rfl, rfl⟩ 2 (by decide +kernel) ⟨by decide, by decide⟩ rfl rfl (Nat.le_of_ble_eq_true rfl) dL_law_756 rfl (kd_i ?_)
  rintro r2 S2 ⟨p1, p2⟩
  have hI2 := hH.rw' p1 p2
  refine kw_pop hC dL_law_759 rfl rfl ?_
  exact kw_goto (tgt := 1476) hC dL_law_760 rfl (by decide) (hfin S2 _ _ hI2)
set_option maxHeartbeats 4000000 in
set_option maxRecDepth 100000 in
theorem law_17 {E : wE} {g : wG} {b L : Nat} {xs : Nat → Int32} (hC : Cx E g cL_law RL wsL_law 4 room_1) (hX : Lx E b L xs) (hL : L < 2147483648) {i : Int} (i0 : 0 ≤ i) (i1 : i + 6 ≤ L) (hD : wD g) {S : wSt} {x : aS} {y : aL} (hI : LI S x y) (hfin : ∀ S2 x2 y2, LI S2 x2 y2 → Wk E g 4 S2 1476 (lvI g b i) []) : Wk E g 4 S 763 (lvI g b i) [] := by
  refine kw_aload_n hC dL_law_763 rfl 2 rfl ?_
  refine kw_argI (n := 1) hC hX hL (by omega) (by omega) dL_law_764 dL_law_765 dL_law_766 dL_law_767 dL_law_768 ?_
  refine kw_argI (n := 2) hC hX hL (by omega) (by omega) dL_law_769 dL_law_770 dL_law_771 dL_law_772 dL_law_773 ?_
  refine kw_callV hC (d_X7_same hD (sv_r xs _) (sv_r xs _) hI.1) gL_law_X7_same ⟨_, rfl⟩ rfl (by decide) (by decide) rfl ⟨rfl, rfl⟩ 2 (by decide +kernel) ⟨by decide, by decide⟩ rfl rfl (Nat.le_of_ble_eq_true rfl) dL_law_774 rfl (kd_i ?_)
  rintro r1 S1 ⟨q1, q2⟩
  have hH := hI.cw q1 q2
  refine kw_pop hC dL_law_777 rfl rfl ?_
  refine kw_aload_n hC dL_law_778 rfl 1 rfl ?_
  refine kw_argI (n := 1) hC hX hL (by omega) (by omega) dL_law_779 dL_law_780 dL_law_781 dL_law_782 dL_law_783 ?_
  refine kw_argI (n := 2) hC hX hL (by omega) (by omega) dL_law_784 dL_law_785 dL_law_786 dL_law_787 dL_law_788 ?_
  refine kw_callV hC (d_X8_same hD (sv_r xs _) (sv_r xs _) hH.2.1) gL_law_X8_same ⟨_, rfl⟩ rfl (by decide) (by decide) rfl ⟨rfl, rfl⟩ 2 (by decide +kernel) ⟨by decide, by decide⟩ rfl rfl (Nat.le_of_ble_eq_true rfl) dL_law_789 rfl (kd_i ?_)
  rintro r2 S2 ⟨p1, p2⟩
  have hI2 := hH.rw' p1 p2
  refine kw_pop hC dL_law_792 rfl rfl ?_
  exact kw_goto (tgt := 1476) hC dL_law_793 rfl (by decide) (hfin S2 _ _ hI2)
set_option maxHeartbeats 4000000 in
set_option maxRecDepth 100000 in
theorem law_18 {E : wE} {g : wG} {b L : Nat} {xs : Nat → Int32} (hC : Cx E g cL_law RL wsL_law 4 room_1) (hX : Lx E b L xs) (hL : L < 2147483648) {i : Int} (i0 : 0 ≤ i) (i1 : i + 6 ≤ L) (hD : wD g) {S : wSt} {x : aS} {y : aL} (hI : LI S x y) (hfin : ∀ S2 x2 y2, LI S2 x2 y2 → Wk E g 4 S2 1476 (lvI g b i) []) : Wk E g 4 S 796 (lvI g b i) [] := by
  by_cases c0 : sv xs (i + 2).toNat = 0
  · skip
    refine kw_aload_n hC dL_law_796 rfl 2 rfl ?_
    refine kw_argI (n := 1) hC hX hL (by omega) (by omega) dL_law_797 dL_law_798 dL_law_799 dL_law_800 dL_law_801 ?_
    refine kw_argI (n := 2) hC hX hL (by omega) (by omega) dL_law_802 dL_law_803 dL_law_804 dL_law_805 dL_law_806 ?_
    refine kw_if_eq (tgt := 814) hC dL_law_807 rfl (by decide) (sv_r xs _) ⟨fun _ => ?_, fun q => absurd c0 q⟩
    refine kw_iconst hC dL_law_814 rfl ?_
    refine kw_callV hC (d_X7_downs hD (sv_r xs _) (by decide) hI.1) gL_law_X7_downs ⟨_, rfl⟩ rfl (by decide) (by decide) rfl ⟨rfl, rfl⟩ 2 (by decide +kernel) ⟨by decide, by decide⟩ rfl rfl (Nat.le_of_ble_eq_true rfl) dL_law_815 rfl (kd_i ?_)
    rintro r1 S1 ⟨q1, q2⟩
    have hH := hI.cw q1 q2
    refine kw_pop hC dL_law_818 rfl rfl ?_
    refine kw_aload_n hC dL_law_819 rfl 1 rfl ?_
    refine kw_argI (n := 1) hC hX hL (by omega) (by omega) dL_law_820 dL_law_821 dL_law_822 dL_law_823 dL_law_824 ?_
    refine kw_argI (n := 2) hC hX hL (by omega) (by omega) dL_law_825 dL_law_826 dL_law_827 dL_law_828 dL_law_829 ?_
    refine kw_if_eq (tgt := 837) hC dL_law_830 rfl (by decide) (sv_r xs _) ⟨fun _ => ?_, fun q => absurd c0 q⟩
    refine kw_iconst hC dL_law_837 rfl ?_
    refine kw_callV hC (d_X8_downs hD (sv_r xs _) (by decide) hH.2.1) gL_law_X8_downs ⟨_, rfl⟩ rfl (by decide) (by decide) rfl ⟨rfl, rfl⟩ 2 (by decide +kernel) ⟨by decide, by decide⟩ rfl rfl (Nat.le_of_ble_eq_true rfl) dL_law_838 rfl (kd_i ?_)
    rintro r2 S2 ⟨p1, p2⟩
    have hI2 := hH.rw' p1 p2
    refine kw_pop hC dL_law_841 rfl rfl ?_
    exact kw_goto (tgt := 1476) hC dL_law_842 rfl (by decide) (hfin S2 _ _ hI2)
  · skip
    refine kw_aload_n hC dL_law_796 rfl 2 rfl ?_
    refine kw_argI (n := 1) hC hX hL (by omega) (by omega) dL_law_797 dL_law_798 dL_law_799 dL_law_800 dL_law_801 ?_
    refine kw_argI (n := 2) hC hX hL (by omega) (by omega) dL_law_802 dL_law_803 dL_law_804 dL_law_805 dL_law_806 ?_
    refine kw_if_eq (tgt := 814) hC dL_law_807 rfl (by decide) (sv_r xs _) ⟨fun q => absurd q c0, fun _ => ?_⟩
    refine kw_iconst hC dL_law_810 rfl ?_
    refine kw_goto (tgt := 815) hC dL_law_811 rfl (by decide) ?_
    refine kw_callV hC (d_X7_downs hD (sv_r xs _) (by decide) hI.1) gL_law_X7_downs ⟨_, rfl⟩ rfl (by decide) (by decide) rfl ⟨rfl, rfl⟩ 2 (by decide +kernel) ⟨by decide, by decide⟩ rfl rfl (Nat.le_of_ble_eq_true rfl) dL_law_815 rfl (kd_i ?_)
    rintro r1 S1 ⟨q1, q2⟩
    have hH := hI.cw q1 q2
    refine kw_pop hC dL_law_818 rfl rfl ?_
    refine kw_aload_n hC dL_law_819 rfl 1 rfl ?_
    refine kw_argI (n := 1) hC hX hL (by omega) (by omega) dL_law_820 dL_law_821 dL_law_822 dL_law_823 dL_law_824 ?_
    refine kw_argI (n := 2) hC hX hL (by omega) (by omega) dL_law_825 dL_law_826 dL_law_827 dL_law_828 dL_law_829 ?_
    refine kw_if_eq (tgt := 837) hC dL_law_830 rfl (by decide) (sv_r xs _) ⟨fun q => absurd q c0, fun _ => ?_⟩
    refine kw_iconst hC dL_law_833 rfl ?_
    refine kw_goto (tgt := 838) hC dL_law_834 rfl (by decide) ?_
    refine kw_callV hC (d_X8_downs hD (sv_r xs _) (by decide) hH.2.1) gL_law_X8_downs ⟨_, rfl⟩ rfl (by decide) (by decide) rfl ⟨rfl, rfl⟩ 2 (by decide +kernel) ⟨by decide, by decide⟩ rfl rfl (Nat.le_of_ble_eq_true rfl) dL_law_838 rfl (kd_i ?_)
    rintro r2 S2 ⟨p1, p2⟩
    have hI2 := hH.rw' p1 p2
    refine kw_pop hC dL_law_841 rfl rfl ?_
    exact kw_goto (tgt := 1476) hC dL_law_842 rfl (by decide) (hfin S2 _ _ hI2)
set_option maxHeartbeats 4000000 in
set_option maxRecDepth 100000 in
theorem law_19 {E : wE} {g : wG} {b L : Nat} {xs : Nat → Int32} (hC : Cx E g cL_law RL wsL_law 4 room_1) (hX : Lx E b L xs) (hL : L < 2147483648) {i : Int} (i0 : 0 ≤ i) (i1 : i + 6 ≤ L) (hD : wD g) {S : wSt} {x : aS} {y : aL} (hI : LI S x y) (hfin : ∀ S2 x2 y2, LI S2 x2 y2 → Wk E g 4 S2 1476 (lvI g b i) []) : Wk E g 4 S 845 (lvI g b i) [] := by
  refine kw_aload_n hC dL_law_845 rfl 2 rfl ?_
  refine kw_argI (n := 1) hC hX hL (by omega) (by omega) dL_law_846 dL_law_847 dL_law_848 dL_law_849 dL_law_850 ?_
  refine kw_argI (n := 2) hC hX hL (by omega) (by omega) dL_law_851 dL_law_852 dL_law_853 dL_law_854 dL_law_855 ?_
  refine kw_argI (n := 3) hC hX hL (by omega) (by omega) dL_law_856 dL_law_857 dL_law_858 dL_law_859 dL_law_860 ?_
  refine kw_callV hC (d_X7_does hD (sv_r xs _) (sv_r xs _) (sv_r xs _) hI.1) gL_law_X7_does ⟨_, rfl⟩ rfl (by decide) (by decide) rfl ⟨rfl, rfl⟩ 3 (by decide +kernel) ⟨by decide, by decide⟩ rfl rfl (Nat.le_of_ble_eq_true rfl) dL_law_861 rfl (kd_l ?_)
  rintro r1 S1 ⟨q1, q2⟩
  have hH := hI.cw q1 q2
  refine kw_pop2 hC dL_law_864 rfl rfl ?_
  refine kw_aload_n hC dL_law_865 rfl 1 rfl ?_
  refine kw_argI (n := 1) hC hX hL (by omega) (by omega) dL_law_866 dL_law_867 dL_law_868 dL_law_869 dL_law_870 ?_
  refine kw_argI (n := 2) hC hX hL (by omega) (by omega) dL_law_871 dL_law_872 dL_law_873 dL_law_874 dL_law_875 ?_
  refine kw_argI (n := 3) hC hX hL (by omega) (by omega) dL_law_876 dL_law_877 dL_law_878 dL_law_879 dL_law_880 ?_
  refine kw_callV hC (d_X8_does hD (sv_r xs _) (sv_r xs _) (sv_r xs _) hH.2.1) gL_law_X8_does ⟨_, rfl⟩ rfl (by decide) (by decide) rfl ⟨rfl, rfl⟩ 3 (by decide +kernel) ⟨by decide, by decide⟩ rfl rfl (Nat.le_of_ble_eq_true rfl) dL_law_881 rfl (kd_l ?_)
  rintro r2 S2 ⟨p1, p2⟩
  have hI2 := hH.rw' p1 p2
  refine kw_pop2 hC dL_law_884 rfl rfl ?_
  exact kw_goto (tgt := 1476) hC dL_law_885 rfl (by decide) (hfin S2 _ _ hI2)
set_option maxHeartbeats 4000000 in
set_option maxRecDepth 100000 in
theorem law_20 {E : wE} {g : wG} {b L : Nat} {xs : Nat → Int32} (hC : Cx E g cL_law RL wsL_law 4 room_1) (hX : Lx E b L xs) (hL : L < 2147483648) {i : Int} (i0 : 0 ≤ i) (i1 : i + 6 ≤ L) (hD : wD g) {S : wSt} {x : aS} {y : aL} (hI : LI S x y) (hfin : ∀ S2 x2 y2, LI S2 x2 y2 → Wk E g 4 S2 1476 (lvI g b i) []) : Wk E g 4 S 888 (lvI g b i) [] := by
  refine kw_aload_n hC dL_law_888 rfl 2 rfl ?_
  refine kw_argI (n := 1) hC hX hL (by omega) (by omega) dL_law_889 dL_law_890 dL_law_891 dL_law_892 dL_law_893 ?_
  refine kw_callV hC (d_X7_order hD (sv_r xs _) hI.1) gL_law_X7_order ⟨_, rfl⟩ rfl (by decide) (by decide) rfl ⟨rfl, rfl⟩ 1 (by decide +kernel) ⟨by decide, by decide⟩ rfl rfl (Nat.le_of_ble_eq_true rfl) dL_law_894 rfl (kd_i ?_)
  rintro r1 S1 ⟨q1, q2⟩
  have hH := hI.cw q1 q2
  refine kw_pop hC dL_law_897 rfl rfl ?_
  refine kw_aload_n hC dL_law_898 rfl 1 rfl ?_
  refine kw_argI (n := 1) hC hX hL (by omega) (by omega) dL_law_899 dL_law_900 dL_law_901 dL_law_902 dL_law_903 ?_
  refine kw_callV hC (d_X8_order hD (sv_r xs _) hH.2.1) gL_law_X8_order ⟨_, rfl⟩ rfl (by decide) (by decide) rfl ⟨rfl, rfl⟩ 1 (by decide +kernel) ⟨by decide, by decide⟩ rfl rfl (Nat.le_of_ble_eq_true rfl) dL_law_904 rfl (kd_i ?_)
  rintro r2 S2 ⟨p1, p2⟩
  have hI2 := hH.rw' p1 p2
  refine kw_pop hC dL_law_907 rfl rfl ?_
  exact kw_goto (tgt := 1476) hC dL_law_908 rfl (by decide) (hfin S2 _ _ hI2)
set_option maxHeartbeats 4000000 in
set_option maxRecDepth 100000 in
theorem law_21 {E : wE} {g : wG} {b L : Nat} {xs : Nat → Int32} (hC : Cx E g cL_law RL wsL_law 4 room_1) (hX : Lx E b L xs) (hL : L < 2147483648) {i : Int} (i0 : 0 ≤ i) (i1 : i + 6 ≤ L) (hD : wD g) {S : wSt} {x : aS} {y : aL} (hI : LI S x y) (hfin : ∀ S2 x2 y2, LI S2 x2 y2 → Wk E g 4 S2 1476 (lvI g b i) []) : Wk E g 4 S 911 (lvI g b i) [] := by
  refine kw_aload_n hC dL_law_911 rfl 2 rfl ?_
  refine kw_argI (n := 1) hC hX hL (by omega) (by omega) dL_law_912 dL_law_913 dL_law_914 dL_law_915 dL_law_916 ?_
  refine kw_argI (n := 2) hC hX hL (by omega) (by omega) dL_law_917 dL_law_918 dL_law_919 dL_law_920 dL_law_921 ?_
  refine kw_callV hC (d_X7_below hD (sv_r xs _) (sv_r xs _) hI.1) gL_law_X7_below ⟨_, rfl⟩ rfl (by decide) (by decide) rfl ⟨rfl, rfl⟩ 2 (by decide +kernel) ⟨by decide, by decide⟩ rfl rfl (Nat.le_of_ble_eq_true rfl) dL_law_922 rfl (kd_i ?_)
  rintro r1 S1 ⟨q1, q2⟩
  have hH := hI.cw q1 q2
  refine kw_pop hC dL_law_925 rfl rfl ?_
  refine kw_aload_n hC dL_law_926 rfl 1 rfl ?_
  refine kw_argI (n := 1) hC hX hL (by omega) (by omega) dL_law_927 dL_law_928 dL_law_929 dL_law_930 dL_law_931 ?_
  refine kw_argI (n := 2) hC hX hL (by omega) (by omega) dL_law_932 dL_law_933 dL_law_934 dL_law_935 dL_law_936 ?_
  refine kw_callV hC (d_X8_below hD (sv_r xs _) (sv_r xs _) hH.2.1) gL_law_X8_below ⟨_, rfl⟩ rfl (by decide) (by decide) rfl ⟨rfl, rfl⟩ 2 (by decide +kernel) ⟨by decide, by decide⟩ rfl rfl (Nat.le_of_ble_eq_true rfl) dL_law_937 rfl (kd_i ?_)
  rintro r2 S2 ⟨p1, p2⟩
  have hI2 := hH.rw' p1 p2
  refine kw_pop hC dL_law_940 rfl rfl ?_
  exact kw_goto (tgt := 1476) hC dL_law_941 rfl (by decide) (hfin S2 _ _ hI2)
set_option maxHeartbeats 4000000 in
set_option maxRecDepth 100000 in
theorem law_22 {E : wE} {g : wG} {b L : Nat} {xs : Nat → Int32} (hC : Cx E g cL_law RL wsL_law 4 room_1) (hX : Lx E b L xs) (hL : L < 2147483648) {i : Int} (i0 : 0 ≤ i) (i1 : i + 6 ≤ L) (hD : wD g) {S : wSt} {x : aS} {y : aL} (hI : LI S x y) (hfin : ∀ S2 x2 y2, LI S2 x2 y2 → Wk E g 4 S2 1476 (lvI g b i) []) : Wk E g 4 S 944 (lvI g b i) [] := by
  refine kw_aload_n hC dL_law_944 rfl 2 rfl ?_
  refine kw_argI (n := 1) hC hX hL (by omega) (by omega) dL_law_945 dL_law_946 dL_law_947 dL_law_948 dL_law_949 ?_
  refine kw_callV hC (d_X7_roots hD (sv_r xs _) hI.1) gL_law_X7_roots ⟨_, rfl⟩ rfl (by decide) (by decide) rfl ⟨rfl, rfl⟩ 1 (by decide +kernel) ⟨by decide, by decide⟩ rfl rfl (Nat.le_of_ble_eq_true rfl) dL_law_950 rfl (kd_i ?_)
  rintro r1 S1 ⟨q1, q2⟩
  have hH := hI.cw q1 q2
  refine kw_pop hC dL_law_953 rfl rfl ?_
  refine kw_aload_n hC dL_law_954 rfl 1 rfl ?_
  refine kw_argI (n := 1) hC hX hL (by omega) (by omega) dL_law_955 dL_law_956 dL_law_957 dL_law_958 dL_law_959 ?_
  refine kw_callV hC (d_X8_roots hD (sv_r xs _) hH.2.1) gL_law_X8_roots ⟨_, rfl⟩ rfl (by decide) (by decide) rfl ⟨rfl, rfl⟩ 1 (by decide +kernel) ⟨by decide, by decide⟩ rfl rfl (Nat.le_of_ble_eq_true rfl) dL_law_960 rfl (kd_i ?_)
  rintro r2 S2 ⟨p1, p2⟩
  have hI2 := hH.rw' p1 p2
  refine kw_pop hC dL_law_963 rfl rfl ?_
  exact kw_goto (tgt := 1476) hC dL_law_964 rfl (by decide) (hfin S2 _ _ hI2)
set_option maxHeartbeats 4000000 in
set_option maxRecDepth 100000 in
theorem law_23 {E : wE} {g : wG} {b L : Nat} {xs : Nat → Int32} (hC : Cx E g cL_law RL wsL_law 4 room_1) (hX : Lx E b L xs) (hL : L < 2147483648) {i : Int} (i0 : 0 ≤ i) (i1 : i + 6 ≤ L) (hD : wD g) {S : wSt} {x : aS} {y : aL} (hI : LI S x y) (hfin : ∀ S2 x2 y2, LI S2 x2 y2 → Wk E g 4 S2 1476 (lvI g b i) []) : Wk E g 4 S 967 (lvI g b i) [] := by
  refine kw_aload_n hC dL_law_967 rfl 2 rfl ?_
  refine kw_argI (n := 1) hC hX hL (by omega) (by omega) dL_law_968 dL_law_969 dL_law_970 dL_law_971 dL_law_972 ?_
  refine kw_argI (n := 2) hC hX hL (by omega) (by omega) dL_law_973 dL_law_974 dL_law_975 dL_law_976 dL_law_977 ?_
  refine kw_callV hC (d_X7_root hD (sv_r xs _) (sv_r xs _) hI.1) gL_law_X7_root ⟨_, rfl⟩ rfl (by decide) (by decide) rfl ⟨rfl, rfl⟩ 2 (by decide +kernel) ⟨by decide, by decide⟩ rfl rfl (Nat.le_of_ble_eq_true rfl) dL_law_978 rfl (kd_i ?_)
  rintro r1 S1 ⟨q1, q2⟩
  have hH := hI.cw q1 q2
  refine kw_pop hC dL_law_981 rfl rfl ?_
  refine kw_aload_n hC dL_law_982 rfl 1 rfl ?_
  refine kw_argI (n := 1) hC hX hL (by omega) (by omega) dL_law_983 dL_law_984 dL_law_985 dL_law_986 dL_law_987 ?_
  refine kw_argI (n := 2) hC hX hL (by omega) (by omega) dL_law_988 dL_law_989 dL_law_990 dL_law_991 dL_law_992 ?_
  refine kw_callV hC (d_X8_root hD (sv_r xs _) (sv_r xs _) hH.2.1) gL_law_X8_root ⟨_, rfl⟩ rfl (by decide) (by decide) rfl ⟨rfl, rfl⟩ 2 (by decide +kernel) ⟨by decide, by decide⟩ rfl rfl (Nat.le_of_ble_eq_true rfl) dL_law_993 rfl (kd_i ?_)
  rintro r2 S2 ⟨p1, p2⟩
  have hI2 := hH.rw' p1 p2
  refine kw_pop hC dL_law_996 rfl rfl ?_
  exact kw_goto (tgt := 1476) hC dL_law_997 rfl (by decide) (hfin S2 _ _ hI2)
set_option maxHeartbeats 4000000 in
set_option maxRecDepth 100000 in
theorem law_24 {E : wE} {g : wG} {b L : Nat} {xs : Nat → Int32} (hC : Cx E g cL_law RL wsL_law 4 room_1) (hX : Lx E b L xs) (hL : L < 2147483648) {i : Int} (i0 : 0 ≤ i) (i1 : i + 6 ≤ L) (hD : wD g) {S : wSt} {x : aS} {y : aL} (hI : LI S x y) (hfin : ∀ S2 x2 y2, LI S2 x2 y2 → Wk E g 4 S2 1476 (lvI g b i) []) : Wk E g 4 S 1000 (lvI g b i) [] := by
  refine kw_aload_n hC dL_law_1000 rfl 2 rfl ?_
  refine kw_callV hC (d_X7_ends hD  hI.1) gL_law_X7_ends ⟨_, rfl⟩ rfl (by decide) (by decide) rfl ⟨rfl, rfl⟩ 0 (by decide +kernel) ⟨by decide, by decide⟩ rfl rfl (Nat.le_of_ble_eq_true rfl) dL_law_1001 rfl (kd_i ?_)
  rintro r1 S1 ⟨q1, q2⟩
  have hH := hI.cw q1 q2
  refine kw_pop hC dL_law_1004 rfl rfl ?_
  refine kw_aload_n hC dL_law_1005 rfl 1 rfl ?_
  refine kw_callV hC (d_X8_ends hD  hH.2.1) gL_law_X8_ends ⟨_, rfl⟩ rfl (by decide) (by decide) rfl ⟨rfl, rfl⟩ 0 (by decide +kernel) ⟨by decide, by decide⟩ rfl rfl (Nat.le_of_ble_eq_true rfl) dL_law_1006 rfl (kd_i ?_)
  rintro r2 S2 ⟨p2, -⟩
  have p3 : Fr tR S1 S2 := p2.mono (fun k i j h => by unfold fR at h; unfold tR; omega)
  have hI2 := hH.rw' (hH.2.1.fr p3) (tR_tW p3)
  refine kw_pop hC dL_law_1009 rfl rfl ?_
  exact kw_goto (tgt := 1476) hC dL_law_1010 rfl (by decide) (hfin S2 _ _ hI2)
set_option maxHeartbeats 4000000 in
set_option maxRecDepth 100000 in
theorem law_25 {E : wE} {g : wG} {b L : Nat} {xs : Nat → Int32} (hC : Cx E g cL_law RL wsL_law 4 room_1) (hX : Lx E b L xs) (hL : L < 2147483648) {i : Int} (i0 : 0 ≤ i) (i1 : i + 6 ≤ L) (hD : wD g) {S : wSt} {x : aS} {y : aL} (hI : LI S x y) (hfin : ∀ S2 x2 y2, LI S2 x2 y2 → Wk E g 4 S2 1476 (lvI g b i) []) : Wk E g 4 S 1013 (lvI g b i) [] := by
  refine kw_aload_n hC dL_law_1013 rfl 2 rfl ?_
  refine kw_callV hC (d_X7_count hD  hI.1) gL_law_X7_count ⟨_, rfl⟩ rfl (by decide) (by decide) rfl ⟨rfl, rfl⟩ 0 (by decide +kernel) ⟨by decide, by decide⟩ rfl rfl (Nat.le_of_ble_eq_true rfl) dL_law_1014 rfl (kd_l ?_)
  rintro r1 S1 ⟨q1, q2⟩
  have hH := hI.cw q1 q2
  refine kw_pop2 hC dL_law_1017 rfl rfl ?_
  refine kw_aload_n hC dL_law_1018 rfl 1 rfl ?_
  refine kw_callV hC (d_X8_count hD  hH.2.1) gL_law_X8_count ⟨_, rfl⟩ rfl (by decide) (by decide) rfl ⟨rfl, rfl⟩ 0 (by decide +kernel) ⟨by decide, by decide⟩ rfl rfl (Nat.le_of_ble_eq_true rfl) dL_law_1019 rfl (kd_l ?_)
  rintro r2 S2 ⟨p1, p2⟩
  have hI2 := hH.rw' p1 p2
  refine kw_pop2 hC dL_law_1022 rfl rfl ?_
  exact kw_goto (tgt := 1476) hC dL_law_1023 rfl (by decide) (hfin S2 _ _ hI2)
set_option maxHeartbeats 4000000 in
set_option maxRecDepth 100000 in
theorem law_26 {E : wE} {g : wG} {b L : Nat} {xs : Nat → Int32} (hC : Cx E g cL_law RL wsL_law 4 room_1) (hX : Lx E b L xs) (hL : L < 2147483648) {i : Int} (i0 : 0 ≤ i) (i1 : i + 6 ≤ L) (hD : wD g) {S : wSt} {x : aS} {y : aL} (hI : LI S x y) (hfin : ∀ S2 x2 y2, LI S2 x2 y2 → Wk E g 4 S2 1476 (lvI g b i) []) : Wk E g 4 S 1026 (lvI g b i) [] := by
  refine kw_aload_n hC dL_law_1026 rfl 2 rfl ?_
  refine kw_argI (n := 1) hC hX hL (by omega) (by omega) dL_law_1027 dL_law_1028 dL_law_1029 dL_law_1030 dL_law_1031 ?_
  refine kw_callV hC (d_X7_longest hD (sv_r xs _) hI.1) gL_law_X7_longest ⟨_, rfl⟩ rfl (by decide) (by decide) rfl ⟨rfl, rfl⟩ 1 (by decide +kernel) ⟨by decide, by decide⟩ rfl rfl (Nat.le_of_ble_eq_true rfl) dL_law_1032 rfl (kd_i ?_)
  rintro r1 S1 ⟨q1, q2⟩
  have hH := hI.cw q1 q2
  refine kw_pop hC dL_law_1035 rfl rfl ?_
  refine kw_aload_n hC dL_law_1036 rfl 1 rfl ?_
  refine kw_argI (n := 1) hC hX hL (by omega) (by omega) dL_law_1037 dL_law_1038 dL_law_1039 dL_law_1040 dL_law_1041 ?_
  refine kw_callV hC (d_X8_longest hD (sv_r xs _) hH.2.1) gL_law_X8_longest ⟨_, rfl⟩ rfl (by decide) (by decide) rfl ⟨rfl, rfl⟩ 1 (by decide +kernel) ⟨by decide, by decide⟩ rfl rfl (Nat.le_of_ble_eq_true rfl) dL_law_1042 rfl (kd_i ?_)
  rintro r2 S2 ⟨p1, p2⟩
  have hI2 := hH.rw' p1 p2
  refine kw_pop hC dL_law_1045 rfl rfl ?_
  exact kw_goto (tgt := 1476) hC dL_law_1046 rfl (by decide) (hfin S2 _ _ hI2)
set_option maxHeartbeats 4000000 in
set_option maxRecDepth 100000 in
theorem law_27 {E : wE} {g : wG} {b L : Nat} {xs : Nat → Int32} (hC : Cx E g cL_law RL wsL_law 4 room_1) (hX : Lx E b L xs) (hL : L < 2147483648) {i : Int} (i0 : 0 ≤ i) (i1 : i + 6 ≤ L) (hD : wD g) {S : wSt} {x : aS} {y : aL} (hI : LI S x y) (hfin : ∀ S2 x2 y2, LI S2 x2 y2 → Wk E g 4 S2 1476 (lvI g b i) []) : Wk E g 4 S 1049 (lvI g b i) [] := by
  refine kw_aload_n hC dL_law_1049 rfl 2 rfl ?_
  refine kw_argI (n := 1) hC hX hL (by omega) (by omega) dL_law_1050 dL_law_1051 dL_law_1052 dL_law_1053 dL_law_1054 ?_
  refine kw_callV hC (d_X7_forms hD (sv_r xs _) hI.1) gL_law_X7_forms ⟨_, rfl⟩ rfl (by decide) (by decide) rfl ⟨rfl, rfl⟩ 1 (by decide +kernel) ⟨by decide, by decide⟩ rfl rfl (Nat.le_of_ble_eq_true rfl) dL_law_1055 rfl (kd_i ?_)
  rintro r1 S1 ⟨q1, q2⟩
  have hH := hI.cw q1 q2
  refine kw_pop hC dL_law_1058 rfl rfl ?_
  refine kw_aload_n hC dL_law_1059 rfl 1 rfl ?_
  refine kw_argI (n := 1) hC hX hL (by omega) (by omega) dL_law_1060 dL_law_1061 dL_law_1062 dL_law_1063 dL_law_1064 ?_
  refine kw_callV hC (d_X8_forms hD (sv_r xs _) hH.2.1) gL_law_X8_forms ⟨_, rfl⟩ rfl (by decide) (by decide) rfl ⟨rfl, rfl⟩ 1 (by decide +kernel) ⟨by decide, by decide⟩ rfl rfl (Nat.le_of_ble_eq_true rfl) dL_law_1065 rfl (kd_i ?_)
  rintro r2 S2 ⟨p1, p2⟩
  have hI2 := hH.rw' p1 p2
  refine kw_pop hC dL_law_1068 rfl rfl ?_
  exact kw_goto (tgt := 1476) hC dL_law_1069 rfl (by decide) (hfin S2 _ _ hI2)
set_option maxHeartbeats 4000000 in
set_option maxRecDepth 100000 in
theorem law_28 {E : wE} {g : wG} {b L : Nat} {xs : Nat → Int32} (hC : Cx E g cL_law RL wsL_law 4 room_1) (hX : Lx E b L xs) (hL : L < 2147483648) {i : Int} (i0 : 0 ≤ i) (i1 : i + 6 ≤ L) (hD : wD g) {S : wSt} {x : aS} {y : aL} (hI : LI S x y) (hfin : ∀ S2 x2 y2, LI S2 x2 y2 → Wk E g 4 S2 1476 (lvI g b i) []) : Wk E g 4 S 1072 (lvI g b i) [] := by
  refine kw_aload_n hC dL_law_1072 rfl 2 rfl ?_
  refine kw_argI (n := 1) hC hX hL (by omega) (by omega) dL_law_1073 dL_law_1074 dL_law_1075 dL_law_1076 dL_law_1077 ?_
  refine kw_argI (n := 2) hC hX hL (by omega) (by omega) dL_law_1078 dL_law_1079 dL_law_1080 dL_law_1081 dL_law_1082 ?_
  refine kw_argI (n := 3) hC hX hL (by omega) (by omega) dL_law_1083 dL_law_1084 dL_law_1085 dL_law_1086 dL_law_1087 ?_
  refine kw_callV hC (d_X7_next hD (sv_r xs _) (sv_r xs _) (sv_r xs _) hI.1) gL_law_X7_next ⟨_, rfl⟩ rfl (by decide) (by decide) rfl ⟨rfl, rfl⟩ 3 (by decide +kernel) ⟨by decide, by decide⟩ rfl rfl (Nat.le_of_ble_eq_true rfl) dL_law_1088 rfl (kd_i ?_)
  rintro r1 S1 ⟨q1, q2⟩
  have hH := hI.cw q1 q2
  refine kw_pop hC dL_law_1091 rfl rfl ?_
  refine kw_aload_n hC dL_law_1092 rfl 1 rfl ?_
  refine kw_argI (n := 1) hC hX hL (by omega) (by omega) dL_law_1093 dL_law_1094 dL_law_1095 dL_law_1096 dL_law_1097 ?_
  refine kw_argI (n := 2) hC hX hL (by omega) (by omega) dL_law_1098 dL_law_1099 dL_law_1100 dL_law_1101 dL_law_1102 ?_
  refine kw_argI (n := 3) hC hX hL (by omega) (by omega) dL_law_1103 dL_law_1104 dL_law_1105 dL_law_1106 dL_law_1107 ?_
  refine kw_callV hC (d_X8_next hD (sv_r xs _) (sv_r xs _) (sv_r xs _) hH.2.1) gL_law_X8_next ⟨_, rfl⟩ rfl (by decide) (by decide) rfl ⟨rfl, rfl⟩ 3 (by decide +kernel) ⟨by decide, by decide⟩ rfl rfl (Nat.le_of_ble_eq_true rfl) dL_law_1108 rfl (kd_i ?_)
  rintro r2 S2 ⟨p1, p2⟩
  have hI2 := hH.rw' p1 p2
  refine kw_pop hC dL_law_1111 rfl rfl ?_
  exact kw_goto (tgt := 1476) hC dL_law_1112 rfl (by decide) (hfin S2 _ _ hI2)
set_option maxHeartbeats 4000000 in
set_option maxRecDepth 100000 in
theorem law_29 {E : wE} {g : wG} {b L : Nat} {xs : Nat → Int32} (hC : Cx E g cL_law RL wsL_law 4 room_1) (hX : Lx E b L xs) (hL : L < 2147483648) {i : Int} (i0 : 0 ≤ i) (i1 : i + 6 ≤ L) (hD : wD g) {S : wSt} {x : aS} {y : aL} (hI : LI S x y) (hfin : ∀ S2 x2 y2, LI S2 x2 y2 → Wk E g 4 S2 1476 (lvI g b i) []) : Wk E g 4 S 1115 (lvI g b i) [] := by
  refine kw_aload_n hC dL_law_1115 rfl 2 rfl ?_
  refine kw_argI (n := 1) hC hX hL (by omega) (by omega) dL_law_1116 dL_law_1117 dL_law_1118 dL_law_1119 dL_law_1120 ?_
  refine kw_argI (n := 2) hC hX hL (by omega) (by omega) dL_law_1121 dL_law_1122 dL_law_1123 dL_law_1124 dL_law_1125 ?_
  refine kw_argI (n := 3) hC hX hL (by omega) (by omega) dL_law_1126 dL_law_1127 dL_law_1128 dL_law_1129 dL_law_1130 ?_
  refine kw_argI (n := 4) hC hX hL (by omega) (by omega) dL_law_1131 dL_law_1132 dL_law_1133 dL_law_1134 dL_law_1135 ?_
  refine kw_callV hC (d_X7_parts hD (sv_r xs _) (sv_r xs _) (sv_r xs _) (sv_r xs _) hI.1) gL_law_X7_parts ⟨_, rfl⟩ rfl (by decide) (by decide) rfl ⟨rfl, rfl⟩ 4 (by decide +kernel) ⟨by decide, by decide⟩ rfl rfl (Nat.le_of_ble_eq_true rfl) dL_law_1136 rfl (kd_i ?_)
  rintro r1 S1 ⟨q1, q2⟩
  have hH := hI.cw q1 q2
  refine kw_pop hC dL_law_1139 rfl rfl ?_
  refine kw_aload_n hC dL_law_1140 rfl 1 rfl ?_
  refine kw_argI (n := 1) hC hX hL (by omega) (by omega) dL_law_1141 dL_law_1142 dL_law_1143 dL_law_1144 dL_law_1145 ?_
  refine kw_argI (n := 2) hC hX hL (by omega) (by omega) dL_law_1146 dL_law_1147 dL_law_1148 dL_law_1149 dL_law_1150 ?_
  refine kw_argI (n := 3) hC hX hL (by omega) (by omega) dL_law_1151 dL_law_1152 dL_law_1153 dL_law_1154 dL_law_1155 ?_
  refine kw_argI (n := 4) hC hX hL (by omega) (by omega) dL_law_1156 dL_law_1157 dL_law_1158 dL_law_1159 dL_law_1160 ?_
  refine kw_callV hC (d_X8_parts hD (sv_r xs _) (sv_r xs _) (sv_r xs _) (sv_r xs _) hH.2.1) gL_law_X8_parts ⟨_, rfl⟩ rfl (by decide) (by decide) rfl ⟨rfl, rfl⟩ 4 (by decide +kernel) ⟨by decide, by decide⟩ rfl rfl (Nat.le_of_ble_eq_true rfl) dL_law_1161 rfl (kd_i ?_)
  rintro r2 S2 ⟨p1, p2⟩
  have hI2 := hH.rw' p1 p2
  refine kw_pop hC dL_law_1164 rfl rfl ?_
  exact kw_goto (tgt := 1476) hC dL_law_1165 rfl (by decide) (hfin S2 _ _ hI2)
set_option maxHeartbeats 4000000 in
set_option maxRecDepth 100000 in
theorem law_30 {E : wE} {g : wG} {b L : Nat} {xs : Nat → Int32} (hC : Cx E g cL_law RL wsL_law 4 room_1) (hX : Lx E b L xs) (hL : L < 2147483648) {i : Int} (i0 : 0 ≤ i) (i1 : i + 6 ≤ L) (hD : wD g) {S : wSt} {x : aS} {y : aL} (hI : LI S x y) (hfin : ∀ S2 x2 y2, LI S2 x2 y2 → Wk E g 4 S2 1476 (lvI g b i) []) : Wk E g 4 S 1168 (lvI g b i) [] := by
  refine kw_aload_n hC dL_law_1168 rfl 2 rfl ?_
  refine kw_argI (n := 1) hC hX hL (by omega) (by omega) dL_law_1169 dL_law_1170 dL_law_1171 dL_law_1172 dL_law_1173 ?_
  refine kw_argI (n := 2) hC hX hL (by omega) (by omega) dL_law_1174 dL_law_1175 dL_law_1176 dL_law_1177 dL_law_1178 ?_
  refine kw_argI (n := 3) hC hX hL (by omega) (by omega) dL_law_1179 dL_law_1180 dL_law_1181 dL_law_1182 dL_law_1183 ?_
  refine kw_callV hC (d_X7_way hD (sv_r xs _) (sv_r xs _) (sv_r xs _) hI.1) gL_law_X7_way ⟨_, rfl⟩ rfl (by decide) (by decide) rfl ⟨rfl, rfl⟩ 3 (by decide +kernel) ⟨by decide, by decide⟩ rfl rfl (Nat.le_of_ble_eq_true rfl) dL_law_1184 rfl (kd_i ?_)
  rintro r1 S1 ⟨q1, q2⟩
  have hH := hI.cw q1 q2
  refine kw_pop hC dL_law_1187 rfl rfl ?_
  refine kw_aload_n hC dL_law_1188 rfl 1 rfl ?_
  refine kw_argI (n := 1) hC hX hL (by omega) (by omega) dL_law_1189 dL_law_1190 dL_law_1191 dL_law_1192 dL_law_1193 ?_
  refine kw_argI (n := 2) hC hX hL (by omega) (by omega) dL_law_1194 dL_law_1195 dL_law_1196 dL_law_1197 dL_law_1198 ?_
  refine kw_argI (n := 3) hC hX hL (by omega) (by omega) dL_law_1199 dL_law_1200 dL_law_1201 dL_law_1202 dL_law_1203 ?_
  refine kw_callV hC (d_X8_way hD (sv_r xs _) (sv_r xs _) (sv_r xs _) hH.2.1) gL_law_X8_way ⟨_, rfl⟩ rfl (by decide) (by decide) rfl ⟨rfl, rfl⟩ 3 (by decide +kernel) ⟨by decide, by decide⟩ rfl rfl (Nat.le_of_ble_eq_true rfl) dL_law_1204 rfl (kd_i ?_)
  rintro r2 S2 ⟨p1, p2⟩
  have hI2 := hH.rw' p1 p2
  refine kw_pop hC dL_law_1207 rfl rfl ?_
  exact kw_goto (tgt := 1476) hC dL_law_1208 rfl (by decide) (hfin S2 _ _ hI2)
set_option maxHeartbeats 4000000 in
set_option maxRecDepth 100000 in
theorem law_31 {E : wE} {g : wG} {b L : Nat} {xs : Nat → Int32} (hC : Cx E g cL_law RL wsL_law 4 room_1) (hX : Lx E b L xs) (hL : L < 2147483648) {i : Int} (i0 : 0 ≤ i) (i1 : i + 6 ≤ L) (hD : wD g) {S : wSt} {x : aS} {y : aL} (hI : LI S x y) (hfin : ∀ S2 x2 y2, LI S2 x2 y2 → Wk E g 4 S2 1476 (lvI g b i) []) : Wk E g 4 S 1211 (lvI g b i) [] := by
  refine kw_aload_n hC dL_law_1211 rfl 2 rfl ?_
  refine kw_argI (n := 1) hC hX hL (by omega) (by omega) dL_law_1212 dL_law_1213 dL_law_1214 dL_law_1215 dL_law_1216 ?_
  refine kw_argI (n := 2) hC hX hL (by omega) (by omega) dL_law_1217 dL_law_1218 dL_law_1219 dL_law_1220 dL_law_1221 ?_
  refine kw_argI (n := 3) hC hX hL (by omega) (by omega) dL_law_1222 dL_law_1223 dL_law_1224 dL_law_1225 dL_law_1226 ?_
  refine kw_argI (n := 4) hC hX hL (by omega) (by omega) dL_law_1227 dL_law_1228 dL_law_1229 dL_law_1230 dL_law_1231 ?_
  refine kw_callV hC (d_X7_wall hD (sv_r xs _) (sv_r xs _) (sv_r xs _) (sv_r xs _) hI.1) gL_law_X7_wall ⟨_, rfl⟩ rfl (by decide) (by decide) rfl ⟨rfl, rfl⟩ 4 (by decide +kernel) ⟨by decide, by decide⟩ rfl rfl (Nat.le_of_ble_eq_true rfl) dL_law_1232 rfl (kd_l ?_)
  rintro r1 S1 ⟨q1, q2⟩
  have hH := hI.cw q1 q2
  refine kw_pop2 hC dL_law_1235 rfl rfl ?_
  refine kw_aload_n hC dL_law_1236 rfl 1 rfl ?_
  refine kw_argI (n := 1) hC hX hL (by omega) (by omega) dL_law_1237 dL_law_1238 dL_law_1239 dL_law_1240 dL_law_1241 ?_
  refine kw_argI (n := 2) hC hX hL (by omega) (by omega) dL_law_1242 dL_law_1243 dL_law_1244 dL_law_1245 dL_law_1246 ?_
  refine kw_argI (n := 3) hC hX hL (by omega) (by omega) dL_law_1247 dL_law_1248 dL_law_1249 dL_law_1250 dL_law_1251 ?_
  refine kw_argI (n := 4) hC hX hL (by omega) (by omega) dL_law_1252 dL_law_1253 dL_law_1254 dL_law_1255 dL_law_1256 ?_
  refine kw_callV hC (d_X8_wall hD (sv_r xs _) (sv_r xs _) (sv_r xs _) (sv_r xs _) hH.2.1) gL_law_X8_wall ⟨_, rfl⟩ rfl (by decide) (by decide) rfl ⟨rfl, rfl⟩ 4 (by decide +kernel) ⟨by decide, by decide⟩ rfl rfl (Nat.le_of_ble_eq_true rfl) dL_law_1257 rfl (kd_l ?_)
  rintro r2 S2 ⟨p1, p2⟩
  have hI2 := hH.rw' p1 p2
  refine kw_pop2 hC dL_law_1260 rfl rfl ?_
  exact kw_goto (tgt := 1476) hC dL_law_1261 rfl (by decide) (hfin S2 _ _ hI2)
set_option maxHeartbeats 4000000 in
set_option maxRecDepth 100000 in
theorem law_32 {E : wE} {g : wG} {b L : Nat} {xs : Nat → Int32} (hC : Cx E g cL_law RL wsL_law 4 room_1) (hX : Lx E b L xs) (hL : L < 2147483648) {i : Int} (i0 : 0 ≤ i) (i1 : i + 6 ≤ L) (hD : wD g) {S : wSt} {x : aS} {y : aL} (hI : LI S x y) (hfin : ∀ S2 x2 y2, LI S2 x2 y2 → Wk E g 4 S2 1476 (lvI g b i) []) : Wk E g 4 S 1264 (lvI g b i) [] := by
  refine kw_aload_n hC dL_law_1264 rfl 2 rfl ?_
  refine kw_argI (n := 1) hC hX hL (by omega) (by omega) dL_law_1265 dL_law_1266 dL_law_1267 dL_law_1268 dL_law_1269 ?_
  refine kw_argI (n := 2) hC hX hL (by omega) (by omega) dL_law_1270 dL_law_1271 dL_law_1272 dL_law_1273 dL_law_1274 ?_
  refine kw_argI (n := 3) hC hX hL (by omega) (by omega) dL_law_1275 dL_law_1276 dL_law_1277 dL_law_1278 dL_law_1279 ?_
  refine kw_callV hC (d_X7_leaf hD (sv_r xs _) (sv_r xs _) (sv_r xs _) hI.1) gL_law_X7_leaf ⟨_, rfl⟩ rfl (by decide) (by decide) rfl ⟨rfl, rfl⟩ 3 (by decide +kernel) ⟨by decide, by decide⟩ rfl rfl (Nat.le_of_ble_eq_true rfl) dL_law_1280 rfl (kd_i ?_)
  rintro r1 S1 ⟨q1, q2, q3⟩
  obtain ⟨q4, e1⟩ := q3 y hI.2.2.2.2.1
  have hH := hI.cl q1 q2 q4
  refine kw_pop hC dL_law_1283 rfl rfl ?_
  refine kw_aload_n hC dL_law_1284 rfl 1 rfl ?_
  refine kw_argI (n := 1) hC hX hL (by omega) (by omega) dL_law_1285 dL_law_1286 dL_law_1287 dL_law_1288 dL_law_1289 ?_
  refine kw_argI (n := 2) hC hX hL (by omega) (by omega) dL_law_1290 dL_law_1291 dL_law_1292 dL_law_1293 dL_law_1294 ?_
  refine kw_argI (n := 3) hC hX hL (by omega) (by omega) dL_law_1295 dL_law_1296 dL_law_1297 dL_law_1298 dL_law_1299 ?_
  refine kw_callV hC (d_X8_leaf hD (sv_r xs _) (sv_r xs _) (sv_r xs _) hH.2.1) gL_law_X8_leaf ⟨_, rfl⟩ rfl (by decide) (by decide) rfl ⟨rfl, rfl⟩ 3 (by decide +kernel) ⟨by decide, by decide⟩ rfl rfl (Nat.le_of_ble_eq_true rfl) dL_law_1300 rfl (kd_i ?_)
  rintro r2 S2 ⟨p1, p2, p3⟩
  obtain ⟨p4, e2⟩ := p3 y hH.2.2.2.2.2
  have hI2 := hH.rl p1 p2 p4
  refine kw_pop hC dL_law_1303 rfl rfl ?_
  exact kw_goto (tgt := 1476) hC dL_law_1304 rfl (by decide) (hfin S2 _ _ hI2)
set_option maxHeartbeats 4000000 in
set_option maxRecDepth 100000 in
theorem law_33 {E : wE} {g : wG} {b L : Nat} {xs : Nat → Int32} (hC : Cx E g cL_law RL wsL_law 4 room_1) (hX : Lx E b L xs) (hL : L < 2147483648) {i : Int} (i0 : 0 ≤ i) (i1 : i + 6 ≤ L) (hD : wD g) {S : wSt} {x : aS} {y : aL} (hI : LI S x y) (hfin : ∀ S2 x2 y2, LI S2 x2 y2 → Wk E g 4 S2 1476 (lvI g b i) []) : Wk E g 4 S 1307 (lvI g b i) [] := by
  refine kw_aload_n hC dL_law_1307 rfl 2 rfl ?_
  refine kw_argI (n := 1) hC hX hL (by omega) (by omega) dL_law_1308 dL_law_1309 dL_law_1310 dL_law_1311 dL_law_1312 ?_
  refine kw_callV hC (d_X7_drop hD (sv_r xs _) hI.1) gL_law_X7_drop ⟨_, rfl⟩ rfl (by decide) (by decide) rfl ⟨rfl, rfl⟩ 1 (by decide +kernel) ⟨by decide, by decide⟩ rfl rfl (Nat.le_of_ble_eq_true rfl) dL_law_1313 rfl (kd_i ?_)
  rintro r1 S1 ⟨q1, q2, q3⟩
  obtain ⟨q4, e1⟩ := q3 y hI.2.2.2.2.1
  have hH := hI.cl q1 q2 q4
  refine kw_pop hC dL_law_1316 rfl rfl ?_
  refine kw_aload_n hC dL_law_1317 rfl 1 rfl ?_
  refine kw_argI (n := 1) hC hX hL (by omega) (by omega) dL_law_1318 dL_law_1319 dL_law_1320 dL_law_1321 dL_law_1322 ?_
  refine kw_callV hC (d_X8_drop hD (sv_r xs _) hH.2.1) gL_law_X8_drop ⟨_, rfl⟩ rfl (by decide) (by decide) rfl ⟨rfl, rfl⟩ 1 (by decide +kernel) ⟨by decide, by decide⟩ rfl rfl (Nat.le_of_ble_eq_true rfl) dL_law_1323 rfl (kd_i ?_)
  rintro r2 S2 ⟨p1, p2, p3⟩
  obtain ⟨p4, e2⟩ := p3 y hH.2.2.2.2.2
  have hI2 := hH.rl p1 p2 p4
  refine kw_pop hC dL_law_1326 rfl rfl ?_
  exact kw_goto (tgt := 1476) hC dL_law_1327 rfl (by decide) (hfin S2 _ _ hI2)
set_option maxHeartbeats 4000000 in
set_option maxRecDepth 100000 in
theorem law_34 {E : wE} {g : wG} {b L : Nat} {xs : Nat → Int32} (hC : Cx E g cL_law RL wsL_law 4 room_1) (hX : Lx E b L xs) (hL : L < 2147483648) {i : Int} (i0 : 0 ≤ i) (i1 : i + 6 ≤ L) (hD : wD g) {S : wSt} {x : aS} {y : aL} (hI : LI S x y) (hfin : ∀ S2 x2 y2, LI S2 x2 y2 → Wk E g 4 S2 1476 (lvI g b i) []) : Wk E g 4 S 1330 (lvI g b i) [] := by
  refine kw_aload_n hC dL_law_1330 rfl 2 rfl ?_
  refine kw_argI (n := 1) hC hX hL (by omega) (by omega) dL_law_1331 dL_law_1332 dL_law_1333 dL_law_1334 dL_law_1335 ?_
  refine kw_argI (n := 2) hC hX hL (by omega) (by omega) dL_law_1336 dL_law_1337 dL_law_1338 dL_law_1339 dL_law_1340 ?_
  refine kw_argI (n := 3) hC hX hL (by omega) (by omega) dL_law_1341 dL_law_1342 dL_law_1343 dL_law_1344 dL_law_1345 ?_
  refine kw_argI (n := 4) hC hX hL (by omega) (by omega) dL_law_1346 dL_law_1347 dL_law_1348 dL_law_1349 dL_law_1350 ?_
  refine kw_i2l hC dL_law_1351 rfl (sv_r xs _) ?_
  refine kw_bipush hC dL_law_1352 rfl (by decide) ?_
  refine kw_lshlX hC dL_law_1354 rfl ?_
  refine kw_argI (n := 5) hC hX hL (by omega) (by omega) dL_law_1355 dL_law_1356 dL_law_1357 dL_law_1358 dL_law_1359 ?_
  refine kw_i2l hC dL_law_1360 rfl (sv_r xs _) ?_
  refine kw_ldc2 (z := 4294967295) hC dL_law_1361 rfl (by decide +kernel) ?_
  refine kw_landX hC dL_law_1364 rfl ?_
  refine kw_lorX hC dL_law_1365 rfl ?_
  refine kw_callV hC (d_X7_item hD (sv_r xs _) (sv_r xs _) (sv_r xs _) (xl_r _) hI.1) gL_law_X7_item ⟨_, rfl⟩ rfl (by decide) (by decide) rfl ⟨rfl, rfl⟩ 4 (by decide +kernel) ⟨by decide, by decide⟩ rfl rfl (Nat.le_of_ble_eq_true rfl) dL_law_1366 rfl (kd_i ?_)
  rintro r1 S1 ⟨q1, q2, q3⟩
  obtain ⟨q4, e1⟩ := q3 y hI.2.2.2.2.1
  have hH := hI.cl q1 q2 q4
  refine kw_pop hC dL_law_1369 rfl rfl ?_
  refine kw_aload_n hC dL_law_1370 rfl 1 rfl ?_
  refine kw_argI (n := 1) hC hX hL (by omega) (by omega) dL_law_1371 dL_law_1372 dL_law_1373 dL_law_1374 dL_law_1375 ?_
  refine kw_argI (n := 2) hC hX hL (by omega) (by omega) dL_law_1376 dL_law_1377 dL_law_1378 dL_law_1379 dL_law_1380 ?_
  refine kw_argI (n := 3) hC hX hL (by omega) (by omega) dL_law_1381 dL_law_1382 dL_law_1383 dL_law_1384 dL_law_1385 ?_
  refine kw_argI (n := 4) hC hX hL (by omega) (by omega) dL_law_1386 dL_law_1387 dL_law_1388 dL_law_1389 dL_law_1390 ?_
  refine kw_i2l hC dL_law_1391 rfl (sv_r xs _) ?_
  refine kw_bipush hC dL_law_1392 rfl (by decide) ?_
  refine kw_lshlX hC dL_law_1394 rfl ?_
  refine kw_argI (n := 5) hC hX hL (by omega) (by omega) dL_law_1395 dL_law_1396 dL_law_1397 dL_law_1398 dL_law_1399 ?_
  refine kw_i2l hC dL_law_1400 rfl (sv_r xs _) ?_
  refine kw_ldc2 (z := 4294967295) hC dL_law_1401 rfl (by decide +kernel) ?_
  refine kw_landX hC dL_law_1404 rfl ?_
  refine kw_lorX hC dL_law_1405 rfl ?_
  refine kw_callV hC (d_X8_item hD (sv_r xs _) (sv_r xs _) (sv_r xs _) (xl_r _) hH.2.1) gL_law_X8_item ⟨_, rfl⟩ rfl (by decide) (by decide) rfl ⟨rfl, rfl⟩ 4 (by decide +kernel) ⟨by decide, by decide⟩ rfl rfl (Nat.le_of_ble_eq_true rfl) dL_law_1406 rfl (kd_i ?_)
  rintro r2 S2 ⟨p1, p2, p3⟩
  obtain ⟨p4, e2⟩ := p3 y hH.2.2.2.2.2
  have hI2 := hH.rl p1 p2 p4
  refine kw_pop hC dL_law_1409 rfl rfl ?_
  exact kw_goto (tgt := 1476) hC dL_law_1410 rfl (by decide) (hfin S2 _ _ hI2)
set_option maxHeartbeats 4000000 in
set_option maxRecDepth 100000 in
theorem law_35 {E : wE} {g : wG} {b L : Nat} {xs : Nat → Int32} (hC : Cx E g cL_law RL wsL_law 4 room_1) (hX : Lx E b L xs) (hL : L < 2147483648) {i : Int} (i0 : 0 ≤ i) (i1 : i + 6 ≤ L) (hD : wD g) {S : wSt} {x : aS} {y : aL} (hI : LI S x y) (hfin : ∀ S2 x2 y2, LI S2 x2 y2 → Wk E g 4 S2 1476 (lvI g b i) []) : Wk E g 4 S 1413 (lvI g b i) [] := by
  refine kw_aload_n hC dL_law_1413 rfl 2 rfl ?_
  refine kw_argI (n := 1) hC hX hL (by omega) (by omega) dL_law_1414 dL_law_1415 dL_law_1416 dL_law_1417 dL_law_1418 ?_
  refine kw_argI (n := 2) hC hX hL (by omega) (by omega) dL_law_1419 dL_law_1420 dL_law_1421 dL_law_1422 dL_law_1423 ?_
  refine kw_argI (n := 3) hC hX hL (by omega) (by omega) dL_law_1424 dL_law_1425 dL_law_1426 dL_law_1427 dL_law_1428 ?_
  refine kw_argI (n := 4) hC hX hL (by omega) (by omega) dL_law_1429 dL_law_1430 dL_law_1431 dL_law_1432 dL_law_1433 ?_
  refine kw_argI (n := 5) hC hX hL (by omega) (by omega) dL_law_1434 dL_law_1435 dL_law_1436 dL_law_1437 dL_law_1438 ?_
  refine kw_callV hC (d_X7_copy hD (sv_r xs _) (sv_r xs _) (sv_r xs _) (sv_r xs _) (sv_r xs _) hI.1) gL_law_X7_copy ⟨_, rfl⟩ rfl (by decide) (by decide) rfl ⟨rfl, rfl⟩ 5 (by decide +kernel) ⟨by decide, by decide⟩ rfl rfl (Nat.le_of_ble_eq_true rfl) dL_law_1439 rfl (kd_i ?_)
  rintro r1 S1 ⟨q1, q2, q3⟩
  obtain ⟨q4, e1⟩ := q3 y hI.2.2.2.2.1
  have hH := hI.cl q1 q2 q4
  refine kw_aload_n hC dL_law_1442 rfl 1 rfl ?_
  refine kw_argI (n := 1) hC hX hL (by omega) (by omega) dL_law_1443 dL_law_1444 dL_law_1445 dL_law_1446 dL_law_1447 ?_
  refine kw_argI (n := 2) hC hX hL (by omega) (by omega) dL_law_1448 dL_law_1449 dL_law_1450 dL_law_1451 dL_law_1452 ?_
  refine kw_argI (n := 3) hC hX hL (by omega) (by omega) dL_law_1453 dL_law_1454 dL_law_1455 dL_law_1456 dL_law_1457 ?_
  refine kw_argI (n := 4) hC hX hL (by omega) (by omega) dL_law_1458 dL_law_1459 dL_law_1460 dL_law_1461 dL_law_1462 ?_
  refine kw_argI (n := 5) hC hX hL (by omega) (by omega) dL_law_1463 dL_law_1464 dL_law_1465 dL_law_1466 dL_law_1467 ?_
  refine kw_callV hC (d_X8_copy hD (sv_r xs _) (sv_r xs _) (sv_r xs _) (sv_r xs _) (sv_r xs _) hH.2.1) gL_law_X8_copy ⟨_, rfl⟩ rfl (by decide) (by decide) rfl ⟨rfl, rfl⟩ 5 (by decide +kernel) ⟨by decide, by decide⟩ rfl rfl (Nat.le_of_ble_eq_true rfl) dL_law_1468 rfl (kd_i ?_)
  rintro r2 S2 ⟨p1, p2, p3⟩
  obtain ⟨p4, e2⟩ := p3 y hH.2.2.2.2.2
  have hI2 := hH.rl p1 p2 p4
  rw [e1, e2]
  exact kw_icmp_eqS (tgt := 1476) hC dL_law_1471 rfl (by decide) (hfin S2 _ _ hI2)
def A33 : Array Int := #[159, 182, 235, 248, 281, 294, 337, 360, 393, 456, 489, 532, 565, 598, 631, 664, 697, 730, 763, 812, 855, 878, 911, 934, 967, 980, 993, 1016, 1039, 1082, 1135, 1178, 1231, 1274, 1297, 1380]
def T33 : List Nat := [192, 215, 268, 281, 314, 327, 370, 393, 426, 489, 522, 565, 598, 631, 664, 697, 730, 763, 796, 845, 888, 911, 944, 967, 1000, 1013, 1026, 1049, 1072, 1115, 1168, 1211, 1264, 1307, 1330, 1413]
theorem d33 : decode cL_law 33 = .ok (.tableswitch 1443 0 35 A33, 159) := by decide +kernel
theorem t33 : ∀ n, n < 36 → A33[n]?.map (fun o => (33 : Int) + o) = some ((T33.getD n 0 : Nat) : Int) := by decide +kernel
set_option maxHeartbeats 4000000 in
set_option maxRecDepth 100000 in
theorem law_tab {E : wE} {g : wG} {b L : Nat} {xs : Nat → Int32} (hC : Cx E g cL_law RL wsL_law 4 room_1) (hX : Lx E b L xs) (hL : L < 2147483648) {i : Int} (i0 : 0 ≤ i) (i1 : i + 6 ≤ L) (hD : wD g) {S : wSt} {x : aS} {y : aL} (hI : LI S x y) (hfin : ∀ S2 x2 y2, LI S2 x2 y2 → Wk E g 4 S2 1476 (lvI g b i) []) {k : Int} (k0 : 0 ≤ k) (k1 : k < 64) : Wk E g 4 S 33 (lvI g b i) [vi k] := by
  by_cases h : 35 < k
  · exact kw_tabOut (tgt := 1476) hC d33 (by omega) (Or.inr h) (by decide) (hfin S x y hI)
  · obtain ⟨n, rfl⟩ : ∃ n : Nat, k = (n : Int) := ⟨k.toNat, by omega⟩
    have hn : n < 36 := by omega
    obtain ⟨off, ho, ht⟩ := Option.map_eq_some_iff.mp (t33 n hn)
    refine kw_tabIn (tgt := T33.getD n 0) hC d33 (by omega) (by omega) (by omega) (by rw [show ((n : Int) - 0).toNat = n by omega]; exact ho) ht ?_
    by_cases h0 : n = 0
    · subst h0; exact law_0 hC hX hL i0 i1 hD hI hfin
    by_cases h1 : n = 1
    · subst h1; exact law_1 hC hX hL i0 i1 hD hI hfin
    by_cases h2 : n = 2
    · subst h2; exact law_2 hC hX hL i0 i1 hD hI hfin
    by_cases h3 : n = 3
    · subst h3; exact law_3 hC hX hL i0 i1 hD hI hfin
    by_cases h4 : n = 4
    · subst h4; exact law_4 hC hX hL i0 i1 hD hI hfin
    by_cases h5 : n = 5
    · subst h5; exact law_5 hC hX hL i0 i1 hD hI hfin
    by_cases h6 : n = 6
    · subst h6; exact law_6 hC hX hL i0 i1 hD hI hfin
    by_cases h7 : n = 7
    · subst h7; exact law_7 hC hX hL i0 i1 hD hI hfin
    by_cases h8 : n = 8
    · subst h8; exact law_8 hC hX hL i0 i1 hD hI hfin
    by_cases h9 : n = 9
    · subst h9; exact law_9 hC hX hL i0 i1 hD hI hfin
    by_cases h10 : n = 10
    · subst h10; exact law_10 hC hX hL i0 i1 hD hI hfin
    by_cases h11 : n = 11
    · subst h11; exact law_11 hC hX hL i0 i1 hD hI hfin
    by_cases h12 : n = 12
    · subst h12; exact law_12 hC hX hL i0 i1 hD hI hfin
    by_cases h13 : n = 13
    · subst h13; exact law_13 hC hX hL i0 i1 hD hI hfin
    by_cases h14 : n = 14
    · subst h14; exact law_14 hC hX hL i0 i1 hD hI hfin
    by_cases h15 : n = 15
    · subst h15; exact law_15 hC hX hL i0 i1 hD hI hfin
    by_cases h16 : n = 16
    · subst h16; exact law_16 hC hX hL i0 i1 hD hI hfin
    by_cases h17 : n = 17
    · subst h17; exact law_17 hC hX hL i0 i1 hD hI hfin
    by_cases h18 : n = 18
    · subst h18; exact law_18 hC hX hL i0 i1 hD hI hfin
    by_cases h19 : n = 19
    · subst h19; exact law_19 hC hX hL i0 i1 hD hI hfin
    by_cases h20 : n = 20
    · subst h20; exact law_20 hC hX hL i0 i1 hD hI hfin
    by_cases h21 : n = 21
    · subst h21; exact law_21 hC hX hL i0 i1 hD hI hfin
    by_cases h22 : n = 22
    · subst h22; exact law_22 hC hX hL i0 i1 hD hI hfin
    by_cases h23 : n = 23
    · subst h23; exact law_23 hC hX hL i0 i1 hD hI hfin
    by_cases h24 : n = 24
    · subst h24; exact law_24 hC hX hL i0 i1 hD hI hfin
    by_cases h25 : n = 25
    · subst h25; exact law_25 hC hX hL i0 i1 hD hI hfin
    by_cases h26 : n = 26
    · subst h26; exact law_26 hC hX hL i0 i1 hD hI hfin
    by_cases h27 : n = 27
    · subst h27; exact law_27 hC hX hL i0 i1 hD hI hfin
    by_cases h28 : n = 28
    · subst h28; exact law_28 hC hX hL i0 i1 hD hI hfin
    by_cases h29 : n = 29
    · subst h29; exact law_29 hC hX hL i0 i1 hD hI hfin
    by_cases h30 : n = 30
    · subst h30; exact law_30 hC hX hL i0 i1 hD hI hfin
    by_cases h31 : n = 31
    · subst h31; exact law_31 hC hX hL i0 i1 hD hI hfin
    by_cases h32 : n = 32
    · subst h32; exact law_32 hC hX hL i0 i1 hD hI hfin
    by_cases h33 : n = 33
    · subst h33; exact law_33 hC hX hL i0 i1 hD hI hfin
    by_cases h34 : n = 34
    · subst h34; exact law_34 hC hX hL i0 i1 hD hI hfin
    by_cases h35 : n = 35
    · subst h35; exact law_35 hC hX hL i0 i1 hD hI hfin
    exact absurd hn (by omega)
